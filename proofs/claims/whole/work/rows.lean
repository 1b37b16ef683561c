section
-- ===== PART A: goes FIRST, ahead of the names: the tables' words, and 'selects' of the private methods out of them =====
/-- a private method of a class that the tables say can be made, by its rows of tables_1 -/
def lw_okq (q : MethodName × Nat) : Prop := (q.1.cls ≠ "java/lang/invoke/MethodHandle" ∧ q.1.cls ≠ "java/lang/invoke/VarHandle") ∧ Cond.instantiable q.1.cls q.2 ∈ tables_1 ∧ Cond.privateMethod q.1 ∈ tables_1 ∧ Cond.instanceMethod q.1 ∈ tables_1
theorem lw_p0 : lw_okq (⟨"MastMove", "dropChannels", "()V"⟩, 12) := ⟨⟨by decide +kernel, by decide +kernel⟩, List.mem_of_getElem? (i := 22) (by decide +kernel), List.mem_of_getElem? (i := 459) (by decide +kernel), List.mem_of_getElem? (i := 460) (by decide +kernel)⟩
theorem lw_p1 : lw_okq (⟨"MastMove$Planner", "findCalm", "(J)V"⟩, 5) := ⟨⟨by decide +kernel, by decide +kernel⟩, List.mem_of_getElem? (i := 176) (by decide +kernel), List.mem_of_getElem? (i := 467) (by decide +kernel), List.mem_of_getElem? (i := 468) (by decide +kernel)⟩
theorem lw_p2 : lw_okq (⟨"MastMove$Planner", "findSoonest", "(LMastMove$Land;)V"⟩, 5) := ⟨⟨by decide +kernel, by decide +kernel⟩, List.mem_of_getElem? (i := 176) (by decide +kernel), List.mem_of_getElem? (i := 474) (by decide +kernel), List.mem_of_getElem? (i := 475) (by decide +kernel)⟩
theorem lw_p3 : lw_okq (⟨"MastMove$Planner", "firstTurn", "(ZI)I"⟩, 5) := ⟨⟨by decide +kernel, by decide +kernel⟩, List.mem_of_getElem? (i := 176) (by decide +kernel), List.mem_of_getElem? (i := 490) (by decide +kernel), List.mem_of_getElem? (i := 491) (by decide +kernel)⟩
theorem lw_p4 : lw_okq (⟨"MastMove$Planner", "findLatest", "(LMastMove$Land;I)V"⟩, 5) := ⟨⟨by decide +kernel, by decide +kernel⟩, List.mem_of_getElem? (i := 176) (by decide +kernel), List.mem_of_getElem? (i := 497) (by decide +kernel), List.mem_of_getElem? (i := 498) (by decide +kernel)⟩
theorem lw_p5 : lw_okq (⟨"MastMove$Planner", "lastTurn", "(ZI)I"⟩, 5) := ⟨⟨by decide +kernel, by decide +kernel⟩, List.mem_of_getElem? (i := 176) (by decide +kernel), List.mem_of_getElem? (i := 501) (by decide +kernel), List.mem_of_getElem? (i := 502) (by decide +kernel)⟩
theorem lw_p6 : lw_okq (⟨"MastMove$Planner", "pickSets", "(LMastMove$Land;IJ)V"⟩, 5) := ⟨⟨by decide +kernel, by decide +kernel⟩, List.mem_of_getElem? (i := 176) (by decide +kernel), List.mem_of_getElem? (i := 508) (by decide +kernel), List.mem_of_getElem? (i := 509) (by decide +kernel)⟩
theorem lw_p7 : lw_okq (⟨"MastMove$Planner", "leastSet", "(LMastMove$Land;IIZ)I"⟩, 5) := ⟨⟨by decide +kernel, by decide +kernel⟩, List.mem_of_getElem? (i := 176) (by decide +kernel), List.mem_of_getElem? (i := 512) (by decide +kernel), List.mem_of_getElem? (i := 513) (by decide +kernel)⟩
theorem lw_p8 : lw_okq (⟨"MastMove$Tuner", "findNear", "(LMastMove$Land;)V"⟩, 5) := ⟨⟨by decide +kernel, by decide +kernel⟩, List.mem_of_getElem? (i := 199) (by decide +kernel), List.mem_of_getElem? (i := 537) (by decide +kernel), List.mem_of_getElem? (i := 538) (by decide +kernel)⟩
theorem lw_p9 : lw_okq (⟨"MastMove$Tuner", "bannedFor", "(LMastMove$Land;I)I"⟩, 5) := ⟨⟨by decide +kernel, by decide +kernel⟩, List.mem_of_getElem? (i := 199) (by decide +kernel), List.mem_of_getElem? (i := 548) (by decide +kernel), List.mem_of_getElem? (i := 549) (by decide +kernel)⟩
theorem lw_p10 : lw_okq (⟨"MastMove$Tuner", "tryChannels", "(I)I"⟩, 5) := ⟨⟨by decide +kernel, by decide +kernel⟩, List.mem_of_getElem? (i := 199) (by decide +kernel), List.mem_of_getElem? (i := 553) (by decide +kernel), List.mem_of_getElem? (i := 554) (by decide +kernel)⟩
theorem lw_p11 : lw_okq (⟨"MastMove$Tuner", "begin", "(I)V"⟩, 5) := ⟨⟨by decide +kernel, by decide +kernel⟩, List.mem_of_getElem? (i := 199) (by decide +kernel), List.mem_of_getElem? (i := 557) (by decide +kernel), List.mem_of_getElem? (i := 558) (by decide +kernel)⟩
theorem lw_p12 : lw_okq (⟨"MastMove$Tuner", "lastWithMore", "(I)I"⟩, 5) := ⟨⟨by decide +kernel, by decide +kernel⟩, List.mem_of_getElem? (i := 199) (by decide +kernel), List.mem_of_getElem? (i := 561) (by decide +kernel), List.mem_of_getElem? (i := 562) (by decide +kernel)⟩
theorem lw_p13 : lw_okq (⟨"MastMove$LawReader", "readGive", "()Z"⟩, 2) := ⟨⟨by decide +kernel, by decide +kernel⟩, List.mem_of_getElem? (i := 238) (by decide +kernel), List.mem_of_getElem? (i := 701) (by decide +kernel), List.mem_of_getElem? (i := 702) (by decide +kernel)⟩
theorem lw_p14 : lw_okq (⟨"MastMove$LawReader", "readSum", "(I)Z"⟩, 2) := ⟨⟨by decide +kernel, by decide +kernel⟩, List.mem_of_getElem? (i := 238) (by decide +kernel), List.mem_of_getElem? (i := 713) (by decide +kernel), List.mem_of_getElem? (i := 714) (by decide +kernel)⟩
theorem lw_p15 : lw_okq (⟨"MastMove$LawReader", "readTerm", "(I)Z"⟩, 2) := ⟨⟨by decide +kernel, by decide +kernel⟩, List.mem_of_getElem? (i := 238) (by decide +kernel), List.mem_of_getElem? (i := 717) (by decide +kernel), List.mem_of_getElem? (i := 718) (by decide +kernel)⟩
def lw_privs_1 : List (MethodName × Nat) := [(⟨"MastMove", "dropChannels", "()V"⟩, 12), (⟨"MastMove$Planner", "findCalm", "(J)V"⟩, 5), (⟨"MastMove$Planner", "findSoonest", "(LMastMove$Land;)V"⟩, 5), (⟨"MastMove$Planner", "firstTurn", "(ZI)I"⟩, 5), (⟨"MastMove$Planner", "findLatest", "(LMastMove$Land;I)V"⟩, 5), (⟨"MastMove$Planner", "lastTurn", "(ZI)I"⟩, 5), (⟨"MastMove$Planner", "pickSets", "(LMastMove$Land;IJ)V"⟩, 5), (⟨"MastMove$Planner", "leastSet", "(LMastMove$Land;IIZ)I"⟩, 5), (⟨"MastMove$Tuner", "findNear", "(LMastMove$Land;)V"⟩, 5), (⟨"MastMove$Tuner", "bannedFor", "(LMastMove$Land;I)I"⟩, 5), (⟨"MastMove$Tuner", "tryChannels", "(I)I"⟩, 5), (⟨"MastMove$Tuner", "begin", "(I)V"⟩, 5), (⟨"MastMove$Tuner", "lastWithMore", "(I)I"⟩, 5), (⟨"MastMove$LawReader", "readGive", "()Z"⟩, 2), (⟨"MastMove$LawReader", "readSum", "(I)Z"⟩, 2), (⟨"MastMove$LawReader", "readTerm", "(I)Z"⟩, 2)]
theorem lw_r1 : ∀ q ∈ lw_privs_1, lw_okq q := List.forall_mem_cons.mpr ⟨lw_p0, List.forall_mem_cons.mpr ⟨lw_p1, List.forall_mem_cons.mpr ⟨lw_p2, List.forall_mem_cons.mpr ⟨lw_p3, List.forall_mem_cons.mpr ⟨lw_p4, List.forall_mem_cons.mpr ⟨lw_p5, List.forall_mem_cons.mpr ⟨lw_p6, List.forall_mem_cons.mpr ⟨lw_p7, List.forall_mem_cons.mpr ⟨lw_p8, List.forall_mem_cons.mpr ⟨lw_p9, List.forall_mem_cons.mpr ⟨lw_p10, List.forall_mem_cons.mpr ⟨lw_p11, List.forall_mem_cons.mpr ⟨lw_p12, List.forall_mem_cons.mpr ⟨lw_p13, List.forall_mem_cons.mpr ⟨lw_p14, List.forall_mem_cons.mpr ⟨lw_p15, fun _ h => absurd h List.not_mem_nil⟩⟩⟩⟩⟩⟩⟩⟩⟩⟩⟩⟩⟩⟩⟩⟩
theorem lw_p16 : lw_okq (⟨"MastMove$LawReader", "readFactor", "(I)Z"⟩, 2) := ⟨⟨by decide +kernel, by decide +kernel⟩, List.mem_of_getElem? (i := 238) (by decide +kernel), List.mem_of_getElem? (i := 721) (by decide +kernel), List.mem_of_getElem? (i := 722) (by decide +kernel)⟩
theorem lw_p17 : lw_okq (⟨"MastMove$LawReader", "readConds", "()Z"⟩, 2) := ⟨⟨by decide +kernel, by decide +kernel⟩, List.mem_of_getElem? (i := 238) (by decide +kernel), List.mem_of_getElem? (i := 733) (by decide +kernel), List.mem_of_getElem? (i := 734) (by decide +kernel)⟩
theorem lw_p18 : lw_okq (⟨"MastMove$LawReader", "readCap", "()Z"⟩, 2) := ⟨⟨by decide +kernel, by decide +kernel⟩, List.mem_of_getElem? (i := 238) (by decide +kernel), List.mem_of_getElem? (i := 744) (by decide +kernel), List.mem_of_getElem? (i := 745) (by decide +kernel)⟩
theorem lw_p19 : lw_okq (⟨"MastMove", "giveBoxes", "()V"⟩, 12) := ⟨⟨by decide +kernel, by decide +kernel⟩, List.mem_of_getElem? (i := 22) (by decide +kernel), List.mem_of_getElem? (i := 770) (by decide +kernel), List.mem_of_getElem? (i := 771) (by decide +kernel)⟩
theorem lw_p20 : lw_okq (⟨"MastMove", "portionOf", "(LMastMove$Area;I)I"⟩, 12) := ⟨⟨by decide +kernel, by decide +kernel⟩, List.mem_of_getElem? (i := 22) (by decide +kernel), List.mem_of_getElem? (i := 774) (by decide +kernel), List.mem_of_getElem? (i := 775) (by decide +kernel)⟩
theorem lw_p21 : lw_okq (⟨"MastMove$Law", "holds", "(II[I)Z"⟩, 10) := ⟨⟨by decide +kernel, by decide +kernel⟩, List.mem_of_getElem? (i := 266) (by decide +kernel), List.mem_of_getElem? (i := 782) (by decide +kernel), List.mem_of_getElem? (i := 783) (by decide +kernel)⟩
theorem lw_p22 : lw_okq (⟨"MastMove$Law", "push", "(J)V"⟩, 10) := ⟨⟨by decide +kernel, by decide +kernel⟩, List.mem_of_getElem? (i := 266) (by decide +kernel), List.mem_of_getElem? (i := 786) (by decide +kernel), List.mem_of_getElem? (i := 787) (by decide +kernel)⟩
theorem lw_p23 : lw_okq (⟨"MastMove$Law", "pop", "()J"⟩, 10) := ⟨⟨by decide +kernel, by decide +kernel⟩, List.mem_of_getElem? (i := 266) (by decide +kernel), List.mem_of_getElem? (i := 790) (by decide +kernel), List.mem_of_getElem? (i := 791) (by decide +kernel)⟩
theorem lw_p24 : lw_okq (⟨"MastMove", "rowsThere", "()I"⟩, 12) := ⟨⟨by decide +kernel, by decide +kernel⟩, List.mem_of_getElem? (i := 22) (by decide +kernel), List.mem_of_getElem? (i := 894) (by decide +kernel), List.mem_of_getElem? (i := 895) (by decide +kernel)⟩
theorem lw_p25 : lw_okq (⟨"MastMoveModel", "sender", "(IIIII)V"⟩, 55) := ⟨⟨by decide +kernel, by decide +kernel⟩, List.mem_of_getElem? (i := 932) (by decide +kernel), List.mem_of_getElem? (i := 1148) (by decide +kernel), List.mem_of_getElem? (i := 1149) (by decide +kernel)⟩
theorem lw_p26 : lw_okq (⟨"MastMoveModel", "isArea", "(I)Z"⟩, 55) := ⟨⟨by decide +kernel, by decide +kernel⟩, List.mem_of_getElem? (i := 932) (by decide +kernel), List.mem_of_getElem? (i := 1170) (by decide +kernel), List.mem_of_getElem? (i := 1171) (by decide +kernel)⟩
theorem lw_p27 : lw_okq (⟨"MastMoveModel", "isMast", "(I)Z"⟩, 55) := ⟨⟨by decide +kernel, by decide +kernel⟩, List.mem_of_getElem? (i := 932) (by decide +kernel), List.mem_of_getElem? (i := 1174) (by decide +kernel), List.mem_of_getElem? (i := 1175) (by decide +kernel)⟩
theorem lw_p28 : lw_okq (⟨"MastMoveModel", "turned", "(II)Z"⟩, 55) := ⟨⟨by decide +kernel, by decide +kernel⟩, List.mem_of_getElem? (i := 932) (by decide +kernel), List.mem_of_getElem? (i := 1178) (by decide +kernel), List.mem_of_getElem? (i := 1179) (by decide +kernel)⟩
theorem lw_p29 : lw_okq (⟨"MastMoveModel", "at", "(II)I"⟩, 55) := ⟨⟨by decide +kernel, by decide +kernel⟩, List.mem_of_getElem? (i := 932) (by decide +kernel), List.mem_of_getElem? (i := 1186) (by decide +kernel), List.mem_of_getElem? (i := 1187) (by decide +kernel)⟩
theorem lw_p30 : lw_okq (⟨"MastMoveModel", "fewest", "(IJ)I"⟩, 55) := ⟨⟨by decide +kernel, by decide +kernel⟩, List.mem_of_getElem? (i := 932) (by decide +kernel), List.mem_of_getElem? (i := 1199) (by decide +kernel), List.mem_of_getElem? (i := 1200) (by decide +kernel)⟩
theorem lw_p31 : lw_okq (⟨"MastMoveModel", "may", "(IIIIJ)Z"⟩, 55) := ⟨⟨by decide +kernel, by decide +kernel⟩, List.mem_of_getElem? (i := 932) (by decide +kernel), List.mem_of_getElem? (i := 1203) (by decide +kernel), List.mem_of_getElem? (i := 1204) (by decide +kernel)⟩
def lw_privs_2 : List (MethodName × Nat) := [(⟨"MastMove$LawReader", "readFactor", "(I)Z"⟩, 2), (⟨"MastMove$LawReader", "readConds", "()Z"⟩, 2), (⟨"MastMove$LawReader", "readCap", "()Z"⟩, 2), (⟨"MastMove", "giveBoxes", "()V"⟩, 12), (⟨"MastMove", "portionOf", "(LMastMove$Area;I)I"⟩, 12), (⟨"MastMove$Law", "holds", "(II[I)Z"⟩, 10), (⟨"MastMove$Law", "push", "(J)V"⟩, 10), (⟨"MastMove$Law", "pop", "()J"⟩, 10), (⟨"MastMove", "rowsThere", "()I"⟩, 12), (⟨"MastMoveModel", "sender", "(IIIII)V"⟩, 55), (⟨"MastMoveModel", "isArea", "(I)Z"⟩, 55), (⟨"MastMoveModel", "isMast", "(I)Z"⟩, 55), (⟨"MastMoveModel", "turned", "(II)Z"⟩, 55), (⟨"MastMoveModel", "at", "(II)I"⟩, 55), (⟨"MastMoveModel", "fewest", "(IJ)I"⟩, 55), (⟨"MastMoveModel", "may", "(IIIIJ)Z"⟩, 55)]
theorem lw_r2 : ∀ q ∈ lw_privs_2, lw_okq q := List.forall_mem_cons.mpr ⟨lw_p16, List.forall_mem_cons.mpr ⟨lw_p17, List.forall_mem_cons.mpr ⟨lw_p18, List.forall_mem_cons.mpr ⟨lw_p19, List.forall_mem_cons.mpr ⟨lw_p20, List.forall_mem_cons.mpr ⟨lw_p21, List.forall_mem_cons.mpr ⟨lw_p22, List.forall_mem_cons.mpr ⟨lw_p23, List.forall_mem_cons.mpr ⟨lw_p24, List.forall_mem_cons.mpr ⟨lw_p25, List.forall_mem_cons.mpr ⟨lw_p26, List.forall_mem_cons.mpr ⟨lw_p27, List.forall_mem_cons.mpr ⟨lw_p28, List.forall_mem_cons.mpr ⟨lw_p29, List.forall_mem_cons.mpr ⟨lw_p30, List.forall_mem_cons.mpr ⟨lw_p31, fun _ h => absurd h List.not_mem_nil⟩⟩⟩⟩⟩⟩⟩⟩⟩⟩⟩⟩⟩⟩⟩⟩
theorem lw_p32 : lw_okq (⟨"MastMoveModel", "hurtsOne", "(II)Z"⟩, 55) := ⟨⟨by decide +kernel, by decide +kernel⟩, List.mem_of_getElem? (i := 932) (by decide +kernel), List.mem_of_getElem? (i := 1218) (by decide +kernel), List.mem_of_getElem? (i := 1219) (by decide +kernel)⟩
theorem lw_p33 : lw_okq (⟨"MastMoveModel", "hurts", "(II)Z"⟩, 55) := ⟨⟨by decide +kernel, by decide +kernel⟩, List.mem_of_getElem? (i := 932) (by decide +kernel), List.mem_of_getElem? (i := 1222) (by decide +kernel), List.mem_of_getElem? (i := 1223) (by decide +kernel)⟩
theorem lw_p34 : lw_okq (⟨"MastMoveModel", "goes", "(II)Z"⟩, 55) := ⟨⟨by decide +kernel, by decide +kernel⟩, List.mem_of_getElem? (i := 932) (by decide +kernel), List.mem_of_getElem? (i := 1226) (by decide +kernel), List.mem_of_getElem? (i := 1227) (by decide +kernel)⟩
theorem lw_p35 : lw_okq (⟨"MastMoveModel", "unlike", "()I"⟩, 55) := ⟨⟨by decide +kernel, by decide +kernel⟩, List.mem_of_getElem? (i := 932) (by decide +kernel), List.mem_of_getElem? (i := 1230) (by decide +kernel), List.mem_of_getElem? (i := 1231) (by decide +kernel)⟩
theorem lw_p36 : lw_okq (⟨"MastMoveModel", "reads", "(I)V"⟩, 55) := ⟨⟨by decide +kernel, by decide +kernel⟩, List.mem_of_getElem? (i := 932) (by decide +kernel), List.mem_of_getElem? (i := 1250) (by decide +kernel), List.mem_of_getElem? (i := 1251) (by decide +kernel)⟩
theorem lw_p37 : lw_okq (⟨"MastMoveModel", "next", "()V"⟩, 55) := ⟨⟨by decide +kernel, by decide +kernel⟩, List.mem_of_getElem? (i := 932) (by decide +kernel), List.mem_of_getElem? (i := 1254) (by decide +kernel), List.mem_of_getElem? (i := 1255) (by decide +kernel)⟩
theorem lw_p38 : lw_okq (⟨"MastMoveModel", "see", "(I)I"⟩, 55) := ⟨⟨by decide +kernel, by decide +kernel⟩, List.mem_of_getElem? (i := 932) (by decide +kernel), List.mem_of_getElem? (i := 1258) (by decide +kernel), List.mem_of_getElem? (i := 1259) (by decide +kernel)⟩
theorem lw_p39 : lw_okq (⟨"MastMoveModel", "rule", "()V"⟩, 55) := ⟨⟨by decide +kernel, by decide +kernel⟩, List.mem_of_getElem? (i := 932) (by decide +kernel), List.mem_of_getElem? (i := 1269) (by decide +kernel), List.mem_of_getElem? (i := 1270) (by decide +kernel)⟩
theorem lw_p40 : lw_okq (⟨"MastMoveModel", "is", "(Ljava/lang/String;)Z"⟩, 55) := ⟨⟨by decide +kernel, by decide +kernel⟩, List.mem_of_getElem? (i := 932) (by decide +kernel), List.mem_of_getElem? (i := 1274) (by decide +kernel), List.mem_of_getElem? (i := 1275) (by decide +kernel)⟩
theorem lw_p41 : lw_okq (⟨"MastMoveModel", "bad", "()V"⟩, 55) := ⟨⟨by decide +kernel, by decide +kernel⟩, List.mem_of_getElem? (i := 932) (by decide +kernel), List.mem_of_getElem? (i := 1281) (by decide +kernel), List.mem_of_getElem? (i := 1282) (by decide +kernel)⟩
theorem lw_p42 : lw_okq (⟨"MastMoveModel", "whole", "()I"⟩, 55) := ⟨⟨by decide +kernel, by decide +kernel⟩, List.mem_of_getElem? (i := 932) (by decide +kernel), List.mem_of_getElem? (i := 1285) (by decide +kernel), List.mem_of_getElem? (i := 1286) (by decide +kernel)⟩
theorem lw_p43 : lw_okq (⟨"MastMoveModel", "sum", "()J"⟩, 55) := ⟨⟨by decide +kernel, by decide +kernel⟩, List.mem_of_getElem? (i := 932) (by decide +kernel), List.mem_of_getElem? (i := 1290) (by decide +kernel), List.mem_of_getElem? (i := 1291) (by decide +kernel)⟩
theorem lw_p44 : lw_okq (⟨"MastMoveModel", "term", "()J"⟩, 55) := ⟨⟨by decide +kernel, by decide +kernel⟩, List.mem_of_getElem? (i := 932) (by decide +kernel), List.mem_of_getElem? (i := 1294) (by decide +kernel), List.mem_of_getElem? (i := 1295) (by decide +kernel)⟩
theorem lw_p45 : lw_okq (⟨"MastMoveModel", "factor", "()J"⟩, 55) := ⟨⟨by decide +kernel, by decide +kernel⟩, List.mem_of_getElem? (i := 932) (by decide +kernel), List.mem_of_getElem? (i := 1298) (by decide +kernel), List.mem_of_getElem? (i := 1299) (by decide +kernel)⟩
theorem lw_p46 : lw_okq (⟨"MastMoveModel", "isSign", "(I)Z"⟩, 55) := ⟨⟨by decide +kernel, by decide +kernel⟩, List.mem_of_getElem? (i := 932) (by decide +kernel), List.mem_of_getElem? (i := 1308) (by decide +kernel), List.mem_of_getElem? (i := 1309) (by decide +kernel)⟩
theorem lw_p47 : lw_okq (⟨"MastMoveModel", "conds", "()Z"⟩, 55) := ⟨⟨by decide +kernel, by decide +kernel⟩, List.mem_of_getElem? (i := 932) (by decide +kernel), List.mem_of_getElem? (i := 1313) (by decide +kernel), List.mem_of_getElem? (i := 1314) (by decide +kernel)⟩
def lw_privs_3 : List (MethodName × Nat) := [(⟨"MastMoveModel", "hurtsOne", "(II)Z"⟩, 55), (⟨"MastMoveModel", "hurts", "(II)Z"⟩, 55), (⟨"MastMoveModel", "goes", "(II)Z"⟩, 55), (⟨"MastMoveModel", "unlike", "()I"⟩, 55), (⟨"MastMoveModel", "reads", "(I)V"⟩, 55), (⟨"MastMoveModel", "next", "()V"⟩, 55), (⟨"MastMoveModel", "see", "(I)I"⟩, 55), (⟨"MastMoveModel", "rule", "()V"⟩, 55), (⟨"MastMoveModel", "is", "(Ljava/lang/String;)Z"⟩, 55), (⟨"MastMoveModel", "bad", "()V"⟩, 55), (⟨"MastMoveModel", "whole", "()I"⟩, 55), (⟨"MastMoveModel", "sum", "()J"⟩, 55), (⟨"MastMoveModel", "term", "()J"⟩, 55), (⟨"MastMoveModel", "factor", "()J"⟩, 55), (⟨"MastMoveModel", "isSign", "(I)Z"⟩, 55), (⟨"MastMoveModel", "conds", "()Z"⟩, 55)]
theorem lw_r3 : ∀ q ∈ lw_privs_3, lw_okq q := List.forall_mem_cons.mpr ⟨lw_p32, List.forall_mem_cons.mpr ⟨lw_p33, List.forall_mem_cons.mpr ⟨lw_p34, List.forall_mem_cons.mpr ⟨lw_p35, List.forall_mem_cons.mpr ⟨lw_p36, List.forall_mem_cons.mpr ⟨lw_p37, List.forall_mem_cons.mpr ⟨lw_p38, List.forall_mem_cons.mpr ⟨lw_p39, List.forall_mem_cons.mpr ⟨lw_p40, List.forall_mem_cons.mpr ⟨lw_p41, List.forall_mem_cons.mpr ⟨lw_p42, List.forall_mem_cons.mpr ⟨lw_p43, List.forall_mem_cons.mpr ⟨lw_p44, List.forall_mem_cons.mpr ⟨lw_p45, List.forall_mem_cons.mpr ⟨lw_p46, List.forall_mem_cons.mpr ⟨lw_p47, fun _ h => absurd h List.not_mem_nil⟩⟩⟩⟩⟩⟩⟩⟩⟩⟩⟩⟩⟩⟩⟩⟩
theorem lw_p48 : lw_okq (⟨"MastMoveModel", "isOn", "(I)Z"⟩, 55) := ⟨⟨by decide +kernel, by decide +kernel⟩, List.mem_of_getElem? (i := 932) (by decide +kernel), List.mem_of_getElem? (i := 1341) (by decide +kernel), List.mem_of_getElem? (i := 1342) (by decide +kernel)⟩
theorem lw_p49 : lw_okq (⟨"MastMoveModel", "pictureOf", "(I)I"⟩, 55) := ⟨⟨by decide +kernel, by decide +kernel⟩, List.mem_of_getElem? (i := 932) (by decide +kernel), List.mem_of_getElem? (i := 1349) (by decide +kernel), List.mem_of_getElem? (i := 1350) (by decide +kernel)⟩
theorem lw_p50 : lw_okq (⟨"MastMoveModel", "hurtBy", "(I)I"⟩, 55) := ⟨⟨by decide +kernel, by decide +kernel⟩, List.mem_of_getElem? (i := 932) (by decide +kernel), List.mem_of_getElem? (i := 1353) (by decide +kernel), List.mem_of_getElem? (i := 1354) (by decide +kernel)⟩
theorem lw_p51 : lw_okq (⟨"MastMoveModel", "now", "(I)I"⟩, 55) := ⟨⟨by decide +kernel, by decide +kernel⟩, List.mem_of_getElem? (i := 932) (by decide +kernel), List.mem_of_getElem? (i := 1357) (by decide +kernel), List.mem_of_getElem? (i := 1358) (by decide +kernel)⟩
theorem lw_p52 : lw_okq (⟨"MastMoveModel", "snowOf", "(I)I"⟩, 55) := ⟨⟨by decide +kernel, by decide +kernel⟩, List.mem_of_getElem? (i := 932) (by decide +kernel), List.mem_of_getElem? (i := 1365) (by decide +kernel), List.mem_of_getElem? (i := 1366) (by decide +kernel)⟩
def lw_privs_4 : List (MethodName × Nat) := [(⟨"MastMoveModel", "isOn", "(I)Z"⟩, 55), (⟨"MastMoveModel", "pictureOf", "(I)I"⟩, 55), (⟨"MastMoveModel", "hurtBy", "(I)I"⟩, 55), (⟨"MastMoveModel", "now", "(I)I"⟩, 55), (⟨"MastMoveModel", "snowOf", "(I)I"⟩, 55)]
theorem lw_r4 : ∀ q ∈ lw_privs_4, lw_okq q := List.forall_mem_cons.mpr ⟨lw_p48, List.forall_mem_cons.mpr ⟨lw_p49, List.forall_mem_cons.mpr ⟨lw_p50, List.forall_mem_cons.mpr ⟨lw_p51, List.forall_mem_cons.mpr ⟨lw_p52, fun _ h => absurd h List.not_mem_nil⟩⟩⟩⟩⟩
def lw_privs : List (MethodName × Nat) := lw_privs_1 ++ (lw_privs_2 ++ (lw_privs_3 ++ (lw_privs_4)))
def lw_tbl : List Cond := k2_sels lw_privs ++ tables_1
theorem lw_privs_ok : ∀ q ∈ lw_privs, lw_okq q := by
  show ∀ q ∈ lw_privs_1 ++ (lw_privs_2 ++ (lw_privs_3 ++ (lw_privs_4))), lw_okq q
  exact List.forall_mem_append.mpr ⟨lw_r1, List.forall_mem_append.mpr ⟨lw_r2, List.forall_mem_append.mpr ⟨lw_r3, lw_r4⟩⟩⟩
-- ===== end of PART A; then your names; then what follows =====
end
section
/-! names and field tables of the classes (by program, out of the printed names) -/
def RX0 : String := "MastMove$Area"
def TX0 : u_T := fun k => match k with
  | 0 => ("MastMove$Area", "x", "I", false)
  | 1 => ("MastMove$Area", "y", "I", false)
  | 2 => ("MastMove$Area", "homes", "I", false)
  | 3 => ("MastMove$Area", "poor", "I", false)
  | 4 => ("MastMove$Area", "aged", "I", false)
  | 5 => ("MastMove$Area", "boxes", "I", false)
  | 6 => ("MastMove$Area", "mast", "I", false)
  | _ => ("MastMove$Area", "turns", "I", false)
def tyX0 : Nat → FieldType := fun k => match k with
  | 0 => .int
  | 1 => .int
  | 2 => .int
  | 3 => .int
  | 4 => .int
  | 5 => .int
  | 6 => .int
  | _ => .int
theorem nmX0 : ∀ a, a < 8 → ∀ b, b < 8 → a ≠ b → (TX0 a).2.1 ≠ (TX0 b).2.1 := by decide +kernel
theorem tyX0_ok : ∀ k, k < 8 → parseFieldDescriptor (TX0 k).2.2.1 = some (tyX0 k) := by decide +kernel
def RX1 : String := "MastMove$Land"
def TX1 : u_T := fun k => match k with
  | 0 => ("MastMove$Land", "masts", "[LMastMove$Mast;", true)
  | 1 => ("MastMove$Land", "areas", "[LMastMove$Area;", true)
  | 2 => ("MastMove$Land", "mastCount", "I", false)
  | 3 => ("MastMove$Land", "abroadCount", "I", false)
  | 4 => ("MastMove$Land", "areaCount", "I", false)
  | 5 => ("MastMove$Land", "week", "I", false)
  | 6 => ("MastMove$Land", "least", "I", false)
  | _ => ("MastMove$Land", "ratio", "I", false)
def tyX1 : Nat → FieldType := fun k => match k with
  | 0 => .array (.object "MastMove$Mast")
  | 1 => .array (.object "MastMove$Area")
  | 2 => .int
  | 3 => .int
  | 4 => .int
  | 5 => .int
  | 6 => .int
  | _ => .int
theorem nmX1 : ∀ a, a < 8 → ∀ b, b < 8 → a ≠ b → (TX1 a).2.1 ≠ (TX1 b).2.1 := by decide +kernel
theorem tyX1_ok : ∀ k, k < 8 → parseFieldDescriptor (TX1 k).2.2.1 = some (tyX1 k) := by decide +kernel
def RX2 : String := "MastMove$Law"
def TX2 : u_T := fun k => match k with
  | 0 => ("MastMove$Law", "steps", "[I", true)
  | 1 => ("MastMove$Law", "sumFrom", "[I", true)
  | 2 => ("MastMove$Law", "sumTo", "[I", true)
  | 3 => ("MastMove$Law", "condsTo", "[I", true)
  | 4 => ("MastMove$Law", "stack", "[J", true)
  | 5 => ("MastMove$Law", "stepCount", "I", false)
  | 6 => ("MastMove$Law", "gives", "I", false)
  | 7 => ("MastMove$Law", "top", "I", false)
  | 8 => ("MastMove$Law", "rules", "I", false)
  | _ => ("MastMove$Law", "cap", "I", false)
def tyX2 : Nat → FieldType := fun k => match k with
  | 0 => .array .int
  | 1 => .array .int
  | 2 => .array .int
  | 3 => .array .int
  | 4 => .array .long
  | 5 => .int
  | 6 => .int
  | 7 => .int
  | 8 => .int
  | _ => .int
theorem nmX2 : ∀ a, a < 10 → ∀ b, b < 10 → a ≠ b → (TX2 a).2.1 ≠ (TX2 b).2.1 := by decide +kernel
theorem tyX2_ok : ∀ k, k < 10 → parseFieldDescriptor (TX2 k).2.2.1 = some (tyX2 k) := by decide +kernel
def RX3 : String := "MastMove$LawReader"
def TX3 : u_T := fun k => match k with
  | 0 => ("MastMove$LawReader", "tokens", "LMastMove$Tokens;", true)
  | _ => ("MastMove$LawReader", "draft", "LMastMove$Law;", false)
def tyX3 : Nat → FieldType := fun k => match k with
  | 0 => .object "MastMove$Tokens"
  | _ => .object "MastMove$Law"
theorem nmX3 : ∀ a, a < 2 → ∀ b, b < 2 → a ≠ b → (TX3 a).2.1 ≠ (TX3 b).2.1 := by decide +kernel
theorem tyX3_ok : ∀ k, k < 2 → parseFieldDescriptor (TX3 k).2.2.1 = some (tyX3 k) := by decide +kernel
def RX4 : String := "MastMove$Mast"
def TX4 : u_T := fun k => match k with
  | 0 => ("MastMove$Mast", "x", "I", false)
  | 1 => ("MastMove$Mast", "y", "I", false)
  | 2 => ("MastMove$Mast", "power", "I", false)
  | 3 => ("MastMove$Mast", "feed", "I", false)
  | 4 => ("MastMove$Mast", "high", "Z", false)
  | 5 => ("MastMove$Mast", "channel", "I", false)
  | 6 => ("MastMove$Mast", "newChannel", "I", false)
  | 7 => ("MastMove$Mast", "week", "I", false)
  | 8 => ("MastMove$Mast", "until", "I", false)
  | 9 => ("MastMove$Mast", "isNew", "Z", false)
  | _ => ("MastMove$Mast", "failed", "Z", false)
def tyX4 : Nat → FieldType := fun k => match k with
  | 0 => .int
  | 1 => .int
  | 2 => .int
  | 3 => .int
  | 4 => .boolean
  | 5 => .int
  | 6 => .int
  | 7 => .int
  | 8 => .int
  | 9 => .boolean
  | _ => .boolean
theorem nmX4 : ∀ a, a < 11 → ∀ b, b < 11 → a ≠ b → (TX4 a).2.1 ≠ (TX4 b).2.1 := by decide +kernel
theorem tyX4_ok : ∀ k, k < 11 → parseFieldDescriptor (TX4 k).2.2.1 = some (tyX4 k) := by decide +kernel
def RX5 : String := "MastMove$Planner"
def TX5 : u_T := fun k => match k with
  | 0 => ("MastMove$Planner", "soonest", "[I", true)
  | 1 => ("MastMove$Planner", "latest", "[I", true)
  | 2 => ("MastMove$Planner", "calmFrom", "[I", true)
  | 3 => ("MastMove$Planner", "calmUpTo", "[I", true)
  | _ => ("MastMove$Planner", "crews", "I", false)
def tyX5 : Nat → FieldType := fun k => match k with
  | 0 => .array .int
  | 1 => .array .int
  | 2 => .array .int
  | 3 => .array .int
  | _ => .int
theorem nmX5 : ∀ a, a < 5 → ∀ b, b < 5 → a ≠ b → (TX5 a).2.1 ≠ (TX5 b).2.1 := by decide +kernel
theorem tyX5_ok : ∀ k, k < 5 → parseFieldDescriptor (TX5 k).2.2.1 = some (tyX5 k) := by decide +kernel
def RX6 : String := "MastMove$Row"
def TX6 : u_T := fun k => match k with
  | 0 => ("MastMove$Row", "numbers", "[J", true)
  | 1 => ("MastMove$Row", "width", "I", false)
  | _ => ("MastMove$Row", "size", "I", false)
def tyX6 : Nat → FieldType := fun k => match k with
  | 0 => .array .long
  | 1 => .int
  | _ => .int
theorem nmX6 : ∀ a, a < 3 → ∀ b, b < 3 → a ≠ b → (TX6 a).2.1 ≠ (TX6 b).2.1 := by decide +kernel
theorem tyX6_ok : ∀ k, k < 3 → parseFieldDescriptor (TX6 k).2.2.1 = some (tyX6 k) := by decide +kernel
def RX7 : String := "MastMove$Tape"
def TX7 : u_T := fun k => match k with
  | 0 => ("MastMove$Tape", "bytes", "[B", true)
  | _ => ("MastMove$Tape", "length", "I", false)
def tyX7 : Nat → FieldType := fun k => match k with
  | 0 => .array .byte
  | _ => .int
theorem nmX7 : ∀ a, a < 2 → ∀ b, b < 2 → a ≠ b → (TX7 a).2.1 ≠ (TX7 b).2.1 := by decide +kernel
theorem tyX7_ok : ∀ k, k < 2 → parseFieldDescriptor (TX7 k).2.2.1 = some (tyX7 k) := by decide +kernel
def RX8 : String := "MastMove$Tokens"
def TX8 : u_T := fun k => match k with
  | 0 => ("MastMove$Tokens", "kinds", "[I", true)
  | 1 => ("MastMove$Tokens", "places", "[I", true)
  | 2 => ("MastMove$Tokens", "count", "I", false)
  | 3 => ("MastMove$Tokens", "at", "I", false)
  | _ => ("MastMove$Tokens", "textLength", "I", false)
def tyX8 : Nat → FieldType := fun k => match k with
  | 0 => .array .int
  | 1 => .array .int
  | 2 => .int
  | 3 => .int
  | _ => .int
theorem nmX8 : ∀ a, a < 5 → ∀ b, b < 5 → a ≠ b → (TX8 a).2.1 ≠ (TX8 b).2.1 := by decide +kernel
theorem tyX8_ok : ∀ k, k < 5 → parseFieldDescriptor (TX8 k).2.2.1 = some (tyX8 k) := by decide +kernel
def RX9 : String := "MastMove$Tuner"
def TX9 : u_T := fun k => match k with
  | 0 => ("MastMove$Tuner", "near", "[I", true)
  | 1 => ("MastMove$Tuner", "banned", "[I", true)
  | 2 => ("MastMove$Tuner", "blocked", "[I", true)
  | 3 => ("MastMove$Tuner", "chosen", "[I", true)
  | _ => ("MastMove$Tuner", "looked", "I", false)
def tyX9 : Nat → FieldType := fun k => match k with
  | 0 => .array .int
  | 1 => .array .int
  | 2 => .array .int
  | 3 => .array .int
  | _ => .int
theorem nmX9 : ∀ a, a < 5 → ∀ b, b < 5 → a ≠ b → (TX9 a).2.1 ≠ (TX9 b).2.1 := by decide +kernel
theorem tyX9_ok : ∀ k, k < 5 → parseFieldDescriptor (TX9 k).2.2.1 = some (tyX9 k) := by decide +kernel
def RX10 : String := "MastMove"
def TX10 : u_T := fun k => match k with
  | 0 => ("MastMove", "land", "LMastMove$Land;", true)
  | 1 => ("MastMove", "planner", "LMastMove$Planner;", true)
  | 2 => ("MastMove", "tuner", "LMastMove$Tuner;", true)
  | 3 => ("MastMove", "tape", "LMastMove$Tape;", true)
  | 4 => ("MastMove", "reader", "LMastMove$LawReader;", true)
  | 5 => ("MastMove", "rows", "[LMastMove$Row;", true)
  | 6 => ("MastMove", "facts", "[I", true)
  | 7 => ("MastMove", "law", "LMastMove$Law;", false)
  | 8 => ("MastMove", "lawFault", "I", false)
  | 9 => ("MastMove", "stock", "I", false)
  | 10 => ("MastMove", "planWeeks", "I", false)
  | _ => ("MastMove", "tuned", "Z", false)
def tyX10 : Nat → FieldType := fun k => match k with
  | 0 => .object "MastMove$Land"
  | 1 => .object "MastMove$Planner"
  | 2 => .object "MastMove$Tuner"
  | 3 => .object "MastMove$Tape"
  | 4 => .object "MastMove$LawReader"
  | 5 => .array (.object "MastMove$Row")
  | 6 => .array .int
  | 7 => .object "MastMove$Law"
  | 8 => .int
  | 9 => .int
  | 10 => .int
  | _ => .boolean
theorem nmX10 : ∀ a, a < 12 → ∀ b, b < 12 → a ≠ b → (TX10 a).2.1 ≠ (TX10 b).2.1 := by decide +kernel
theorem tyX10_ok : ∀ k, k < 12 → parseFieldDescriptor (TX10 k).2.2.1 = some (tyX10 k) := by decide +kernel
def RX11 : String := "MastMoveModel"
def TX11 : u_T := fun k => match k with
  | 0 => ("MastMoveModel", "thrown", "I", false)
  | 1 => ("MastMoveModel", "width", "[I", true)
  | 2 => ("MastMoveModel", "size", "[I", true)
  | 3 => ("MastMoveModel", "cells", "[J", true)
  | 4 => ("MastMoveModel", "moved", "[J", true)
  | 5 => ("MastMoveModel", "masts", "I", false)
  | 6 => ("MastMoveModel", "abroad", "I", false)
  | 7 => ("MastMoveModel", "areas", "I", false)
  | 8 => ("MastMoveModel", "week", "I", false)
  | 9 => ("MastMoveModel", "strong", "I", false)
  | 10 => ("MastMoveModel", "ratio", "I", false)
  | 11 => ("MastMoveModel", "stock", "I", false)
  | 12 => ("MastMoveModel", "rules", "I", false)
  | 13 => ("MastMoveModel", "x", "[I", true)
  | 14 => ("MastMoveModel", "y", "[I", true)
  | 15 => ("MastMoveModel", "power", "[I", true)
  | 16 => ("MastMoveModel", "old", "[I", true)
  | 17 => ("MastMoveModel", "source", "[I", true)
  | 18 => ("MastMoveModel", "until", "[I", true)
  | 19 => ("MastMoveModel", "isHigh", "[Z", true)
  | 20 => ("MastMoveModel", "isNew", "[Z", true)
  | 21 => ("MastMoveModel", "isFailed", "[Z", true)
  | 22 => ("MastMoveModel", "ax", "[I", true)
  | 23 => ("MastMoveModel", "ay", "[I", true)
  | 24 => ("MastMoveModel", "homes", "[I", true)
  | 25 => ("MastMoveModel", "poor", "[I", true)
  | 26 => ("MastMoveModel", "aged", "[I", true)
  | 27 => ("MastMoveModel", "boxes", "[I", true)
  | 28 => ("MastMoveModel", "aerial", "[I", true)
  | 29 => ("MastMoveModel", "turns", "[I", true)
  | 30 => ("MastMoveModel", "weeks", "I", false)
  | 31 => ("MastMoveModel", "looked", "I", false)
  | 32 => ("MastMoveModel", "hasChannels", "Z", false)
  | 33 => ("MastMoveModel", "planned", "[I", true)
  | 34 => ("MastMoveModel", "channel", "[I", true)
  | 35 => ("MastMoveModel", "tape", "[B", true)
  | 36 => ("MastMoveModel", "taped", "I", false)
  | 37 => ("MastMoveModel", "faultPlace", "I", false)
  | 38 => ("MastMoveModel", "text", "[B", true)
  | 39 => ("MastMoveModel", "textMany", "[I", true)
  | 40 => ("MastMoveModel", "can", "[Z", true)
  | 41 => ("MastMoveModel", "near", "[Z", true)
  | 42 => ("MastMoveModel", "row", "I", false)
  | 43 => ("MastMoveModel", "many", "I", false)
  | 44 => ("MastMoveModel", "to", "I", false)
  | 45 => ("MastMoveModel", "from", "I", false)
  | 46 => ("MastMoveModel", "sort", "I", false)
  | 47 => ("MastMoveModel", "open", "I", false)
  | 48 => ("MastMoveModel", "told", "I", false)
  | 49 => ("MastMoveModel", "cap", "I", false)
  | 50 => ("MastMoveModel", "number", "J", false)
  | 51 => ("MastMoveModel", "given", "J", false)
  | 52 => ("MastMoveModel", "isBad", "Z", false)
  | 53 => ("MastMoveModel", "hasGiven", "Z", false)
  | _ => ("MastMoveModel", "known", "[J", true)
def tyX11 : Nat → FieldType := fun k => match k with
  | 0 => .int
  | 1 => .array .int
  | 2 => .array .int
  | 3 => .array .long
  | 4 => .array .long
  | 5 => .int
  | 6 => .int
  | 7 => .int
  | 8 => .int
  | 9 => .int
  | 10 => .int
  | 11 => .int
  | 12 => .int
  | 13 => .array .int
  | 14 => .array .int
  | 15 => .array .int
  | 16 => .array .int
  | 17 => .array .int
  | 18 => .array .int
  | 19 => .array .boolean
  | 20 => .array .boolean
  | 21 => .array .boolean
  | 22 => .array .int
  | 23 => .array .int
  | 24 => .array .int
  | 25 => .array .int
  | 26 => .array .int
  | 27 => .array .int
  | 28 => .array .int
  | 29 => .array .int
  | 30 => .int
  | 31 => .int
  | 32 => .boolean
  | 33 => .array .int
  | 34 => .array .int
  | 35 => .array .byte
  | 36 => .int
  | 37 => .int
  | 38 => .array .byte
  | 39 => .array .int
  | 40 => .array .boolean
  | 41 => .array .boolean
  | 42 => .int
  | 43 => .int
  | 44 => .int
  | 45 => .int
  | 46 => .int
  | 47 => .int
  | 48 => .int
  | 49 => .int
  | 50 => .long
  | 51 => .long
  | 52 => .boolean
  | 53 => .boolean
  | _ => .array .long
theorem nmX11 : ∀ a, a < 55 → ∀ b, b < 55 → a ≠ b → (TX11 a).2.1 ≠ (TX11 b).2.1 := by decide +kernel
theorem tyX11_ok : ∀ k, k < 55 → parseFieldDescriptor (TX11 k).2.2.1 = some (tyX11 k) := by decide +kernel
def RN : Nat → String := fun o => match o with
  | 0 => "MastMove$Area"
  | 1 => "MastMove$Land"
  | 2 => "MastMove$Law"
  | 3 => "MastMove$LawReader"
  | 4 => "MastMove$Mast"
  | 5 => "MastMove$Planner"
  | 6 => "MastMove$Row"
  | 7 => "MastMove$Tape"
  | 8 => "MastMove$Tokens"
  | 9 => "MastMove$Tuner"
  | 10 => "MastMove"
  | 11 => "MastMoveModel"
  | 12 => "MastMoveLaw"
  | 13 => "java/lang/Integer"
  | 14 => "java/lang/Math"
  | 15 => "java/lang/String"
  | 16 => "java/lang/StringLatin1"
  | _ => "java/util/Arrays"
def TT : Nat → u_T := fun o => match o with
  | 0 => TX0
  | 1 => TX1
  | 2 => TX2
  | 3 => TX3
  | 4 => TX4
  | 5 => TX5
  | 6 => TX6
  | 7 => TX7
  | 8 => TX8
  | 9 => TX9
  | 10 => TX10
  | _ => TX11
def tyT : Nat → Nat → FieldType := fun o => match o with
  | 0 => tyX0
  | 1 => tyX1
  | 2 => tyX2
  | 3 => tyX3
  | 4 => tyX4
  | 5 => tyX5
  | 6 => tyX6
  | 7 => tyX7
  | 8 => tyX8
  | 9 => tyX9
  | 10 => tyX10
  | _ => tyX11
def NF : Nat → Nat := fun o => match o with
  | 0 => 8
  | 1 => 8
  | 2 => 10
  | 3 => 2
  | 4 => 11
  | 5 => 5
  | 6 => 3
  | 7 => 2
  | 8 => 5
  | 9 => 5
  | 10 => 12
  | _ => 55
abbrev vwCl : List vw_C := [(RX0, TX0, 8), (RX1, TX1, 8), (RX2, TX2, 10), (RX3, TX3, 2), (RX4, TX4, 11), (RX5, TX5, 5), (RX6, TX6, 3), (RX7, TX7, 2), (RX8, TX8, 5), (RX9, TX9, 5), (RX10, TX10, 12), (RX11, TX11, 55)]
theorem vwCl_at : ∀ ci, ci < 12 → vwCl[ci]? = some (RN ci, TT ci, NF ci) := fun ci h => match ci, h with
  | 0, _ => rfl
  | 1, _ => rfl
  | 2, _ => rfl
  | 3, _ => rfl
  | 4, _ => rfl
  | 5, _ => rfl
  | 6, _ => rfl
  | 7, _ => rfl
  | 8, _ => rfl
  | 9, _ => rfl
  | 10, _ => rfl
  | 11, _ => rfl
  | n + 12, h => absurd h (by omega)
theorem nm_all : ∀ ci, ci < 12 → ∀ a, a < NF ci → ∀ b, b < NF ci → a ≠ b → (TT ci a).2.1 ≠ (TT ci b).2.1 := fun ci h => match ci, h with
  | 0, _ => nmX0
  | 1, _ => nmX1
  | 2, _ => nmX2
  | 3, _ => nmX3
  | 4, _ => nmX4
  | 5, _ => nmX5
  | 6, _ => nmX6
  | 7, _ => nmX7
  | 8, _ => nmX8
  | 9, _ => nmX9
  | 10, _ => nmX10
  | 11, _ => nmX11
  | n + 12, h => absurd h (by omega)
theorem ty_all : ∀ ci, ci < 12 → ∀ k, k < NF ci → parseFieldDescriptor (TT ci k).2.2.1 = some (tyT ci k) := fun ci h => match ci, h with
  | 0, _ => tyX0_ok
  | 1, _ => tyX1_ok
  | 2, _ => tyX2_ok
  | 3, _ => tyX3_ok
  | 4, _ => tyX4_ok
  | 5, _ => tyX5_ok
  | 6, _ => tyX6_ok
  | 7, _ => tyX7_ok
  | 8, _ => tyX8_ok
  | 9, _ => tyX9_ok
  | 10, _ => tyX10_ok
  | 11, _ => tyX11_ok
  | n + 12, h => absurd h (by omega)
theorem mem_pos {Ls : List Cond} (ws : List Cond) (ps : List Nat) (h : ws = ps.filterMap (fun i => Ls[i]?)) : ∀ w ∈ ws, w ∈ Ls := by
  intro w hw
  rw [h] at hw
  obtain ⟨i, -, hi⟩ := List.mem_filterMap.mp hw
  exact List.mem_of_getElem? hi
theorem lay_X0 : ∀ w ∈ u_ws RX0 TX0 8, w ∈ lw_tbl := mem_pos _ [172, 174, 176, 178, 180, 182, 184, 186] (by decide +kernel)
theorem lay_X1 : ∀ w ∈ u_ws RX1 TX1 8, w ∈ lw_tbl := mem_pos _ [211, 213, 215, 217, 219, 221, 223, 225] (by decide +kernel)
theorem lay_X2 : ∀ w ∈ u_ws RX2 TX2 10, w ∈ lw_tbl := mem_pos _ [339, 341, 343, 345, 347, 349, 351, 353, 355, 357] (by decide +kernel)
theorem lay_X3 : ∀ w ∈ u_ws RX3 TX3 2, w ∈ lw_tbl := mem_pos _ [363, 365] (by decide +kernel)
theorem lay_X4 : ∀ w ∈ u_ws RX4 TX4 11, w ∈ lw_tbl := mem_pos _ [125, 127, 129, 131, 133, 135, 137, 139, 141, 143, 145] (by decide +kernel)
theorem lay_X5 : ∀ w ∈ u_ws RX5 TX5 5, w ∈ lw_tbl := mem_pos _ [239, 241, 243, 245, 247] (by decide +kernel)
theorem lay_X6 : ∀ w ∈ u_ws RX6 TX6 3, w ∈ lw_tbl := mem_pos _ [381, 383, 385] (by decide +kernel)
theorem lay_X7 : ∀ w ∈ u_ws RX7 TX7 2, w ∈ lw_tbl := mem_pos _ [284, 286] (by decide +kernel)
theorem lay_X8 : ∀ w ∈ u_ws RX8 TX8 5, w ∈ lw_tbl := mem_pos _ [307, 309, 311, 313, 315] (by decide +kernel)
theorem lay_X9 : ∀ w ∈ u_ws RX9 TX9 5, w ∈ lw_tbl := mem_pos _ [263, 265, 267, 269, 271] (by decide +kernel)
theorem lay_X10 : ∀ w ∈ u_ws RX10 TX10 12, w ∈ lw_tbl := mem_pos _ [402, 404, 406, 408, 410, 412, 414, 416, 418, 420, 422, 424] (by decide +kernel)
theorem lay_X11 : ∀ w ∈ u_ws RX11 TX11 55, w ∈ lw_tbl := mem_pos _ [1046, 1048, 1050, 1052, 1054, 1056, 1058, 1060, 1062, 1064, 1066, 1068, 1070, 1072, 1074, 1076, 1078, 1080, 1082, 1084, 1086, 1088, 1090, 1092, 1094, 1096, 1098, 1100, 1102, 1104, 1106, 1108, 1110, 1112, 1114, 1116, 1118, 1120, 1122, 1124, 1126, 1128, 1130, 1132, 1134, 1136, 1138, 1140, 1142, 1144, 1146, 1148, 1150, 1152, 1154] (by decide +kernel)
theorem lay_all : ∀ ci, ci < 12 → ∀ w ∈ u_ws (RN ci) (TT ci) (NF ci), w ∈ lw_tbl := fun ci h => match ci, h with
  | 0, _ => lay_X0
  | 1, _ => lay_X1
  | 2, _ => lay_X2
  | 3, _ => lay_X3
  | 4, _ => lay_X4
  | 5, _ => lay_X5
  | 6, _ => lay_X6
  | 7, _ => lay_X7
  | 8, _ => lay_X8
  | 9, _ => lay_X9
  | 10, _ => lay_X10
  | 11, _ => lay_X11
  | n + 12, h => absurd h (by omega)
def goodL : List Cond := lw_tbl.filter goodWord
theorem mem_good {w : Cond} (h : w ∈ lw_tbl) (hg : goodWord w = true) : w ∈ goodL := List.mem_filter.mpr ⟨h, hg⟩
theorem good_in {ws : List Cond} (h : ∀ w ∈ ws, w ∈ goodL) : GoodIn goodL ws := fun w hw => ⟨h w hw, good_of_word (List.mem_filter.mp (h w hw)).2⟩
theorem mem_at {w : Cond} (i : Nat) (h : lw_tbl[i]? = some w) (hg : goodWord w = true) : w ∈ goodL := mem_good (List.mem_of_getElem? h) hg
theorem lay_good : ∀ ci, ci < 12 → ∀ w ∈ u_ws (RN ci) (TT ci) (NF ci), w ∈ goodL := fun ci h w hw => mem_good (lay_all ci h w hw) (by
  obtain ⟨k, -, rfl⟩ := List.mem_map.mp hw
  unfold u_lay
  split <;> rfl)
end
section
/-! each method: its code as a list (place, instruction, length), checked against its bytes -/
abbrev mI : Type := Nat × Instr × Nat
abbrev mY : Type := Nat × MethodName × ByteArray × Nat × Option FieldType × List mI
def chkT (b : ByteArray) (t : List mI) : Bool := t.all (fun e => decide (decode b e.1 = .ok e.2))
def t_X0_init : List mI := [(0, .aload_n 0, 1), (1, .invokespecial 3, 3), (4, .aload_n 0, 1), (5, .iconst (-1), 1), (6, .putfield 9, 3), (9, .return_, 1)]
def Y_X0_init : mY := (0, ⟨"MastMove$Area", "<init>", "()V"⟩, prog_2_method_1_code, 1, none, t_X0_init)
set_option maxRecDepth 100000 in
theorem k_X0_init : chkT prog_2_method_1_code t_X0_init = true := by decide +kernel
def t_X0_lookAt : List mI := [(0, .aload_n 0, 1), (1, .getfield 9, 3), (4, .iload_n 1, 1), (5, .if_icmp .ne 5, 3), (8, .iconst 0, 1), (9, .ireturn, 1), (10, .aload_n 0, 1), (11, .iload_n 1, 1), (12, .putfield 9, 3), (15, .aload_n 0, 1), (16, .dup, 1), (17, .getfield 15, 3), (20, .iconst 1, 1), (21, .iadd, 1), (22, .putfield 15, 3), (25, .iconst 1, 1), (26, .ireturn, 1)]
def Y_X0_lookAt : mY := (0, ⟨"MastMove$Area", "lookAt", "(I)Z"⟩, prog_2_method_2_code, 2, some .boolean, t_X0_lookAt)
set_option maxRecDepth 100000 in
theorem k_X0_lookAt : chkT prog_2_method_2_code t_X0_lookAt = true := by decide +kernel
def t_X0_fact : List mI := [(0, .iload_n 1, 1), (1, .tableswitch 69 0 5 #[39, 44, 49, 54, 59, 64], 39), (40, .aload_n 0, 1), (41, .getfield 18, 3), (44, .ireturn, 1), (45, .aload_n 0, 1), (46, .getfield 21, 3), (49, .ireturn, 1), (50, .aload_n 0, 1), (51, .getfield 24, 3), (54, .ireturn, 1), (55, .aload_n 0, 1), (56, .getfield 27, 3), (59, .ireturn, 1), (60, .aload_n 0, 1), (61, .getfield 9, 3), (64, .ireturn, 1), (65, .aload_n 0, 1), (66, .getfield 15, 3), (69, .ireturn, 1), (70, .bipush (-2), 2), (72, .ireturn, 1)]
def Y_X0_fact : mY := (0, ⟨"MastMove$Area", "fact", "(I)I"⟩, prog_2_method_3_code, 2, some .int, t_X0_fact)
set_option maxRecDepth 100000 in
theorem k_X0_fact : chkT prog_2_method_3_code t_X0_fact = true := by decide +kernel
def t_X1_init : List mI := [(0, .aload_n 0, 1), (1, .invokespecial 3, 3), (4, .aload_n 0, 1), (5, .bipush 14, 2), (7, .anewarray 9, 3), (10, .putfield 11, 3), (13, .aload_n 0, 1), (14, .bipush 16, 2), (16, .anewarray 17, 3), (19, .putfield 19, 3), (22, .aload_n 0, 1), (23, .sipush 1000, 3), (26, .putfield 23, 3), (29, .aload_n 0, 1), (30, .bipush 10, 2), (32, .putfield 27, 3), (35, .iconst 0, 1), (36, .istore_n 1, 1), (37, .iload_n 1, 1), (38, .bipush 14, 2), (40, .if_icmp .ge 22, 3), (43, .aload_n 0, 1), (44, .getfield 11, 3), (47, .iload_n 1, 1), (48, .new 9, 3), (51, .dup, 1), (52, .invokespecial 30, 3), (55, .aastore, 1), (56, .iinc 1 1, 3), (59, .goto (-22), 3), (62, .iconst 0, 1), (63, .istore_n 1, 1), (64, .iload_n 1, 1), (65, .bipush 16, 2), (67, .if_icmp .ge 22, 3), (70, .aload_n 0, 1), (71, .getfield 19, 3), (74, .iload_n 1, 1), (75, .new 17, 3), (78, .dup, 1), (79, .invokespecial 31, 3), (82, .aastore, 1), (83, .iinc 1 1, 3), (86, .goto (-22), 3), (89, .return_, 1)]
def Y_X1_init : mY := (1, ⟨"MastMove$Land", "<init>", "()V"⟩, prog_3_method_1_code, 2, none, t_X1_init)
set_option maxRecDepth 100000 in
theorem k_X1_init : chkT prog_3_method_1_code t_X1_init = true := by decide +kernel
def t_X1_isMast : List mI := [(0, .iload_n 1, 1), (1, .ifCond .lt 15, 3), (4, .iload_n 1, 1), (5, .aload_n 0, 1), (6, .getfield 32, 3), (9, .if_icmp .ge 7, 3), (12, .iconst 1, 1), (13, .goto 4, 3), (16, .iconst 0, 1), (17, .ireturn, 1)]
def Y_X1_isMast : mY := (1, ⟨"MastMove$Land", "isMast", "(I)Z"⟩, prog_3_method_2_code, 2, some .boolean, t_X1_isMast)
set_option maxRecDepth 100000 in
theorem k_X1_isMast : chkT prog_3_method_2_code t_X1_isMast = true := by decide +kernel
def t_X1_isSender : List mI := [(0, .aload_n 0, 1), (1, .iload_n 1, 1), (2, .invokevirtual 35, 3), (5, .ifCond .ne 20, 3), (8, .iload_n 1, 1), (9, .bipush 10, 2), (11, .if_icmp .lt 18, 3), (14, .iload_n 1, 1), (15, .bipush 10, 2), (17, .isub, 1), (18, .aload_n 0, 1), (19, .getfield 39, 3), (22, .if_icmp .ge 7, 3), (25, .iconst 1, 1), (26, .goto 4, 3), (29, .iconst 0, 1), (30, .ireturn, 1)]
def Y_X1_isSender : mY := (1, ⟨"MastMove$Land", "isSender", "(I)Z"⟩, prog_3_method_3_code, 2, some .boolean, t_X1_isSender)
set_option maxRecDepth 100000 in
theorem k_X1_isSender : chkT prog_3_method_3_code t_X1_isSender = true := by decide +kernel
def t_X1_isArea : List mI := [(0, .iload_n 1, 1), (1, .ifCond .lt 15, 3), (4, .iload_n 1, 1), (5, .aload_n 0, 1), (6, .getfield 42, 3), (9, .if_icmp .ge 7, 3), (12, .iconst 1, 1), (13, .goto 4, 3), (16, .iconst 0, 1), (17, .ireturn, 1)]
def Y_X1_isArea : mY := (1, ⟨"MastMove$Land", "isArea", "(I)Z"⟩, prog_3_method_4_code, 2, some .boolean, t_X1_isArea)
set_option maxRecDepth 100000 in
theorem k_X1_isArea : chkT prog_3_method_4_code t_X1_isArea = true := by decide +kernel
def t_X1_isOn : List mI := [(0, .iload_n 1, 1), (1, .istore_n 2, 1), (2, .iconst 0, 1), (3, .istore_n 3, 1), (4, .iload_n 3, 1), (5, .bipush 10, 2), (7, .if_icmp .ge 41, 3), (10, .aload_n 0, 1), (11, .iload_n 2, 1), (12, .invokevirtual 35, 3), (15, .ifCond .eq 33, 3), (18, .aload_n 0, 1), (19, .getfield 11, 3), (22, .iload_n 2, 1), (23, .aaload, 1), (24, .getfield 45, 3), (27, .ifCond .eq 5, 3), (30, .iconst 0, 1), (31, .ireturn, 1), (32, .aload_n 0, 1), (33, .getfield 11, 3), (36, .iload_n 2, 1), (37, .aaload, 1), (38, .getfield 49, 3), (41, .istore_n 2, 1), (42, .iinc 3 1, 3), (45, .goto (-41), 3), (48, .iconst 1, 1), (49, .ireturn, 1)]
def Y_X1_isOn : mY := (1, ⟨"MastMove$Land", "isOn", "(I)Z"⟩, prog_3_method_5_code, 4, some .boolean, t_X1_isOn)
set_option maxRecDepth 100000 in
theorem k_X1_isOn : chkT prog_3_method_5_code t_X1_isOn = true := by decide +kernel
def t_X1_isSending : List mI := [(0, .iload_n 1, 1), (1, .bipush 10, 2), (3, .if_icmp .ge 11, 3), (6, .aload_n 0, 1), (7, .iload_n 1, 1), (8, .invokevirtual 52, 3), (11, .goto 24, 3), (14, .aload_n 0, 1), (15, .getfield 55, 3), (18, .aload_n 0, 1), (19, .getfield 11, 3), (22, .iload_n 1, 1), (23, .aaload, 1), (24, .getfield 58, 3), (27, .if_icmp .ge 7, 3), (30, .iconst 1, 1), (31, .goto 4, 3), (34, .iconst 0, 1), (35, .ireturn, 1)]
def Y_X1_isSending : mY := (1, ⟨"MastMove$Land", "isSending", "(I)Z"⟩, prog_3_method_6_code, 2, some .boolean, t_X1_isSending)
set_option maxRecDepth 100000 in
theorem k_X1_isSending : chkT prog_3_method_6_code t_X1_isSending = true := by decide +kernel
def t_X1_strongestAt : List mI := [(0, .iconst (-1), 1), (1, .istore_n 2, 1), (2, .iconst (-1), 1), (3, .istore_n 3, 1), (4, .iconst 0, 1), (5, .istore 4, 2), (7, .iload 4, 2), (9, .aload_n 0, 1), (10, .getfield 32, 3), (13, .if_icmp .ge 34, 3), (16, .aload_n 0, 1), (17, .getfield 11, 3), (20, .iload 4, 2), (22, .aaload, 1), (23, .aload_n 1, 1), (24, .invokevirtual 61, 3), (27, .istore 5, 2), (29, .iload 5, 2), (31, .iload_n 3, 1), (32, .if_icmp .le 9, 3), (35, .iload 4, 2), (37, .istore_n 2, 1), (38, .iload 5, 2), (40, .istore_n 3, 1), (41, .iinc 4 1, 3), (44, .goto (-37), 3), (47, .iload_n 2, 1), (48, .ireturn, 1)]
def Y_X1_strongestAt : mY := (1, ⟨"MastMove$Land", "strongestAt", "(LMastMove$Area;)I"⟩, prog_3_method_7_code, 6, some .int, t_X1_strongestAt)
set_option maxRecDepth 100000 in
theorem k_X1_strongestAt : chkT prog_3_method_7_code t_X1_strongestAt = true := by decide +kernel
def t_X1_couldHurt : List mI := [(0, .aload_n 0, 1), (1, .iload_n 1, 1), (2, .invokevirtual 65, 3), (5, .ifCond .eq 22, 3), (8, .aload_n 0, 1), (9, .aload_n 2, 1), (10, .getfield 68, 3), (13, .invokevirtual 35, 3), (16, .ifCond .eq 11, 3), (19, .iload_n 1, 1), (20, .aload_n 2, 1), (21, .getfield 68, 3), (24, .if_icmp .ne 5, 3), (27, .iconst 0, 1), (28, .ireturn, 1), (29, .aload_n 0, 1), (30, .getfield 27, 3), (33, .aload_n 0, 1), (34, .getfield 11, 3), (37, .iload_n 1, 1), (38, .aaload, 1), (39, .aload_n 2, 1), (40, .invokevirtual 61, 3), (43, .imul, 1), (44, .aload_n 0, 1), (45, .getfield 11, 3), (48, .aload_n 2, 1), (49, .getfield 68, 3), (52, .aaload, 1), (53, .aload_n 2, 1), (54, .invokevirtual 61, 3), (57, .if_icmp .le 7, 3), (60, .iconst 1, 1), (61, .goto 4, 3), (64, .iconst 0, 1), (65, .ireturn, 1)]
def Y_X1_couldHurt : mY := (1, ⟨"MastMove$Land", "couldHurt", "(ILMastMove$Area;)Z"⟩, prog_3_method_8_code, 3, some .boolean, t_X1_couldHurt)
set_option maxRecDepth 100000 in
theorem k_X1_couldHurt : chkT prog_3_method_8_code t_X1_couldHurt = true := by decide +kernel
def t_X1_hurterOf : List mI := [(0, .aload_n 0, 1), (1, .aload_n 1, 1), (2, .getfield 68, 3), (5, .invokevirtual 35, 3), (8, .ifCond .ne 5, 3), (11, .iconst (-1), 1), (12, .ireturn, 1), (13, .aload_n 0, 1), (14, .getfield 11, 3), (17, .aload_n 1, 1), (18, .getfield 68, 3), (21, .aaload, 1), (22, .invokevirtual 71, 3), (25, .istore_n 2, 1), (26, .iconst 0, 1), (27, .istore_n 3, 1), (28, .iload_n 3, 1), (29, .bipush 14, 2), (31, .if_icmp .ge 41, 3), (34, .aload_n 0, 1), (35, .iload_n 3, 1), (36, .aload_n 1, 1), (37, .invokevirtual 75, 3), (40, .ifCond .eq 26, 3), (43, .aload_n 0, 1), (44, .getfield 11, 3), (47, .iload_n 3, 1), (48, .aaload, 1), (49, .invokevirtual 71, 3), (52, .iload_n 2, 1), (53, .if_icmp .ne 13, 3), (56, .aload_n 0, 1), (57, .iload_n 3, 1), (58, .invokevirtual 79, 3), (61, .ifCond .eq 5, 3), (64, .iload_n 3, 1), (65, .ireturn, 1), (66, .iinc 3 1, 3), (69, .goto (-41), 3), (72, .iconst (-1), 1), (73, .ireturn, 1)]
def Y_X1_hurterOf : mY := (1, ⟨"MastMove$Land", "hurterOf", "(LMastMove$Area;)I"⟩, prog_3_method_9_code, 4, some .int, t_X1_hurterOf)
set_option maxRecDepth 100000 in
theorem k_X1_hurterOf : chkT prog_3_method_9_code t_X1_hurterOf = true := by decide +kernel
def t_X1_pictureOf : List mI := [(0, .aload_n 0, 1), (1, .aload_n 1, 1), (2, .getfield 68, 3), (5, .invokevirtual 35, 3), (8, .ifCond .eq 23, 3), (11, .aload_n 0, 1), (12, .getfield 11, 3), (15, .aload_n 1, 1), (16, .getfield 68, 3), (19, .aaload, 1), (20, .aload_n 1, 1), (21, .invokevirtual 61, 3), (24, .aload_n 0, 1), (25, .getfield 23, 3), (28, .if_icmp .ge 5, 3), (31, .iconst 1, 1), (32, .ireturn, 1), (33, .aload_n 0, 1), (34, .aload_n 1, 1), (35, .getfield 68, 3), (38, .invokevirtual 52, 3), (41, .ifCond .ne 5, 3), (44, .iconst 2, 1), (45, .ireturn, 1), (46, .aload_n 0, 1), (47, .aload_n 1, 1), (48, .invokevirtual 82, 3), (51, .iconst (-1), 1), (52, .if_icmp .eq 5, 3), (55, .iconst 3, 1), (56, .ireturn, 1), (57, .aload_n 0, 1), (58, .getfield 11, 3), (61, .aload_n 1, 1), (62, .getfield 68, 3), (65, .aaload, 1), (66, .getfield 85, 3), (69, .ifCond .eq 18, 3), (72, .aload_n 1, 1), (73, .getfield 88, 3), (76, .aload_n 1, 1), (77, .getfield 91, 3), (80, .if_icmp .ge 7, 3), (83, .iconst 4, 1), (84, .goto 4, 3), (87, .iconst 0, 1), (88, .ireturn, 1)]
def Y_X1_pictureOf : mY := (1, ⟨"MastMove$Land", "pictureOf", "(LMastMove$Area;)I"⟩, prog_3_method_10_code, 2, some .int, t_X1_pictureOf)
set_option maxRecDepth 100000 in
theorem k_X1_pictureOf : chkT prog_3_method_10_code t_X1_pictureOf = true := by decide +kernel
def t_X1_snowOf : List mI := [(0, .aload_n 0, 1), (1, .aload_n 1, 1), (2, .invokevirtual 94, 3), (5, .istore_n 2, 1), (6, .iload_n 2, 1), (7, .ifCond .ne 5, 3), (10, .iconst 0, 1), (11, .ireturn, 1), (12, .iload_n 2, 1), (13, .iconst 4, 1), (14, .if_icmp .ne 15, 3), (17, .aload_n 1, 1), (18, .getfield 91, 3), (21, .aload_n 1, 1), (22, .getfield 88, 3), (25, .isub, 1), (26, .goto 7, 3), (29, .aload_n 1, 1), (30, .getfield 91, 3), (33, .ireturn, 1)]
def Y_X1_snowOf : mY := (1, ⟨"MastMove$Land", "snowOf", "(LMastMove$Area;)I"⟩, prog_3_method_11_code, 3, some .int, t_X1_snowOf)
set_option maxRecDepth 100000 in
theorem k_X1_snowOf : chkT prog_3_method_11_code t_X1_snowOf = true := by decide +kernel
def t_X1_snowInAll : List mI := [(0, .iconst 0, 1), (1, .istore_n 1, 1), (2, .iconst 0, 1), (3, .istore_n 2, 1), (4, .iload_n 2, 1), (5, .aload_n 0, 1), (6, .getfield 42, 3), (9, .if_icmp .ge 22, 3), (12, .iload_n 1, 1), (13, .aload_n 0, 1), (14, .aload_n 0, 1), (15, .getfield 19, 3), (18, .iload_n 2, 1), (19, .aaload, 1), (20, .invokevirtual 97, 3), (23, .iadd, 1), (24, .istore_n 1, 1), (25, .iinc 2 1, 3), (28, .goto (-24), 3), (31, .iload_n 1, 1), (32, .ireturn, 1)]
def Y_X1_snowInAll : mY := (1, ⟨"MastMove$Land", "snowInAll", "()I"⟩, prog_3_method_12_code, 3, some .int, t_X1_snowInAll)
set_option maxRecDepth 100000 in
theorem k_X1_snowInAll : chkT prog_3_method_12_code t_X1_snowInAll = true := by decide +kernel
def t_X2_init : List mI := [(0, .aload_n 0, 1), (1, .invokespecial 3, 3), (4, .aload_n 0, 1), (5, .sipush 300, 3), (8, .newarray .int, 2), (10, .putfield 9, 3), (13, .aload_n 0, 1), (14, .bipush 10, 2), (16, .newarray .int, 2), (18, .putfield 15, 3), (21, .aload_n 0, 1), (22, .bipush 10, 2), (24, .newarray .int, 2), (26, .putfield 18, 3), (29, .aload_n 0, 1), (30, .bipush 10, 2), (32, .newarray .int, 2), (34, .putfield 21, 3), (37, .aload_n 0, 1), (38, .bipush 20, 2), (40, .newarray .long, 2), (42, .putfield 24, 3), (45, .aload_n 0, 1), (46, .ldc 28, 2), (48, .putfield 29, 3), (51, .return_, 1)]
def Y_X2_init : mY := (2, ⟨"MastMove$Law", "<init>", "()V"⟩, prog_4_method_1_code, 1, none, t_X2_init)
set_option maxRecDepth 100000 in
theorem k_X2_init : chkT prog_4_method_1_code t_X2_init = true := by decide +kernel
def t_X2_clear : List mI := [(0, .aload_n 0, 1), (1, .iconst 0, 1), (2, .putfield 33, 3), (5, .aload_n 0, 1), (6, .iconst 0, 1), (7, .putfield 36, 3), (10, .aload_n 0, 1), (11, .iconst 0, 1), (12, .putfield 39, 3), (15, .aload_n 0, 1), (16, .ldc 28, 2), (18, .putfield 29, 3), (21, .return_, 1)]
def Y_X2_clear : mY := (2, ⟨"MastMove$Law", "clear", "()V"⟩, prog_4_method_2_code, 1, none, t_X2_clear)
set_option maxRecDepth 100000 in
theorem k_X2_clear : chkT prog_4_method_2_code t_X2_clear = true := by decide +kernel
def t_X2_add : List mI := [(0, .aload_n 0, 1), (1, .getfield 33, 3), (4, .aload_n 0, 1), (5, .getfield 9, 3), (8, .arraylength, 1), (9, .if_icmp .ge 23, 3), (12, .aload_n 0, 1), (13, .getfield 9, 3), (16, .aload_n 0, 1), (17, .getfield 33, 3), (20, .iload_n 1, 1), (21, .iastore, 1), (22, .aload_n 0, 1), (23, .dup, 1), (24, .getfield 33, 3), (27, .iconst 1, 1), (28, .iadd, 1), (29, .putfield 33, 3), (32, .return_, 1)]
def Y_X2_add : mY := (2, ⟨"MastMove$Law", "add", "(I)V"⟩, prog_4_method_3_code, 2, none, t_X2_add)
set_option maxRecDepth 100000 in
theorem k_X2_add : chkT prog_4_method_3_code t_X2_add = true := by decide +kernel
def t_X2_beginSum : List mI := [(0, .aload_n 0, 1), (1, .getfield 36, 3), (4, .bipush 10, 2), (6, .if_icmp .ge 16, 3), (9, .aload_n 0, 1), (10, .getfield 15, 3), (13, .aload_n 0, 1), (14, .getfield 36, 3), (17, .aload_n 0, 1), (18, .getfield 33, 3), (21, .iastore, 1), (22, .return_, 1)]
def Y_X2_beginSum : mY := (2, ⟨"MastMove$Law", "beginSum", "()V"⟩, prog_4_method_4_code, 1, none, t_X2_beginSum)
set_option maxRecDepth 100000 in
theorem k_X2_beginSum : chkT prog_4_method_4_code t_X2_beginSum = true := by decide +kernel
def t_X2_endSum : List mI := [(0, .aload_n 0, 1), (1, .getfield 36, 3), (4, .bipush 10, 2), (6, .if_icmp .ge 16, 3), (9, .aload_n 0, 1), (10, .getfield 18, 3), (13, .aload_n 0, 1), (14, .getfield 36, 3), (17, .aload_n 0, 1), (18, .getfield 33, 3), (21, .iastore, 1), (22, .return_, 1)]
def Y_X2_endSum : mY := (2, ⟨"MastMove$Law", "endSum", "()V"⟩, prog_4_method_5_code, 1, none, t_X2_endSum)
set_option maxRecDepth 100000 in
theorem k_X2_endSum : chkT prog_4_method_5_code t_X2_endSum = true := by decide +kernel
def t_X2_endGive : List mI := [(0, .aload_n 0, 1), (1, .getfield 36, 3), (4, .bipush 10, 2), (6, .if_icmp .ge 26, 3), (9, .aload_n 0, 1), (10, .getfield 21, 3), (13, .aload_n 0, 1), (14, .getfield 36, 3), (17, .aload_n 0, 1), (18, .getfield 33, 3), (21, .iastore, 1), (22, .aload_n 0, 1), (23, .dup, 1), (24, .getfield 36, 3), (27, .iconst 1, 1), (28, .iadd, 1), (29, .putfield 36, 3), (32, .return_, 1)]
def Y_X2_endGive : mY := (2, ⟨"MastMove$Law", "endGive", "()V"⟩, prog_4_method_6_code, 1, none, t_X2_endGive)
set_option maxRecDepth 100000 in
theorem k_X2_endGive : chkT prog_4_method_6_code t_X2_endGive = true := by decide +kernel
def t_X2_gift : List mI := [(0, .iconst 0, 1), (1, .istore_n 2, 1), (2, .iload_n 2, 1), (3, .aload_n 0, 1), (4, .getfield 36, 3), (7, .if_icmp .ge 52, 3), (10, .aload_n 0, 1), (11, .aload_n 0, 1), (12, .getfield 18, 3), (15, .iload_n 2, 1), (16, .iaload, 1), (17, .aload_n 0, 1), (18, .getfield 21, 3), (21, .iload_n 2, 1), (22, .iaload, 1), (23, .aload_n 1, 1), (24, .invokevirtual 42, 3), (27, .ifCond .eq 26, 3), (30, .aload_n 0, 1), (31, .aload_n 0, 1), (32, .getfield 15, 3), (35, .iload_n 2, 1), (36, .iaload, 1), (37, .aload_n 0, 1), (38, .getfield 18, 3), (41, .iload_n 2, 1), (42, .iaload, 1), (43, .aload_n 1, 1), (44, .invokevirtual 42, 3), (47, .pop, 1), (48, .aload_n 0, 1), (49, .invokevirtual 46, 3), (52, .lreturn, 1), (53, .iinc 2 1, 3), (56, .goto (-54), 3), (59, .lconst 0, 1), (60, .lreturn, 1)]
def Y_X2_gift : mY := (2, ⟨"MastMove$Law", "gift", "([I)J"⟩, prog_4_method_7_code, 3, some .long, t_X2_gift)
set_option maxRecDepth 100000 in
theorem k_X2_gift : chkT prog_4_method_7_code t_X2_gift = true := by decide +kernel
def t_X2_holds : List mI := [(0, .aload_n 0, 1), (1, .iconst 0, 1), (2, .putfield 50, 3), (5, .iload_n 1, 1), (6, .istore 4, 2), (8, .iload 4, 2), (10, .iload_n 2, 1), (11, .if_icmp .ge 104, 3), (14, .aload_n 0, 1), (15, .getfield 9, 3), (18, .iload 4, 2), (20, .iaload, 1), (21, .istore 5, 2), (23, .iload 5, 2), (25, .ifCond .lt 13, 3), (28, .aload_n 0, 1), (29, .iload 5, 2), (31, .i2l, 1), (32, .invokevirtual 53, 3), (35, .goto 74, 3), (38, .iload 5, 2), (40, .bipush (-6), 2), (42, .if_icmp .lt 17, 3), (45, .aload_n 0, 1), (46, .aload_n 3, 1), (47, .iconst (-1), 1), (48, .iload 5, 2), (50, .isub, 1), (51, .iaload, 1), (52, .i2l, 1), (53, .invokevirtual 53, 3), (56, .goto 53, 3), (59, .aload_n 0, 1), (60, .invokevirtual 46, 3), (63, .lstore 6, 2), (65, .aload_n 0, 1), (66, .invokevirtual 46, 3), (69, .lstore 8, 2), (71, .iload 5, 2), (73, .invokestatic 57, 3), (76, .ifCond .ne 19, 3), (79, .aload_n 0, 1), (80, .iload 5, 2), (82, .lload 8, 2), (84, .lload 6, 2), (86, .invokestatic 61, 3), (89, .invokevirtual 53, 3), (92, .goto 17, 3), (95, .iload 5, 2), (97, .lload 8, 2), (99, .lload 6, 2), (101, .invokestatic 65, 3), (104, .ifCond .ne 5, 3), (107, .iconst 0, 1), (108, .ireturn, 1), (109, .iinc 4 1, 3), (112, .goto (-104), 3), (115, .iconst 1, 1), (116, .ireturn, 1)]
def Y_X2_holds : mY := (2, ⟨"MastMove$Law", "holds", "(II[I)Z"⟩, prog_4_method_8_code, 10, some .boolean, t_X2_holds)
set_option maxRecDepth 100000 in
theorem k_X2_holds : chkT prog_4_method_8_code t_X2_holds = true := by decide +kernel
def t_X2_push : List mI := [(0, .aload_n 0, 1), (1, .getfield 50, 3), (4, .aload_n 0, 1), (5, .getfield 24, 3), (8, .arraylength, 1), (9, .if_icmp .ge 23, 3), (12, .aload_n 0, 1), (13, .getfield 24, 3), (16, .aload_n 0, 1), (17, .getfield 50, 3), (20, .lload_n 1, 1), (21, .lastore, 1), (22, .aload_n 0, 1), (23, .dup, 1), (24, .getfield 50, 3), (27, .iconst 1, 1), (28, .iadd, 1), (29, .putfield 50, 3), (32, .return_, 1)]
def Y_X2_push : mY := (2, ⟨"MastMove$Law", "push", "(J)V"⟩, prog_4_method_9_code, 3, none, t_X2_push)
set_option maxRecDepth 100000 in
theorem k_X2_push : chkT prog_4_method_9_code t_X2_push = true := by decide +kernel
def t_X2_pop : List mI := [(0, .aload_n 0, 1), (1, .getfield 50, 3), (4, .ifCond .ne 5, 3), (7, .lconst 0, 1), (8, .lreturn, 1), (9, .aload_n 0, 1), (10, .dup, 1), (11, .getfield 50, 3), (14, .iconst 1, 1), (15, .isub, 1), (16, .putfield 50, 3), (19, .aload_n 0, 1), (20, .getfield 24, 3), (23, .aload_n 0, 1), (24, .getfield 50, 3), (27, .laload, 1), (28, .lreturn, 1)]
def Y_X2_pop : mY := (2, ⟨"MastMove$Law", "pop", "()J"⟩, prog_4_method_10_code, 1, some .long, t_X2_pop)
set_option maxRecDepth 100000 in
theorem k_X2_pop : chkT prog_4_method_10_code t_X2_pop = true := by decide +kernel
def t_X2_isComparison : List mI := [(0, .iload_n 0, 1), (1, .bipush (-60), 2), (3, .if_icmp .eq 15, 3), (6, .iload_n 0, 1), (7, .bipush (-62), 2), (9, .if_icmp .eq 9, 3), (12, .iload_n 0, 1), (13, .bipush (-61), 2), (15, .if_icmp .ne 7, 3), (18, .iconst 1, 1), (19, .goto 4, 3), (22, .iconst 0, 1), (23, .ireturn, 1)]
def Y_X2_isComparison : mY := (2, ⟨"MastMove$Law", "isComparison", "(I)Z"⟩, prog_4_method_11_code, 1, some .boolean, t_X2_isComparison)
set_option maxRecDepth 100000 in
theorem k_X2_isComparison : chkT prog_4_method_11_code t_X2_isComparison = true := by decide +kernel
def t_X2_compares : List mI := [(0, .iload_n 0, 1), (1, .bipush (-60), 2), (3, .if_icmp .ne 15, 3), (6, .lload_n 1, 1), (7, .lload_n 3, 1), (8, .lcmp, 1), (9, .ifCond .ge 7, 3), (12, .iconst 1, 1), (13, .goto 4, 3), (16, .iconst 0, 1), (17, .ireturn, 1), (18, .iload_n 0, 1), (19, .bipush (-62), 2), (21, .if_icmp .ne 17, 3), (24, .lload_n 1, 1), (25, .lload_n 3, 1), (26, .lcmp, 1), (27, .ifCond .le 7, 3), (30, .iconst 1, 1), (31, .goto 18, 3), (34, .iconst 0, 1), (35, .goto 14, 3), (38, .lload_n 1, 1), (39, .lload_n 3, 1), (40, .lcmp, 1), (41, .ifCond .ne 7, 3), (44, .iconst 1, 1), (45, .goto 4, 3), (48, .iconst 0, 1), (49, .ireturn, 1)]
def Y_X2_compares : mY := (2, ⟨"MastMove$Law", "compares", "(IJJ)Z"⟩, prog_4_method_12_code, 5, some .boolean, t_X2_compares)
set_option maxRecDepth 100000 in
theorem k_X2_compares : chkT prog_4_method_12_code t_X2_compares = true := by decide +kernel
def t_X2_combined : List mI := [(0, .iload_n 0, 1), (1, .tableswitch 43 (-45) (-42) #[35, 43, 31, 39], 31), (32, .lload_n 1, 1), (33, .lload_n 3, 1), (34, .ladd, 1), (35, .lreturn, 1), (36, .lload_n 1, 1), (37, .lload_n 3, 1), (38, .lsub, 1), (39, .lreturn, 1), (40, .lload_n 1, 1), (41, .lload_n 3, 1), (42, .lmul, 1), (43, .lreturn, 1), (44, .lload_n 1, 1), (45, .lload_n 3, 1), (46, .invokestatic 69, 3), (49, .lreturn, 1)]
def Y_X2_combined : mY := (2, ⟨"MastMove$Law", "combined", "(IJJ)J"⟩, prog_4_method_13_code, 5, some .long, t_X2_combined)
set_option maxRecDepth 100000 in
theorem k_X2_combined : chkT prog_4_method_13_code t_X2_combined = true := by decide +kernel
def t_X2_quotient : List mI := [(0, .lload_n 2, 1), (1, .lconst 0, 1), (2, .lcmp, 1), (3, .ifCond .ne 5, 3), (6, .lconst 0, 1), (7, .lreturn, 1), (8, .lload_n 2, 1), (9, .ldc2_w 73, 3), (12, .lcmp, 1), (13, .ifCond .ne 8, 3), (16, .lload_n 0, 1), (17, .lneg, 1), (18, .goto 6, 3), (21, .lload_n 0, 1), (22, .lload_n 2, 1), (23, .ldiv, 1), (24, .lreturn, 1)]
def Y_X2_quotient : mY := (2, ⟨"MastMove$Law", "quotient", "(JJ)J"⟩, prog_4_method_14_code, 4, some .long, t_X2_quotient)
set_option maxRecDepth 100000 in
theorem k_X2_quotient : chkT prog_4_method_14_code t_X2_quotient = true := by decide +kernel
def t_X3_init : List mI := [(0, .aload_n 0, 1), (1, .invokespecial 3, 3), (4, .aload_n 0, 1), (5, .new 9, 3), (8, .dup, 1), (9, .invokespecial 11, 3), (12, .putfield 12, 3), (15, .aload_n 0, 1), (16, .new 18, 3), (19, .dup, 1), (20, .invokespecial 20, 3), (23, .putfield 21, 3), (26, .return_, 1)]
def Y_X3_init : mY := (3, ⟨"MastMove$LawReader", "<init>", "()V"⟩, prog_5_method_1_code, 1, none, t_X3_init)
set_option maxRecDepth 100000 in
theorem k_X3_init : chkT prog_5_method_1_code t_X3_init = true := by decide +kernel
def t_X3_faultOf : List mI := [(0, .aload_n 0, 1), (1, .getfield 12, 3), (4, .aload_n 1, 1), (5, .invokevirtual 25, 3), (8, .aload_n 0, 1), (9, .getfield 21, 3), (12, .invokevirtual 29, 3), (15, .aload_n 0, 1), (16, .getfield 12, 3), (19, .invokevirtual 32, 3), (22, .bipush (-100), 2), (24, .if_icmp .ne 5, 3), (27, .iconst (-1), 1), (28, .ireturn, 1), (29, .iconst 0, 1), (30, .istore_n 2, 1), (31, .iload_n 2, 1), (32, .bipush 10, 2), (34, .if_icmp .ge 90, 3), (37, .aload_n 0, 1), (38, .getfield 12, 3), (41, .invokevirtual 32, 3), (44, .bipush (-102), 2), (46, .if_icmp .ne 13, 3), (49, .aload_n 0, 1), (50, .invokevirtual 36, 3), (53, .ifCond .ne 16, 3), (56, .goto 68, 3), (59, .aload_n 0, 1), (60, .invokevirtual 40, 3), (63, .ifCond .ne 6, 3), (66, .goto 58, 3), (69, .aload_n 0, 1), (70, .getfield 21, 3), (73, .dup, 1), (74, .getfield 43, 3), (77, .iconst 1, 1), (78, .iadd, 1), (79, .putfield 43, 3), (82, .aload_n 0, 1), (83, .getfield 12, 3), (86, .invokevirtual 32, 3), (89, .bipush (-100), 2), (91, .if_icmp .ne 5, 3), (94, .iconst (-1), 1), (95, .ireturn, 1), (96, .aload_n 0, 1), (97, .getfield 12, 3), (100, .invokevirtual 32, 3), (103, .bipush (-59), 2), (105, .if_icmp .eq 6, 3), (108, .goto 16, 3), (111, .aload_n 0, 1), (112, .getfield 12, 3), (115, .invokevirtual 47, 3), (118, .iinc 2 1, 3), (121, .goto (-90), 3), (124, .aload_n 0, 1), (125, .getfield 12, 3), (128, .invokevirtual 50, 3), (131, .ireturn, 1)]
def Y_X3_faultOf : mY := (3, ⟨"MastMove$LawReader", "faultOf", "(LMastMove$Tape;)I"⟩, prog_5_method_2_code, 3, some .int, t_X3_faultOf)
set_option maxRecDepth 100000 in
theorem k_X3_faultOf : chkT prog_5_method_2_code t_X3_faultOf = true := by decide +kernel
def t_X3_exchange : List mI := [(0, .aload_n 0, 1), (1, .getfield 21, 3), (4, .astore_n 2, 1), (5, .aload_n 0, 1), (6, .aload_n 1, 1), (7, .putfield 21, 3), (10, .aload_n 2, 1), (11, .areturn, 1)]
def Y_X3_exchange : mY := (3, ⟨"MastMove$LawReader", "exchange", "(LMastMove$Law;)LMastMove$Law;"⟩, prog_5_method_3_code, 3, some (.object "MastMove$Law"), t_X3_exchange)
set_option maxRecDepth 100000 in
theorem k_X3_exchange : chkT prog_5_method_3_code t_X3_exchange = true := by decide +kernel
def t_X3_readCap : List mI := [(0, .aload_n 0, 1), (1, .getfield 12, 3), (4, .invokevirtual 32, 3), (7, .bipush (-103), 2), (9, .if_icmp .eq 5, 3), (12, .iconst 0, 1), (13, .ireturn, 1), (14, .aload_n 0, 1), (15, .getfield 12, 3), (18, .invokevirtual 47, 3), (21, .aload_n 0, 1), (22, .getfield 12, 3), (25, .invokevirtual 32, 3), (28, .ifCond .ge 5, 3), (31, .iconst 0, 1), (32, .ireturn, 1), (33, .aload_n 0, 1), (34, .getfield 21, 3), (37, .aload_n 0, 1), (38, .getfield 21, 3), (41, .getfield 53, 3), (44, .aload_n 0, 1), (45, .getfield 12, 3), (48, .invokevirtual 32, 3), (51, .invokestatic 56, 3), (54, .putfield 53, 3), (57, .aload_n 0, 1), (58, .getfield 12, 3), (61, .invokevirtual 47, 3), (64, .iconst 1, 1), (65, .ireturn, 1)]
def Y_X3_readCap : mY := (3, ⟨"MastMove$LawReader", "readCap", "()Z"⟩, prog_5_method_4_code, 1, some .boolean, t_X3_readCap)
set_option maxRecDepth 100000 in
theorem k_X3_readCap : chkT prog_5_method_4_code t_X3_readCap = true := by decide +kernel
def t_X3_readGive : List mI := [(0, .aload_n 0, 1), (1, .getfield 12, 3), (4, .invokevirtual 47, 3), (7, .aload_n 0, 1), (8, .getfield 21, 3), (11, .invokevirtual 62, 3), (14, .aload_n 0, 1), (15, .iconst 0, 1), (16, .invokevirtual 65, 3), (19, .ifCond .ne 5, 3), (22, .iconst 0, 1), (23, .ireturn, 1), (24, .aload_n 0, 1), (25, .getfield 21, 3), (28, .invokevirtual 69, 3), (31, .aload_n 0, 1), (32, .getfield 12, 3), (35, .invokevirtual 32, 3), (38, .bipush (-104), 2), (40, .if_icmp .ne 12, 3), (43, .aload_n 0, 1), (44, .invokevirtual 72, 3), (47, .ifCond .ne 5, 3), (50, .iconst 0, 1), (51, .ireturn, 1), (52, .aload_n 0, 1), (53, .getfield 21, 3), (56, .invokevirtual 75, 3), (59, .iconst 1, 1), (60, .ireturn, 1)]
def Y_X3_readGive : mY := (3, ⟨"MastMove$LawReader", "readGive", "()Z"⟩, prog_5_method_5_code, 1, some .boolean, t_X3_readGive)
set_option maxRecDepth 100000 in
theorem k_X3_readGive : chkT prog_5_method_5_code t_X3_readGive = true := by decide +kernel
def t_X3_readConds : List mI := [(0, .iconst 0, 1), (1, .istore_n 1, 1), (2, .iload_n 1, 1), (3, .sipush 300, 3), (6, .if_icmp .ge 86, 3), (9, .aload_n 0, 1), (10, .getfield 12, 3), (13, .invokevirtual 47, 3), (16, .aload_n 0, 1), (17, .iconst 0, 1), (18, .invokevirtual 65, 3), (21, .ifCond .eq 16, 3), (24, .aload_n 0, 1), (25, .getfield 12, 3), (28, .invokevirtual 32, 3), (31, .invokestatic 78, 3), (34, .ifCond .ne 5, 3), (37, .iconst 0, 1), (38, .ireturn, 1), (39, .aload_n 0, 1), (40, .getfield 12, 3), (43, .invokevirtual 32, 3), (46, .istore_n 2, 1), (47, .aload_n 0, 1), (48, .getfield 12, 3), (51, .invokevirtual 47, 3), (54, .aload_n 0, 1), (55, .iconst 0, 1), (56, .invokevirtual 65, 3), (59, .ifCond .ne 5, 3), (62, .iconst 0, 1), (63, .ireturn, 1), (64, .aload_n 0, 1), (65, .getfield 21, 3), (68, .iload_n 2, 1), (69, .invokevirtual 81, 3), (72, .aload_n 0, 1), (73, .getfield 12, 3), (76, .invokevirtual 32, 3), (79, .bipush (-105), 2), (81, .if_icmp .eq 5, 3), (84, .iconst 1, 1), (85, .ireturn, 1), (86, .iinc 1 1, 3), (89, .goto (-87), 3), (92, .iconst 0, 1), (93, .ireturn, 1)]
def Y_X3_readConds : mY := (3, ⟨"MastMove$LawReader", "readConds", "()Z"⟩, prog_5_method_6_code, 3, some .boolean, t_X3_readConds)
set_option maxRecDepth 100000 in
theorem k_X3_readConds : chkT prog_5_method_6_code t_X3_readConds = true := by decide +kernel
def t_X3_readSum : List mI := [(0, .aload_n 0, 1), (1, .iload_n 1, 1), (2, .invokevirtual 85, 3), (5, .ifCond .ne 5, 3), (8, .iconst 0, 1), (9, .ireturn, 1), (10, .iconst 1, 1), (11, .istore_n 2, 1), (12, .iload_n 2, 1), (13, .sipush 300, 3), (16, .if_icmp .ge 56, 3), (19, .aload_n 0, 1), (20, .getfield 12, 3), (23, .invokevirtual 32, 3), (26, .istore_n 3, 1), (27, .iload_n 3, 1), (28, .bipush (-43), 2), (30, .if_icmp .eq 11, 3), (33, .iload_n 3, 1), (34, .bipush (-45), 2), (36, .if_icmp .eq 5, 3), (39, .iconst 1, 1), (40, .ireturn, 1), (41, .aload_n 0, 1), (42, .getfield 12, 3), (45, .invokevirtual 47, 3), (48, .aload_n 0, 1), (49, .iload_n 1, 1), (50, .invokevirtual 85, 3), (53, .ifCond .ne 5, 3), (56, .iconst 0, 1), (57, .ireturn, 1), (58, .aload_n 0, 1), (59, .getfield 21, 3), (62, .iload_n 3, 1), (63, .invokevirtual 81, 3), (66, .iinc 2 1, 3), (69, .goto (-57), 3), (72, .iconst 1, 1), (73, .ireturn, 1)]
def Y_X3_readSum : mY := (3, ⟨"MastMove$LawReader", "readSum", "(I)Z"⟩, prog_5_method_7_code, 4, some .boolean, t_X3_readSum)
set_option maxRecDepth 100000 in
theorem k_X3_readSum : chkT prog_5_method_7_code t_X3_readSum = true := by decide +kernel
def t_X3_readTerm : List mI := [(0, .aload_n 0, 1), (1, .iload_n 1, 1), (2, .invokevirtual 88, 3), (5, .ifCond .ne 5, 3), (8, .iconst 0, 1), (9, .ireturn, 1), (10, .iconst 1, 1), (11, .istore_n 2, 1), (12, .iload_n 2, 1), (13, .sipush 300, 3), (16, .if_icmp .ge 56, 3), (19, .aload_n 0, 1), (20, .getfield 12, 3), (23, .invokevirtual 32, 3), (26, .istore_n 3, 1), (27, .iload_n 3, 1), (28, .bipush (-42), 2), (30, .if_icmp .eq 11, 3), (33, .iload_n 3, 1), (34, .bipush (-47), 2), (36, .if_icmp .eq 5, 3), (39, .iconst 1, 1), (40, .ireturn, 1), (41, .aload_n 0, 1), (42, .getfield 12, 3), (45, .invokevirtual 47, 3), (48, .aload_n 0, 1), (49, .iload_n 1, 1), (50, .invokevirtual 88, 3), (53, .ifCond .ne 5, 3), (56, .iconst 0, 1), (57, .ireturn, 1), (58, .aload_n 0, 1), (59, .getfield 21, 3), (62, .iload_n 3, 1), (63, .invokevirtual 81, 3), (66, .iinc 2 1, 3), (69, .goto (-57), 3), (72, .iconst 1, 1), (73, .ireturn, 1)]
def Y_X3_readTerm : mY := (3, ⟨"MastMove$LawReader", "readTerm", "(I)Z"⟩, prog_5_method_8_code, 4, some .boolean, t_X3_readTerm)
set_option maxRecDepth 100000 in
theorem k_X3_readTerm : chkT prog_5_method_8_code t_X3_readTerm = true := by decide +kernel
def t_X3_readFactor : List mI := [(0, .aload_n 0, 1), (1, .getfield 12, 3), (4, .invokevirtual 32, 3), (7, .bipush (-40), 2), (9, .if_icmp .ne 42, 3), (12, .iload_n 1, 1), (13, .bipush 8, 2), (15, .if_icmp .lt 5, 3), (18, .iconst 0, 1), (19, .ireturn, 1), (20, .aload_n 0, 1), (21, .getfield 12, 3), (24, .invokevirtual 47, 3), (27, .aload_n 0, 1), (28, .iload_n 1, 1), (29, .iconst 1, 1), (30, .iadd, 1), (31, .invokevirtual 65, 3), (34, .ifCond .eq 15, 3), (37, .aload_n 0, 1), (38, .getfield 12, 3), (41, .invokevirtual 32, 3), (44, .bipush (-41), 2), (46, .if_icmp .eq 36, 3), (49, .iconst 0, 1), (50, .ireturn, 1), (51, .aload_n 0, 1), (52, .getfield 12, 3), (55, .invokevirtual 32, 3), (58, .bipush (-6), 2), (60, .if_icmp .lt 20, 3), (63, .aload_n 0, 1), (64, .getfield 21, 3), (67, .aload_n 0, 1), (68, .getfield 12, 3), (71, .invokevirtual 32, 3), (74, .invokevirtual 81, 3), (77, .goto 5, 3), (80, .iconst 0, 1), (81, .ireturn, 1), (82, .aload_n 0, 1), (83, .getfield 12, 3), (86, .invokevirtual 47, 3), (89, .iconst 1, 1), (90, .ireturn, 1)]
def Y_X3_readFactor : mY := (3, ⟨"MastMove$LawReader", "readFactor", "(I)Z"⟩, prog_5_method_9_code, 2, some .boolean, t_X3_readFactor)
set_option maxRecDepth 100000 in
theorem k_X3_readFactor : chkT prog_5_method_9_code t_X3_readFactor = true := by decide +kernel
def t_X4_init : List mI := [(0, .aload_n 0, 1), (1, .invokespecial 3, 3), (4, .aload_n 0, 1), (5, .iconst (-1), 1), (6, .putfield 9, 3), (9, .aload_n 0, 1), (10, .iconst (-1), 1), (11, .putfield 15, 3), (14, .aload_n 0, 1), (15, .iconst (-1), 1), (16, .putfield 18, 3), (19, .return_, 1)]
def Y_X4_init : mY := (4, ⟨"MastMove$Mast", "<init>", "()V"⟩, prog_6_method_1_code, 1, none, t_X4_init)
set_option maxRecDepth 100000 in
theorem k_X4_init : chkT prog_6_method_1_code t_X4_init = true := by decide +kernel
def t_X4_stand : List mI := [(0, .aload_n 0, 1), (1, .iload_n 1, 1), (2, .putfield 21, 3), (5, .aload_n 0, 1), (6, .iload_n 2, 1), (7, .putfield 24, 3), (10, .aload_n 0, 1), (11, .iload_n 3, 1), (12, .putfield 27, 3), (15, .aload_n 0, 1), (16, .iload 4, 2), (18, .putfield 30, 3), (21, .return_, 1)]
def Y_X4_stand : mY := (4, ⟨"MastMove$Mast", "stand", "(IIII)V"⟩, prog_6_method_2_code, 5, none, t_X4_stand)
set_option maxRecDepth 100000 in
theorem k_X4_stand : chkT prog_6_method_2_code t_X4_stand = true := by decide +kernel
def t_X4_strengthAt : List mI := [(0, .aload_n 0, 1), (1, .getfield 21, 3), (4, .aload_n 1, 1), (5, .getfield 33, 3), (8, .isub, 1), (9, .istore_n 2, 1), (10, .aload_n 0, 1), (11, .getfield 24, 3), (14, .aload_n 1, 1), (15, .getfield 36, 3), (18, .isub, 1), (19, .istore_n 3, 1), (20, .sipush 1000, 3), (23, .aload_n 0, 1), (24, .getfield 27, 3), (27, .imul, 1), (28, .bipush 10, 2), (30, .iload_n 2, 1), (31, .iload_n 2, 1), (32, .imul, 1), (33, .iadd, 1), (34, .iload_n 3, 1), (35, .iload_n 3, 1), (36, .imul, 1), (37, .iadd, 1), (38, .idiv, 1), (39, .ireturn, 1)]
def Y_X4_strengthAt : mY := (4, ⟨"MastMove$Mast", "strengthAt", "(LMastMove$Area;)I"⟩, prog_6_method_3_code, 4, some .int, t_X4_strengthAt)
set_option maxRecDepth 100000 in
theorem k_X4_strengthAt : chkT prog_6_method_3_code t_X4_strengthAt = true := by decide +kernel
def t_X4_channelNow : List mI := [(0, .aload_n 0, 1), (1, .getfield 37, 3), (4, .ifCond .eq 10, 3), (7, .aload_n 0, 1), (8, .getfield 15, 3), (11, .goto 7, 3), (14, .aload_n 0, 1), (15, .getfield 30, 3), (18, .ireturn, 1)]
def Y_X4_channelNow : mY := (4, ⟨"MastMove$Mast", "channelNow", "()I"⟩, prog_6_method_4_code, 1, some .int, t_X4_channelNow)
set_option maxRecDepth 100000 in
theorem k_X4_channelNow : chkT prog_6_method_4_code t_X4_channelNow = true := by decide +kernel
def t_X4_fact : List mI := [(0, .iload_n 1, 1), (1, .tableswitch 96 0 7 #[47, 52, 57, 62, 67, 75, 80, 88], 47), (48, .aload_n 0, 1), (49, .getfield 21, 3), (52, .ireturn, 1), (53, .aload_n 0, 1), (54, .getfield 24, 3), (57, .ireturn, 1), (58, .aload_n 0, 1), (59, .getfield 27, 3), (62, .ireturn, 1), (63, .aload_n 0, 1), (64, .getfield 9, 3), (67, .ireturn, 1), (68, .aload_n 0, 1), (69, .getfield 41, 3), (72, .invokestatic 44, 3), (75, .ireturn, 1), (76, .aload_n 0, 1), (77, .getfield 30, 3), (80, .ireturn, 1), (81, .aload_n 0, 1), (82, .getfield 37, 3), (85, .invokestatic 44, 3), (88, .ireturn, 1), (89, .aload_n 0, 1), (90, .getfield 48, 3), (93, .invokestatic 44, 3), (96, .ireturn, 1), (97, .bipush (-2), 2), (99, .ireturn, 1)]
def Y_X4_fact : mY := (4, ⟨"MastMove$Mast", "fact", "(I)I"⟩, prog_6_method_5_code, 2, some .int, t_X4_fact)
set_option maxRecDepth 100000 in
theorem k_X4_fact : chkT prog_6_method_5_code t_X4_fact = true := by decide +kernel
def t_X5_init : List mI := [(0, .aload_n 0, 1), (1, .invokespecial 3, 3), (4, .aload_n 0, 1), (5, .sipush 1024, 3), (8, .newarray .int, 2), (10, .putfield 11, 3), (13, .aload_n 0, 1), (14, .sipush 1024, 3), (17, .newarray .int, 2), (19, .putfield 15, 3), (22, .aload_n 0, 1), (23, .bipush 53, 2), (25, .newarray .int, 2), (27, .putfield 18, 3), (30, .aload_n 0, 1), (31, .bipush 52, 2), (33, .newarray .int, 2), (35, .putfield 21, 3), (38, .aload_n 0, 1), (39, .iconst 1, 1), (40, .putfield 24, 3), (43, .return_, 1)]
def Y_X5_init : mY := (5, ⟨"MastMove$Planner", "<init>", "()V"⟩, prog_7_method_1_code, 1, none, t_X5_init)
set_option maxRecDepth 100000 in
theorem k_X5_init : chkT prog_7_method_1_code t_X5_init = true := by decide +kernel
def t_X5_schedule : List mI := [(0, .aload_n 1, 1), (1, .getfield 28, 3), (4, .ifCond .eq 8, 3), (7, .iload_n 2, 1), (8, .iconst 1, 1), (9, .if_icmp .ge 5, 3), (12, .iconst (-1), 1), (13, .ireturn, 1), (14, .aload_n 0, 1), (15, .iload_n 2, 1), (16, .putfield 24, 3), (19, .aload_n 0, 1), (20, .lload_n 3, 1), (21, .invokevirtual 33, 3), (24, .aload_n 0, 1), (25, .aload_n 1, 1), (26, .invokevirtual 37, 3), (29, .aload_n 0, 1), (30, .getfield 11, 3), (33, .aload_n 1, 1), (34, .invokestatic 41, 3), (37, .iaload, 1), (38, .istore 5, 2), (40, .iload 5, 2), (42, .bipush 52, 2), (44, .aload_n 0, 1), (45, .getfield 24, 3), (48, .imul, 1), (49, .if_icmp .le 5, 3), (52, .iconst (-1), 1), (53, .ireturn, 1), (54, .iload 5, 2), (56, .iconst 1, 1), (57, .isub, 1), (58, .aload_n 0, 1), (59, .getfield 24, 3), (62, .idiv, 1), (63, .iconst 1, 1), (64, .iadd, 1), (65, .istore 6, 2), (67, .aload_n 0, 1), (68, .aload_n 1, 1), (69, .iload 6, 2), (71, .invokevirtual 45, 3), (74, .aload_n 0, 1), (75, .aload_n 1, 1), (76, .iload 6, 2), (78, .lload_n 3, 1), (79, .invokevirtual 49, 3), (82, .iload 6, 2), (84, .ireturn, 1)]
def Y_X5_schedule : mY := (5, ⟨"MastMove$Planner", "schedule", "(LMastMove$Land;IJ)I"⟩, prog_7_method_2_code, 7, some .int, t_X5_schedule)
set_option maxRecDepth 100000 in
theorem k_X5_schedule : chkT prog_7_method_2_code t_X5_schedule = true := by decide +kernel
def t_X5_allOf : List mI := [(0, .iconst 1, 1), (1, .aload_n 0, 1), (2, .getfield 28, 3), (5, .ishl, 1), (6, .iconst 1, 1), (7, .isub, 1), (8, .ireturn, 1)]
def Y_X5_allOf : mY := (5, ⟨"MastMove$Planner", "allOf", "(LMastMove$Land;)I"⟩, prog_7_method_3_code, 1, some .int, t_X5_allOf)
set_option maxRecDepth 100000 in
theorem k_X5_allOf : chkT prog_7_method_3_code t_X5_allOf = true := by decide +kernel
def t_X5_isWindy : List mI := [(0, .lload_n 0, 1), (1, .iload_n 2, 1), (2, .lshr, 1), (3, .lconst 1, 1), (4, .land, 1), (5, .lconst 0, 1), (6, .lcmp, 1), (7, .ifCond .eq 7, 3), (10, .iconst 1, 1), (11, .goto 4, 3), (14, .iconst 0, 1), (15, .ireturn, 1)]
def Y_X5_isWindy : mY := (5, ⟨"MastMove$Planner", "isWindy", "(JI)Z"⟩, prog_7_method_4_code, 3, some .boolean, t_X5_isWindy)
set_option maxRecDepth 100000 in
theorem k_X5_isWindy : chkT prog_7_method_4_code t_X5_isWindy = true := by decide +kernel
def t_X5_findCalm : List mI := [(0, .aload_n 0, 1), (1, .getfield 18, 3), (4, .bipush 52, 2), (6, .bipush 52, 2), (8, .iastore, 1), (9, .bipush 51, 2), (11, .istore_n 3, 1), (12, .iload_n 3, 1), (13, .ifCond .lt 35, 3), (16, .aload_n 0, 1), (17, .getfield 18, 3), (20, .iload_n 3, 1), (21, .lload_n 1, 1), (22, .iload_n 3, 1), (23, .invokestatic 53, 3), (26, .ifCond .eq 14, 3), (29, .aload_n 0, 1), (30, .getfield 18, 3), (33, .iload_n 3, 1), (34, .iconst 1, 1), (35, .iadd, 1), (36, .iaload, 1), (37, .goto 4, 3), (40, .iload_n 3, 1), (41, .iastore, 1), (42, .iinc 3 (-1), 3), (45, .goto (-33), 3), (48, .iconst (-1), 1), (49, .istore_n 3, 1), (50, .iconst 0, 1), (51, .istore 4, 2), (53, .iload 4, 2), (55, .bipush 52, 2), (57, .if_icmp .ge 33, 3), (60, .lload_n 1, 1), (61, .iload 4, 2), (63, .invokestatic 53, 3), (66, .ifCond .eq 7, 3), (69, .iload_n 3, 1), (70, .goto 5, 3), (73, .iload 4, 2), (75, .istore_n 3, 1), (76, .aload_n 0, 1), (77, .getfield 21, 3), (80, .iload 4, 2), (82, .iload_n 3, 1), (83, .iastore, 1), (84, .iinc 4 1, 3), (87, .goto (-34), 3), (90, .return_, 1)]
def Y_X5_findCalm : mY := (5, ⟨"MastMove$Planner", "findCalm", "(J)V"⟩, prog_7_method_5_code, 5, none, t_X5_findCalm)
set_option maxRecDepth 100000 in
theorem k_X5_findCalm : chkT prog_7_method_5_code t_X5_findCalm = true := by decide +kernel
def t_X5_canFollow : List mI := [(0, .iload_n 2, 1), (1, .iload_n 1, 1), (2, .invokestatic 57, 3), (5, .ifCond .ne 26, 3), (8, .aload_n 0, 1), (9, .getfield 61, 3), (12, .iconst (-1), 1), (13, .if_icmp .eq 14, 3), (16, .iload_n 2, 1), (17, .aload_n 0, 1), (18, .getfield 61, 3), (21, .invokestatic 57, 3), (24, .ifCond .eq 7, 3), (27, .iconst 1, 1), (28, .goto 4, 3), (31, .iconst 0, 1), (32, .ireturn, 1)]
def Y_X5_canFollow : mY := (5, ⟨"MastMove$Planner", "canFollow", "(LMastMove$Mast;II)Z"⟩, prog_7_method_6_code, 3, some .boolean, t_X5_canFollow)
set_option maxRecDepth 100000 in
theorem k_X5_canFollow : chkT prog_7_method_6_code t_X5_canFollow = true := by decide +kernel
def t_X5_findSoonest : List mI := [(0, .aload_n 1, 1), (1, .invokestatic 41, 3), (4, .istore_n 2, 1), (5, .aload_n 0, 1), (6, .getfield 11, 3), (9, .sipush 157, 3), (12, .invokestatic 66, 3), (15, .aload_n 0, 1), (16, .getfield 11, 3), (19, .iconst 0, 1), (20, .iconst 0, 1), (21, .iastore, 1), (22, .iconst 0, 1), (23, .istore_n 3, 1), (24, .iload_n 3, 1), (25, .iload_n 2, 1), (26, .if_icmp .ge 94, 3), (29, .iconst 0, 1), (30, .istore 4, 2), (32, .iload 4, 2), (34, .aload_n 1, 1), (35, .getfield 28, 3), (38, .if_icmp .ge 76, 3), (41, .aload_n 1, 1), (42, .getfield 72, 3), (45, .iload 4, 2), (47, .aaload, 1), (48, .iload 4, 2), (50, .iload_n 3, 1), (51, .invokestatic 76, 3), (54, .ifCond .eq 54, 3), (57, .iload_n 3, 1), (58, .iconst 1, 1), (59, .iload 4, 2), (61, .ishl, 1), (62, .ior, 1), (63, .istore 5, 2), (65, .aload_n 0, 1), (66, .aload_n 1, 1), (67, .getfield 72, 3), (70, .iload 4, 2), (72, .aaload, 1), (73, .getfield 80, 3), (76, .aload_n 0, 1), (77, .getfield 11, 3), (80, .iload_n 3, 1), (81, .iaload, 1), (82, .invokevirtual 84, 3), (85, .istore 6, 2), (87, .aload_n 0, 1), (88, .getfield 11, 3), (91, .iload 5, 2), (93, .aload_n 0, 1), (94, .getfield 11, 3), (97, .iload 5, 2), (99, .iaload, 1), (100, .iload 6, 2), (102, .iconst 1, 1), (103, .iadd, 1), (104, .invokestatic 88, 3), (107, .iastore, 1), (108, .iinc 4 1, 3), (111, .goto (-79), 3), (114, .iinc 3 1, 3), (117, .goto (-93), 3), (120, .return_, 1)]
def Y_X5_findSoonest : mY := (5, ⟨"MastMove$Planner", "findSoonest", "(LMastMove$Land;)V"⟩, prog_7_method_7_code, 7, none, t_X5_findSoonest)
set_option maxRecDepth 100000 in
theorem k_X5_findSoonest : chkT prog_7_method_7_code t_X5_findSoonest = true := by decide +kernel
def t_X5_firstTurn : List mI := [(0, .iload_n 2, 1), (1, .aload_n 0, 1), (2, .getfield 24, 3), (5, .idiv, 1), (6, .istore_n 3, 1), (7, .iload_n 3, 1), (8, .bipush 52, 2), (10, .if_icmp .lt 7, 3), (13, .sipush 156, 3), (16, .ireturn, 1), (17, .iload_n 1, 1), (18, .ifCond .eq 13, 3), (21, .aload_n 0, 1), (22, .getfield 18, 3), (25, .iload_n 3, 1), (26, .iaload, 1), (27, .iload_n 3, 1), (28, .if_icmp .ne 5, 3), (31, .iload_n 2, 1), (32, .ireturn, 1), (33, .aload_n 0, 1), (34, .getfield 18, 3), (37, .iload_n 3, 1), (38, .iaload, 1), (39, .bipush 52, 2), (41, .if_icmp .ge 17, 3), (44, .aload_n 0, 1), (45, .getfield 18, 3), (48, .iload_n 3, 1), (49, .iaload, 1), (50, .aload_n 0, 1), (51, .getfield 24, 3), (54, .imul, 1), (55, .goto 6, 3), (58, .sipush 156, 3), (61, .ireturn, 1)]
def Y_X5_firstTurn : mY := (5, ⟨"MastMove$Planner", "firstTurn", "(ZI)I"⟩, prog_7_method_8_code, 4, some .int, t_X5_firstTurn)
set_option maxRecDepth 100000 in
theorem k_X5_firstTurn : chkT prog_7_method_8_code t_X5_firstTurn = true := by decide +kernel
def t_X5_findLatest : List mI := [(0, .aload_n 1, 1), (1, .invokestatic 41, 3), (4, .istore_n 3, 1), (5, .aload_n 0, 1), (6, .getfield 15, 3), (9, .iconst (-1), 1), (10, .invokestatic 66, 3), (13, .aload_n 0, 1), (14, .getfield 15, 3), (17, .iload_n 3, 1), (18, .iload_n 2, 1), (19, .aload_n 0, 1), (20, .getfield 24, 3), (23, .imul, 1), (24, .iastore, 1), (25, .iload_n 3, 1), (26, .iconst 1, 1), (27, .isub, 1), (28, .istore 4, 2), (30, .iload 4, 2), (32, .ifCond .lt 93, 3), (35, .iconst 0, 1), (36, .istore 5, 2), (38, .iload 5, 2), (40, .aload_n 1, 1), (41, .getfield 28, 3), (44, .if_icmp .ge 75, 3), (47, .aload_n 1, 1), (48, .getfield 72, 3), (51, .iload 5, 2), (53, .aaload, 1), (54, .iload 5, 2), (56, .iload 4, 2), (58, .invokestatic 76, 3), (61, .ifCond .eq 52, 3), (64, .aload_n 0, 1), (65, .aload_n 1, 1), (66, .getfield 72, 3), (69, .iload 5, 2), (71, .aaload, 1), (72, .getfield 80, 3), (75, .aload_n 0, 1), (76, .getfield 15, 3), (79, .iload 4, 2), (81, .iconst 1, 1), (82, .iload 5, 2), (84, .ishl, 1), (85, .ior, 1), (86, .iaload, 1), (87, .iconst 1, 1), (88, .isub, 1), (89, .invokevirtual 94, 3), (92, .istore 6, 2), (94, .aload_n 0, 1), (95, .getfield 15, 3), (98, .iload 4, 2), (100, .aload_n 0, 1), (101, .getfield 15, 3), (104, .iload 4, 2), (106, .iaload, 1), (107, .iload 6, 2), (109, .invokestatic 97, 3), (112, .iastore, 1), (113, .iinc 5 1, 3), (116, .goto (-78), 3), (119, .iinc 4 (-1), 3), (122, .goto (-92), 3), (125, .return_, 1)]
def Y_X5_findLatest : mY := (5, ⟨"MastMove$Planner", "findLatest", "(LMastMove$Land;I)V"⟩, prog_7_method_9_code, 7, none, t_X5_findLatest)
set_option maxRecDepth 100000 in
theorem k_X5_findLatest : chkT prog_7_method_9_code t_X5_findLatest = true := by decide +kernel
def t_X5_lastTurn : List mI := [(0, .iload_n 2, 1), (1, .ifCond .ge 5, 3), (4, .iconst (-1), 1), (5, .ireturn, 1), (6, .iload_n 2, 1), (7, .aload_n 0, 1), (8, .getfield 24, 3), (11, .idiv, 1), (12, .bipush 51, 2), (14, .invokestatic 88, 3), (17, .istore_n 3, 1), (18, .iload_n 1, 1), (19, .ifCond .eq 13, 3), (22, .aload_n 0, 1), (23, .getfield 21, 3), (26, .iload_n 3, 1), (27, .iaload, 1), (28, .iload_n 3, 1), (29, .if_icmp .ne 5, 3), (32, .iload_n 2, 1), (33, .ireturn, 1), (34, .aload_n 0, 1), (35, .getfield 21, 3), (38, .iload_n 3, 1), (39, .iaload, 1), (40, .iconst (-1), 1), (41, .if_icmp .ne 7, 3), (44, .iconst (-1), 1), (45, .goto 21, 3), (48, .aload_n 0, 1), (49, .getfield 21, 3), (52, .iload_n 3, 1), (53, .iaload, 1), (54, .aload_n 0, 1), (55, .getfield 24, 3), (58, .imul, 1), (59, .aload_n 0, 1), (60, .getfield 24, 3), (63, .iadd, 1), (64, .iconst 1, 1), (65, .isub, 1), (66, .ireturn, 1)]
def Y_X5_lastTurn : mY := (5, ⟨"MastMove$Planner", "lastTurn", "(ZI)I"⟩, prog_7_method_10_code, 4, some .int, t_X5_lastTurn)
set_option maxRecDepth 100000 in
theorem k_X5_lastTurn : chkT prog_7_method_10_code t_X5_lastTurn = true := by decide +kernel
def t_X5_pickSets : List mI := [(0, .iconst 0, 1), (1, .istore 5, 2), (3, .iconst 0, 1), (4, .istore 6, 2), (6, .iload 6, 2), (8, .iload_n 2, 1), (9, .if_icmp .ge 29, 3), (12, .iload 5, 2), (14, .aload_n 0, 1), (15, .aload_n 1, 1), (16, .iload 5, 2), (18, .iload 6, 2), (20, .lload_n 3, 1), (21, .iload 6, 2), (23, .invokestatic 53, 3), (26, .invokevirtual 100, 3), (29, .ior, 1), (30, .istore 5, 2), (32, .iinc 6 1, 3), (35, .goto (-29), 3), (38, .return_, 1)]
def Y_X5_pickSets : mY := (5, ⟨"MastMove$Planner", "pickSets", "(LMastMove$Land;IJ)V"⟩, prog_7_method_11_code, 7, none, t_X5_pickSets)
set_option maxRecDepth 100000 in
theorem k_X5_pickSets : chkT prog_7_method_11_code t_X5_pickSets = true := by decide +kernel
def t_X5_leastSet : List mI := [(0, .aload_n 1, 1), (1, .invokestatic 41, 3), (4, .istore 5, 2), (6, .iconst 0, 1), (7, .istore 6, 2), (9, .iload 6, 2), (11, .iload 5, 2), (13, .if_icmp .gt 102, 3), (16, .iload 6, 2), (18, .iload_n 2, 1), (19, .iand, 1), (20, .ifCond .ne 89, 3), (23, .aload_n 0, 1), (24, .getfield 15, 3), (27, .iload_n 2, 1), (28, .iload 6, 2), (30, .ior, 1), (31, .iaload, 1), (32, .iload_n 3, 1), (33, .iconst 1, 1), (34, .iadd, 1), (35, .aload_n 0, 1), (36, .getfield 24, 3), (39, .imul, 1), (40, .if_icmp .lt 69, 3), (43, .iload 6, 2), (45, .invokestatic 104, 3), (48, .aload_n 0, 1), (49, .getfield 24, 3), (52, .if_icmp .gt 57, 3), (55, .aload_n 1, 1), (56, .iload 6, 2), (58, .iload_n 2, 1), (59, .iload 4, 2), (61, .invokestatic 110, 3), (64, .ifCond .eq 45, 3), (67, .iconst 0, 1), (68, .istore 7, 2), (70, .iload 7, 2), (72, .aload_n 1, 1), (73, .getfield 28, 3), (76, .if_icmp .ge 30, 3), (79, .iload 6, 2), (81, .iload 7, 2), (83, .invokestatic 57, 3), (86, .ifCond .eq 14, 3), (89, .aload_n 1, 1), (90, .getfield 72, 3), (93, .iload 7, 2), (95, .aaload, 1), (96, .iload_n 3, 1), (97, .putfield 114, 3), (100, .iinc 7 1, 3), (103, .goto (-33), 3), (106, .iload 6, 2), (108, .ireturn, 1), (109, .iinc 6 1, 3), (112, .goto (-103), 3), (115, .iconst 0, 1), (116, .ireturn, 1)]
def Y_X5_leastSet : mY := (5, ⟨"MastMove$Planner", "leastSet", "(LMastMove$Land;IIZ)I"⟩, prog_7_method_12_code, 8, some .int, t_X5_leastSet)
set_option maxRecDepth 100000 in
theorem k_X5_leastSet : chkT prog_7_method_12_code t_X5_leastSet = true := by decide +kernel
def t_X5_isAllowed : List mI := [(0, .iconst 0, 1), (1, .istore 4, 2), (3, .iload 4, 2), (5, .aload_n 0, 1), (6, .getfield 28, 3), (9, .if_icmp .ge 76, 3), (12, .aload_n 0, 1), (13, .getfield 72, 3), (16, .iload 4, 2), (18, .aaload, 1), (19, .astore 5, 2), (21, .aload 5, 2), (23, .getfield 61, 3), (26, .iconst (-1), 1), (27, .if_icmp .eq 17, 3), (30, .iload_n 2, 1), (31, .iload_n 1, 1), (32, .ior, 1), (33, .aload 5, 2), (35, .getfield 61, 3), (38, .invokestatic 57, 3), (41, .ifCond .eq 7, 3), (44, .iconst 1, 1), (45, .goto 4, 3), (48, .iconst 0, 1), (49, .istore 6, 2), (51, .iload_n 1, 1), (52, .iload 4, 2), (54, .invokestatic 57, 3), (57, .ifCond .eq 22, 3), (60, .iload 6, 2), (62, .ifCond .eq 15, 3), (65, .iload_n 3, 1), (66, .ifCond .eq 13, 3), (69, .aload 5, 2), (71, .getfield 80, 3), (74, .ifCond .eq 5, 3), (77, .iconst 0, 1), (78, .ireturn, 1), (79, .iinc 4 1, 3), (82, .goto (-79), 3), (85, .iconst 1, 1), (86, .ireturn, 1)]
def Y_X5_isAllowed : mY := (5, ⟨"MastMove$Planner", "isAllowed", "(LMastMove$Land;IIZ)Z"⟩, prog_7_method_13_code, 7, some .boolean, t_X5_isAllowed)
set_option maxRecDepth 100000 in
theorem k_X5_isAllowed : chkT prog_7_method_13_code t_X5_isAllowed = true := by decide +kernel
def t_X6_init : List mI := [(0, .aload_n 0, 1), (1, .invokespecial 3, 3), (4, .aload_n 0, 1), (5, .bipush 60, 2), (7, .newarray .long, 2), (9, .putfield 9, 3), (12, .aload_n 0, 1), (13, .iconst (-1), 1), (14, .putfield 15, 3), (17, .return_, 1)]
def Y_X6_init : mY := (6, ⟨"MastMove$Row", "<init>", "()V"⟩, prog_8_method_1_code, 1, none, t_X6_init)
set_option maxRecDepth 100000 in
theorem k_X6_init : chkT prog_8_method_1_code t_X6_init = true := by decide +kernel
def t_X6_isEmpty : List mI := [(0, .aload_n 0, 1), (1, .getfield 15, 3), (4, .iconst (-1), 1), (5, .if_icmp .ne 7, 3), (8, .iconst 1, 1), (9, .goto 4, 3), (12, .iconst 0, 1), (13, .ireturn, 1)]
def Y_X6_isEmpty : mY := (6, ⟨"MastMove$Row", "isEmpty", "()Z"⟩, prog_8_method_2_code, 1, some .boolean, t_X6_isEmpty)
set_option maxRecDepth 100000 in
theorem k_X6_isEmpty : chkT prog_8_method_2_code t_X6_isEmpty = true := by decide +kernel
def t_X6_begin : List mI := [(0, .aload_n 0, 1), (1, .iload_n 1, 1), (2, .putfield 19, 3), (5, .aload_n 0, 1), (6, .iload_n 2, 1), (7, .putfield 15, 3), (10, .aload_n 0, 1), (11, .getfield 9, 3), (14, .lconst 0, 1), (15, .invokestatic 22, 3), (18, .return_, 1)]
def Y_X6_begin : mY := (6, ⟨"MastMove$Row", "begin", "(II)V"⟩, prog_8_method_3_code, 3, none, t_X6_begin)
set_option maxRecDepth 100000 in
theorem k_X6_begin : chkT prog_8_method_3_code t_X6_begin = true := by decide +kernel
def t_X6_cut : List mI := [(0, .aload_n 0, 1), (1, .getfield 19, 3), (4, .tableswitch 42 0 2 #[28, 33, 38], 28), (32, .lload_n 1, 1), (33, .l2i, 1), (34, .i2b, 1), (35, .i2l, 1), (36, .lreturn, 1), (37, .lload_n 1, 1), (38, .l2i, 1), (39, .i2s, 1), (40, .i2l, 1), (41, .lreturn, 1), (42, .lload_n 1, 1), (43, .l2i, 1), (44, .i2l, 1), (45, .lreturn, 1), (46, .lload_n 1, 1), (47, .lreturn, 1)]
def Y_X6_cut : mY := (6, ⟨"MastMove$Row", "cut", "(J)J"⟩, prog_8_method_4_code, 3, some .long, t_X6_cut)
set_option maxRecDepth 100000 in
theorem k_X6_cut : chkT prog_8_method_4_code t_X6_cut = true := by decide +kernel
def t_X6_reaches : List mI := [(0, .iload_n 1, 1), (1, .ifCond .lt 29, 3), (4, .iload_n 2, 1), (5, .ifCond .lt 25, 3), (8, .iload_n 1, 1), (9, .aload_n 0, 1), (10, .getfield 15, 3), (13, .if_icmp .gt 17, 3), (16, .iload_n 2, 1), (17, .aload_n 0, 1), (18, .getfield 15, 3), (21, .iload_n 1, 1), (22, .isub, 1), (23, .if_icmp .gt 7, 3), (26, .iconst 1, 1), (27, .goto 4, 3), (30, .iconst 0, 1), (31, .ireturn, 1)]
def Y_X6_reaches : mY := (6, ⟨"MastMove$Row", "reaches", "(II)Z"⟩, prog_8_method_5_code, 3, some .boolean, t_X6_reaches)
set_option maxRecDepth 100000 in
theorem k_X6_reaches : chkT prog_8_method_5_code t_X6_reaches = true := by decide +kernel
def t_X7_init : List mI := [(0, .aload_n 0, 1), (1, .invokespecial 3, 3), (4, .aload_n 0, 1), (5, .sipush 300, 3), (8, .newarray .byte, 2), (10, .putfield 9, 3), (13, .return_, 1)]
def Y_X7_init : mY := (7, ⟨"MastMove$Tape", "<init>", "()V"⟩, prog_9_method_1_code, 1, none, t_X7_init)
set_option maxRecDepth 100000 in
theorem k_X7_init : chkT prog_9_method_1_code t_X7_init = true := by decide +kernel
def t_X7_hasRoomFor : List mI := [(0, .aload_n 0, 1), (1, .getfield 15, 3), (4, .iconst 4, 1), (5, .iload_n 1, 1), (6, .imul, 1), (7, .iadd, 1), (8, .aload_n 0, 1), (9, .getfield 9, 3), (12, .arraylength, 1), (13, .if_icmp .gt 7, 3), (16, .iconst 1, 1), (17, .goto 4, 3), (20, .iconst 0, 1), (21, .ireturn, 1)]
def Y_X7_hasRoomFor : mY := (7, ⟨"MastMove$Tape", "hasRoomFor", "(I)Z"⟩, prog_9_method_2_code, 2, some .boolean, t_X7_hasRoomFor)
set_option maxRecDepth 100000 in
theorem k_X7_hasRoomFor : chkT prog_9_method_2_code t_X7_hasRoomFor = true := by decide +kernel
def t_X7_append : List mI := [(0, .aload_n 0, 1), (1, .iconst 1, 1), (2, .invokevirtual 19, 3), (5, .ifCond .ne 4, 3), (8, .return_, 1), (9, .bipush 24, 2), (11, .istore_n 2, 1), (12, .iload_n 2, 1), (13, .ifCond .lt 32, 3), (16, .aload_n 0, 1), (17, .getfield 9, 3), (20, .aload_n 0, 1), (21, .getfield 15, 3), (24, .iload_n 1, 1), (25, .iload_n 2, 1), (26, .ishr, 1), (27, .i2b, 1), (28, .bastore, 1), (29, .aload_n 0, 1), (30, .dup, 1), (31, .getfield 15, 3), (34, .iconst 1, 1), (35, .iadd, 1), (36, .putfield 15, 3), (39, .iinc 2 (-8), 3), (42, .goto (-30), 3), (45, .return_, 1)]
def Y_X7_append : mY := (7, ⟨"MastMove$Tape", "append", "(I)V"⟩, prog_9_method_3_code, 3, none, t_X7_append)
set_option maxRecDepth 100000 in
theorem k_X7_append : chkT prog_9_method_3_code t_X7_append = true := by decide +kernel
def t_X7_at : List mI := [(0, .iload_n 1, 1), (1, .ifCond .lt 20, 3), (4, .iload_n 1, 1), (5, .aload_n 0, 1), (6, .getfield 15, 3), (9, .if_icmp .ge 12, 3), (12, .aload_n 0, 1), (13, .getfield 9, 3), (16, .iload_n 1, 1), (17, .baload, 1), (18, .goto 4, 3), (21, .iconst (-1), 1), (22, .ireturn, 1)]
def Y_X7_at : mY := (7, ⟨"MastMove$Tape", "at", "(I)I"⟩, prog_9_method_4_code, 2, some .int, t_X7_at)
set_option maxRecDepth 100000 in
theorem k_X7_at : chkT prog_9_method_4_code t_X7_at = true := by decide +kernel
def t_X7_has : List mI := [(0, .iload_n 3, 1), (1, .iload_n 2, 1), (2, .isub, 1), (3, .aload_n 1, 1), (4, .invokevirtual 23, 3), (7, .if_icmp .eq 5, 3), (10, .iconst 0, 1), (11, .ireturn, 1), (12, .iconst 0, 1), (13, .istore 4, 2), (15, .iload 4, 2), (17, .aload_n 1, 1), (18, .invokevirtual 23, 3), (21, .if_icmp .ge 28, 3), (24, .aload_n 0, 1), (25, .iload_n 2, 1), (26, .iload 4, 2), (28, .iadd, 1), (29, .invokevirtual 28, 3), (32, .aload_n 1, 1), (33, .iload 4, 2), (35, .invokevirtual 32, 3), (38, .if_icmp .eq 5, 3), (41, .iconst 0, 1), (42, .ireturn, 1), (43, .iinc 4 1, 3), (46, .goto (-31), 3), (49, .iconst 1, 1), (50, .ireturn, 1)]
def Y_X7_has : mY := (7, ⟨"MastMove$Tape", "has", "(Ljava/lang/String;II)Z"⟩, prog_9_method_5_code, 5, some .boolean, t_X7_has)
set_option maxRecDepth 100000 in
theorem k_X7_has : chkT prog_9_method_5_code t_X7_has = true := by decide +kernel
def t_X8_init : List mI := [(0, .aload_n 0, 1), (1, .invokespecial 3, 3), (4, .aload_n 0, 1), (5, .sipush 300, 3), (8, .newarray .int, 2), (10, .putfield 9, 3), (13, .aload_n 0, 1), (14, .sipush 300, 3), (17, .newarray .int, 2), (19, .putfield 15, 3), (22, .return_, 1)]
def Y_X8_init : mY := (8, ⟨"MastMove$Tokens", "<init>", "()V"⟩, prog_10_method_1_code, 1, none, t_X8_init)
set_option maxRecDepth 100000 in
theorem k_X8_init : chkT prog_10_method_1_code t_X8_init = true := by decide +kernel
def t_X8_kind : List mI := [(0, .aload_n 0, 1), (1, .getfield 18, 3), (4, .aload_n 0, 1), (5, .getfield 22, 3), (8, .if_icmp .ge 15, 3), (11, .aload_n 0, 1), (12, .getfield 9, 3), (15, .aload_n 0, 1), (16, .getfield 18, 3), (19, .iaload, 1), (20, .goto 5, 3), (23, .bipush (-100), 2), (25, .ireturn, 1)]
def Y_X8_kind : mY := (8, ⟨"MastMove$Tokens", "kind", "()I"⟩, prog_10_method_2_code, 1, some .int, t_X8_kind)
set_option maxRecDepth 100000 in
theorem k_X8_kind : chkT prog_10_method_2_code t_X8_kind = true := by decide +kernel
def t_X8_place : List mI := [(0, .aload_n 0, 1), (1, .getfield 18, 3), (4, .aload_n 0, 1), (5, .getfield 22, 3), (8, .if_icmp .ge 15, 3), (11, .aload_n 0, 1), (12, .getfield 15, 3), (15, .aload_n 0, 1), (16, .getfield 18, 3), (19, .iaload, 1), (20, .goto 7, 3), (23, .aload_n 0, 1), (24, .getfield 25, 3), (27, .ireturn, 1)]
def Y_X8_place : mY := (8, ⟨"MastMove$Tokens", "place", "()I"⟩, prog_10_method_3_code, 1, some .int, t_X8_place)
set_option maxRecDepth 100000 in
theorem k_X8_place : chkT prog_10_method_3_code t_X8_place = true := by decide +kernel
def t_X8_next : List mI := [(0, .aload_n 0, 1), (1, .getfield 18, 3), (4, .aload_n 0, 1), (5, .getfield 22, 3), (8, .if_icmp .ge 13, 3), (11, .aload_n 0, 1), (12, .dup, 1), (13, .getfield 18, 3), (16, .iconst 1, 1), (17, .iadd, 1), (18, .putfield 18, 3), (21, .return_, 1)]
def Y_X8_next : mY := (8, ⟨"MastMove$Tokens", "next", "()V"⟩, prog_10_method_4_code, 1, none, t_X8_next)
set_option maxRecDepth 100000 in
theorem k_X8_next : chkT prog_10_method_4_code t_X8_next = true := by decide +kernel
def t_X8_split : List mI := [(0, .aload_n 0, 1), (1, .aload_n 1, 1), (2, .getfield 28, 3), (5, .putfield 25, 3), (8, .aload_n 0, 1), (9, .iconst 0, 1), (10, .putfield 22, 3), (13, .aload_n 0, 1), (14, .iconst 0, 1), (15, .putfield 18, 3), (18, .iconst 0, 1), (19, .istore_n 2, 1), (20, .iconst 0, 1), (21, .istore_n 3, 1), (22, .iload_n 3, 1), (23, .aload_n 0, 1), (24, .getfield 25, 3), (27, .if_icmp .ge 146, 3), (30, .aload_n 0, 1), (31, .getfield 22, 3), (34, .aload_n 0, 1), (35, .getfield 9, 3), (38, .arraylength, 1), (39, .if_icmp .ge 134, 3), (42, .aload_n 1, 1), (43, .iload_n 3, 1), (44, .invokevirtual 33, 3), (47, .istore 4, 2), (49, .iload_n 3, 1), (50, .iconst 1, 1), (51, .iadd, 1), (52, .istore_n 2, 1), (53, .iload 4, 2), (55, .invokestatic 36, 3), (58, .ifCond .eq 6, 3), (61, .goto 107, 3), (64, .iload_n 2, 1), (65, .aload_n 0, 1), (66, .getfield 25, 3), (69, .if_icmp .ge 47, 3), (72, .iload 4, 2), (74, .invokestatic 40, 3), (77, .ifCond .eq 14, 3), (80, .aload_n 1, 1), (81, .iload_n 2, 1), (82, .invokevirtual 33, 3), (85, .invokestatic 40, 3), (88, .ifCond .ne 22, 3), (91, .iload 4, 2), (93, .invokestatic 43, 3), (96, .ifCond .eq 20, 3), (99, .aload_n 1, 1), (100, .iload_n 2, 1), (101, .invokevirtual 33, 3), (104, .invokestatic 43, 3), (107, .ifCond .eq 9, 3), (110, .iinc 2 1, 3), (113, .goto (-49), 3), (116, .aload_n 0, 1), (117, .getfield 9, 3), (120, .aload_n 0, 1), (121, .getfield 22, 3), (124, .iload 4, 2), (126, .invokestatic 43, 3), (129, .ifCond .eq 12, 3), (132, .aload_n 1, 1), (133, .iload_n 3, 1), (134, .iload_n 2, 1), (135, .invokestatic 46, 3), (138, .goto 9, 3), (141, .aload_n 1, 1), (142, .iload_n 3, 1), (143, .iload_n 2, 1), (144, .invokestatic 50, 3), (147, .iastore, 1), (148, .aload_n 0, 1), (149, .getfield 15, 3), (152, .aload_n 0, 1), (153, .getfield 22, 3), (156, .iload_n 3, 1), (157, .iastore, 1), (158, .aload_n 0, 1), (159, .dup, 1), (160, .getfield 22, 3), (163, .iconst 1, 1), (164, .iadd, 1), (165, .putfield 22, 3), (168, .iload_n 2, 1), (169, .istore_n 3, 1), (170, .goto (-148), 3), (173, .return_, 1)]
def Y_X8_split : mY := (8, ⟨"MastMove$Tokens", "split", "(LMastMove$Tape;)V"⟩, prog_10_method_5_code, 5, none, t_X8_split)
set_option maxRecDepth 100000 in
theorem k_X8_split : chkT prog_10_method_5_code t_X8_split = true := by decide +kernel
def t_X8_numberOf : List mI := [(0, .iconst 0, 1), (1, .istore_n 3, 1), (2, .iload_n 1, 1), (3, .istore 4, 2), (5, .iload 4, 2), (7, .iload_n 2, 1), (8, .if_icmp .ge 29, 3), (11, .iload_n 3, 1), (12, .bipush 10, 2), (14, .imul, 1), (15, .aload_n 0, 1), (16, .iload 4, 2), (18, .invokevirtual 33, 3), (21, .iadd, 1), (22, .bipush 48, 2), (24, .isub, 1), (25, .ldc 53, 2), (27, .invokestatic 54, 3), (30, .istore_n 3, 1), (31, .iinc 4 1, 3), (34, .goto (-29), 3), (37, .iload_n 3, 1), (38, .ldc 60, 2), (40, .if_icmp .le 8, 3), (43, .bipush (-101), 2), (45, .goto 4, 3), (48, .iload_n 3, 1), (49, .ireturn, 1)]
def Y_X8_numberOf : mY := (8, ⟨"MastMove$Tokens", "numberOf", "(LMastMove$Tape;II)I"⟩, prog_10_method_6_code, 5, some .int, t_X8_numberOf)
set_option maxRecDepth 100000 in
theorem k_X8_numberOf : chkT prog_10_method_6_code t_X8_numberOf = true := by decide +kernel
def t_X8_kindOfText : List mI := [(0, .aload_n 0, 1), (1, .iload_n 1, 1), (2, .invokevirtual 33, 3), (5, .invokestatic 40, 3), (8, .ifCond .eq 27, 3), (11, .aload_n 0, 1), (12, .iload_n 1, 1), (13, .iload_n 2, 1), (14, .invokestatic 61, 3), (17, .istore_n 3, 1), (18, .iload_n 3, 1), (19, .bipush (-101), 2), (21, .if_icmp .ne 12, 3), (24, .aload_n 0, 1), (25, .iload_n 1, 1), (26, .iload_n 2, 1), (27, .invokestatic 64, 3), (30, .goto 4, 3), (33, .iload_n 3, 1), (34, .ireturn, 1), (35, .aload_n 0, 1), (36, .iload_n 1, 1), (37, .invokevirtual 33, 3), (40, .invokestatic 67, 3), (43, .ifCond .eq 12, 3), (46, .aload_n 0, 1), (47, .iload_n 1, 1), (48, .invokevirtual 33, 3), (51, .ineg, 1), (52, .goto 5, 3), (55, .bipush (-101), 2), (57, .ireturn, 1)]
def Y_X8_kindOfText : mY := (8, ⟨"MastMove$Tokens", "kindOfText", "(LMastMove$Tape;II)I"⟩, prog_10_method_7_code, 4, some .int, t_X8_kindOfText)
set_option maxRecDepth 100000 in
theorem k_X8_kindOfText : chkT prog_10_method_7_code t_X8_kindOfText = true := by decide +kernel
def t_X8_kindOfFact : List mI := [(0, .aload_n 0, 1), (1, .ldc 70, 2), (3, .iload_n 1, 1), (4, .iload_n 2, 1), (5, .invokevirtual 72, 3), (8, .ifCond .eq 5, 3), (11, .iconst (-1), 1), (12, .ireturn, 1), (13, .aload_n 0, 1), (14, .ldc 78, 2), (16, .iload_n 1, 1), (17, .iload_n 2, 1), (18, .invokevirtual 72, 3), (21, .ifCond .eq 6, 3), (24, .bipush (-2), 2), (26, .ireturn, 1), (27, .aload_n 0, 1), (28, .ldc 80, 2), (30, .iload_n 1, 1), (31, .iload_n 2, 1), (32, .invokevirtual 72, 3), (35, .ifCond .eq 6, 3), (38, .bipush (-3), 2), (40, .ireturn, 1), (41, .aload_n 0, 1), (42, .ldc 82, 2), (44, .iload_n 1, 1), (45, .iload_n 2, 1), (46, .invokevirtual 72, 3), (49, .ifCond .eq 6, 3), (52, .bipush (-4), 2), (54, .ireturn, 1), (55, .aload_n 0, 1), (56, .ldc 84, 2), (58, .iload_n 1, 1), (59, .iload_n 2, 1), (60, .invokevirtual 72, 3), (63, .ifCond .eq 6, 3), (66, .bipush (-5), 2), (68, .ireturn, 1), (69, .aload_n 0, 1), (70, .ldc 86, 2), (72, .iload_n 1, 1), (73, .iload_n 2, 1), (74, .invokevirtual 72, 3), (77, .ifCond .eq 8, 3), (80, .bipush (-6), 2), (82, .goto 5, 3), (85, .bipush (-101), 2), (87, .ireturn, 1)]
def Y_X8_kindOfFact : mY := (8, ⟨"MastMove$Tokens", "kindOfFact", "(LMastMove$Tape;II)I"⟩, prog_10_method_8_code, 3, some .int, t_X8_kindOfFact)
set_option maxRecDepth 100000 in
theorem k_X8_kindOfFact : chkT prog_10_method_8_code t_X8_kindOfFact = true := by decide +kernel
def t_X8_kindOfRuleWord : List mI := [(0, .aload_n 0, 1), (1, .ldc 88, 2), (3, .iload_n 1, 1), (4, .iload_n 2, 1), (5, .invokevirtual 72, 3), (8, .ifCond .eq 6, 3), (11, .bipush (-102), 2), (13, .ireturn, 1), (14, .aload_n 0, 1), (15, .ldc 90, 2), (17, .iload_n 1, 1), (18, .iload_n 2, 1), (19, .invokevirtual 72, 3), (22, .ifCond .eq 6, 3), (25, .bipush (-103), 2), (27, .ireturn, 1), (28, .aload_n 0, 1), (29, .ldc 92, 2), (31, .iload_n 1, 1), (32, .iload_n 2, 1), (33, .invokevirtual 72, 3), (36, .ifCond .eq 6, 3), (39, .bipush (-104), 2), (41, .ireturn, 1), (42, .aload_n 0, 1), (43, .ldc 94, 2), (45, .iload_n 1, 1), (46, .iload_n 2, 1), (47, .invokevirtual 72, 3), (50, .ifCond .eq 8, 3), (53, .bipush (-105), 2), (55, .goto 5, 3), (58, .bipush (-101), 2), (60, .ireturn, 1)]
def Y_X8_kindOfRuleWord : mY := (8, ⟨"MastMove$Tokens", "kindOfRuleWord", "(LMastMove$Tape;II)I"⟩, prog_10_method_9_code, 3, some .int, t_X8_kindOfRuleWord)
set_option maxRecDepth 100000 in
theorem k_X8_kindOfRuleWord : chkT prog_10_method_9_code t_X8_kindOfRuleWord = true := by decide +kernel
def t_X8_isBlank : List mI := [(0, .iload_n 0, 1), (1, .bipush 32, 2), (3, .if_icmp .eq 9, 3), (6, .iload_n 0, 1), (7, .bipush 10, 2), (9, .if_icmp .ne 7, 3), (12, .iconst 1, 1), (13, .goto 4, 3), (16, .iconst 0, 1), (17, .ireturn, 1)]
def Y_X8_isBlank : mY := (8, ⟨"MastMove$Tokens", "isBlank", "(I)Z"⟩, prog_10_method_10_code, 1, some .boolean, t_X8_isBlank)
set_option maxRecDepth 100000 in
theorem k_X8_isBlank : chkT prog_10_method_10_code t_X8_isBlank = true := by decide +kernel
def t_X8_isDigit : List mI := [(0, .iload_n 0, 1), (1, .bipush 48, 2), (3, .if_icmp .lt 13, 3), (6, .iload_n 0, 1), (7, .bipush 57, 2), (9, .if_icmp .gt 7, 3), (12, .iconst 1, 1), (13, .goto 4, 3), (16, .iconst 0, 1), (17, .ireturn, 1)]
def Y_X8_isDigit : mY := (8, ⟨"MastMove$Tokens", "isDigit", "(I)Z"⟩, prog_10_method_11_code, 1, some .boolean, t_X8_isDigit)
set_option maxRecDepth 100000 in
theorem k_X8_isDigit : chkT prog_10_method_11_code t_X8_isDigit = true := by decide +kernel
def t_X8_isLetter : List mI := [(0, .iload_n 0, 1), (1, .bipush 97, 2), (3, .if_icmp .lt 13, 3), (6, .iload_n 0, 1), (7, .bipush 122, 2), (9, .if_icmp .gt 7, 3), (12, .iconst 1, 1), (13, .goto 4, 3), (16, .iconst 0, 1), (17, .ireturn, 1)]
def Y_X8_isLetter : mY := (8, ⟨"MastMove$Tokens", "isLetter", "(I)Z"⟩, prog_10_method_12_code, 1, some .boolean, t_X8_isLetter)
set_option maxRecDepth 100000 in
theorem k_X8_isLetter : chkT prog_10_method_12_code t_X8_isLetter = true := by decide +kernel
def t_X8_isSign : List mI := [(0, .iload_n 0, 1), (1, .tableswitch 109 40 62 #[107, 107, 107, 107, 109, 107, 109, 107, 109, 109, 109, 109, 109, 109, 109, 109, 109, 109, 109, 107, 107, 107, 107], 107), (108, .iconst 1, 1), (109, .ireturn, 1), (110, .iconst 0, 1), (111, .ireturn, 1)]
def Y_X8_isSign : mY := (8, ⟨"MastMove$Tokens", "isSign", "(I)Z"⟩, prog_10_method_13_code, 1, some .boolean, t_X8_isSign)
set_option maxRecDepth 100000 in
theorem k_X8_isSign : chkT prog_10_method_13_code t_X8_isSign = true := by decide +kernel
def t_X9_init : List mI := [(0, .aload_n 0, 1), (1, .invokespecial 3, 3), (4, .aload_n 0, 1), (5, .bipush 10, 2), (7, .newarray .int, 2), (9, .putfield 9, 3), (12, .aload_n 0, 1), (13, .bipush 10, 2), (15, .newarray .int, 2), (17, .putfield 15, 3), (20, .aload_n 0, 1), (21, .bipush 10, 2), (23, .newarray .int, 2), (25, .putfield 18, 3), (28, .aload_n 0, 1), (29, .bipush 10, 2), (31, .newarray .int, 2), (33, .putfield 21, 3), (36, .return_, 1)]
def Y_X9_init : mY := (9, ⟨"MastMove$Tuner", "<init>", "()V"⟩, prog_11_method_1_code, 1, none, t_X9_init)
set_option maxRecDepth 100000 in
theorem k_X9_init : chkT prog_11_method_1_code t_X9_init = true := by decide +kernel
end
section
/-! method tables -/
def t_X9_search : List mI := [(0, .aload_n 0, 1), (1, .aload_n 1, 1), (2, .invokevirtual 24, 3), (5, .iconst 0, 1), (6, .istore_n 2, 1), (7, .iload_n 2, 1), (8, .aload_n 1, 1), (9, .getfield 28, 3), (12, .if_icmp .ge 21, 3), (15, .aload_n 0, 1), (16, .getfield 15, 3), (19, .iload_n 2, 1), (20, .aload_n 0, 1), (21, .aload_n 1, 1), (22, .iload_n 2, 1), (23, .invokevirtual 34, 3), (26, .iastore, 1), (27, .iinc 2 1, 3), (30, .goto (-23), 3), (33, .aload_n 0, 1), (34, .aload_n 1, 1), (35, .getfield 28, 3), (38, .iconst 1, 1), (39, .isub, 1), (40, .invokevirtual 38, 3), (43, .istore_n 2, 1), (44, .iload_n 2, 1), (45, .iconst 1, 1), (46, .if_icmp .eq 5, 3), (49, .iload_n 2, 1), (50, .ireturn, 1), (51, .iconst 0, 1), (52, .istore_n 3, 1), (53, .iconst 0, 1), (54, .istore 4, 2), (56, .iload 4, 2), (58, .aload_n 1, 1), (59, .getfield 28, 3), (62, .if_icmp .ge 38, 3), (65, .aload_n 1, 1), (66, .getfield 42, 3), (69, .iload 4, 2), (71, .aaload, 1), (72, .aload_n 0, 1), (73, .getfield 21, 3), (76, .iload 4, 2), (78, .iaload, 1), (79, .putfield 46, 3), (82, .iload_n 3, 1), (83, .iconst 1, 1), (84, .aload_n 0, 1), (85, .getfield 21, 3), (88, .iload 4, 2), (90, .iaload, 1), (91, .ishl, 1), (92, .ior, 1), (93, .istore_n 3, 1), (94, .iinc 4 1, 3), (97, .goto (-41), 3), (100, .iload_n 3, 1), (101, .invokestatic 51, 3), (104, .ireturn, 1)]
def Y_X9_search : mY := (9, ⟨"MastMove$Tuner", "search", "(LMastMove$Land;)I"⟩, prog_11_method_2_code, 5, some .int, t_X9_search)
set_option maxRecDepth 100000 in
theorem k_X9_search : chkT prog_11_method_2_code t_X9_search = true := by decide +kernel
def t_X9_findNear : List mI := [(0, .aload_n 0, 1), (1, .getfield 9, 3), (4, .iconst 0, 1), (5, .invokestatic 56, 3), (8, .iconst 0, 1), (9, .istore_n 2, 1), (10, .iload_n 2, 1), (11, .aload_n 1, 1), (12, .getfield 62, 3), (15, .if_icmp .ge 91, 3), (18, .aload_n 1, 1), (19, .getfield 65, 3), (22, .iload_n 2, 1), (23, .aaload, 1), (24, .getfield 69, 3), (27, .istore_n 3, 1), (28, .iconst 0, 1), (29, .istore 4, 2), (31, .aload_n 1, 1), (32, .iload_n 3, 1), (33, .invokevirtual 74, 3), (36, .ifCond .eq 64, 3), (39, .iload 4, 2), (41, .bipush 14, 2), (43, .if_icmp .ge 57, 3), (46, .aload_n 1, 1), (47, .iload 4, 2), (49, .aload_n 1, 1), (50, .getfield 65, 3), (53, .iload_n 2, 1), (54, .aaload, 1), (55, .invokevirtual 78, 3), (58, .ifCond .eq 36, 3), (61, .aload_n 0, 1), (62, .getfield 9, 3), (65, .iload_n 3, 1), (66, .dup2, 1), (67, .iaload, 1), (68, .iconst 1, 1), (69, .iload 4, 2), (71, .ishl, 1), (72, .ior, 1), (73, .iastore, 1), (74, .iload 4, 2), (76, .bipush 10, 2), (78, .if_icmp .ge 16, 3), (81, .aload_n 0, 1), (82, .getfield 9, 3), (85, .iload 4, 2), (87, .dup2, 1), (88, .iaload, 1), (89, .iconst 1, 1), (90, .iload_n 3, 1), (91, .ishl, 1), (92, .ior, 1), (93, .iastore, 1), (94, .iinc 4 1, 3), (97, .goto (-66), 3), (100, .iinc 2 1, 3), (103, .goto (-93), 3), (106, .return_, 1)]
def Y_X9_findNear : mY := (9, ⟨"MastMove$Tuner", "findNear", "(LMastMove$Land;)V"⟩, prog_11_method_3_code, 5, none, t_X9_findNear)
set_option maxRecDepth 100000 in
theorem k_X9_findNear : chkT prog_11_method_3_code t_X9_findNear = true := by decide +kernel
def t_X9_bannedFor : List mI := [(0, .aload_n 1, 1), (1, .getfield 42, 3), (4, .iload_n 2, 1), (5, .aaload, 1), (6, .getfield 82, 3), (9, .istore_n 3, 1), (10, .iconst 0, 1), (11, .istore 4, 2), (13, .iconst 0, 1), (14, .istore 5, 2), (16, .iload 5, 2), (18, .bipush 14, 2), (20, .if_icmp .ge 72, 3), (23, .aload_n 1, 1), (24, .getfield 42, 3), (27, .iload 5, 2), (29, .aaload, 1), (30, .astore 6, 2), (32, .iload 5, 2), (34, .bipush 10, 2), (36, .if_icmp .ge 11, 3), (39, .aload 6, 2), (41, .getfield 82, 3), (44, .goto 8, 3), (47, .aload 6, 2), (49, .getfield 85, 3), (52, .istore 7, 2), (54, .aload_n 0, 1), (55, .getfield 9, 3), (58, .iload_n 2, 1), (59, .iaload, 1), (60, .iload 5, 2), (62, .invokestatic 88, 3), (65, .ifCond .eq 21, 3), (68, .iload 7, 2), (70, .iload_n 3, 1), (71, .if_icmp .le 15, 3), (74, .iload 4, 2), (76, .iconst 1, 1), (77, .aload 6, 2), (79, .getfield 92, 3), (82, .ishl, 1), (83, .ior, 1), (84, .istore 4, 2), (86, .iinc 5 1, 3), (89, .goto (-73), 3), (92, .iload 4, 2), (94, .ireturn, 1)]
def Y_X9_bannedFor : mY := (9, ⟨"MastMove$Tuner", "bannedFor", "(LMastMove$Land;I)I"⟩, prog_11_method_4_code, 8, some .int, t_X9_bannedFor)
set_option maxRecDepth 100000 in
theorem k_X9_bannedFor : chkT prog_11_method_4_code t_X9_bannedFor = true := by decide +kernel
def t_X9_tryChannels : List mI := [(0, .iconst 0, 1), (1, .istore_n 2, 1), (2, .aload_n 0, 1), (3, .iload_n 2, 1), (4, .invokevirtual 95, 3), (7, .aload_n 0, 1), (8, .iconst 1, 1), (9, .putfield 99, 3), (12, .aload_n 0, 1), (13, .getfield 99, 3), (16, .sipush 20000, 3), (19, .if_icmp .gt 74, 3), (22, .aload_n 0, 1), (23, .getfield 18, 3), (26, .iload_n 2, 1), (27, .iaload, 1), (28, .aload_n 0, 1), (29, .getfield 21, 3), (32, .iload_n 2, 1), (33, .iaload, 1), (34, .invokestatic 88, 3), (37, .ifCond .eq 28, 3), (40, .aload_n 0, 1), (41, .iload_n 2, 1), (42, .invokevirtual 102, 3), (45, .istore_n 2, 1), (46, .iload_n 2, 1), (47, .ifCond .ge 5, 3), (50, .iconst (-1), 1), (51, .ireturn, 1), (52, .aload_n 0, 1), (53, .getfield 21, 3), (56, .iload_n 2, 1), (57, .dup2, 1), (58, .iaload, 1), (59, .iconst 1, 1), (60, .iadd, 1), (61, .iastore, 1), (62, .goto 18, 3), (65, .iload_n 2, 1), (66, .iload_n 1, 1), (67, .if_icmp .lt 5, 3), (70, .iconst 1, 1), (71, .ireturn, 1), (72, .iinc 2 1, 3), (75, .aload_n 0, 1), (76, .iload_n 2, 1), (77, .invokevirtual 95, 3), (80, .aload_n 0, 1), (81, .dup, 1), (82, .getfield 99, 3), (85, .iconst 1, 1), (86, .iadd, 1), (87, .putfield 99, 3), (90, .goto (-78), 3), (93, .aload_n 0, 1), (94, .sipush 20000, 3), (97, .putfield 99, 3), (100, .bipush (-4), 2), (102, .ireturn, 1)]
def Y_X9_tryChannels : mY := (9, ⟨"MastMove$Tuner", "tryChannels", "(I)I"⟩, prog_11_method_5_code, 3, some .int, t_X9_tryChannels)
set_option maxRecDepth 100000 in
theorem k_X9_tryChannels : chkT prog_11_method_5_code t_X9_tryChannels = true := by decide +kernel
def t_X9_begin : List mI := [(0, .aload_n 0, 1), (1, .getfield 21, 3), (4, .iload_n 1, 1), (5, .iconst 0, 1), (6, .iastore, 1), (7, .aload_n 0, 1), (8, .getfield 18, 3), (11, .iload_n 1, 1), (12, .aload_n 0, 1), (13, .getfield 15, 3), (16, .iload_n 1, 1), (17, .iaload, 1), (18, .iastore, 1), (19, .iconst 0, 1), (20, .istore_n 2, 1), (21, .iload_n 2, 1), (22, .iload_n 1, 1), (23, .if_icmp .ge 39, 3), (26, .aload_n 0, 1), (27, .getfield 9, 3), (30, .iload_n 1, 1), (31, .iaload, 1), (32, .iload_n 2, 1), (33, .invokestatic 88, 3), (36, .ifCond .eq 20, 3), (39, .aload_n 0, 1), (40, .getfield 18, 3), (43, .iload_n 1, 1), (44, .dup2, 1), (45, .iaload, 1), (46, .iconst 1, 1), (47, .aload_n 0, 1), (48, .getfield 21, 3), (51, .iload_n 2, 1), (52, .iaload, 1), (53, .ishl, 1), (54, .ior, 1), (55, .iastore, 1), (56, .iinc 2 1, 3), (59, .goto (-38), 3), (62, .return_, 1)]
def Y_X9_begin : mY := (9, ⟨"MastMove$Tuner", "begin", "(I)V"⟩, prog_11_method_6_code, 3, none, t_X9_begin)
set_option maxRecDepth 100000 in
theorem k_X9_begin : chkT prog_11_method_6_code t_X9_begin = true := by decide +kernel
def t_X9_lastWithMore : List mI := [(0, .iload_n 1, 1), (1, .istore_n 2, 1), (2, .iload_n 2, 1), (3, .ifCond .lt 20, 3), (6, .aload_n 0, 1), (7, .getfield 21, 3), (10, .iload_n 2, 1), (11, .iaload, 1), (12, .bipush 11, 2), (14, .if_icmp .lt 9, 3), (17, .iinc 2 (-1), 3), (20, .goto (-18), 3), (23, .iload_n 2, 1), (24, .ireturn, 1)]
def Y_X9_lastWithMore : mY := (9, ⟨"MastMove$Tuner", "lastWithMore", "(I)I"⟩, prog_11_method_7_code, 3, some .int, t_X9_lastWithMore)
set_option maxRecDepth 100000 in
theorem k_X9_lastWithMore : chkT prog_11_method_7_code t_X9_lastWithMore = true := by decide +kernel
def t_X10_init : List mI := [(0, .aload_n 0, 1), (1, .invokespecial 3, 3), (4, .aload_n 0, 1), (5, .new 9, 3), (8, .dup, 1), (9, .invokespecial 11, 3), (12, .putfield 12, 3), (15, .aload_n 0, 1), (16, .new 16, 3), (19, .dup, 1), (20, .invokespecial 18, 3), (23, .putfield 19, 3), (26, .aload_n 0, 1), (27, .new 23, 3), (30, .dup, 1), (31, .invokespecial 25, 3), (34, .putfield 26, 3), (37, .aload_n 0, 1), (38, .new 30, 3), (41, .dup, 1), (42, .invokespecial 32, 3), (45, .putfield 33, 3), (48, .aload_n 0, 1), (49, .new 37, 3), (52, .dup, 1), (53, .invokespecial 39, 3), (56, .putfield 40, 3), (59, .aload_n 0, 1), (60, .iconst 4, 1), (61, .anewarray 44, 3), (64, .putfield 46, 3), (67, .iconst 0, 1), (68, .istore_n 1, 1), (69, .iload_n 1, 1), (70, .aload_n 0, 1), (71, .getfield 46, 3), (74, .arraylength, 1), (75, .if_icmp .ge 22, 3), (78, .aload_n 0, 1), (79, .getfield 46, 3), (82, .iload_n 1, 1), (83, .new 44, 3), (86, .dup, 1), (87, .invokespecial 50, 3), (90, .aastore, 1), (91, .iinc 1 1, 3), (94, .goto (-25), 3), (97, .aload_n 0, 1), (98, .bipush 6, 2), (100, .newarray .int, 2), (102, .putfield 53, 3), (105, .aload_n 0, 1), (106, .new 51, 3), (109, .dup, 1), (110, .invokespecial 57, 3), (113, .putfield 58, 3), (116, .aload_n 0, 1), (117, .iconst (-1), 1), (118, .putfield 62, 3), (121, .aload_n 0, 1), (122, .iconst 0, 1), (123, .putfield 66, 3), (126, .aload_n 0, 1), (127, .iconst (-1), 1), (128, .putfield 69, 3), (131, .aload_n 0, 1), (132, .iconst 0, 1), (133, .putfield 72, 3), (136, .return_, 1)]
def Y_X10_init : mY := (10, ⟨"MastMove", "<init>", "()V"⟩, prog_1_method_1_code, 2, none, t_X10_init)
set_option maxRecDepth 100000 in
theorem k_X10_init : chkT prog_1_method_1_code t_X10_init = true := by decide +kernel
def t_X10_terms : List mI := [(0, .iload_n 1, 1), (1, .iconst 1, 1), (2, .ldc 76, 2), (4, .invokestatic 77, 3), (7, .ifCond .eq 13, 3), (10, .iload_n 2, 1), (11, .iconst 1, 1), (12, .bipush 100, 2), (14, .invokestatic 77, 3), (17, .ifCond .ne 6, 3), (20, .bipush (-2), 2), (22, .ireturn, 1), (23, .aload_n 0, 1), (24, .getfield 12, 3), (27, .iload_n 1, 1), (28, .putfield 81, 3), (31, .aload_n 0, 1), (32, .getfield 12, 3), (35, .iload_n 2, 1), (36, .putfield 84, 3), (39, .iconst 0, 1), (40, .ireturn, 1)]
def Y_X10_terms : mY := (10, ⟨"MastMove", "terms", "(II)I"⟩, prog_1_method_2_code, 3, some .int, t_X10_terms)
set_option maxRecDepth 100000 in
theorem k_X10_terms : chkT prog_1_method_2_code t_X10_terms = true := by decide +kernel
def t_X10_mast : List mI := [(0, .iload_n 1, 1), (1, .iload_n 2, 1), (2, .iload_n 3, 1), (3, .iload 6, 2), (5, .invokestatic 87, 3), (8, .ifCond .eq 21, 3), (11, .iload 4, 2), (13, .iconst (-1), 1), (14, .if_icmp .eq 18, 3), (17, .aload_n 0, 1), (18, .getfield 12, 3), (21, .iload 4, 2), (23, .invokevirtual 91, 3), (26, .ifCond .ne 6, 3), (29, .bipush (-2), 2), (31, .ireturn, 1), (32, .aload_n 0, 1), (33, .getfield 12, 3), (36, .getfield 95, 3), (39, .bipush 10, 2), (41, .if_icmp .lt 6, 3), (44, .bipush (-3), 2), (46, .ireturn, 1), (47, .aload_n 0, 1), (48, .getfield 69, 3), (51, .iconst (-1), 1), (52, .if_icmp .eq 6, 3), (55, .bipush (-9), 2), (57, .ireturn, 1), (58, .aload_n 0, 1), (59, .getfield 12, 3), (62, .getfield 98, 3), (65, .aload_n 0, 1), (66, .getfield 12, 3), (69, .getfield 95, 3), (72, .aaload, 1), (73, .astore 7, 2), (75, .aload 7, 2), (77, .iload_n 1, 1), (78, .iload_n 2, 1), (79, .iload_n 3, 1), (80, .iload 6, 2), (82, .invokevirtual 102, 3), (85, .aload 7, 2), (87, .iload 4, 2), (89, .putfield 108, 3), (92, .aload 7, 2), (94, .iload 5, 2), (96, .putfield 111, 3), (99, .aload_n 0, 1), (100, .getfield 12, 3), (103, .dup, 1), (104, .getfield 95, 3), (107, .iconst 1, 1), (108, .iadd, 1), (109, .putfield 95, 3), (112, .aload_n 0, 1), (113, .getfield 12, 3), (116, .getfield 95, 3), (119, .iconst 1, 1), (120, .isub, 1), (121, .ireturn, 1)]
def Y_X10_mast : mY := (10, ⟨"MastMove", "mast", "(IIIIZI)I"⟩, prog_1_method_3_code, 8, some .int, t_X10_mast)
set_option maxRecDepth 100000 in
theorem k_X10_mast : chkT prog_1_method_3_code t_X10_mast = true := by decide +kernel
def t_X10_abroad : List mI := [(0, .iload_n 1, 1), (1, .iload_n 2, 1), (2, .iload_n 3, 1), (3, .iload 4, 2), (5, .invokestatic 87, 3), (8, .ifCond .eq 14, 3), (11, .iload 5, 2), (13, .iconst 0, 1), (14, .bipush 52, 2), (16, .invokestatic 77, 3), (19, .ifCond .ne 6, 3), (22, .bipush (-2), 2), (24, .ireturn, 1), (25, .aload_n 0, 1), (26, .getfield 12, 3), (29, .getfield 114, 3), (32, .iconst 4, 1), (33, .if_icmp .lt 6, 3), (36, .bipush (-3), 2), (38, .ireturn, 1), (39, .aload_n 0, 1), (40, .getfield 12, 3), (43, .getfield 98, 3), (46, .bipush 10, 2), (48, .aload_n 0, 1), (49, .getfield 12, 3), (52, .getfield 114, 3), (55, .iadd, 1), (56, .aaload, 1), (57, .astore 6, 2), (59, .aload 6, 2), (61, .iload_n 1, 1), (62, .iload_n 2, 1), (63, .iload_n 3, 1), (64, .iload 4, 2), (66, .invokevirtual 102, 3), (69, .aload 6, 2), (71, .iload 5, 2), (73, .putfield 117, 3), (76, .aload_n 0, 1), (77, .getfield 12, 3), (80, .dup, 1), (81, .getfield 114, 3), (84, .iconst 1, 1), (85, .iadd, 1), (86, .putfield 114, 3), (89, .aload_n 0, 1), (90, .getfield 12, 3), (93, .getfield 114, 3), (96, .iconst 1, 1), (97, .isub, 1), (98, .ireturn, 1)]
def Y_X10_abroad : mY := (10, ⟨"MastMove", "abroad", "(IIIII)I"⟩, prog_1_method_4_code, 7, some .int, t_X10_abroad)
set_option maxRecDepth 100000 in
theorem k_X10_abroad : chkT prog_1_method_4_code t_X10_abroad = true := by decide +kernel
def t_X10_area : List mI := [(0, .iload_n 1, 1), (1, .iload_n 2, 1), (2, .invokestatic 120, 3), (5, .ifCond .eq 13, 3), (8, .iload_n 3, 1), (9, .iconst 0, 1), (10, .ldc 124, 2), (12, .invokestatic 77, 3), (15, .ifCond .ne 6, 3), (18, .bipush (-2), 2), (20, .ireturn, 1), (21, .iload 4, 2), (23, .iconst 0, 1), (24, .iload_n 3, 1), (25, .invokestatic 77, 3), (28, .ifCond .eq 13, 3), (31, .iload 5, 2), (33, .iconst 0, 1), (34, .iload_n 3, 1), (35, .invokestatic 77, 3), (38, .ifCond .ne 6, 3), (41, .bipush (-2), 2), (43, .ireturn, 1), (44, .aload_n 0, 1), (45, .getfield 12, 3), (48, .getfield 125, 3), (51, .bipush 16, 2), (53, .if_icmp .lt 6, 3), (56, .bipush (-3), 2), (58, .ireturn, 1), (59, .aload_n 0, 1), (60, .getfield 12, 3), (63, .getfield 128, 3), (66, .aload_n 0, 1), (67, .getfield 12, 3), (70, .getfield 125, 3), (73, .aaload, 1), (74, .astore 6, 2), (76, .aload 6, 2), (78, .iload_n 1, 1), (79, .putfield 132, 3), (82, .aload 6, 2), (84, .iload_n 2, 1), (85, .putfield 137, 3), (88, .aload 6, 2), (90, .iload_n 3, 1), (91, .putfield 140, 3), (94, .aload 6, 2), (96, .iload 4, 2), (98, .putfield 143, 3), (101, .aload 6, 2), (103, .iload 5, 2), (105, .putfield 146, 3), (108, .aload_n 0, 1), (109, .getfield 12, 3), (112, .dup, 1), (113, .getfield 125, 3), (116, .iconst 1, 1), (117, .iadd, 1), (118, .putfield 125, 3), (121, .aload_n 0, 1), (122, .getfield 12, 3), (125, .getfield 125, 3), (128, .iconst 1, 1), (129, .isub, 1), (130, .ireturn, 1)]
def Y_X10_area : mY := (10, ⟨"MastMove", "area", "(IIIII)I"⟩, prog_1_method_5_code, 7, some .int, t_X10_area)
set_option maxRecDepth 100000 in
theorem k_X10_area : chkT prog_1_method_5_code t_X10_area = true := by decide +kernel
def t_X10_poor : List mI := [(0, .iload_n 1, 1), (1, .invokestatic 149, 3), (4, .ifCond .ne 6, 3), (7, .bipush (-2), 2), (9, .ireturn, 1), (10, .aload_n 0, 1), (11, .getfield 46, 3), (14, .iload_n 1, 1), (15, .aaload, 1), (16, .astore_n 2, 1), (17, .aload_n 2, 1), (18, .invokevirtual 152, 3), (21, .ifCond .eq 6, 3), (24, .bipush (-5), 2), (26, .ireturn, 1), (27, .aload_n 2, 1), (28, .getfield 156, 3), (31, .aload_n 0, 1), (32, .getfield 12, 3), (35, .getfield 125, 3), (38, .if_icmp .ge 6, 3), (41, .bipush (-6), 2), (43, .ireturn, 1), (44, .iconst 0, 1), (45, .istore_n 3, 1), (46, .iload_n 3, 1), (47, .aload_n 0, 1), (48, .getfield 12, 3), (51, .getfield 125, 3), (54, .if_icmp .ge 46, 3), (57, .aload_n 2, 1), (58, .getfield 159, 3), (61, .iload_n 3, 1), (62, .laload, 1), (63, .lconst 0, 1), (64, .lcmp, 1), (65, .ifCond .lt 26, 3), (68, .aload_n 2, 1), (69, .getfield 159, 3), (72, .iload_n 3, 1), (73, .laload, 1), (74, .aload_n 0, 1), (75, .getfield 12, 3), (78, .getfield 128, 3), (81, .iload_n 3, 1), (82, .aaload, 1), (83, .getfield 140, 3), (86, .i2l, 1), (87, .lcmp, 1), (88, .ifCond .le 6, 3), (91, .bipush (-4), 2), (93, .ireturn, 1), (94, .iinc 3 1, 3), (97, .goto (-51), 3), (100, .iconst 0, 1), (101, .istore_n 3, 1), (102, .iload_n 3, 1), (103, .aload_n 0, 1), (104, .getfield 12, 3), (107, .getfield 125, 3), (110, .if_icmp .ge 28, 3), (113, .aload_n 0, 1), (114, .getfield 12, 3), (117, .getfield 128, 3), (120, .iload_n 3, 1), (121, .aaload, 1), (122, .aload_n 2, 1), (123, .getfield 159, 3), (126, .iload_n 3, 1), (127, .laload, 1), (128, .l2i, 1), (129, .putfield 143, 3), (132, .iinc 3 1, 3), (135, .goto (-33), 3), (138, .iconst 0, 1), (139, .ireturn, 1)]
def Y_X10_poor : mY := (10, ⟨"MastMove", "poor", "(I)I"⟩, prog_1_method_6_code, 4, some .int, t_X10_poor)
set_option maxRecDepth 100000 in
theorem k_X10_poor : chkT prog_1_method_6_code t_X10_poor = true := by decide +kernel
def t_X10_aim : List mI := [(0, .aload_n 0, 1), (1, .getfield 12, 3), (4, .iload_n 1, 1), (5, .invokevirtual 163, 3), (8, .ifCond .eq 19, 3), (11, .iload_n 2, 1), (12, .iconst (-1), 1), (13, .if_icmp .eq 17, 3), (16, .aload_n 0, 1), (17, .getfield 12, 3), (20, .iload_n 2, 1), (21, .invokevirtual 91, 3), (24, .ifCond .ne 6, 3), (27, .bipush (-2), 2), (29, .ireturn, 1), (30, .aload_n 0, 1), (31, .getfield 12, 3), (34, .getfield 128, 3), (37, .iload_n 1, 1), (38, .aaload, 1), (39, .getfield 166, 3), (42, .istore_n 3, 1), (43, .aload_n 0, 1), (44, .getfield 12, 3), (47, .getfield 128, 3), (50, .iload_n 1, 1), (51, .aaload, 1), (52, .iload_n 2, 1), (53, .invokevirtual 169, 3), (56, .pop, 1), (57, .iload_n 3, 1), (58, .ireturn, 1)]
def Y_X10_aim : mY := (10, ⟨"MastMove", "aim", "(II)I"⟩, prog_1_method_7_code, 4, some .int, t_X10_aim)
set_option maxRecDepth 100000 in
theorem k_X10_aim : chkT prog_1_method_7_code t_X10_aim = true := by decide +kernel
def t_X10_turn : List mI := [(0, .iconst 0, 1), (1, .istore_n 1, 1), (2, .iconst 0, 1), (3, .istore_n 2, 1), (4, .iload_n 2, 1), (5, .aload_n 0, 1), (6, .getfield 12, 3), (9, .getfield 125, 3), (12, .if_icmp .ge 43, 3), (15, .aload_n 0, 1), (16, .getfield 12, 3), (19, .getfield 128, 3), (22, .iload_n 2, 1), (23, .aaload, 1), (24, .aload_n 0, 1), (25, .getfield 12, 3), (28, .aload_n 0, 1), (29, .getfield 12, 3), (32, .getfield 128, 3), (35, .iload_n 2, 1), (36, .aaload, 1), (37, .invokevirtual 172, 3), (40, .invokevirtual 169, 3), (43, .ifCond .eq 6, 3), (46, .iinc 1 1, 3), (49, .iinc 2 1, 3), (52, .goto (-48), 3), (55, .iload_n 1, 1), (56, .ireturn, 1)]
def Y_X10_turn : mY := (10, ⟨"MastMove", "turn", "()I"⟩, prog_1_method_8_code, 3, some .int, t_X10_turn)
set_option maxRecDepth 100000 in
theorem k_X10_turn : chkT prog_1_method_8_code t_X10_turn = true := by decide +kernel
def t_X10_strength : List mI := [(0, .aload_n 0, 1), (1, .getfield 12, 3), (4, .iload_n 1, 1), (5, .invokevirtual 176, 3), (8, .ifCond .eq 14, 3), (11, .aload_n 0, 1), (12, .getfield 12, 3), (15, .iload_n 2, 1), (16, .invokevirtual 163, 3), (19, .ifCond .ne 6, 3), (22, .bipush (-2), 2), (24, .ireturn, 1), (25, .aload_n 0, 1), (26, .getfield 12, 3), (29, .getfield 98, 3), (32, .iload_n 1, 1), (33, .aaload, 1), (34, .aload_n 0, 1), (35, .getfield 12, 3), (38, .getfield 128, 3), (41, .iload_n 2, 1), (42, .aaload, 1), (43, .invokevirtual 179, 3), (46, .ireturn, 1)]
def Y_X10_strength : mY := (10, ⟨"MastMove", "strength", "(II)I"⟩, prog_1_method_9_code, 3, some .int, t_X10_strength)
set_option maxRecDepth 100000 in
theorem k_X10_strength : chkT prog_1_method_9_code t_X10_strength = true := by decide +kernel
def t_X10_plan : List mI := [(0, .iload_n 1, 1), (1, .iconst 1, 1), (2, .iconst 3, 1), (3, .invokestatic 77, 3), (6, .ifCond .ne 6, 3), (9, .bipush (-2), 2), (11, .ireturn, 1), (12, .aload_n 0, 1), (13, .getfield 12, 3), (16, .getfield 182, 3), (19, .ifCond .le 6, 3), (22, .bipush (-9), 2), (24, .ireturn, 1), (25, .aload_n 0, 1), (26, .invokevirtual 185, 3), (29, .iconst 0, 1), (30, .istore 4, 2), (32, .iload 4, 2), (34, .aload_n 0, 1), (35, .getfield 12, 3), (38, .getfield 95, 3), (41, .if_icmp .ge 23, 3), (44, .aload_n 0, 1), (45, .getfield 12, 3), (48, .getfield 98, 3), (51, .iload 4, 2), (53, .aaload, 1), (54, .iconst (-1), 1), (55, .putfield 188, 3), (58, .iinc 4 1, 3), (61, .goto (-29), 3), (64, .aload_n 0, 1), (65, .aload_n 0, 1), (66, .getfield 19, 3), (69, .aload_n 0, 1), (70, .getfield 12, 3), (73, .iload_n 1, 1), (74, .lload_n 2, 1), (75, .invokevirtual 189, 3), (78, .putfield 69, 3), (81, .aload_n 0, 1), (82, .getfield 69, 3), (85, .ireturn, 1)]
def Y_X10_plan : mY := (10, ⟨"MastMove", "plan", "(IJ)I"⟩, prog_1_method_10_code, 5, some .int, t_X10_plan)
set_option maxRecDepth 100000 in
theorem k_X10_plan : chkT prog_1_method_10_code t_X10_plan = true := by decide +kernel
def t_X10_weekOf : List mI := [(0, .aload_n 0, 1), (1, .getfield 12, 3), (4, .iload_n 1, 1), (5, .invokevirtual 91, 3), (8, .ifCond .eq 18, 3), (11, .aload_n 0, 1), (12, .getfield 12, 3), (15, .getfield 98, 3), (18, .iload_n 1, 1), (19, .aaload, 1), (20, .getfield 188, 3), (23, .goto 5, 3), (26, .bipush (-2), 2), (28, .ireturn, 1)]
def Y_X10_weekOf : mY := (10, ⟨"MastMove", "weekOf", "(I)I"⟩, prog_1_method_11_code, 2, some .int, t_X10_weekOf)
set_option maxRecDepth 100000 in
theorem k_X10_weekOf : chkT prog_1_method_11_code t_X10_weekOf = true := by decide +kernel
def t_X10_channels : List mI := [(0, .aload_n 0, 1), (1, .getfield 69, 3), (4, .iconst (-1), 1), (5, .if_icmp .eq 13, 3), (8, .aload_n 0, 1), (9, .getfield 12, 3), (12, .getfield 182, 3), (15, .ifCond .le 6, 3), (18, .bipush (-9), 2), (20, .ireturn, 1), (21, .aload_n 0, 1), (22, .invokevirtual 185, 3), (25, .aload_n 0, 1), (26, .getfield 26, 3), (29, .aload_n 0, 1), (30, .getfield 12, 3), (33, .invokevirtual 193, 3), (36, .istore_n 1, 1), (37, .aload_n 0, 1), (38, .iload_n 1, 1), (39, .ifCond .le 7, 3), (42, .iconst 1, 1), (43, .goto 4, 3), (46, .iconst 0, 1), (47, .putfield 72, 3), (50, .iload_n 1, 1), (51, .ireturn, 1)]
def Y_X10_channels : mY := (10, ⟨"MastMove", "channels", "()I"⟩, prog_1_method_12_code, 2, some .int, t_X10_channels)
set_option maxRecDepth 100000 in
theorem k_X10_channels : chkT prog_1_method_12_code t_X10_channels = true := by decide +kernel
def t_X10_channelOf : List mI := [(0, .aload_n 0, 1), (1, .getfield 12, 3), (4, .iload_n 1, 1), (5, .invokevirtual 91, 3), (8, .ifCond .eq 18, 3), (11, .aload_n 0, 1), (12, .getfield 12, 3), (15, .getfield 98, 3), (18, .iload_n 1, 1), (19, .aaload, 1), (20, .getfield 197, 3), (23, .goto 5, 3), (26, .bipush (-2), 2), (28, .ireturn, 1)]
def Y_X10_channelOf : mY := (10, ⟨"MastMove", "channelOf", "(I)I"⟩, prog_1_method_13_code, 2, some .int, t_X10_channelOf)
set_option maxRecDepth 100000 in
theorem k_X10_channelOf : chkT prog_1_method_13_code t_X10_channelOf = true := by decide +kernel
def t_X10_feed : List mI := [(0, .aload_n 0, 1), (1, .getfield 33, 3), (4, .iconst 5, 1), (5, .invokevirtual 200, 3), (8, .ifCond .ne 5, 3), (11, .iconst (-1), 1), (12, .ireturn, 1), (13, .aload_n 0, 1), (14, .getfield 33, 3), (17, .iload_n 1, 1), (18, .invokevirtual 203, 3), (21, .aload_n 0, 1), (22, .getfield 33, 3), (25, .iload_n 2, 1), (26, .invokevirtual 203, 3), (29, .aload_n 0, 1), (30, .getfield 33, 3), (33, .iload_n 3, 1), (34, .invokevirtual 203, 3), (37, .aload_n 0, 1), (38, .getfield 33, 3), (41, .iload 4, 2), (43, .invokevirtual 203, 3), (46, .aload_n 0, 1), (47, .getfield 33, 3), (50, .iload 5, 2), (52, .invokevirtual 203, 3), (55, .aload_n 0, 1), (56, .getfield 33, 3), (59, .getfield 207, 3), (62, .ireturn, 1)]
def Y_X10_feed : mY := (10, ⟨"MastMove", "feed", "(IIIII)I"⟩, prog_1_method_14_code, 6, some .int, t_X10_feed)
set_option maxRecDepth 100000 in
theorem k_X10_feed : chkT prog_1_method_14_code t_X10_feed = true := by decide +kernel
def t_X10_end : List mI := [(0, .iload_n 1, 1), (1, .iconst 0, 1), (2, .aload_n 0, 1), (3, .getfield 33, 3), (6, .getfield 207, 3), (9, .invokestatic 77, 3), (12, .ifCond .ne 5, 3), (15, .iconst (-1), 1), (16, .ireturn, 1), (17, .aload_n 0, 1), (18, .getfield 33, 3), (21, .iload_n 1, 1), (22, .putfield 207, 3), (25, .iload_n 1, 1), (26, .ireturn, 1)]
def Y_X10_end : mY := (10, ⟨"MastMove", "end", "(I)I"⟩, prog_1_method_15_code, 2, some .int, t_X10_end)
set_option maxRecDepth 100000 in
theorem k_X10_end : chkT prog_1_method_15_code t_X10_end = true := by decide +kernel
def t_X10_law : List mI := [(0, .aload_n 0, 1), (1, .aload_n 0, 1), (2, .getfield 40, 3), (5, .aload_n 0, 1), (6, .getfield 33, 3), (9, .invokevirtual 210, 3), (12, .putfield 62, 3), (15, .aload_n 0, 1), (16, .getfield 33, 3), (19, .iconst 0, 1), (20, .putfield 207, 3), (23, .aload_n 0, 1), (24, .getfield 62, 3), (27, .iconst (-1), 1), (28, .if_icmp .eq 6, 3), (31, .bipush (-4), 2), (33, .ireturn, 1), (34, .aload_n 0, 1), (35, .aload_n 0, 1), (36, .getfield 40, 3), (39, .aload_n 0, 1), (40, .getfield 58, 3), (43, .invokevirtual 214, 3), (46, .putfield 58, 3), (49, .aload_n 0, 1), (50, .getfield 58, 3), (53, .getfield 218, 3), (56, .ireturn, 1)]
def Y_X10_law : mY := (10, ⟨"MastMove", "law", "()I"⟩, prog_1_method_16_code, 1, some .int, t_X10_law)
set_option maxRecDepth 100000 in
theorem k_X10_law : chkT prog_1_method_16_code t_X10_law = true := by decide +kernel
def t_X10_fault : List mI := [(0, .aload_n 0, 1), (1, .getfield 62, 3), (4, .ireturn, 1)]
def Y_X10_fault : mY := (10, ⟨"MastMove", "fault", "()I"⟩, prog_1_method_17_code, 1, some .int, t_X10_fault)
set_option maxRecDepth 100000 in
theorem k_X10_fault : chkT prog_1_method_17_code t_X10_fault = true := by decide +kernel
def t_X10_deliver : List mI := [(0, .iload_n 1, 1), (1, .iconst 0, 1), (2, .ldc 76, 2), (4, .invokestatic 77, 3), (7, .ifCond .eq 14, 3), (10, .iload_n 1, 1), (11, .ldc 221, 2), (13, .aload_n 0, 1), (14, .getfield 66, 3), (17, .isub, 1), (18, .if_icmp .le 6, 3), (21, .bipush (-2), 2), (23, .ireturn, 1), (24, .aload_n 0, 1), (25, .dup, 1), (26, .getfield 66, 3), (29, .iload_n 1, 1), (30, .iadd, 1), (31, .putfield 66, 3), (34, .aload_n 0, 1), (35, .getfield 66, 3), (38, .ireturn, 1)]
def Y_X10_deliver : mY := (10, ⟨"MastMove", "deliver", "(I)I"⟩, prog_1_method_18_code, 2, some .int, t_X10_deliver)
set_option maxRecDepth 100000 in
theorem k_X10_deliver : chkT prog_1_method_18_code t_X10_deliver = true := by decide +kernel
def t_X10_go : List mI := [(0, .aload_n 0, 1), (1, .getfield 12, 3), (4, .getfield 182, 3), (7, .bipush 52, 2), (9, .if_icmp .ge 18, 3), (12, .aload_n 0, 1), (13, .getfield 69, 3), (16, .iconst (-1), 1), (17, .if_icmp .eq 10, 3), (20, .aload_n 0, 1), (21, .getfield 72, 3), (24, .ifCond .ne 6, 3), (27, .bipush (-9), 2), (29, .ireturn, 1), (30, .aload_n 0, 1), (31, .invokevirtual 222, 3), (34, .iconst 0, 1), (35, .istore_n 1, 1), (36, .iload_n 1, 1), (37, .aload_n 0, 1), (38, .getfield 12, 3), (41, .getfield 95, 3), (44, .if_icmp .ge 44, 3), (47, .aload_n 0, 1), (48, .getfield 12, 3), (51, .getfield 98, 3), (54, .iload_n 1, 1), (55, .aaload, 1), (56, .getfield 188, 3), (59, .aload_n 0, 1), (60, .getfield 12, 3), (63, .getfield 182, 3), (66, .if_icmp .ne 16, 3), (69, .aload_n 0, 1), (70, .getfield 12, 3), (73, .getfield 98, 3), (76, .iload_n 1, 1), (77, .aaload, 1), (78, .iconst 1, 1), (79, .putfield 225, 3), (82, .iinc 1 1, 3), (85, .goto (-49), 3), (88, .aload_n 0, 1), (89, .getfield 12, 3), (92, .dup, 1), (93, .getfield 182, 3), (96, .iconst 1, 1), (97, .iadd, 1), (98, .putfield 182, 3), (101, .aload_n 0, 1), (102, .getfield 12, 3), (105, .getfield 182, 3), (108, .ireturn, 1)]
def Y_X10_go : mY := (10, ⟨"MastMove", "go", "()I"⟩, prog_1_method_19_code, 2, some .int, t_X10_go)
set_option maxRecDepth 100000 in
theorem k_X10_go : chkT prog_1_method_19_code t_X10_go = true := by decide +kernel
def t_X10_fail : List mI := [(0, .aload_n 0, 1), (1, .getfield 12, 3), (4, .iload_n 1, 1), (5, .invokevirtual 91, 3), (8, .ifCond .eq 19, 3), (11, .aload_n 0, 1), (12, .getfield 12, 3), (15, .getfield 98, 3), (18, .iload_n 1, 1), (19, .aaload, 1), (20, .getfield 228, 3), (23, .iload_n 2, 1), (24, .if_icmp .ne 5, 3), (27, .iconst 0, 1), (28, .ireturn, 1), (29, .aload_n 0, 1), (30, .getfield 12, 3), (33, .getfield 98, 3), (36, .iload_n 1, 1), (37, .aaload, 1), (38, .iload_n 2, 1), (39, .putfield 228, 3), (42, .iconst 1, 1), (43, .ireturn, 1)]
def Y_X10_fail : mY := (10, ⟨"MastMove", "fail", "(IZ)Z"⟩, prog_1_method_20_code, 3, some .boolean, t_X10_fail)
set_option maxRecDepth 100000 in
theorem k_X10_fail : chkT prog_1_method_20_code t_X10_fail = true := by decide +kernel
def t_X10_on : List mI := [(0, .aload_n 0, 1), (1, .getfield 12, 3), (4, .iload_n 1, 1), (5, .invokevirtual 91, 3), (8, .ifCond .eq 17, 3), (11, .aload_n 0, 1), (12, .getfield 12, 3), (15, .iload_n 1, 1), (16, .invokevirtual 231, 3), (19, .invokestatic 234, 3), (22, .goto 5, 3), (25, .bipush (-2), 2), (27, .ireturn, 1)]
def Y_X10_on : mY := (10, ⟨"MastMove", "on", "(I)I"⟩, prog_1_method_21_code, 2, some .int, t_X10_on)
set_option maxRecDepth 100000 in
theorem k_X10_on : chkT prog_1_method_21_code t_X10_on = true := by decide +kernel
def t_X10_picture : List mI := [(0, .aload_n 0, 1), (1, .getfield 12, 3), (4, .iload_n 1, 1), (5, .invokevirtual 163, 3), (8, .ifCond .eq 22, 3), (11, .aload_n 0, 1), (12, .getfield 12, 3), (15, .aload_n 0, 1), (16, .getfield 12, 3), (19, .getfield 128, 3), (22, .iload_n 1, 1), (23, .aaload, 1), (24, .invokevirtual 238, 3), (27, .goto 5, 3), (30, .bipush (-2), 2), (32, .ireturn, 1)]
def Y_X10_picture : mY := (10, ⟨"MastMove", "picture", "(I)I"⟩, prog_1_method_22_code, 2, some .int, t_X10_picture)
set_option maxRecDepth 100000 in
theorem k_X10_picture : chkT prog_1_method_22_code t_X10_picture = true := by decide +kernel
def t_X10_snow : List mI := [(0, .aload_n 0, 1), (1, .getfield 12, 3), (4, .iload_n 1, 1), (5, .invokevirtual 163, 3), (8, .ifCond .eq 22, 3), (11, .aload_n 0, 1), (12, .getfield 12, 3), (15, .aload_n 0, 1), (16, .getfield 12, 3), (19, .getfield 128, 3), (22, .iload_n 1, 1), (23, .aaload, 1), (24, .invokevirtual 241, 3), (27, .goto 5, 3), (30, .bipush (-2), 2), (32, .ireturn, 1)]
def Y_X10_snow : mY := (10, ⟨"MastMove", "snow", "(I)I"⟩, prog_1_method_23_code, 2, some .int, t_X10_snow)
set_option maxRecDepth 100000 in
theorem k_X10_snow : chkT prog_1_method_23_code t_X10_snow = true := by decide +kernel
def t_X10_hurt : List mI := [(0, .aload_n 0, 1), (1, .getfield 12, 3), (4, .iload_n 1, 1), (5, .invokevirtual 163, 3), (8, .ifCond .eq 22, 3), (11, .aload_n 0, 1), (12, .getfield 12, 3), (15, .aload_n 0, 1), (16, .getfield 12, 3), (19, .getfield 128, 3), (22, .iload_n 1, 1), (23, .aaload, 1), (24, .invokevirtual 244, 3), (27, .goto 4, 3), (30, .iconst (-1), 1), (31, .ireturn, 1)]
def Y_X10_hurt : mY := (10, ⟨"MastMove", "hurt", "(I)I"⟩, prog_1_method_24_code, 2, some .int, t_X10_hurt)
set_option maxRecDepth 100000 in
theorem k_X10_hurt : chkT prog_1_method_24_code t_X10_hurt = true := by decide +kernel
def t_X10_blame : List mI := [(0, .iload_n 1, 1), (1, .aload_n 0, 1), (2, .getfield 12, 3), (5, .getfield 125, 3), (8, .ishr, 1), (9, .ifCond .eq 6, 3), (12, .bipush (-2), 2), (14, .ireturn, 1), (15, .iconst 0, 1), (16, .istore_n 2, 1), (17, .iconst 0, 1), (18, .istore_n 3, 1), (19, .iconst 0, 1), (20, .istore 4, 2), (22, .iload 4, 2), (24, .aload_n 0, 1), (25, .getfield 12, 3), (28, .getfield 125, 3), (31, .if_icmp .ge 62, 3), (34, .aload_n 0, 1), (35, .getfield 12, 3), (38, .getfield 128, 3), (41, .iload 4, 2), (43, .aaload, 1), (44, .getfield 166, 3), (47, .istore 5, 2), (49, .iload 5, 2), (51, .iconst (-1), 1), (52, .if_icmp .eq 22, 3), (55, .iload_n 1, 1), (56, .iload 4, 2), (58, .invokestatic 247, 3), (61, .ifCond .eq 13, 3), (64, .iload_n 2, 1), (65, .iconst 1, 1), (66, .iload 5, 2), (68, .ishl, 1), (69, .ior, 1), (70, .istore_n 2, 1), (71, .goto 16, 3), (74, .iload 5, 2), (76, .iconst (-1), 1), (77, .if_icmp .eq 10, 3), (80, .iload_n 3, 1), (81, .iconst 1, 1), (82, .iload 5, 2), (84, .ishl, 1), (85, .ior, 1), (86, .istore_n 3, 1), (87, .iinc 4 1, 3), (90, .goto (-68), 3), (93, .iload_n 2, 1), (94, .iload_n 3, 1), (95, .iand, 1), (96, .ifCond .ne 7, 3), (99, .iload_n 2, 1), (100, .goto 4, 3), (103, .iconst (-1), 1), (104, .ireturn, 1)]
def Y_X10_blame : mY := (10, ⟨"MastMove", "blame", "(I)I"⟩, prog_1_method_25_code, 6, some .int, t_X10_blame)
set_option maxRecDepth 100000 in
theorem k_X10_blame : chkT prog_1_method_25_code t_X10_blame = true := by decide +kernel
def t_X10_mastOf : List mI := [(0, .aload_n 0, 1), (1, .getfield 12, 3), (4, .iload_n 1, 1), (5, .invokevirtual 91, 3), (8, .ifCond .eq 19, 3), (11, .aload_n 0, 1), (12, .getfield 12, 3), (15, .getfield 98, 3), (18, .iload_n 1, 1), (19, .aaload, 1), (20, .iload_n 2, 1), (21, .invokevirtual 250, 3), (24, .goto 5, 3), (27, .bipush (-2), 2), (29, .ireturn, 1)]
def Y_X10_mastOf : mY := (10, ⟨"MastMove", "mastOf", "(II)I"⟩, prog_1_method_26_code, 3, some .int, t_X10_mastOf)
set_option maxRecDepth 100000 in
theorem k_X10_mastOf : chkT prog_1_method_26_code t_X10_mastOf = true := by decide +kernel
def t_X10_areaOf : List mI := [(0, .aload_n 0, 1), (1, .getfield 12, 3), (4, .iload_n 1, 1), (5, .invokevirtual 163, 3), (8, .ifCond .eq 19, 3), (11, .aload_n 0, 1), (12, .getfield 12, 3), (15, .getfield 128, 3), (18, .iload_n 1, 1), (19, .aaload, 1), (20, .iload_n 2, 1), (21, .invokevirtual 254, 3), (24, .goto 5, 3), (27, .bipush (-2), 2), (29, .ireturn, 1)]
def Y_X10_areaOf : mY := (10, ⟨"MastMove", "areaOf", "(II)I"⟩, prog_1_method_27_code, 3, some .int, t_X10_areaOf)
set_option maxRecDepth 100000 in
theorem k_X10_areaOf : chkT prog_1_method_27_code t_X10_areaOf = true := by decide +kernel
def t_X10_count : List mI := [(0, .iload_n 1, 1), (1, .tableswitch 138 0 10 #[59, 67, 75, 83, 91, 96, 104, 112, 120, 125, 130], 59), (60, .aload_n 0, 1), (61, .getfield 12, 3), (64, .getfield 182, 3), (67, .ireturn, 1), (68, .aload_n 0, 1), (69, .getfield 12, 3), (72, .getfield 95, 3), (75, .ireturn, 1), (76, .aload_n 0, 1), (77, .getfield 12, 3), (80, .getfield 114, 3), (83, .ireturn, 1), (84, .aload_n 0, 1), (85, .getfield 12, 3), (88, .getfield 125, 3), (91, .ireturn, 1), (92, .aload_n 0, 1), (93, .getfield 66, 3), (96, .ireturn, 1), (97, .aload_n 0, 1), (98, .getfield 58, 3), (101, .getfield 218, 3), (104, .ireturn, 1), (105, .aload_n 0, 1), (106, .getfield 33, 3), (109, .getfield 207, 3), (112, .ireturn, 1), (113, .aload_n 0, 1), (114, .getfield 12, 3), (117, .invokevirtual 255, 3), (120, .ireturn, 1), (121, .aload_n 0, 1), (122, .invokevirtual 259, 3), (125, .ireturn, 1), (126, .aload_n 0, 1), (127, .getfield 69, 3), (130, .ireturn, 1), (131, .aload_n 0, 1), (132, .getfield 26, 3), (135, .getfield 262, 3), (138, .ireturn, 1), (139, .iconst (-1), 1), (140, .ireturn, 1)]
def Y_X10_count : mY := (10, ⟨"MastMove", "count", "(I)I"⟩, prog_1_method_28_code, 2, some .int, t_X10_count)
set_option maxRecDepth 100000 in
theorem k_X10_count : chkT prog_1_method_28_code t_X10_count = true := by decide +kernel
def t_X10_row : List mI := [(0, .iload_n 1, 1), (1, .invokestatic 149, 3), (4, .ifCond .eq 18, 3), (7, .iload_n 2, 1), (8, .iconst 0, 1), (9, .iconst 3, 1), (10, .invokestatic 77, 3), (13, .ifCond .eq 9, 3), (16, .iload_n 3, 1), (17, .bipush 60, 2), (19, .if_icmp .le 6, 3), (22, .bipush (-2), 2), (24, .ireturn, 1), (25, .iload_n 3, 1), (26, .ifCond .ge 6, 3), (29, .bipush (-3), 2), (31, .ireturn, 1), (32, .aload_n 0, 1), (33, .getfield 46, 3), (36, .iload_n 1, 1), (37, .aaload, 1), (38, .iload_n 2, 1), (39, .iload_n 3, 1), (40, .invokevirtual 265, 3), (43, .iconst 0, 1), (44, .ireturn, 1)]
def Y_X10_row : mY := (10, ⟨"MastMove", "row", "(III)I"⟩, prog_1_method_29_code, 4, some .int, t_X10_row)
set_option maxRecDepth 100000 in
theorem k_X10_row : chkT prog_1_method_29_code t_X10_row = true := by decide +kernel
def t_X10_tear : List mI := [(0, .iload_n 1, 1), (1, .invokestatic 149, 3), (4, .ifCond .eq 15, 3), (7, .aload_n 0, 1), (8, .getfield 46, 3), (11, .iload_n 1, 1), (12, .aaload, 1), (13, .invokevirtual 152, 3), (16, .ifCond .eq 5, 3), (19, .iconst 0, 1), (20, .ireturn, 1), (21, .aload_n 0, 1), (22, .getfield 46, 3), (25, .iload_n 1, 1), (26, .aaload, 1), (27, .iconst (-1), 1), (28, .putfield 156, 3), (31, .iconst 1, 1), (32, .ireturn, 1)]
def Y_X10_tear : mY := (10, ⟨"MastMove", "tear", "(I)Z"⟩, prog_1_method_30_code, 2, some .boolean, t_X10_tear)
set_option maxRecDepth 100000 in
theorem k_X10_tear : chkT prog_1_method_30_code t_X10_tear = true := by decide +kernel
def t_X10_write : List mI := [(0, .iload_n 1, 1), (1, .invokestatic 149, 3), (4, .ifCond .ne 6, 3), (7, .bipush (-2), 2), (9, .ireturn, 1), (10, .aload_n 0, 1), (11, .getfield 46, 3), (14, .iload_n 1, 1), (15, .aaload, 1), (16, .astore 5, 2), (18, .aload 5, 2), (20, .invokevirtual 152, 3), (23, .ifCond .eq 6, 3), (26, .bipush (-5), 2), (28, .ireturn, 1), (29, .iload_n 2, 1), (30, .iconst 0, 1), (31, .aload 5, 2), (33, .getfield 156, 3), (36, .iconst 1, 1), (37, .isub, 1), (38, .invokestatic 77, 3), (41, .ifCond .ne 6, 3), (44, .bipush (-6), 2), (46, .ireturn, 1), (47, .aload 5, 2), (49, .getfield 159, 3), (52, .iload_n 2, 1), (53, .aload 5, 2), (55, .lload_n 3, 1), (56, .invokevirtual 269, 3), (59, .lastore, 1), (60, .iconst 0, 1), (61, .ireturn, 1)]
def Y_X10_write : mY := (10, ⟨"MastMove", "write", "(IIJ)I"⟩, prog_1_method_31_code, 6, some .int, t_X10_write)
set_option maxRecDepth 100000 in
theorem k_X10_write : chkT prog_1_method_31_code t_X10_write = true := by decide +kernel
def t_X10_paste : List mI := [(0, .iload_n 1, 1), (1, .invokestatic 149, 3), (4, .ifCond .eq 10, 3), (7, .iload_n 3, 1), (8, .invokestatic 149, 3), (11, .ifCond .ne 6, 3), (14, .bipush (-2), 2), (16, .ireturn, 1), (17, .aload_n 0, 1), (18, .getfield 46, 3), (21, .iload_n 1, 1), (22, .aaload, 1), (23, .astore 6, 2), (25, .aload_n 0, 1), (26, .getfield 46, 3), (29, .iload_n 3, 1), (30, .aaload, 1), (31, .astore 7, 2), (33, .aload 6, 2), (35, .invokevirtual 152, 3), (38, .ifCond .ne 11, 3), (41, .aload 7, 2), (43, .invokevirtual 152, 3), (46, .ifCond .eq 6, 3), (49, .bipush (-5), 2), (51, .ireturn, 1), (52, .aload 6, 2), (54, .getfield 273, 3), (57, .aload 7, 2), (59, .getfield 273, 3), (62, .if_icmp .eq 6, 3), (65, .bipush (-7), 2), (67, .ireturn, 1), (68, .aload 6, 2), (70, .iload_n 2, 1), (71, .iload 5, 2), (73, .invokevirtual 276, 3), (76, .ifCond .eq 15, 3), (79, .aload 7, 2), (81, .iload 4, 2), (83, .iload 5, 2), (85, .invokevirtual 276, 3), (88, .ifCond .ne 6, 3), (91, .bipush (-6), 2), (93, .ireturn, 1), (94, .aload 6, 2), (96, .getfield 159, 3), (99, .iload_n 2, 1), (100, .aload 7, 2), (102, .getfield 159, 3), (105, .iload 4, 2), (107, .iload 5, 2), (109, .invokestatic 279, 3), (112, .iconst 0, 1), (113, .ireturn, 1)]
def Y_X10_paste : mY := (10, ⟨"MastMove", "paste", "(IIIII)I"⟩, prog_1_method_32_code, 8, some .int, t_X10_paste)
set_option maxRecDepth 100000 in
theorem k_X10_paste : chkT prog_1_method_32_code t_X10_paste = true := by decide +kernel
def t_X10_isWithin : List mI := [(0, .iload_n 0, 1), (1, .iload_n 1, 1), (2, .if_icmp .lt 12, 3), (5, .iload_n 0, 1), (6, .iload_n 2, 1), (7, .if_icmp .gt 7, 3), (10, .iconst 1, 1), (11, .goto 4, 3), (14, .iconst 0, 1), (15, .ireturn, 1)]
def Y_X10_isWithin : mY := (10, ⟨"MastMove", "isWithin", "(III)Z"⟩, prog_1_method_33_code, 3, some .boolean, t_X10_isWithin)
set_option maxRecDepth 100000 in
theorem k_X10_isWithin : chkT prog_1_method_33_code t_X10_isWithin = true := by decide +kernel
def t_X10_isIn : List mI := [(0, .iload_n 0, 1), (1, .iload_n 1, 1), (2, .ishr, 1), (3, .iconst 1, 1), (4, .iand, 1), (5, .ifCond .eq 7, 3), (8, .iconst 1, 1), (9, .goto 4, 3), (12, .iconst 0, 1), (13, .ireturn, 1)]
def Y_X10_isIn : mY := (10, ⟨"MastMove", "isIn", "(II)Z"⟩, prog_1_method_34_code, 2, some .boolean, t_X10_isIn)
set_option maxRecDepth 100000 in
theorem k_X10_isIn : chkT prog_1_method_34_code t_X10_isIn = true := by decide +kernel
def t_X10_asNumber : List mI := [(0, .iload_n 0, 1), (1, .ifCond .eq 7, 3), (4, .iconst 1, 1), (5, .goto 4, 3), (8, .iconst 0, 1), (9, .ireturn, 1)]
def Y_X10_asNumber : mY := (10, ⟨"MastMove", "asNumber", "(Z)I"⟩, prog_1_method_35_code, 1, some .int, t_X10_asNumber)
set_option maxRecDepth 100000 in
theorem k_X10_asNumber : chkT prog_1_method_35_code t_X10_asNumber = true := by decide +kernel
def t_X10_isSlot : List mI := [(0, .iload_n 0, 1), (1, .iconst 0, 1), (2, .iconst 3, 1), (3, .invokestatic 77, 3), (6, .ireturn, 1)]
def Y_X10_isSlot : mY := (10, ⟨"MastMove", "isSlot", "(I)Z"⟩, prog_1_method_36_code, 1, some .boolean, t_X10_isSlot)
set_option maxRecDepth 100000 in
theorem k_X10_isSlot : chkT prog_1_method_36_code t_X10_isSlot = true := by decide +kernel
def t_X10_isPlace : List mI := [(0, .iload_n 0, 1), (1, .iconst 0, 1), (2, .bipush 100, 2), (4, .invokestatic 77, 3), (7, .ifCond .eq 17, 3), (10, .iload_n 1, 1), (11, .iconst 0, 1), (12, .bipush 100, 2), (14, .invokestatic 77, 3), (17, .ifCond .eq 7, 3), (20, .iconst 1, 1), (21, .goto 4, 3), (24, .iconst 0, 1), (25, .ireturn, 1)]
def Y_X10_isPlace : mY := (10, ⟨"MastMove", "isPlace", "(II)Z"⟩, prog_1_method_37_code, 2, some .boolean, t_X10_isPlace)
set_option maxRecDepth 100000 in
theorem k_X10_isPlace : chkT prog_1_method_37_code t_X10_isPlace = true := by decide +kernel
def t_X10_isFitSender : List mI := [(0, .iload_n 0, 1), (1, .iload_n 1, 1), (2, .invokestatic 120, 3), (5, .ifCond .eq 28, 3), (8, .iload_n 2, 1), (9, .iconst 1, 1), (10, .sipush 10000, 3), (13, .invokestatic 77, 3), (16, .ifCond .eq 17, 3), (19, .iload_n 3, 1), (20, .iconst 0, 1), (21, .bipush 11, 2), (23, .invokestatic 77, 3), (26, .ifCond .eq 7, 3), (29, .iconst 1, 1), (30, .goto 4, 3), (33, .iconst 0, 1), (34, .ireturn, 1)]
def Y_X10_isFitSender : mY := (10, ⟨"MastMove", "isFitSender", "(IIII)Z"⟩, prog_1_method_38_code, 4, some .boolean, t_X10_isFitSender)
set_option maxRecDepth 100000 in
theorem k_X10_isFitSender : chkT prog_1_method_38_code t_X10_isFitSender = true := by decide +kernel
def t_X10_dropChannels : List mI := [(0, .aload_n 0, 1), (1, .iconst 0, 1), (2, .putfield 72, 3), (5, .iconst 0, 1), (6, .istore_n 1, 1), (7, .iload_n 1, 1), (8, .aload_n 0, 1), (9, .getfield 12, 3), (12, .getfield 95, 3), (15, .if_icmp .ge 22, 3), (18, .aload_n 0, 1), (19, .getfield 12, 3), (22, .getfield 98, 3), (25, .iload_n 1, 1), (26, .aaload, 1), (27, .iconst (-1), 1), (28, .putfield 197, 3), (31, .iinc 1 1, 3), (34, .goto (-27), 3), (37, .return_, 1)]
def Y_X10_dropChannels : mY := (10, ⟨"MastMove", "dropChannels", "()V"⟩, prog_1_method_39_code, 2, none, t_X10_dropChannels)
set_option maxRecDepth 100000 in
theorem k_X10_dropChannels : chkT prog_1_method_39_code t_X10_dropChannels = true := by decide +kernel
def t_X10_giveBoxes : List mI := [(0, .aload_n 0, 1), (1, .getfield 58, 3), (4, .getfield 285, 3), (7, .istore_n 1, 1), (8, .iconst 0, 1), (9, .istore_n 2, 1), (10, .iload_n 2, 1), (11, .aload_n 0, 1), (12, .getfield 12, 3), (15, .getfield 125, 3), (18, .if_icmp .ge 56, 3), (21, .aload_n 0, 1), (22, .aload_n 0, 1), (23, .getfield 12, 3), (26, .getfield 128, 3), (29, .iload_n 2, 1), (30, .aaload, 1), (31, .iload_n 1, 1), (32, .invokevirtual 288, 3), (35, .istore_n 3, 1), (36, .aload_n 0, 1), (37, .getfield 12, 3), (40, .getfield 128, 3), (43, .iload_n 2, 1), (44, .aaload, 1), (45, .dup, 1), (46, .getfield 292, 3), (49, .iload_n 3, 1), (50, .iadd, 1), (51, .putfield 292, 3), (54, .aload_n 0, 1), (55, .dup, 1), (56, .getfield 66, 3), (59, .iload_n 3, 1), (60, .isub, 1), (61, .putfield 66, 3), (64, .iload_n 1, 1), (65, .iload_n 3, 1), (66, .isub, 1), (67, .istore_n 1, 1), (68, .iinc 2 1, 3), (71, .goto (-61), 3), (74, .return_, 1)]
def Y_X10_giveBoxes : mY := (10, ⟨"MastMove", "giveBoxes", "()V"⟩, prog_1_method_40_code, 4, none, t_X10_giveBoxes)
set_option maxRecDepth 100000 in
theorem k_X10_giveBoxes : chkT prog_1_method_40_code t_X10_giveBoxes = true := by decide +kernel
def t_X10_portionOf : List mI := [(0, .aload_n 0, 1), (1, .getfield 53, 3), (4, .iconst 0, 1), (5, .aload_n 1, 1), (6, .getfield 140, 3), (9, .iastore, 1), (10, .aload_n 0, 1), (11, .getfield 53, 3), (14, .iconst 1, 1), (15, .aload_n 1, 1), (16, .getfield 143, 3), (19, .iastore, 1), (20, .aload_n 0, 1), (21, .getfield 53, 3), (24, .iconst 2, 1), (25, .aload_n 1, 1), (26, .getfield 146, 3), (29, .iastore, 1), (30, .aload_n 0, 1), (31, .getfield 53, 3), (34, .iconst 3, 1), (35, .aload_n 1, 1), (36, .getfield 292, 3), (39, .iastore, 1), (40, .aload_n 0, 1), (41, .getfield 53, 3), (44, .iconst 4, 1), (45, .aload_n 0, 1), (46, .getfield 12, 3), (49, .getfield 182, 3), (52, .iastore, 1), (53, .aload_n 0, 1), (54, .getfield 53, 3), (57, .iconst 5, 1), (58, .aload_n 0, 1), (59, .getfield 66, 3), (62, .iastore, 1), (63, .aload_n 0, 1), (64, .getfield 58, 3), (67, .aload_n 0, 1), (68, .getfield 53, 3), (71, .invokevirtual 295, 3), (74, .lstore_n 3, 1), (75, .aload_n 1, 1), (76, .getfield 140, 3), (79, .aload_n 1, 1), (80, .getfield 292, 3), (83, .isub, 1), (84, .aload_n 0, 1), (85, .getfield 66, 3), (88, .iload_n 2, 1), (89, .invokestatic 299, 3), (92, .invokestatic 299, 3), (95, .istore 5, 2), (97, .lconst 0, 1), (98, .lload_n 3, 1), (99, .iload 5, 2), (101, .i2l, 1), (102, .invokestatic 305, 3), (105, .invokestatic 308, 3), (108, .l2i, 1), (109, .ireturn, 1)]
def Y_X10_portionOf : mY := (10, ⟨"MastMove", "portionOf", "(LMastMove$Area;I)I"⟩, prog_1_method_41_code, 6, some .int, t_X10_portionOf)
set_option maxRecDepth 100000 in
theorem k_X10_portionOf : chkT prog_1_method_41_code t_X10_portionOf = true := by decide +kernel
def t_X10_rowsThere : List mI := [(0, .iconst 0, 1), (1, .istore_n 1, 1), (2, .iconst 0, 1), (3, .istore_n 2, 1), (4, .iload_n 2, 1), (5, .aload_n 0, 1), (6, .getfield 46, 3), (9, .arraylength, 1), (10, .if_icmp .ge 32, 3), (13, .iload_n 1, 1), (14, .aload_n 0, 1), (15, .getfield 46, 3), (18, .iload_n 2, 1), (19, .aaload, 1), (20, .invokevirtual 152, 3), (23, .ifCond .ne 7, 3), (26, .iconst 1, 1), (27, .goto 4, 3), (30, .iconst 0, 1), (31, .invokestatic 234, 3), (34, .iadd, 1), (35, .istore_n 1, 1), (36, .iinc 2 1, 3), (39, .goto (-35), 3), (42, .iload_n 1, 1), (43, .ireturn, 1)]
def Y_X10_rowsThere : mY := (10, ⟨"MastMove", "rowsThere", "()I"⟩, prog_1_method_42_code, 3, some .int, t_X10_rowsThere)
set_option maxRecDepth 100000 in
theorem k_X10_rowsThere : chkT prog_1_method_42_code t_X10_rowsThere = true := by decide +kernel
def t_X11_init : List mI := [(0, .aload_n 0, 1), (1, .invokespecial 3, 3), (4, .aload_n 0, 1), (5, .iconst 4, 1), (6, .newarray .int, 2), (8, .dup, 1), (9, .iconst 0, 1), (10, .iconst (-1), 1), (11, .iastore, 1), (12, .dup, 1), (13, .iconst 1, 1), (14, .iconst (-1), 1), (15, .iastore, 1), (16, .dup, 1), (17, .iconst 2, 1), (18, .iconst (-1), 1), (19, .iastore, 1), (20, .dup, 1), (21, .iconst 3, 1), (22, .iconst (-1), 1), (23, .iastore, 1), (24, .putfield 9, 3), (27, .aload_n 0, 1), (28, .iconst 4, 1), (29, .newarray .int, 2), (31, .putfield 13, 3), (34, .aload_n 0, 1), (35, .sipush 240, 3), (38, .newarray .long, 2), (40, .putfield 16, 3), (43, .aload_n 0, 1), (44, .bipush 60, 2), (46, .newarray .long, 2), (48, .putfield 20, 3), (51, .aload_n 0, 1), (52, .sipush 1000, 3), (55, .putfield 23, 3), (58, .aload_n 0, 1), (59, .bipush 10, 2), (61, .putfield 27, 3), (64, .aload_n 0, 1), (65, .bipush 14, 2), (67, .newarray .int, 2), (69, .putfield 30, 3), (72, .aload_n 0, 1), (73, .bipush 14, 2), (75, .newarray .int, 2), (77, .putfield 33, 3), (80, .aload_n 0, 1), (81, .bipush 14, 2), (83, .newarray .int, 2), (85, .putfield 36, 3), (88, .aload_n 0, 1), (89, .bipush 14, 2), (91, .newarray .int, 2), (93, .putfield 39, 3), (96, .aload_n 0, 1), (97, .bipush 10, 2), (99, .newarray .int, 2), (101, .putfield 42, 3), (104, .aload_n 0, 1), (105, .iconst 4, 1), (106, .newarray .int, 2), (108, .putfield 45, 3), (111, .aload_n 0, 1), (112, .bipush 10, 2), (114, .newarray .boolean, 2), (116, .putfield 48, 3), (119, .aload_n 0, 1), (120, .bipush 10, 2), (122, .newarray .boolean, 2), (124, .putfield 52, 3), (127, .aload_n 0, 1), (128, .bipush 10, 2), (130, .newarray .boolean, 2), (132, .putfield 55, 3), (135, .aload_n 0, 1), (136, .bipush 16, 2), (138, .newarray .int, 2), (140, .putfield 58, 3), (143, .aload_n 0, 1), (144, .bipush 16, 2), (146, .newarray .int, 2), (148, .putfield 61, 3), (151, .aload_n 0, 1), (152, .bipush 16, 2), (154, .newarray .int, 2), (156, .putfield 64, 3), (159, .aload_n 0, 1), (160, .bipush 16, 2), (162, .newarray .int, 2), (164, .putfield 67, 3), (167, .aload_n 0, 1), (168, .bipush 16, 2), (170, .newarray .int, 2), (172, .putfield 70, 3), (175, .aload_n 0, 1), (176, .bipush 16, 2), (178, .newarray .int, 2), (180, .putfield 73, 3), (183, .aload_n 0, 1), (184, .bipush 16, 2), (186, .newarray .int, 2), (188, .putfield 76, 3), (191, .aload_n 0, 1), (192, .bipush 16, 2), (194, .newarray .int, 2), (196, .putfield 79, 3), (199, .aload_n 0, 1), (200, .iconst (-1), 1), (201, .putfield 82, 3), (204, .aload_n 0, 1), (205, .bipush 10, 2), (207, .newarray .int, 2), (209, .putfield 85, 3), (212, .aload_n 0, 1), (213, .bipush 10, 2), (215, .newarray .int, 2), (217, .putfield 88, 3), (220, .aload_n 0, 1), (221, .sipush 300, 3), (224, .newarray .byte, 2), (226, .putfield 91, 3), (229, .aload_n 0, 1), (230, .iconst (-1), 1), (231, .putfield 95, 3), (234, .aload_n 0, 1), (235, .sipush 600, 3), (238, .newarray .byte, 2), (240, .putfield 98, 3), (243, .aload_n 0, 1), (244, .iconst 2, 1), (245, .newarray .int, 2), (247, .putfield 101, 3), (250, .aload_n 0, 1), (251, .ldc 104, 2), (253, .newarray .boolean, 2), (255, .putfield 105, 3), (258, .aload_n 0, 1), (259, .sipush 196, 3), (262, .newarray .boolean, 2), (264, .putfield 108, 3), (267, .aload_n 0, 1), (268, .bipush 6, 2), (270, .newarray .long, 2), (272, .putfield 111, 3), (275, .return_, 1)]
def Y_X11_init : mY := (11, ⟨"MastMoveModel", "<init>", "()V"⟩, prog_13_method_1_code, 1, none, t_X11_init)
set_option maxRecDepth 100000 in
theorem k_X11_init : chkT prog_13_method_1_code t_X11_init = true := by decide +kernel
def t_X11_in : List mI := [(0, .lload_n 0, 1), (1, .lload_n 2, 1), (2, .lcmp, 1), (3, .ifCond .lt 14, 3), (6, .lload_n 0, 1), (7, .lload 4, 2), (9, .lcmp, 1), (10, .ifCond .gt 7, 3), (13, .iconst 1, 1), (14, .goto 4, 3), (17, .iconst 0, 1), (18, .ireturn, 1)]
def Y_X11_in : mY := (11, ⟨"MastMoveModel", "in", "(JJJ)Z"⟩, prog_13_method_3_code, 6, some .boolean, t_X11_in)
set_option maxRecDepth 100000 in
theorem k_X11_in : chkT prog_13_method_3_code t_X11_in = true := by decide +kernel
def t_X11_isSlot : List mI := [(0, .iload_n 0, 1), (1, .i2l, 1), (2, .lconst 0, 1), (3, .ldc2_w 117, 3), (6, .invokestatic 119, 3), (9, .ireturn, 1)]
def Y_X11_isSlot : mY := (11, ⟨"MastMoveModel", "isSlot", "(I)Z"⟩, prog_13_method_4_code, 1, some .boolean, t_X11_isSlot)
set_option maxRecDepth 100000 in
theorem k_X11_isSlot : chkT prog_13_method_4_code t_X11_isSlot = true := by decide +kernel
def t_X11_cut : List mI := [(0, .iload_n 0, 1), (1, .ifCond .ne 10, 3), (4, .lload_n 1, 1), (5, .l2i, 1), (6, .i2b, 1), (7, .i2l, 1), (8, .goto 27, 3), (11, .iload_n 0, 1), (12, .iconst 1, 1), (13, .if_icmp .ne 10, 3), (16, .lload_n 1, 1), (17, .l2i, 1), (18, .i2s, 1), (19, .i2l, 1), (20, .goto 15, 3), (23, .iload_n 0, 1), (24, .iconst 2, 1), (25, .if_icmp .ne 9, 3), (28, .lload_n 1, 1), (29, .l2i, 1), (30, .i2l, 1), (31, .goto 4, 3), (34, .lload_n 1, 1), (35, .lreturn, 1)]
def Y_X11_cut : mY := (11, ⟨"MastMoveModel", "cut", "(IJ)J"⟩, prog_13_method_5_code, 3, some .long, t_X11_cut)
set_option maxRecDepth 100000 in
theorem k_X11_cut : chkT prog_13_method_5_code t_X11_cut = true := by decide +kernel
def t_X11_row : List mI := [(0, .aload_n 0, 1), (1, .iconst 0, 1), (2, .putfield 114, 3), (5, .iload_n 1, 1), (6, .invokestatic 123, 3), (9, .ifCond .eq 21, 3), (12, .iload_n 2, 1), (13, .i2l, 1), (14, .lconst 0, 1), (15, .ldc2_w 117, 3), (18, .invokestatic 119, 3), (21, .ifCond .eq 9, 3), (24, .iload_n 3, 1), (25, .bipush 60, 2), (27, .if_icmp .le 6, 3), (30, .bipush (-2), 2), (32, .ireturn, 1), (33, .iload_n 3, 1), (34, .ifCond .ge 6, 3), (37, .bipush (-3), 2), (39, .ireturn, 1), (40, .aload_n 0, 1), (41, .getfield 9, 3), (44, .iload_n 1, 1), (45, .iload_n 2, 1), (46, .iastore, 1), (47, .aload_n 0, 1), (48, .getfield 13, 3), (51, .iload_n 1, 1), (52, .iload_n 3, 1), (53, .iastore, 1), (54, .iconst 0, 1), (55, .istore 4, 2), (57, .iload 4, 2), (59, .bipush 60, 2), (61, .if_icmp .ge 22, 3), (64, .aload_n 0, 1), (65, .getfield 16, 3), (68, .bipush 60, 2), (70, .iload_n 1, 1), (71, .imul, 1), (72, .iload 4, 2), (74, .iadd, 1), (75, .lconst 0, 1), (76, .lastore, 1), (77, .iinc 4 1, 3), (80, .goto (-23), 3), (83, .iconst 0, 1), (84, .ireturn, 1)]
def Y_X11_row : mY := (11, ⟨"MastMoveModel", "row", "(III)I"⟩, prog_13_method_6_code, 5, some .int, t_X11_row)
set_option maxRecDepth 100000 in
theorem k_X11_row : chkT prog_13_method_6_code t_X11_row = true := by decide +kernel
def t_X11_tear : List mI := [(0, .aload_n 0, 1), (1, .iconst 0, 1), (2, .putfield 114, 3), (5, .iload_n 1, 1), (6, .invokestatic 123, 3), (9, .ifCond .eq 12, 3), (12, .aload_n 0, 1), (13, .getfield 9, 3), (16, .iload_n 1, 1), (17, .iaload, 1), (18, .ifCond .ge 5, 3), (21, .iconst 0, 1), (22, .ireturn, 1), (23, .aload_n 0, 1), (24, .getfield 9, 3), (27, .iload_n 1, 1), (28, .iconst (-1), 1), (29, .iastore, 1), (30, .iconst 1, 1), (31, .ireturn, 1)]
def Y_X11_tear : mY := (11, ⟨"MastMoveModel", "tear", "(I)Z"⟩, prog_13_method_7_code, 2, some .boolean, t_X11_tear)
set_option maxRecDepth 100000 in
theorem k_X11_tear : chkT prog_13_method_7_code t_X11_tear = true := by decide +kernel
def t_X11_write : List mI := [(0, .aload_n 0, 1), (1, .iconst 0, 1), (2, .putfield 114, 3), (5, .iload_n 1, 1), (6, .invokestatic 123, 3), (9, .ifCond .ne 6, 3), (12, .bipush (-2), 2), (14, .ireturn, 1), (15, .aload_n 0, 1), (16, .getfield 9, 3), (19, .iload_n 1, 1), (20, .iaload, 1), (21, .ifCond .ge 6, 3), (24, .bipush (-5), 2), (26, .ireturn, 1), (27, .iload_n 2, 1), (28, .i2l, 1), (29, .lconst 0, 1), (30, .aload_n 0, 1), (31, .getfield 13, 3), (34, .iload_n 1, 1), (35, .iaload, 1), (36, .iconst 1, 1), (37, .isub, 1), (38, .i2l, 1), (39, .invokestatic 119, 3), (42, .ifCond .ne 6, 3), (45, .bipush (-6), 2), (47, .ireturn, 1), (48, .aload_n 0, 1), (49, .getfield 16, 3), (52, .bipush 60, 2), (54, .iload_n 1, 1), (55, .imul, 1), (56, .iload_n 2, 1), (57, .iadd, 1), (58, .aload_n 0, 1), (59, .getfield 9, 3), (62, .iload_n 1, 1), (63, .iaload, 1), (64, .lload_n 3, 1), (65, .invokestatic 127, 3), (68, .lastore, 1), (69, .iconst 0, 1), (70, .ireturn, 1)]
def Y_X11_write : mY := (11, ⟨"MastMoveModel", "write", "(IIJ)I"⟩, prog_13_method_8_code, 5, some .int, t_X11_write)
set_option maxRecDepth 100000 in
theorem k_X11_write : chkT prog_13_method_8_code t_X11_write = true := by decide +kernel
def t_X11_paste : List mI := [(0, .aload_n 0, 1), (1, .iconst 0, 1), (2, .putfield 114, 3), (5, .iload_n 1, 1), (6, .invokestatic 123, 3), (9, .ifCond .eq 10, 3), (12, .iload_n 3, 1), (13, .invokestatic 123, 3), (16, .ifCond .ne 6, 3), (19, .bipush (-2), 2), (21, .ireturn, 1), (22, .aload_n 0, 1), (23, .getfield 9, 3), (26, .iload_n 1, 1), (27, .iaload, 1), (28, .ifCond .lt 12, 3), (31, .aload_n 0, 1), (32, .getfield 9, 3), (35, .iload_n 3, 1), (36, .iaload, 1), (37, .ifCond .ge 6, 3), (40, .bipush (-5), 2), (42, .ireturn, 1), (43, .aload_n 0, 1), (44, .getfield 9, 3), (47, .iload_n 1, 1), (48, .iaload, 1), (49, .aload_n 0, 1), (50, .getfield 9, 3), (53, .iload_n 3, 1), (54, .iaload, 1), (55, .if_icmp .eq 6, 3), (58, .bipush (-7), 2), (60, .ireturn, 1), (61, .iload_n 2, 1), (62, .ifCond .lt 48, 3), (65, .iload 4, 2), (67, .ifCond .lt 43, 3), (70, .iload 5, 2), (72, .ifCond .lt 38, 3), (75, .iload_n 2, 1), (76, .i2l, 1), (77, .iload 5, 2), (79, .i2l, 1), (80, .ladd, 1), (81, .aload_n 0, 1), (82, .getfield 13, 3), (85, .iload_n 1, 1), (86, .iaload, 1), (87, .i2l, 1), (88, .lcmp, 1), (89, .ifCond .gt 21, 3), (92, .iload 4, 2), (94, .i2l, 1), (95, .iload 5, 2), (97, .i2l, 1), (98, .ladd, 1), (99, .aload_n 0, 1), (100, .getfield 13, 3), (103, .iload_n 3, 1), (104, .iaload, 1), (105, .i2l, 1), (106, .lcmp, 1), (107, .ifCond .le 6, 3), (110, .bipush (-6), 2), (112, .ireturn, 1), (113, .iconst 0, 1), (114, .istore 6, 2), (116, .iload 6, 2), (118, .iload 5, 2), (120, .if_icmp .ge 30, 3), (123, .aload_n 0, 1), (124, .getfield 20, 3), (127, .iload 6, 2), (129, .aload_n 0, 1), (130, .getfield 16, 3), (133, .bipush 60, 2), (135, .iload_n 1, 1), (136, .imul, 1), (137, .iload_n 2, 1), (138, .iadd, 1), (139, .iload 6, 2), (141, .iadd, 1), (142, .laload, 1), (143, .lastore, 1), (144, .iinc 6 1, 3), (147, .goto (-31), 3), (150, .iconst 0, 1), (151, .istore 6, 2), (153, .iload 6, 2), (155, .iload 5, 2), (157, .if_icmp .ge 31, 3), (160, .aload_n 0, 1), (161, .getfield 16, 3), (164, .bipush 60, 2), (166, .iload_n 3, 1), (167, .imul, 1), (168, .iload 4, 2), (170, .iadd, 1), (171, .iload 6, 2), (173, .iadd, 1), (174, .aload_n 0, 1), (175, .getfield 20, 3), (178, .iload 6, 2), (180, .laload, 1), (181, .lastore, 1), (182, .iinc 6 1, 3), (185, .goto (-32), 3), (188, .iconst 0, 1), (189, .ireturn, 1)]
def Y_X11_paste : mY := (11, ⟨"MastMoveModel", "paste", "(IIIII)I"⟩, prog_13_method_9_code, 7, some .int, t_X11_paste)
set_option maxRecDepth 100000 in
theorem k_X11_paste : chkT prog_13_method_9_code t_X11_paste = true := by decide +kernel
def t_X11_terms : List mI := [(0, .aload_n 0, 1), (1, .iconst 0, 1), (2, .putfield 114, 3), (5, .iload_n 1, 1), (6, .i2l, 1), (7, .lconst 1, 1), (8, .ldc2_w 131, 3), (11, .invokestatic 119, 3), (14, .ifCond .eq 15, 3), (17, .iload_n 2, 1), (18, .i2l, 1), (19, .lconst 1, 1), (20, .ldc2_w 133, 3), (23, .invokestatic 119, 3), (26, .ifCond .ne 6, 3), (29, .bipush (-2), 2), (31, .ireturn, 1), (32, .aload_n 0, 1), (33, .iload_n 1, 1), (34, .putfield 23, 3), (37, .aload_n 0, 1), (38, .iload_n 2, 1), (39, .putfield 27, 3), (42, .iconst 0, 1), (43, .ireturn, 1)]
def Y_X11_terms : mY := (11, ⟨"MastMoveModel", "terms", "(II)I"⟩, prog_13_method_10_code, 3, some .int, t_X11_terms)
set_option maxRecDepth 100000 in
theorem k_X11_terms : chkT prog_13_method_10_code t_X11_terms = true := by decide +kernel
def t_X11_isSender : List mI := [(0, .iload_n 0, 1), (1, .i2l, 1), (2, .lconst 0, 1), (3, .ldc2_w 133, 3), (6, .invokestatic 119, 3), (9, .ifCond .eq 43, 3), (12, .iload_n 1, 1), (13, .i2l, 1), (14, .lconst 0, 1), (15, .ldc2_w 133, 3), (18, .invokestatic 119, 3), (21, .ifCond .eq 31, 3), (24, .iload_n 2, 1), (25, .i2l, 1), (26, .lconst 1, 1), (27, .ldc2_w 135, 3), (30, .invokestatic 119, 3), (33, .ifCond .eq 19, 3), (36, .iload_n 3, 1), (37, .i2l, 1), (38, .lconst 0, 1), (39, .ldc2_w 137, 3), (42, .invokestatic 119, 3), (45, .ifCond .eq 7, 3), (48, .iconst 1, 1), (49, .goto 4, 3), (52, .iconst 0, 1), (53, .ireturn, 1)]
def Y_X11_isSender : mY := (11, ⟨"MastMoveModel", "isSender", "(IIII)Z"⟩, prog_13_method_11_code, 4, some .boolean, t_X11_isSender)
set_option maxRecDepth 100000 in
theorem k_X11_isSender : chkT prog_13_method_11_code t_X11_isSender = true := by decide +kernel
def t_X11_sender : List mI := [(0, .aload_n 0, 1), (1, .getfield 30, 3), (4, .iload_n 1, 1), (5, .iload_n 2, 1), (6, .iastore, 1), (7, .aload_n 0, 1), (8, .getfield 33, 3), (11, .iload_n 1, 1), (12, .iload_n 3, 1), (13, .iastore, 1), (14, .aload_n 0, 1), (15, .getfield 36, 3), (18, .iload_n 1, 1), (19, .iload 4, 2), (21, .iastore, 1), (22, .aload_n 0, 1), (23, .getfield 39, 3), (26, .iload_n 1, 1), (27, .iload 5, 2), (29, .iastore, 1), (30, .return_, 1)]
def Y_X11_sender : mY := (11, ⟨"MastMoveModel", "sender", "(IIIII)V"⟩, prog_13_method_12_code, 6, none, t_X11_sender)
set_option maxRecDepth 100000 in
theorem k_X11_sender : chkT prog_13_method_12_code t_X11_sender = true := by decide +kernel
def t_X11_mast : List mI := [(0, .aload_n 0, 1), (1, .iconst 0, 1), (2, .putfield 114, 3), (5, .iload_n 1, 1), (6, .iload_n 2, 1), (7, .iload_n 3, 1), (8, .iload 6, 2), (10, .invokestatic 139, 3), (13, .ifCond .eq 22, 3), (16, .iload 4, 2), (18, .i2l, 1), (19, .ldc2_w 143, 3), (22, .aload_n 0, 1), (23, .getfield 145, 3), (26, .iconst 1, 1), (27, .isub, 1), (28, .i2l, 1), (29, .invokestatic 119, 3), (32, .ifCond .ne 6, 3), (35, .bipush (-2), 2), (37, .ireturn, 1), (38, .aload_n 0, 1), (39, .getfield 145, 3), (42, .bipush 10, 2), (44, .if_icmp .ne 6, 3), (47, .bipush (-3), 2), (49, .ireturn, 1), (50, .aload_n 0, 1), (51, .getfield 82, 3), (54, .iconst (-1), 1), (55, .if_icmp .eq 6, 3), (58, .bipush (-9), 2), (60, .ireturn, 1), (61, .aload_n 0, 1), (62, .aload_n 0, 1), (63, .getfield 145, 3), (66, .iload_n 1, 1), (67, .iload_n 2, 1), (68, .iload_n 3, 1), (69, .iload 6, 2), (71, .invokevirtual 148, 3), (74, .aload_n 0, 1), (75, .getfield 42, 3), (78, .aload_n 0, 1), (79, .getfield 145, 3), (82, .iload 4, 2), (84, .iastore, 1), (85, .aload_n 0, 1), (86, .getfield 48, 3), (89, .aload_n 0, 1), (90, .getfield 145, 3), (93, .iload 5, 2), (95, .bastore, 1), (96, .aload_n 0, 1), (97, .dup, 1), (98, .getfield 145, 3), (101, .iconst 1, 1), (102, .iadd, 1), (103, .putfield 145, 3), (106, .aload_n 0, 1), (107, .getfield 145, 3), (110, .iconst 1, 1), (111, .isub, 1), (112, .ireturn, 1)]
def Y_X11_mast : mY := (11, ⟨"MastMoveModel", "mast", "(IIIIZI)I"⟩, prog_13_method_13_code, 7, some .int, t_X11_mast)
set_option maxRecDepth 100000 in
theorem k_X11_mast : chkT prog_13_method_13_code t_X11_mast = true := by decide +kernel
end
section
/-! method tables -/
def t_X11_abroad : List mI := [(0, .aload_n 0, 1), (1, .iconst 0, 1), (2, .putfield 114, 3), (5, .iload_n 1, 1), (6, .iload_n 2, 1), (7, .iload_n 3, 1), (8, .iload 4, 2), (10, .invokestatic 139, 3), (13, .ifCond .eq 16, 3), (16, .iload 5, 2), (18, .i2l, 1), (19, .lconst 0, 1), (20, .ldc2_w 152, 3), (23, .invokestatic 119, 3), (26, .ifCond .ne 6, 3), (29, .bipush (-2), 2), (31, .ireturn, 1), (32, .aload_n 0, 1), (33, .getfield 154, 3), (36, .iconst 4, 1), (37, .if_icmp .ne 6, 3), (40, .bipush (-3), 2), (42, .ireturn, 1), (43, .aload_n 0, 1), (44, .bipush 10, 2), (46, .aload_n 0, 1), (47, .getfield 154, 3), (50, .iadd, 1), (51, .iload_n 1, 1), (52, .iload_n 2, 1), (53, .iload_n 3, 1), (54, .iload 4, 2), (56, .invokevirtual 148, 3), (59, .aload_n 0, 1), (60, .getfield 45, 3), (63, .aload_n 0, 1), (64, .getfield 154, 3), (67, .iload 5, 2), (69, .iastore, 1), (70, .aload_n 0, 1), (71, .dup, 1), (72, .getfield 154, 3), (75, .iconst 1, 1), (76, .iadd, 1), (77, .putfield 154, 3), (80, .aload_n 0, 1), (81, .getfield 154, 3), (84, .iconst 1, 1), (85, .isub, 1), (86, .ireturn, 1)]
def Y_X11_abroad : mY := (11, ⟨"MastMoveModel", "abroad", "(IIIII)I"⟩, prog_13_method_14_code, 6, some .int, t_X11_abroad)
set_option maxRecDepth 100000 in
theorem k_X11_abroad : chkT prog_13_method_14_code t_X11_abroad = true := by decide +kernel
def t_X11_area : List mI := [(0, .aload_n 0, 1), (1, .iconst 0, 1), (2, .putfield 114, 3), (5, .iload_n 1, 1), (6, .i2l, 1), (7, .lconst 0, 1), (8, .ldc2_w 133, 3), (11, .invokestatic 119, 3), (14, .ifCond .eq 51, 3), (17, .iload_n 2, 1), (18, .i2l, 1), (19, .lconst 0, 1), (20, .ldc2_w 133, 3), (23, .invokestatic 119, 3), (26, .ifCond .eq 39, 3), (29, .iload_n 3, 1), (30, .i2l, 1), (31, .lconst 0, 1), (32, .ldc2_w 157, 3), (35, .invokestatic 119, 3), (38, .ifCond .eq 27, 3), (41, .iload 4, 2), (43, .i2l, 1), (44, .lconst 0, 1), (45, .iload_n 3, 1), (46, .i2l, 1), (47, .invokestatic 119, 3), (50, .ifCond .eq 15, 3), (53, .iload 5, 2), (55, .i2l, 1), (56, .lconst 0, 1), (57, .iload_n 3, 1), (58, .i2l, 1), (59, .invokestatic 119, 3), (62, .ifCond .ne 6, 3), (65, .bipush (-2), 2), (67, .ireturn, 1), (68, .aload_n 0, 1), (69, .getfield 159, 3), (72, .bipush 16, 2), (74, .if_icmp .ne 6, 3), (77, .bipush (-3), 2), (79, .ireturn, 1), (80, .aload_n 0, 1), (81, .getfield 58, 3), (84, .aload_n 0, 1), (85, .getfield 159, 3), (88, .iload_n 1, 1), (89, .iastore, 1), (90, .aload_n 0, 1), (91, .getfield 61, 3), (94, .aload_n 0, 1), (95, .getfield 159, 3), (98, .iload_n 2, 1), (99, .iastore, 1), (100, .aload_n 0, 1), (101, .getfield 64, 3), (104, .aload_n 0, 1), (105, .getfield 159, 3), (108, .iload_n 3, 1), (109, .iastore, 1), (110, .aload_n 0, 1), (111, .getfield 67, 3), (114, .aload_n 0, 1), (115, .getfield 159, 3), (118, .iload 4, 2), (120, .iastore, 1), (121, .aload_n 0, 1), (122, .getfield 70, 3), (125, .aload_n 0, 1), (126, .getfield 159, 3), (129, .iload 5, 2), (131, .iastore, 1), (132, .aload_n 0, 1), (133, .getfield 76, 3), (136, .aload_n 0, 1), (137, .getfield 159, 3), (140, .iconst (-1), 1), (141, .iastore, 1), (142, .aload_n 0, 1), (143, .dup, 1), (144, .getfield 159, 3), (147, .iconst 1, 1), (148, .iadd, 1), (149, .putfield 159, 3), (152, .aload_n 0, 1), (153, .getfield 159, 3), (156, .iconst 1, 1), (157, .isub, 1), (158, .ireturn, 1)]
def Y_X11_area : mY := (11, ⟨"MastMoveModel", "area", "(IIIII)I"⟩, prog_13_method_15_code, 6, some .int, t_X11_area)
set_option maxRecDepth 100000 in
theorem k_X11_area : chkT prog_13_method_15_code t_X11_area = true := by decide +kernel
def t_X11_isMast : List mI := [(0, .iload_n 1, 1), (1, .i2l, 1), (2, .lconst 0, 1), (3, .aload_n 0, 1), (4, .getfield 145, 3), (7, .iconst 1, 1), (8, .isub, 1), (9, .i2l, 1), (10, .invokestatic 119, 3), (13, .ireturn, 1)]
def Y_X11_isMast : mY := (11, ⟨"MastMoveModel", "isMast", "(I)Z"⟩, prog_13_method_16_code, 2, some .boolean, t_X11_isMast)
set_option maxRecDepth 100000 in
theorem k_X11_isMast : chkT prog_13_method_16_code t_X11_isMast = true := by decide +kernel
def t_X11_isArea : List mI := [(0, .iload_n 1, 1), (1, .i2l, 1), (2, .lconst 0, 1), (3, .aload_n 0, 1), (4, .getfield 159, 3), (7, .iconst 1, 1), (8, .isub, 1), (9, .i2l, 1), (10, .invokestatic 119, 3), (13, .ireturn, 1)]
def Y_X11_isArea : mY := (11, ⟨"MastMoveModel", "isArea", "(I)Z"⟩, prog_13_method_17_code, 2, some .boolean, t_X11_isArea)
set_option maxRecDepth 100000 in
theorem k_X11_isArea : chkT prog_13_method_17_code t_X11_isArea = true := by decide +kernel
def t_X11_poor : List mI := [(0, .aload_n 0, 1), (1, .iconst 0, 1), (2, .putfield 114, 3), (5, .iload_n 1, 1), (6, .invokestatic 123, 3), (9, .ifCond .ne 6, 3), (12, .bipush (-2), 2), (14, .ireturn, 1), (15, .aload_n 0, 1), (16, .getfield 9, 3), (19, .iload_n 1, 1), (20, .iaload, 1), (21, .ifCond .ge 6, 3), (24, .bipush (-5), 2), (26, .ireturn, 1), (27, .aload_n 0, 1), (28, .getfield 13, 3), (31, .iload_n 1, 1), (32, .iaload, 1), (33, .aload_n 0, 1), (34, .getfield 159, 3), (37, .if_icmp .ge 6, 3), (40, .bipush (-6), 2), (42, .ireturn, 1), (43, .iconst 0, 1), (44, .istore_n 2, 1), (45, .iload_n 2, 1), (46, .aload_n 0, 1), (47, .getfield 159, 3), (50, .if_icmp .ge 37, 3), (53, .aload_n 0, 1), (54, .getfield 16, 3), (57, .bipush 60, 2), (59, .iload_n 1, 1), (60, .imul, 1), (61, .iload_n 2, 1), (62, .iadd, 1), (63, .laload, 1), (64, .lconst 0, 1), (65, .aload_n 0, 1), (66, .getfield 64, 3), (69, .iload_n 2, 1), (70, .iaload, 1), (71, .i2l, 1), (72, .invokestatic 119, 3), (75, .ifCond .ne 6, 3), (78, .bipush (-4), 2), (80, .ireturn, 1), (81, .iinc 2 1, 3), (84, .goto (-39), 3), (87, .iconst 0, 1), (88, .istore_n 2, 1), (89, .iload_n 2, 1), (90, .aload_n 0, 1), (91, .getfield 159, 3), (94, .if_icmp .ge 27, 3), (97, .aload_n 0, 1), (98, .getfield 67, 3), (101, .iload_n 2, 1), (102, .aload_n 0, 1), (103, .getfield 16, 3), (106, .bipush 60, 2), (108, .iload_n 1, 1), (109, .imul, 1), (110, .iload_n 2, 1), (111, .iadd, 1), (112, .laload, 1), (113, .l2i, 1), (114, .iastore, 1), (115, .iinc 2 1, 3), (118, .goto (-29), 3), (121, .iconst 0, 1), (122, .ireturn, 1)]
def Y_X11_poor : mY := (11, ⟨"MastMoveModel", "poor", "(I)I"⟩, prog_13_method_18_code, 3, some .int, t_X11_poor)
set_option maxRecDepth 100000 in
theorem k_X11_poor : chkT prog_13_method_18_code t_X11_poor = true := by decide +kernel
def t_X11_turned : List mI := [(0, .aload_n 0, 1), (1, .getfield 76, 3), (4, .iload_n 1, 1), (5, .iaload, 1), (6, .iload_n 2, 1), (7, .if_icmp .ne 5, 3), (10, .iconst 0, 1), (11, .ireturn, 1), (12, .aload_n 0, 1), (13, .getfield 76, 3), (16, .iload_n 1, 1), (17, .iload_n 2, 1), (18, .iastore, 1), (19, .aload_n 0, 1), (20, .getfield 79, 3), (23, .iload_n 1, 1), (24, .dup2, 1), (25, .iaload, 1), (26, .iconst 1, 1), (27, .iadd, 1), (28, .iastore, 1), (29, .iconst 1, 1), (30, .ireturn, 1)]
def Y_X11_turned : mY := (11, ⟨"MastMoveModel", "turned", "(II)Z"⟩, prog_13_method_19_code, 3, some .boolean, t_X11_turned)
set_option maxRecDepth 100000 in
theorem k_X11_turned : chkT prog_13_method_19_code t_X11_turned = true := by decide +kernel
def t_X11_aim : List mI := [(0, .aload_n 0, 1), (1, .iconst 0, 1), (2, .putfield 114, 3), (5, .aload_n 0, 1), (6, .iload_n 1, 1), (7, .invokevirtual 162, 3), (10, .ifCond .eq 16, 3), (13, .iload_n 2, 1), (14, .iconst (-1), 1), (15, .if_icmp .eq 14, 3), (18, .aload_n 0, 1), (19, .iload_n 2, 1), (20, .invokevirtual 165, 3), (23, .ifCond .ne 6, 3), (26, .bipush (-2), 2), (28, .ireturn, 1), (29, .aload_n 0, 1), (30, .getfield 76, 3), (33, .iload_n 1, 1), (34, .iaload, 1), (35, .istore_n 3, 1), (36, .aload_n 0, 1), (37, .iload_n 1, 1), (38, .iload_n 2, 1), (39, .invokevirtual 168, 3), (42, .istore 4, 2), (44, .iload_n 3, 1), (45, .ireturn, 1)]
def Y_X11_aim : mY := (11, ⟨"MastMoveModel", "aim", "(II)I"⟩, prog_13_method_20_code, 5, some .int, t_X11_aim)
set_option maxRecDepth 100000 in
theorem k_X11_aim : chkT prog_13_method_20_code t_X11_aim = true := by decide +kernel
def t_X11_at : List mI := [(0, .aload_n 0, 1), (1, .getfield 30, 3), (4, .iload_n 1, 1), (5, .iaload, 1), (6, .aload_n 0, 1), (7, .getfield 58, 3), (10, .iload_n 2, 1), (11, .iaload, 1), (12, .isub, 1), (13, .istore_n 3, 1), (14, .aload_n 0, 1), (15, .getfield 33, 3), (18, .iload_n 1, 1), (19, .iaload, 1), (20, .aload_n 0, 1), (21, .getfield 61, 3), (24, .iload_n 2, 1), (25, .iaload, 1), (26, .isub, 1), (27, .istore 4, 2), (29, .sipush 1000, 3), (32, .aload_n 0, 1), (33, .getfield 36, 3), (36, .iload_n 1, 1), (37, .iaload, 1), (38, .imul, 1), (39, .bipush 10, 2), (41, .iload_n 3, 1), (42, .iload_n 3, 1), (43, .imul, 1), (44, .iadd, 1), (45, .iload 4, 2), (47, .iload 4, 2), (49, .imul, 1), (50, .iadd, 1), (51, .idiv, 1), (52, .ireturn, 1)]
def Y_X11_at : mY := (11, ⟨"MastMoveModel", "at", "(II)I"⟩, prog_13_method_21_code, 5, some .int, t_X11_at)
set_option maxRecDepth 100000 in
theorem k_X11_at : chkT prog_13_method_21_code t_X11_at = true := by decide +kernel
def t_X11_turn : List mI := [(0, .aload_n 0, 1), (1, .iconst 0, 1), (2, .putfield 114, 3), (5, .iconst 0, 1), (6, .istore_n 1, 1), (7, .iconst 0, 1), (8, .istore_n 2, 1), (9, .iload_n 2, 1), (10, .aload_n 0, 1), (11, .getfield 159, 3), (14, .if_icmp .ge 70, 3), (17, .iconst (-1), 1), (18, .istore_n 3, 1), (19, .iconst 0, 1), (20, .istore 4, 2), (22, .iload 4, 2), (24, .aload_n 0, 1), (25, .getfield 145, 3), (28, .if_icmp .ge 33, 3), (31, .iload_n 3, 1), (32, .iconst (-1), 1), (33, .if_icmp .eq 19, 3), (36, .aload_n 0, 1), (37, .iload 4, 2), (39, .iload_n 2, 1), (40, .invokevirtual 172, 3), (43, .aload_n 0, 1), (44, .iload_n 3, 1), (45, .iload_n 2, 1), (46, .invokevirtual 172, 3), (49, .if_icmp .le 6, 3), (52, .iload 4, 2), (54, .istore_n 3, 1), (55, .iinc 4 1, 3), (58, .goto (-36), 3), (61, .iload_n 1, 1), (62, .aload_n 0, 1), (63, .iload_n 2, 1), (64, .iload_n 3, 1), (65, .invokevirtual 168, 3), (68, .ifCond .eq 7, 3), (71, .iconst 1, 1), (72, .goto 4, 3), (75, .iconst 0, 1), (76, .iadd, 1), (77, .istore_n 1, 1), (78, .iinc 2 1, 3), (81, .goto (-72), 3), (84, .iload_n 1, 1), (85, .ireturn, 1)]
def Y_X11_turn : mY := (11, ⟨"MastMoveModel", "turn", "()I"⟩, prog_13_method_22_code, 5, some .int, t_X11_turn)
set_option maxRecDepth 100000 in
theorem k_X11_turn : chkT prog_13_method_22_code t_X11_turn = true := by decide +kernel
def t_X11_strength : List mI := [(0, .aload_n 0, 1), (1, .iconst 0, 1), (2, .putfield 114, 3), (5, .aload_n 0, 1), (6, .iload_n 2, 1), (7, .invokevirtual 162, 3), (10, .ifCond .eq 41, 3), (13, .aload_n 0, 1), (14, .iload_n 1, 1), (15, .invokevirtual 165, 3), (18, .ifCond .ne 24, 3), (21, .iload_n 1, 1), (22, .i2l, 1), (23, .ldc2_w 176, 3), (26, .bipush 10, 2), (28, .aload_n 0, 1), (29, .getfield 154, 3), (32, .iadd, 1), (33, .iconst 1, 1), (34, .isub, 1), (35, .i2l, 1), (36, .invokestatic 119, 3), (39, .ifCond .eq 12, 3), (42, .aload_n 0, 1), (43, .iload_n 1, 1), (44, .iload_n 2, 1), (45, .invokevirtual 172, 3), (48, .goto 5, 3), (51, .bipush (-2), 2), (53, .ireturn, 1)]
def Y_X11_strength : mY := (11, ⟨"MastMoveModel", "strength", "(II)I"⟩, prog_13_method_23_code, 3, some .int, t_X11_strength)
set_option maxRecDepth 100000 in
theorem k_X11_strength : chkT prog_13_method_23_code t_X11_strength = true := by decide +kernel
def t_X11_hurts : List mI := [(0, .aload_n 0, 1), (1, .getfield 76, 3), (4, .iload_n 2, 1), (5, .iaload, 1), (6, .iconst (-1), 1), (7, .if_icmp .eq 36, 3), (10, .aload_n 0, 1), (11, .getfield 27, 3), (14, .i2l, 1), (15, .aload_n 0, 1), (16, .iload_n 1, 1), (17, .iload_n 2, 1), (18, .invokevirtual 172, 3), (21, .i2l, 1), (22, .lmul, 1), (23, .aload_n 0, 1), (24, .aload_n 0, 1), (25, .getfield 76, 3), (28, .iload_n 2, 1), (29, .iaload, 1), (30, .iload_n 2, 1), (31, .invokevirtual 172, 3), (34, .i2l, 1), (35, .lcmp, 1), (36, .ifCond .le 7, 3), (39, .iconst 1, 1), (40, .goto 4, 3), (43, .iconst 0, 1), (44, .ireturn, 1)]
def Y_X11_hurts : mY := (11, ⟨"MastMoveModel", "hurts", "(II)Z"⟩, prog_13_method_24_code, 3, some .boolean, t_X11_hurts)
set_option maxRecDepth 100000 in
theorem k_X11_hurts : chkT prog_13_method_24_code t_X11_hurts = true := by decide +kernel
def t_X11_hurtsOne : List mI := [(0, .iconst 0, 1), (1, .istore_n 3, 1), (2, .iload_n 3, 1), (3, .aload_n 0, 1), (4, .getfield 159, 3), (7, .if_icmp .ge 30, 3), (10, .aload_n 0, 1), (11, .getfield 76, 3), (14, .iload_n 3, 1), (15, .iaload, 1), (16, .iload_n 2, 1), (17, .if_icmp .ne 14, 3), (20, .aload_n 0, 1), (21, .iload_n 1, 1), (22, .iload_n 3, 1), (23, .invokevirtual 178, 3), (26, .ifCond .eq 5, 3), (29, .iconst 1, 1), (30, .ireturn, 1), (31, .iinc 3 1, 3), (34, .goto (-32), 3), (37, .iconst 0, 1), (38, .ireturn, 1)]
def Y_X11_hurtsOne : mY := (11, ⟨"MastMoveModel", "hurtsOne", "(II)Z"⟩, prog_13_method_25_code, 4, some .boolean, t_X11_hurtsOne)
set_option maxRecDepth 100000 in
theorem k_X11_hurtsOne : chkT prog_13_method_25_code t_X11_hurtsOne = true := by decide +kernel
def t_X11_sizeOf : List mI := [(0, .iconst 0, 1), (1, .istore_n 1, 1), (2, .iconst 0, 1), (3, .istore_n 2, 1), (4, .iload_n 2, 1), (5, .bipush 10, 2), (7, .if_icmp .ge 17, 3), (10, .iload_n 1, 1), (11, .iload_n 0, 1), (12, .iload_n 2, 1), (13, .ishr, 1), (14, .iconst 1, 1), (15, .iand, 1), (16, .iadd, 1), (17, .istore_n 1, 1), (18, .iinc 2 1, 3), (21, .goto (-17), 3), (24, .iload_n 1, 1), (25, .ireturn, 1)]
def Y_X11_sizeOf : mY := (11, ⟨"MastMoveModel", "sizeOf", "(I)I"⟩, prog_13_method_26_code, 3, some .int, t_X11_sizeOf)
set_option maxRecDepth 100000 in
theorem k_X11_sizeOf : chkT prog_13_method_26_code t_X11_sizeOf = true := by decide +kernel
def t_X11_may : List mI := [(0, .iload_n 1, 1), (1, .iload_n 2, 1), (2, .iand, 1), (3, .ifCond .ne 12, 3), (6, .iload_n 1, 1), (7, .invokestatic 181, 3), (10, .iload 4, 2), (12, .if_icmp .le 5, 3), (15, .iconst 0, 1), (16, .ireturn, 1), (17, .iconst 0, 1), (18, .istore 7, 2), (20, .iload 7, 2), (22, .aload_n 0, 1), (23, .getfield 145, 3), (26, .if_icmp .ge 73, 3), (29, .iload_n 1, 1), (30, .iload 7, 2), (32, .ishr, 1), (33, .iconst 1, 1), (34, .iand, 1), (35, .ifCond .ne 6, 3), (38, .goto 55, 3), (41, .aload_n 0, 1), (42, .getfield 48, 3), (45, .iload 7, 2), (47, .baload, 1), (48, .ifCond .eq 16, 3), (51, .lload 5, 2), (53, .iload_n 3, 1), (54, .lshr, 1), (55, .lconst 1, 1), (56, .land, 1), (57, .lconst 1, 1), (58, .lcmp, 1), (59, .ifCond .ne 5, 3), (62, .iconst 0, 1), (63, .ireturn, 1), (64, .aload_n 0, 1), (65, .getfield 42, 3), (68, .iload 7, 2), (70, .iaload, 1), (71, .iconst (-1), 1), (72, .if_icmp .eq 21, 3), (75, .iload_n 2, 1), (76, .iload_n 1, 1), (77, .ior, 1), (78, .aload_n 0, 1), (79, .getfield 42, 3), (82, .iload 7, 2), (84, .iaload, 1), (85, .ishr, 1), (86, .iconst 1, 1), (87, .iand, 1), (88, .ifCond .ne 5, 3), (91, .iconst 0, 1), (92, .ireturn, 1), (93, .iinc 7 1, 3), (96, .goto (-76), 3), (99, .iconst 1, 1), (100, .ireturn, 1)]
def Y_X11_may : mY := (11, ⟨"MastMoveModel", "may", "(IIIIJ)Z"⟩, prog_13_method_27_code, 8, some .boolean, t_X11_may)
set_option maxRecDepth 100000 in
theorem k_X11_may : chkT prog_13_method_27_code t_X11_may = true := by decide +kernel
def t_X11_fewest : List mI := [(0, .iconst 1, 1), (1, .aload_n 0, 1), (2, .getfield 145, 3), (5, .ishl, 1), (6, .iconst 1, 1), (7, .isub, 1), (8, .istore 4, 2), (10, .aload_n 0, 1), (11, .getfield 105, 3), (14, .astore 5, 2), (16, .iconst 0, 1), (17, .istore 6, 2), (19, .iload 6, 2), (21, .sipush 1024, 3), (24, .if_icmp .ge 24, 3), (27, .aload 5, 2), (29, .iload 6, 2), (31, .iload 6, 2), (33, .ifCond .ne 7, 3), (36, .iconst 1, 1), (37, .goto 4, 3), (40, .iconst 0, 1), (41, .bastore, 1), (42, .iinc 6 1, 3), (45, .goto (-26), 3), (48, .iconst 0, 1), (49, .istore 6, 2), (51, .iload 6, 2), (53, .bipush 52, 2), (55, .if_icmp .ge 169, 3), (58, .iconst 0, 1), (59, .istore 7, 2), (61, .iload 7, 2), (63, .sipush 1024, 3), (66, .if_icmp .ge 24, 3), (69, .aload 5, 2), (71, .sipush 1024, 3), (74, .iload 6, 2), (76, .iconst 1, 1), (77, .iadd, 1), (78, .imul, 1), (79, .iload 7, 2), (81, .iadd, 1), (82, .iconst 0, 1), (83, .bastore, 1), (84, .iinc 7 1, 3), (87, .goto (-26), 3), (90, .iconst 0, 1), (91, .istore 7, 2), (93, .iload 7, 2), (95, .iload 4, 2), (97, .if_icmp .gt 99, 3), (100, .aload 5, 2), (102, .sipush 1024, 3), (105, .iload 6, 2), (107, .imul, 1), (108, .iload 7, 2), (110, .iadd, 1), (111, .baload, 1), (112, .ifCond .ne 6, 3), (115, .goto 75, 3), (118, .iload 4, 2), (120, .iload 7, 2), (122, .iconst (-1), 1), (123, .ixor, 1), (124, .iand, 1), (125, .istore 8, 2), (127, .iload 8, 2), (129, .istore 9, 2), (131, .iload 9, 2), (133, .ifCond .lt 57, 3), (136, .aload_n 0, 1), (137, .iload 9, 2), (139, .iload 7, 2), (141, .iload 6, 2), (143, .iload_n 1, 1), (144, .lload_n 2, 1), (145, .invokevirtual 185, 3), (148, .ifCond .eq 21, 3), (151, .aload 5, 2), (153, .sipush 1024, 3), (156, .iload 6, 2), (158, .iconst 1, 1), (159, .iadd, 1), (160, .imul, 1), (161, .iload 7, 2), (163, .iload 9, 2), (165, .ior, 1), (166, .iadd, 1), (167, .iconst 1, 1), (168, .bastore, 1), (169, .iload 9, 2), (171, .ifCond .ne 7, 3), (174, .iconst (-1), 1), (175, .goto 10, 3), (178, .iload 9, 2), (180, .iconst 1, 1), (181, .isub, 1), (182, .iload 8, 2), (184, .iand, 1), (185, .istore 9, 2), (187, .goto (-56), 3), (190, .iinc 7 1, 3), (193, .goto (-100), 3), (196, .aload 5, 2), (198, .sipush 1024, 3), (201, .iload 6, 2), (203, .iconst 1, 1), (204, .iadd, 1), (205, .imul, 1), (206, .iload 4, 2), (208, .iadd, 1), (209, .baload, 1), (210, .ifCond .eq 8, 3), (213, .iload 6, 2), (215, .iconst 1, 1), (216, .iadd, 1), (217, .ireturn, 1), (218, .iinc 6 1, 3), (221, .goto (-170), 3), (224, .iconst (-1), 1), (225, .ireturn, 1)]
def Y_X11_fewest : mY := (11, ⟨"MastMoveModel", "fewest", "(IJ)I"⟩, prog_13_method_28_code, 10, some .int, t_X11_fewest)
set_option maxRecDepth 100000 in
theorem k_X11_fewest : chkT prog_13_method_28_code t_X11_fewest = true := by decide +kernel
def t_X11_plan : List mI := [(0, .aload_n 0, 1), (1, .iconst 0, 1), (2, .putfield 114, 3), (5, .iload_n 1, 1), (6, .i2l, 1), (7, .lconst 1, 1), (8, .ldc2_w 117, 3), (11, .invokestatic 119, 3), (14, .ifCond .ne 6, 3), (17, .bipush (-2), 2), (19, .ireturn, 1), (20, .aload_n 0, 1), (21, .getfield 189, 3), (24, .ifCond .le 6, 3), (27, .bipush (-9), 2), (29, .ireturn, 1), (30, .aload_n 0, 1), (31, .iconst 0, 1), (32, .putfield 192, 3), (35, .aload_n 0, 1), (36, .aload_n 0, 1), (37, .getfield 145, 3), (40, .ifCond .ne 7, 3), (43, .iconst (-1), 1), (44, .goto 9, 3), (47, .aload_n 0, 1), (48, .iload_n 1, 1), (49, .lload_n 2, 1), (50, .invokevirtual 196, 3), (53, .putfield 82, 3), (56, .aload_n 0, 1), (57, .getfield 82, 3), (60, .iconst (-1), 1), (61, .if_icmp .ne 5, 3), (64, .iconst (-1), 1), (65, .ireturn, 1), (66, .iconst 1, 1), (67, .aload_n 0, 1), (68, .getfield 145, 3), (71, .ishl, 1), (72, .iconst 1, 1), (73, .isub, 1), (74, .istore 4, 2), (76, .iconst 0, 1), (77, .istore 5, 2), (79, .iload 5, 2), (81, .sipush 1024, 3), (84, .if_icmp .ge 37, 3), (87, .aload_n 0, 1), (88, .getfield 105, 3), (91, .sipush 1024, 3), (94, .aload_n 0, 1), (95, .getfield 82, 3), (98, .imul, 1), (99, .iload 5, 2), (101, .iadd, 1), (102, .iload 5, 2), (104, .iload 4, 2), (106, .if_icmp .ne 7, 3), (109, .iconst 1, 1), (110, .goto 4, 3), (113, .iconst 0, 1), (114, .bastore, 1), (115, .iinc 5 1, 3), (118, .goto (-39), 3), (121, .aload_n 0, 1), (122, .getfield 82, 3), (125, .iconst 1, 1), (126, .isub, 1), (127, .istore 5, 2), (129, .iload 5, 2), (131, .ifCond .lt 132, 3), (134, .iconst 0, 1), (135, .istore 6, 2), (137, .iload 6, 2), (139, .iload 4, 2), (141, .if_icmp .gt 116, 3), (144, .iconst 0, 1), (145, .istore 7, 2), (147, .iload 4, 2), (149, .iload 6, 2), (151, .iconst (-1), 1), (152, .ixor, 1), (153, .iand, 1), (154, .istore 8, 2), (156, .iload 8, 2), (158, .istore 9, 2), (160, .iload 9, 2), (162, .ifCond .lt 73, 3), (165, .iload 7, 2), (167, .ifCond .ne 68, 3), (170, .aload_n 0, 1), (171, .getfield 105, 3), (174, .sipush 1024, 3), (177, .iload 5, 2), (179, .iconst 1, 1), (180, .iadd, 1), (181, .imul, 1), (182, .iload 6, 2), (184, .iload 9, 2), (186, .ior, 1), (187, .iadd, 1), (188, .baload, 1), (189, .ifCond .eq 22, 3), (192, .aload_n 0, 1), (193, .iload 9, 2), (195, .iload 6, 2), (197, .iload 5, 2), (199, .iload_n 1, 1), (200, .lload_n 2, 1), (201, .invokevirtual 185, 3), (204, .ifCond .eq 7, 3), (207, .iconst 1, 1), (208, .goto 4, 3), (211, .iconst 0, 1), (212, .istore 7, 2), (214, .iload 9, 2), (216, .ifCond .ne 7, 3), (219, .iconst (-1), 1), (220, .goto 10, 3), (223, .iload 9, 2), (225, .iconst 1, 1), (226, .isub, 1), (227, .iload 8, 2), (229, .iand, 1), (230, .istore 9, 2), (232, .goto (-72), 3), (235, .aload_n 0, 1), (236, .getfield 105, 3), (239, .sipush 1024, 3), (242, .iload 5, 2), (244, .imul, 1), (245, .iload 6, 2), (247, .iadd, 1), (248, .iload 7, 2), (250, .bastore, 1), (251, .iinc 6 1, 3), (254, .goto (-117), 3), (257, .iinc 5 (-1), 3), (260, .goto (-131), 3), (263, .iconst 0, 1), (264, .istore 5, 2), (266, .iconst 0, 1), (267, .istore 6, 2), (269, .iload 6, 2), (271, .aload_n 0, 1), (272, .getfield 82, 3), (275, .if_icmp .ge 100, 3), (278, .iconst 0, 1), (279, .istore 7, 2), (281, .aload_n 0, 1), (282, .getfield 105, 3), (285, .sipush 1024, 3), (288, .iload 6, 2), (290, .iconst 1, 1), (291, .iadd, 1), (292, .imul, 1), (293, .iload 5, 2), (295, .iload 7, 2), (297, .ior, 1), (298, .iadd, 1), (299, .baload, 1), (300, .ifCond .eq 18, 3), (303, .aload_n 0, 1), (304, .iload 7, 2), (306, .iload 5, 2), (308, .iload 6, 2), (310, .iload_n 1, 1), (311, .lload_n 2, 1), (312, .invokevirtual 185, 3), (315, .ifCond .ne 9, 3), (318, .iinc 7 1, 3), (321, .goto (-40), 3), (324, .iconst 0, 1), (325, .istore 8, 2), (327, .iload 8, 2), (329, .aload_n 0, 1), (330, .getfield 145, 3), (333, .if_icmp .ge 29, 3), (336, .iload 7, 2), (338, .iload 8, 2), (340, .ishr, 1), (341, .iconst 1, 1), (342, .iand, 1), (343, .iconst 1, 1), (344, .if_icmp .ne 12, 3), (347, .aload_n 0, 1), (348, .getfield 85, 3), (351, .iload 8, 2), (353, .iload 6, 2), (355, .iastore, 1), (356, .iinc 8 1, 3), (359, .goto (-32), 3), (362, .iload 5, 2), (364, .iload 7, 2), (366, .ior, 1), (367, .istore 5, 2), (369, .iinc 6 1, 3), (372, .goto (-103), 3), (375, .aload_n 0, 1), (376, .getfield 82, 3), (379, .ireturn, 1)]
def Y_X11_plan : mY := (11, ⟨"MastMoveModel", "plan", "(IJ)I"⟩, prog_13_method_29_code, 10, some .int, t_X11_plan)
set_option maxRecDepth 100000 in
theorem k_X11_plan : chkT prog_13_method_29_code t_X11_plan = true := by decide +kernel
def t_X11_weekOf : List mI := [(0, .aload_n 0, 1), (1, .iconst 0, 1), (2, .putfield 114, 3), (5, .aload_n 0, 1), (6, .iload_n 1, 1), (7, .invokevirtual 165, 3), (10, .ifCond .ne 8, 3), (13, .bipush (-2), 2), (15, .goto 21, 3), (18, .aload_n 0, 1), (19, .getfield 82, 3), (22, .iconst (-1), 1), (23, .if_icmp .ne 7, 3), (26, .iconst (-1), 1), (27, .goto 9, 3), (30, .aload_n 0, 1), (31, .getfield 85, 3), (34, .iload_n 1, 1), (35, .iaload, 1), (36, .ireturn, 1)]
def Y_X11_weekOf : mY := (11, ⟨"MastMoveModel", "weekOf", "(I)I"⟩, prog_13_method_30_code, 2, some .int, t_X11_weekOf)
set_option maxRecDepth 100000 in
theorem k_X11_weekOf : chkT prog_13_method_30_code t_X11_weekOf = true := by decide +kernel
def t_X11_goes : List mI := [(0, .iconst 0, 1), (1, .istore_n 3, 1), (2, .iload_n 3, 1), (3, .aload_n 0, 1), (4, .getfield 145, 3), (7, .if_icmp .ge 75, 3), (10, .iload_n 3, 1), (11, .iload_n 1, 1), (12, .if_icmp .eq 64, 3), (15, .aload_n 0, 1), (16, .getfield 108, 3), (19, .bipush 14, 2), (21, .iload_n 1, 1), (22, .imul, 1), (23, .iload_n 3, 1), (24, .iadd, 1), (25, .baload, 1), (26, .ifCond .ne 6, 3), (29, .goto 47, 3), (32, .iload_n 3, 1), (33, .iload_n 1, 1), (34, .if_icmp .ge 15, 3), (37, .aload_n 0, 1), (38, .getfield 88, 3), (41, .iload_n 3, 1), (42, .iaload, 1), (43, .iload_n 2, 1), (44, .if_icmp .ne 5, 3), (47, .iconst 0, 1), (48, .ireturn, 1), (49, .aload_n 0, 1), (50, .getfield 85, 3), (53, .iload_n 3, 1), (54, .iaload, 1), (55, .aload_n 0, 1), (56, .getfield 85, 3), (59, .iload_n 1, 1), (60, .iaload, 1), (61, .if_icmp .le 15, 3), (64, .aload_n 0, 1), (65, .getfield 39, 3), (68, .iload_n 3, 1), (69, .iaload, 1), (70, .iload_n 2, 1), (71, .if_icmp .ne 5, 3), (74, .iconst 0, 1), (75, .ireturn, 1), (76, .iinc 3 1, 3), (79, .goto (-77), 3), (82, .iconst 0, 1), (83, .istore_n 3, 1), (84, .iload_n 3, 1), (85, .aload_n 0, 1), (86, .getfield 154, 3), (89, .if_icmp .ge 56, 3), (92, .aload_n 0, 1), (93, .getfield 108, 3), (96, .bipush 14, 2), (98, .iload_n 1, 1), (99, .imul, 1), (100, .bipush 10, 2), (102, .iadd, 1), (103, .iload_n 3, 1), (104, .iadd, 1), (105, .baload, 1), (106, .ifCond .eq 33, 3), (109, .aload_n 0, 1), (110, .getfield 45, 3), (113, .iload_n 3, 1), (114, .iaload, 1), (115, .aload_n 0, 1), (116, .getfield 85, 3), (119, .iload_n 1, 1), (120, .iaload, 1), (121, .if_icmp .le 18, 3), (124, .aload_n 0, 1), (125, .getfield 39, 3), (128, .bipush 10, 2), (130, .iload_n 3, 1), (131, .iadd, 1), (132, .iaload, 1), (133, .iload_n 2, 1), (134, .if_icmp .ne 5, 3), (137, .iconst 0, 1), (138, .ireturn, 1), (139, .iinc 3 1, 3), (142, .goto (-58), 3), (145, .iconst 1, 1), (146, .ireturn, 1)]
def Y_X11_goes : mY := (11, ⟨"MastMoveModel", "goes", "(II)Z"⟩, prog_13_method_31_code, 4, some .boolean, t_X11_goes)
set_option maxRecDepth 100000 in
theorem k_X11_goes : chkT prog_13_method_31_code t_X11_goes = true := by decide +kernel
def t_X11_channels : List mI := [(0, .aload_n 0, 1), (1, .iconst 0, 1), (2, .putfield 114, 3), (5, .aload_n 0, 1), (6, .getfield 82, 3), (9, .iconst (-1), 1), (10, .if_icmp .eq 10, 3), (13, .aload_n 0, 1), (14, .getfield 189, 3), (17, .ifCond .le 6, 3), (20, .bipush (-9), 2), (22, .ireturn, 1), (23, .aload_n 0, 1), (24, .iconst 0, 1), (25, .putfield 192, 3), (28, .aload_n 0, 1), (29, .iconst 0, 1), (30, .putfield 200, 3), (33, .iconst 0, 1), (34, .istore_n 1, 1), (35, .iload_n 1, 1), (36, .aload_n 0, 1), (37, .getfield 145, 3), (40, .if_icmp .ge 90, 3), (43, .iconst 0, 1), (44, .istore_n 2, 1), (45, .iload_n 2, 1), (46, .bipush 10, 2), (48, .aload_n 0, 1), (49, .getfield 154, 3), (52, .iadd, 1), (53, .if_icmp .ge 71, 3), (56, .aload_n 0, 1), (57, .getfield 108, 3), (60, .bipush 14, 2), (62, .iload_n 1, 1), (63, .imul, 1), (64, .iload_n 2, 1), (65, .iadd, 1), (66, .iload_n 2, 1), (67, .bipush 10, 2), (69, .if_icmp .ge 42, 3), (72, .iload_n 2, 1), (73, .aload_n 0, 1), (74, .getfield 145, 3), (77, .if_icmp .ge 30, 3), (80, .iload_n 2, 1), (81, .iload_n 1, 1), (82, .if_icmp .eq 25, 3), (85, .aload_n 0, 1), (86, .iload_n 2, 1), (87, .iload_n 1, 1), (88, .invokevirtual 203, 3), (91, .ifCond .ne 12, 3), (94, .aload_n 0, 1), (95, .iload_n 1, 1), (96, .iload_n 2, 1), (97, .invokevirtual 203, 3), (100, .ifCond .eq 7, 3), (103, .iconst 1, 1), (104, .goto 13, 3), (107, .iconst 0, 1), (108, .goto 9, 3), (111, .aload_n 0, 1), (112, .iload_n 2, 1), (113, .iload_n 1, 1), (114, .invokevirtual 203, 3), (117, .bastore, 1), (118, .iinc 2 1, 3), (121, .goto (-76), 3), (124, .iinc 1 1, 3), (127, .goto (-92), 3), (130, .iconst 0, 1), (131, .istore_n 1, 1), (132, .aload_n 0, 1), (133, .getfield 88, 3), (136, .iconst 0, 1), (137, .iconst (-1), 1), (138, .iastore, 1), (139, .iload_n 1, 1), (140, .ifCond .lt 109, 3), (143, .aload_n 0, 1), (144, .getfield 88, 3), (147, .iload_n 1, 1), (148, .dup2, 1), (149, .iaload, 1), (150, .iconst 1, 1), (151, .iadd, 1), (152, .iastore, 1), (153, .aload_n 0, 1), (154, .getfield 88, 3), (157, .iload_n 1, 1), (158, .iaload, 1), (159, .bipush 12, 2), (161, .if_icmp .ne 9, 3), (164, .iinc 1 (-1), 3), (167, .goto (-28), 3), (170, .aload_n 0, 1), (171, .dup, 1), (172, .getfield 200, 3), (175, .iconst 1, 1), (176, .iadd, 1), (177, .putfield 200, 3), (180, .aload_n 0, 1), (181, .iload_n 1, 1), (182, .aload_n 0, 1), (183, .getfield 88, 3), (186, .iload_n 1, 1), (187, .iaload, 1), (188, .invokevirtual 206, 3), (191, .istore_n 2, 1), (192, .iload_n 2, 1), (193, .ifCond .eq 23, 3), (196, .iload_n 1, 1), (197, .aload_n 0, 1), (198, .getfield 145, 3), (201, .iconst 1, 1), (202, .isub, 1), (203, .if_icmp .ne 13, 3), (206, .aload_n 0, 1), (207, .iconst 1, 1), (208, .putfield 192, 3), (211, .aload_n 0, 1), (212, .invokevirtual 209, 3), (215, .ireturn, 1), (216, .aload_n 0, 1), (217, .getfield 200, 3), (220, .sipush 20000, 3), (223, .if_icmp .ne 6, 3), (226, .bipush (-4), 2), (228, .ireturn, 1), (229, .iload_n 2, 1), (230, .ifCond .ne 6, 3), (233, .goto (-94), 3), (236, .iinc 1 1, 3), (239, .aload_n 0, 1), (240, .getfield 88, 3), (243, .iload_n 1, 1), (244, .iconst (-1), 1), (245, .iastore, 1), (246, .goto (-107), 3), (249, .iconst (-1), 1), (250, .ireturn, 1)]
def Y_X11_channels : mY := (11, ⟨"MastMoveModel", "channels", "()I"⟩, prog_13_method_32_code, 3, some .int, t_X11_channels)
set_option maxRecDepth 100000 in
theorem k_X11_channels : chkT prog_13_method_32_code t_X11_channels = true := by decide +kernel
def t_X11_unlike : List mI := [(0, .iconst 0, 1), (1, .istore_n 1, 1), (2, .iconst 0, 1), (3, .istore_n 2, 1), (4, .iload_n 2, 1), (5, .aload_n 0, 1), (6, .getfield 145, 3), (9, .if_icmp .ge 20, 3), (12, .iload_n 1, 1), (13, .iconst 1, 1), (14, .aload_n 0, 1), (15, .getfield 88, 3), (18, .iload_n 2, 1), (19, .iaload, 1), (20, .ishl, 1), (21, .ior, 1), (22, .istore_n 1, 1), (23, .iinc 2 1, 3), (26, .goto (-22), 3), (29, .iconst 0, 1), (30, .istore_n 2, 1), (31, .iconst 0, 1), (32, .istore_n 3, 1), (33, .iload_n 3, 1), (34, .bipush 12, 2), (36, .if_icmp .ge 17, 3), (39, .iload_n 2, 1), (40, .iload_n 1, 1), (41, .iload_n 3, 1), (42, .ishr, 1), (43, .iconst 1, 1), (44, .iand, 1), (45, .iadd, 1), (46, .istore_n 2, 1), (47, .iinc 3 1, 3), (50, .goto (-17), 3), (53, .iload_n 2, 1), (54, .ireturn, 1)]
def Y_X11_unlike : mY := (11, ⟨"MastMoveModel", "unlike", "()I"⟩, prog_13_method_33_code, 4, some .int, t_X11_unlike)
set_option maxRecDepth 100000 in
theorem k_X11_unlike : chkT prog_13_method_33_code t_X11_unlike = true := by decide +kernel
def t_X11_channelOf : List mI := [(0, .aload_n 0, 1), (1, .iconst 0, 1), (2, .putfield 114, 3), (5, .aload_n 0, 1), (6, .iload_n 1, 1), (7, .invokevirtual 165, 3), (10, .ifCond .ne 8, 3), (13, .bipush (-2), 2), (15, .goto 20, 3), (18, .aload_n 0, 1), (19, .getfield 192, 3), (22, .ifCond .eq 12, 3), (25, .aload_n 0, 1), (26, .getfield 88, 3), (29, .iload_n 1, 1), (30, .iaload, 1), (31, .goto 4, 3), (34, .iconst (-1), 1), (35, .ireturn, 1)]
def Y_X11_channelOf : mY := (11, ⟨"MastMoveModel", "channelOf", "(I)I"⟩, prog_13_method_34_code, 2, some .int, t_X11_channelOf)
set_option maxRecDepth 100000 in
theorem k_X11_channelOf : chkT prog_13_method_34_code t_X11_channelOf = true := by decide +kernel
def t_X11_feed : List mI := [(0, .aload_n 0, 1), (1, .iconst 0, 1), (2, .putfield 114, 3), (5, .aload_n 0, 1), (6, .getfield 213, 3), (9, .bipush 20, 2), (11, .iadd, 1), (12, .sipush 300, 3), (15, .if_icmp .le 5, 3), (18, .iconst (-1), 1), (19, .ireturn, 1), (20, .iconst 0, 1), (21, .istore 6, 2), (23, .iload 6, 2), (25, .bipush 20, 2), (27, .if_icmp .ge 83, 3), (30, .iload 6, 2), (32, .iconst 4, 1), (33, .if_icmp .ge 7, 3), (36, .iload_n 1, 1), (37, .goto 39, 3), (40, .iload 6, 2), (42, .bipush 8, 2), (44, .if_icmp .ge 7, 3), (47, .iload_n 2, 1), (48, .goto 28, 3), (51, .iload 6, 2), (53, .bipush 12, 2), (55, .if_icmp .ge 7, 3), (58, .iload_n 3, 1), (59, .goto 17, 3), (62, .iload 6, 2), (64, .bipush 16, 2), (66, .if_icmp .ge 8, 3), (69, .iload 4, 2), (71, .goto 5, 3), (74, .iload 5, 2), (76, .istore 7, 2), (78, .aload_n 0, 1), (79, .getfield 91, 3), (82, .aload_n 0, 1), (83, .getfield 213, 3), (86, .iload 6, 2), (88, .iadd, 1), (89, .iload 7, 2), (91, .bipush 24, 2), (93, .bipush 8, 2), (95, .iload 6, 2), (97, .iconst 4, 1), (98, .irem, 1), (99, .imul, 1), (100, .isub, 1), (101, .ishr, 1), (102, .i2b, 1), (103, .bastore, 1), (104, .iinc 6 1, 3), (107, .goto (-84), 3), (110, .aload_n 0, 1), (111, .dup, 1), (112, .getfield 213, 3), (115, .bipush 20, 2), (117, .iadd, 1), (118, .putfield 213, 3), (121, .aload_n 0, 1), (122, .getfield 213, 3), (125, .ireturn, 1)]
def Y_X11_feed : mY := (11, ⟨"MastMoveModel", "feed", "(IIIII)I"⟩, prog_13_method_35_code, 8, some .int, t_X11_feed)
set_option maxRecDepth 100000 in
theorem k_X11_feed : chkT prog_13_method_35_code t_X11_feed = true := by decide +kernel
def t_X11_end : List mI := [(0, .aload_n 0, 1), (1, .iconst 0, 1), (2, .putfield 114, 3), (5, .iload_n 1, 1), (6, .i2l, 1), (7, .lconst 0, 1), (8, .aload_n 0, 1), (9, .getfield 213, 3), (12, .i2l, 1), (13, .invokestatic 119, 3), (16, .ifCond .ne 5, 3), (19, .iconst (-1), 1), (20, .ireturn, 1), (21, .aload_n 0, 1), (22, .iload_n 1, 1), (23, .putfield 213, 3), (26, .iload_n 1, 1), (27, .ireturn, 1)]
def Y_X11_end : mY := (11, ⟨"MastMoveModel", "end", "(I)I"⟩, prog_13_method_36_code, 2, some .int, t_X11_end)
set_option maxRecDepth 100000 in
theorem k_X11_end : chkT prog_13_method_36_code t_X11_end = true := by decide +kernel
def t_X11_see : List mI := [(0, .iload_n 1, 1), (1, .aload_n 0, 1), (2, .getfield 216, 3), (5, .if_icmp .ge 17, 3), (8, .aload_n 0, 1), (9, .getfield 98, 3), (12, .aload_n 0, 1), (13, .getfield 219, 3), (16, .iload_n 1, 1), (17, .iadd, 1), (18, .baload, 1), (19, .goto 4, 3), (22, .iconst 0, 1), (23, .ireturn, 1)]
def Y_X11_see : mY := (11, ⟨"MastMoveModel", "see", "(I)I"⟩, prog_13_method_37_code, 2, some .int, t_X11_see)
set_option maxRecDepth 100000 in
theorem k_X11_see : chkT prog_13_method_37_code t_X11_see = true := by decide +kernel
def t_X11_isLetter : List mI := [(0, .iload_n 0, 1), (1, .bipush 97, 2), (3, .if_icmp .lt 13, 3), (6, .iload_n 0, 1), (7, .bipush 122, 2), (9, .if_icmp .gt 7, 3), (12, .iconst 1, 1), (13, .goto 4, 3), (16, .iconst 0, 1), (17, .ireturn, 1)]
def Y_X11_isLetter : mY := (11, ⟨"MastMoveModel", "isLetter", "(I)Z"⟩, prog_13_method_38_code, 1, some .boolean, t_X11_isLetter)
set_option maxRecDepth 100000 in
theorem k_X11_isLetter : chkT prog_13_method_38_code t_X11_isLetter = true := by decide +kernel
def t_X11_isDigit : List mI := [(0, .iload_n 0, 1), (1, .bipush 48, 2), (3, .if_icmp .lt 13, 3), (6, .iload_n 0, 1), (7, .bipush 57, 2), (9, .if_icmp .gt 7, 3), (12, .iconst 1, 1), (13, .goto 4, 3), (16, .iconst 0, 1), (17, .ireturn, 1)]
def Y_X11_isDigit : mY := (11, ⟨"MastMoveModel", "isDigit", "(I)Z"⟩, prog_13_method_39_code, 1, some .boolean, t_X11_isDigit)
set_option maxRecDepth 100000 in
theorem k_X11_isDigit : chkT prog_13_method_39_code t_X11_isDigit = true := by decide +kernel
def t_X11_next : List mI := [(0, .aload_n 0, 1), (1, .getfield 222, 3), (4, .aload_n 0, 1), (5, .getfield 216, 3), (8, .if_icmp .ge 42, 3), (11, .aload_n 0, 1), (12, .aload_n 0, 1), (13, .getfield 222, 3), (16, .invokevirtual 225, 3), (19, .bipush 32, 2), (21, .if_icmp .eq 16, 3), (24, .aload_n 0, 1), (25, .aload_n 0, 1), (26, .getfield 222, 3), (29, .invokevirtual 225, 3), (32, .bipush 10, 2), (34, .if_icmp .ne 16, 3), (37, .aload_n 0, 1), (38, .dup, 1), (39, .getfield 222, 3), (42, .iconst 1, 1), (43, .iadd, 1), (44, .putfield 222, 3), (47, .goto (-47), 3), (50, .aload_n 0, 1), (51, .aload_n 0, 1), (52, .getfield 222, 3), (55, .putfield 228, 3), (58, .aload_n 0, 1), (59, .aload_n 0, 1), (60, .getfield 222, 3), (63, .invokevirtual 225, 3), (66, .istore_n 1, 1), (67, .aload_n 0, 1), (68, .getfield 222, 3), (71, .aload_n 0, 1), (72, .getfield 216, 3), (75, .if_icmp .ne 11, 3), (78, .aload_n 0, 1), (79, .iconst 0, 1), (80, .putfield 231, 3), (83, .goto 227, 3), (86, .iload_n 1, 1), (87, .invokestatic 234, 3), (90, .ifCond .eq 35, 3), (93, .aload_n 0, 1), (94, .iconst 1, 1), (95, .putfield 231, 3), (98, .aload_n 0, 1), (99, .aload_n 0, 1), (100, .getfield 222, 3), (103, .invokevirtual 225, 3), (106, .invokestatic 234, 3), (109, .ifCond .eq 201, 3), (112, .aload_n 0, 1), (113, .dup, 1), (114, .getfield 222, 3), (117, .iconst 1, 1), (118, .iadd, 1), (119, .putfield 222, 3), (122, .goto (-24), 3), (125, .iload_n 1, 1), (126, .invokestatic 237, 3), (129, .ifCond .eq 102, 3), (132, .aload_n 0, 1), (133, .iconst 2, 1), (134, .putfield 231, 3), (137, .aload_n 0, 1), (138, .lconst 0, 1), (139, .putfield 240, 3), (142, .aload_n 0, 1), (143, .aload_n 0, 1), (144, .getfield 222, 3), (147, .invokevirtual 225, 3), (150, .invokestatic 237, 3), (153, .ifCond .eq 59, 3), (156, .aload_n 0, 1), (157, .aload_n 0, 1), (158, .getfield 240, 3), (161, .ldc2_w 131, 3), (164, .lcmp, 1), (165, .ifCond .ge 28, 3), (168, .ldc2_w 176, 3), (171, .aload_n 0, 1), (172, .getfield 240, 3), (175, .lmul, 1), (176, .aload_n 0, 1), (177, .aload_n 0, 1), (178, .getfield 222, 3), (181, .invokevirtual 225, 3), (184, .i2l, 1), (185, .ladd, 1), (186, .ldc2_w 244, 3), (189, .lsub, 1), (190, .goto 6, 3), (193, .ldc2_w 131, 3), (196, .putfield 240, 3), (199, .aload_n 0, 1), (200, .dup, 1), (201, .getfield 222, 3), (204, .iconst 1, 1), (205, .iadd, 1), (206, .putfield 222, 3), (209, .goto (-67), 3), (212, .aload_n 0, 1), (213, .getfield 240, 3), (216, .ldc2_w 131, 3), (219, .lcmp, 1), (220, .ifCond .lt 90, 3), (223, .aload_n 0, 1), (224, .iconst 4, 1), (225, .putfield 231, 3), (228, .goto 82, 3), (231, .aload_n 0, 1), (232, .iload_n 1, 1), (233, .bipush 43, 2), (235, .if_icmp .eq 57, 3), (238, .iload_n 1, 1), (239, .bipush 45, 2), (241, .if_icmp .eq 51, 3), (244, .iload_n 1, 1), (245, .bipush 42, 2), (247, .if_icmp .eq 45, 3), (250, .iload_n 1, 1), (251, .bipush 47, 2), (253, .if_icmp .eq 39, 3), (256, .iload_n 1, 1), (257, .bipush 40, 2), (259, .if_icmp .eq 33, 3), (262, .iload_n 1, 1), (263, .bipush 41, 2), (265, .if_icmp .eq 27, 3), (268, .iload_n 1, 1), (269, .bipush 60, 2), (271, .if_icmp .eq 21, 3), (274, .iload_n 1, 1), (275, .bipush 62, 2), (277, .if_icmp .eq 15, 3), (280, .iload_n 1, 1), (281, .bipush 61, 2), (283, .if_icmp .eq 9, 3), (286, .iload_n 1, 1), (287, .bipush 59, 2), (289, .if_icmp .ne 7, 3), (292, .iconst 3, 1), (293, .goto 4, 3), (296, .iconst 4, 1), (297, .putfield 231, 3), (300, .aload_n 0, 1), (301, .dup, 1), (302, .getfield 222, 3), (305, .iconst 1, 1), (306, .iadd, 1), (307, .putfield 222, 3), (310, .return_, 1)]
def Y_X11_next : mY := (11, ⟨"MastMoveModel", "next", "()V"⟩, prog_13_method_40_code, 2, none, t_X11_next)
set_option maxRecDepth 100000 in
theorem k_X11_next : chkT prog_13_method_40_code t_X11_next = true := by decide +kernel
def t_X11_bad : List mI := [(0, .aload_n 0, 1), (1, .getfield 246, 3), (4, .ifCond .ne 11, 3), (7, .aload_n 0, 1), (8, .aload_n 0, 1), (9, .getfield 228, 3), (12, .putfield 95, 3), (15, .aload_n 0, 1), (16, .iconst 1, 1), (17, .putfield 246, 3), (20, .return_, 1)]
def Y_X11_bad : mY := (11, ⟨"MastMoveModel", "bad", "()V"⟩, prog_13_method_41_code, 1, none, t_X11_bad)
set_option maxRecDepth 100000 in
theorem k_X11_bad : chkT prog_13_method_41_code t_X11_bad = true := by decide +kernel
def t_X11_isSign : List mI := [(0, .aload_n 0, 1), (1, .getfield 246, 3), (4, .ifCond .ne 27, 3), (7, .aload_n 0, 1), (8, .getfield 231, 3), (11, .iconst 3, 1), (12, .if_icmp .ne 19, 3), (15, .aload_n 0, 1), (16, .aload_n 0, 1), (17, .getfield 228, 3), (20, .invokevirtual 225, 3), (23, .iload_n 1, 1), (24, .if_icmp .ne 7, 3), (27, .iconst 1, 1), (28, .goto 4, 3), (31, .iconst 0, 1), (32, .ireturn, 1)]
def Y_X11_isSign : mY := (11, ⟨"MastMoveModel", "isSign", "(I)Z"⟩, prog_13_method_42_code, 2, some .boolean, t_X11_isSign)
set_option maxRecDepth 100000 in
theorem k_X11_isSign : chkT prog_13_method_42_code t_X11_isSign = true := by decide +kernel
def t_X11_is : List mI := [(0, .aload_n 0, 1), (1, .getfield 246, 3), (4, .ifCond .ne 31, 3), (7, .aload_n 0, 1), (8, .getfield 231, 3), (11, .iconst 1, 1), (12, .if_icmp .ne 23, 3), (15, .aload_n 0, 1), (16, .getfield 222, 3), (19, .aload_n 0, 1), (20, .getfield 228, 3), (23, .isub, 1), (24, .aload_n 1, 1), (25, .invokevirtual 249, 3), (28, .if_icmp .ne 7, 3), (31, .iconst 1, 1), (32, .goto 4, 3), (35, .iconst 0, 1), (36, .istore_n 2, 1), (37, .iconst 0, 1), (38, .istore_n 3, 1), (39, .iload_n 2, 1), (40, .ifCond .eq 41, 3), (43, .iload_n 3, 1), (44, .aload_n 1, 1), (45, .invokevirtual 249, 3), (48, .if_icmp .ge 33, 3), (51, .aload_n 0, 1), (52, .aload_n 0, 1), (53, .getfield 228, 3), (56, .iload_n 3, 1), (57, .iadd, 1), (58, .invokevirtual 225, 3), (61, .aload_n 1, 1), (62, .iload_n 3, 1), (63, .invokevirtual 254, 3), (66, .if_icmp .ne 7, 3), (69, .iconst 1, 1), (70, .goto 4, 3), (73, .iconst 0, 1), (74, .istore_n 2, 1), (75, .iinc 3 1, 3), (78, .goto (-39), 3), (81, .iload_n 2, 1), (82, .ireturn, 1)]
def Y_X11_is : mY := (11, ⟨"MastMoveModel", "is", "(Ljava/lang/String;)Z"⟩, prog_13_method_43_code, 4, some .boolean, t_X11_is)
set_option maxRecDepth 100000 in
theorem k_X11_is : chkT prog_13_method_43_code t_X11_is = true := by decide +kernel
def t_X11_whole : List mI := [(0, .aload_n 0, 1), (1, .getfield 246, 3), (4, .ifCond .ne 11, 3), (7, .aload_n 0, 1), (8, .getfield 231, 3), (11, .iconst 2, 1), (12, .if_icmp .eq 9, 3), (15, .aload_n 0, 1), (16, .invokevirtual 258, 3), (19, .iconst 0, 1), (20, .ireturn, 1), (21, .aload_n 0, 1), (22, .getfield 240, 3), (25, .l2i, 1), (26, .istore_n 1, 1), (27, .aload_n 0, 1), (28, .invokevirtual 261, 3), (31, .iload_n 1, 1), (32, .ireturn, 1)]
def Y_X11_whole : mY := (11, ⟨"MastMoveModel", "whole", "()I"⟩, prog_13_method_44_code, 2, some .int, t_X11_whole)
set_option maxRecDepth 100000 in
theorem k_X11_whole : chkT prog_13_method_44_code t_X11_whole = true := by decide +kernel
def t_X11_factor : List mI := [(0, .aload_n 0, 1), (1, .getfield 246, 3), (4, .ifCond .eq 5, 3), (7, .lconst 0, 1), (8, .lreturn, 1), (9, .aload_n 0, 1), (10, .getfield 231, 3), (13, .iconst 2, 1), (14, .if_icmp .ne 9, 3), (17, .aload_n 0, 1), (18, .invokevirtual 264, 3), (21, .i2l, 1), (22, .lreturn, 1), (23, .aload_n 0, 1), (24, .ldc_w 267, 3), (27, .invokevirtual 268, 3), (30, .ifCond .eq 7, 3), (33, .iconst 0, 1), (34, .goto 74, 3), (37, .aload_n 0, 1), (38, .ldc_w 272, 3), (41, .invokevirtual 268, 3), (44, .ifCond .eq 7, 3), (47, .iconst 1, 1), (48, .goto 60, 3), (51, .aload_n 0, 1), (52, .ldc_w 273, 3), (55, .invokevirtual 268, 3), (58, .ifCond .eq 7, 3), (61, .iconst 2, 1), (62, .goto 46, 3), (65, .aload_n 0, 1), (66, .ldc_w 274, 3), (69, .invokevirtual 268, 3), (72, .ifCond .eq 7, 3), (75, .iconst 3, 1), (76, .goto 32, 3), (79, .aload_n 0, 1), (80, .ldc_w 275, 3), (83, .invokevirtual 268, 3), (86, .ifCond .eq 7, 3), (89, .iconst 4, 1), (90, .goto 18, 3), (93, .aload_n 0, 1), (94, .ldc_w 276, 3), (97, .invokevirtual 268, 3), (100, .ifCond .eq 7, 3), (103, .iconst 5, 1), (104, .goto 4, 3), (107, .iconst (-1), 1), (108, .istore_n 1, 1), (109, .iload_n 1, 1), (110, .iconst (-1), 1), (111, .if_icmp .eq 14, 3), (114, .aload_n 0, 1), (115, .invokevirtual 261, 3), (118, .aload_n 0, 1), (119, .getfield 111, 3), (122, .iload_n 1, 1), (123, .laload, 1), (124, .lreturn, 1), (125, .aload_n 0, 1), (126, .bipush 40, 2), (128, .invokevirtual 278, 3), (131, .ifCond .eq 12, 3), (134, .aload_n 0, 1), (135, .getfield 281, 3), (138, .bipush 8, 2), (140, .if_icmp .ne 9, 3), (143, .aload_n 0, 1), (144, .invokevirtual 258, 3), (147, .lconst 0, 1), (148, .lreturn, 1), (149, .aload_n 0, 1), (150, .dup, 1), (151, .getfield 281, 3), (154, .iconst 1, 1), (155, .iadd, 1), (156, .putfield 281, 3), (159, .aload_n 0, 1), (160, .invokevirtual 261, 3), (163, .aload_n 0, 1), (164, .invokevirtual 284, 3), (167, .lstore_n 2, 1), (168, .aload_n 0, 1), (169, .bipush 41, 2), (171, .invokevirtual 278, 3), (174, .ifCond .ne 9, 3), (177, .aload_n 0, 1), (178, .invokevirtual 258, 3), (181, .lconst 0, 1), (182, .lreturn, 1), (183, .aload_n 0, 1), (184, .dup, 1), (185, .getfield 281, 3), (188, .iconst 1, 1), (189, .isub, 1), (190, .putfield 281, 3), (193, .aload_n 0, 1), (194, .invokevirtual 261, 3), (197, .lload_n 2, 1), (198, .lreturn, 1)]
def Y_X11_factor : mY := (11, ⟨"MastMoveModel", "factor", "()J"⟩, prog_13_method_45_code, 4, some .long, t_X11_factor)
set_option maxRecDepth 100000 in
theorem k_X11_factor : chkT prog_13_method_45_code t_X11_factor = true := by decide +kernel
def t_X11_term : List mI := [(0, .aload_n 0, 1), (1, .invokevirtual 288, 3), (4, .lstore_n 1, 1), (5, .aload_n 0, 1), (6, .bipush 42, 2), (8, .invokevirtual 278, 3), (11, .ifCond .ne 12, 3), (14, .aload_n 0, 1), (15, .bipush 47, 2), (17, .invokevirtual 278, 3), (20, .ifCond .eq 64, 3), (23, .aload_n 0, 1), (24, .bipush 42, 2), (26, .invokevirtual 278, 3), (29, .istore_n 3, 1), (30, .aload_n 0, 1), (31, .invokevirtual 261, 3), (34, .aload_n 0, 1), (35, .invokevirtual 288, 3), (38, .lstore 4, 2), (40, .iload_n 3, 1), (41, .ifCond .eq 10, 3), (44, .lload_n 1, 1), (45, .lload 4, 2), (47, .lmul, 1), (48, .goto 32, 3), (51, .lload 4, 2), (53, .lconst 0, 1), (54, .lcmp, 1), (55, .ifCond .ne 7, 3), (58, .lconst 0, 1), (59, .goto 21, 3), (62, .lload 4, 2), (64, .ldc2_w 143, 3), (67, .lcmp, 1), (68, .ifCond .ne 8, 3), (71, .lload_n 1, 1), (72, .lneg, 1), (73, .goto 7, 3), (76, .lload_n 1, 1), (77, .lload 4, 2), (79, .ldiv, 1), (80, .lstore_n 1, 1), (81, .goto (-76), 3), (84, .lload_n 1, 1), (85, .lreturn, 1)]
def Y_X11_term : mY := (11, ⟨"MastMoveModel", "term", "()J"⟩, prog_13_method_46_code, 6, some .long, t_X11_term)
set_option maxRecDepth 100000 in
theorem k_X11_term : chkT prog_13_method_46_code t_X11_term = true := by decide +kernel
def t_X11_sum : List mI := [(0, .aload_n 0, 1), (1, .invokevirtual 291, 3), (4, .lstore_n 1, 1), (5, .aload_n 0, 1), (6, .bipush 43, 2), (8, .invokevirtual 278, 3), (11, .ifCond .ne 12, 3), (14, .aload_n 0, 1), (15, .bipush 45, 2), (17, .invokevirtual 278, 3), (20, .ifCond .eq 39, 3), (23, .aload_n 0, 1), (24, .bipush 43, 2), (26, .invokevirtual 278, 3), (29, .istore_n 3, 1), (30, .aload_n 0, 1), (31, .invokevirtual 261, 3), (34, .aload_n 0, 1), (35, .invokevirtual 291, 3), (38, .lstore 4, 2), (40, .iload_n 3, 1), (41, .ifCond .eq 10, 3), (44, .lload_n 1, 1), (45, .lload 4, 2), (47, .ladd, 1), (48, .goto 7, 3), (51, .lload_n 1, 1), (52, .lload 4, 2), (54, .lsub, 1), (55, .lstore_n 1, 1), (56, .goto (-51), 3), (59, .lload_n 1, 1), (60, .lreturn, 1)]
def Y_X11_sum : mY := (11, ⟨"MastMoveModel", "sum", "()J"⟩, prog_13_method_47_code, 6, some .long, t_X11_sum)
set_option maxRecDepth 100000 in
theorem k_X11_sum : chkT prog_13_method_47_code t_X11_sum = true := by decide +kernel
def t_X11_conds : List mI := [(0, .iconst 1, 1), (1, .istore_n 1, 1), (2, .iconst 1, 1), (3, .istore_n 2, 1), (4, .iload_n 2, 1), (5, .ifCond .eq 135, 3), (8, .aload_n 0, 1), (9, .invokevirtual 261, 3), (12, .aload_n 0, 1), (13, .invokevirtual 284, 3), (16, .lstore_n 3, 1), (17, .aload_n 0, 1), (18, .bipush 60, 2), (20, .invokevirtual 278, 3), (23, .ifCond .eq 7, 3), (26, .iconst 0, 1), (27, .goto 30, 3), (30, .aload_n 0, 1), (31, .bipush 62, 2), (33, .invokevirtual 278, 3), (36, .ifCond .eq 7, 3), (39, .iconst 1, 1), (40, .goto 17, 3), (43, .aload_n 0, 1), (44, .bipush 61, 2), (46, .invokevirtual 278, 3), (49, .ifCond .eq 7, 3), (52, .iconst 2, 1), (53, .goto 4, 3), (56, .iconst (-1), 1), (57, .istore 5, 2), (59, .iload 5, 2), (61, .iconst (-1), 1), (62, .if_icmp .ne 9, 3), (65, .aload_n 0, 1), (66, .invokevirtual 258, 3), (69, .iconst 0, 1), (70, .ireturn, 1), (71, .aload_n 0, 1), (72, .invokevirtual 261, 3), (75, .aload_n 0, 1), (76, .invokevirtual 284, 3), (79, .lstore 6, 2), (81, .iload_n 1, 1), (82, .ifCond .eq 45, 3), (85, .iload 5, 2), (87, .ifCond .ne 13, 3), (90, .lload_n 3, 1), (91, .lload 6, 2), (93, .lcmp, 1), (94, .ifCond .ge 33, 3), (97, .goto 26, 3), (100, .iload 5, 2), (102, .iconst 1, 1), (103, .if_icmp .ne 13, 3), (106, .lload_n 3, 1), (107, .lload 6, 2), (109, .lcmp, 1), (110, .ifCond .le 17, 3), (113, .goto 10, 3), (116, .lload_n 3, 1), (117, .lload 6, 2), (119, .lcmp, 1), (120, .ifCond .ne 7, 3), (123, .iconst 1, 1), (124, .goto 4, 3), (127, .iconst 0, 1), (128, .istore_n 1, 1), (129, .aload_n 0, 1), (130, .ldc_w 294, 3), (133, .invokevirtual 268, 3), (136, .istore_n 2, 1), (137, .goto (-133), 3), (140, .iload_n 1, 1), (141, .ireturn, 1)]
def Y_X11_conds : mY := (11, ⟨"MastMoveModel", "conds", "()Z"⟩, prog_13_method_48_code, 8, some .boolean, t_X11_conds)
set_option maxRecDepth 100000 in
theorem k_X11_conds : chkT prog_13_method_48_code t_X11_conds = true := by decide +kernel
def t_X11_rule : List mI := [(0, .aload_n 0, 1), (1, .ldc_w 296, 3), (4, .invokevirtual 268, 3), (7, .istore_n 1, 1), (8, .aload_n 0, 1), (9, .getfield 298, 3), (12, .bipush 10, 2), (14, .if_icmp .eq 17, 3), (17, .iload_n 1, 1), (18, .ifCond .ne 18, 3), (21, .aload_n 0, 1), (22, .ldc_w 301, 3), (25, .invokevirtual 268, 3), (28, .ifCond .ne 8, 3), (31, .aload_n 0, 1), (32, .invokevirtual 258, 3), (35, .return_, 1), (36, .aload_n 0, 1), (37, .dup, 1), (38, .getfield 298, 3), (41, .iconst 1, 1), (42, .iadd, 1), (43, .putfield 298, 3), (46, .aload_n 0, 1), (47, .invokevirtual 261, 3), (50, .iload_n 1, 1), (51, .ifCond .ne 40, 3), (54, .aload_n 0, 1), (55, .invokevirtual 264, 3), (58, .istore_n 2, 1), (59, .aload_n 0, 1), (60, .getfield 246, 3), (63, .ifCond .ne 27, 3), (66, .aload_n 0, 1), (67, .aload_n 0, 1), (68, .getfield 303, 3), (71, .iconst (-1), 1), (72, .if_icmp .ne 7, 3), (75, .iload_n 2, 1), (76, .goto 11, 3), (79, .aload_n 0, 1), (80, .getfield 303, 3), (83, .iload_n 2, 1), (84, .invokestatic 305, 3), (87, .putfield 303, 3), (90, .return_, 1), (91, .aload_n 0, 1), (92, .invokevirtual 284, 3), (95, .lstore_n 2, 1), (96, .aload_n 0, 1), (97, .ldc_w 310, 3), (100, .invokevirtual 268, 3), (103, .ifCond .eq 10, 3), (106, .aload_n 0, 1), (107, .invokevirtual 312, 3), (110, .ifCond .eq 7, 3), (113, .iconst 1, 1), (114, .goto 4, 3), (117, .iconst 0, 1), (118, .istore 4, 2), (120, .aload_n 0, 1), (121, .getfield 246, 3), (124, .ifCond .ne 15, 3), (127, .iload 4, 2), (129, .ifCond .eq 10, 3), (132, .aload_n 0, 1), (133, .getfield 316, 3), (136, .ifCond .eq 4, 3), (139, .return_, 1), (140, .aload_n 0, 1), (141, .lload_n 2, 1), (142, .putfield 319, 3), (145, .aload_n 0, 1), (146, .iconst 1, 1), (147, .putfield 316, 3), (150, .return_, 1)]
def Y_X11_rule : mY := (11, ⟨"MastMoveModel", "rule", "()V"⟩, prog_13_method_49_code, 5, none, t_X11_rule)
set_option maxRecDepth 100000 in
theorem k_X11_rule : chkT prog_13_method_49_code t_X11_rule = true := by decide +kernel
def t_X11_reads : List mI := [(0, .aload_n 0, 1), (1, .sipush 300, 3), (4, .iload_n 1, 1), (5, .imul, 1), (6, .putfield 219, 3), (9, .aload_n 0, 1), (10, .aload_n 0, 1), (11, .getfield 101, 3), (14, .iload_n 1, 1), (15, .iaload, 1), (16, .putfield 216, 3), (19, .aload_n 0, 1), (20, .iconst 0, 1), (21, .putfield 222, 3), (24, .aload_n 0, 1), (25, .iconst 0, 1), (26, .putfield 281, 3), (29, .aload_n 0, 1), (30, .iconst 0, 1), (31, .putfield 298, 3), (34, .aload_n 0, 1), (35, .iconst (-1), 1), (36, .putfield 303, 3), (39, .aload_n 0, 1), (40, .lconst 0, 1), (41, .putfield 319, 3), (44, .aload_n 0, 1), (45, .iconst 0, 1), (46, .putfield 246, 3), (49, .aload_n 0, 1), (50, .iconst 0, 1), (51, .putfield 316, 3), (54, .aload_n 0, 1), (55, .invokevirtual 261, 3), (58, .aload_n 0, 1), (59, .getfield 231, 3), (62, .ifCond .ne 4, 3), (65, .return_, 1), (66, .aload_n 0, 1), (67, .invokevirtual 322, 3), (70, .aload_n 0, 1), (71, .bipush 59, 2), (73, .invokevirtual 278, 3), (76, .ifCond .eq 14, 3), (79, .aload_n 0, 1), (80, .invokevirtual 261, 3), (83, .aload_n 0, 1), (84, .invokevirtual 322, 3), (87, .goto (-17), 3), (90, .aload_n 0, 1), (91, .getfield 231, 3), (94, .ifCond .eq 7, 3), (97, .aload_n 0, 1), (98, .invokevirtual 258, 3), (101, .return_, 1)]
def Y_X11_reads : mY := (11, ⟨"MastMoveModel", "reads", "(I)V"⟩, prog_13_method_50_code, 2, none, t_X11_reads)
set_option maxRecDepth 100000 in
theorem k_X11_reads : chkT prog_13_method_50_code t_X11_reads = true := by decide +kernel
def t_X11_law : List mI := [(0, .aload_n 0, 1), (1, .iconst 0, 1), (2, .putfield 114, 3), (5, .iconst 0, 1), (6, .istore_n 1, 1), (7, .iload_n 1, 1), (8, .aload_n 0, 1), (9, .getfield 213, 3), (12, .if_icmp .ge 25, 3), (15, .aload_n 0, 1), (16, .getfield 98, 3), (19, .sipush 300, 3), (22, .iload_n 1, 1), (23, .iadd, 1), (24, .aload_n 0, 1), (25, .getfield 91, 3), (28, .iload_n 1, 1), (29, .baload, 1), (30, .bastore, 1), (31, .iinc 1 1, 3), (34, .goto (-27), 3), (37, .aload_n 0, 1), (38, .getfield 101, 3), (41, .iconst 1, 1), (42, .aload_n 0, 1), (43, .getfield 213, 3), (46, .iastore, 1), (47, .aload_n 0, 1), (48, .iconst 0, 1), (49, .putfield 213, 3), (52, .aload_n 0, 1), (53, .iconst (-1), 1), (54, .putfield 95, 3), (57, .aload_n 0, 1), (58, .iconst 1, 1), (59, .invokevirtual 325, 3), (62, .aload_n 0, 1), (63, .getfield 246, 3), (66, .ifCond .eq 6, 3), (69, .bipush (-4), 2), (71, .ireturn, 1), (72, .iconst 0, 1), (73, .istore_n 1, 1), (74, .iload_n 1, 1), (75, .aload_n 0, 1), (76, .getfield 101, 3), (79, .iconst 1, 1), (80, .iaload, 1), (81, .if_icmp .ge 25, 3), (84, .aload_n 0, 1), (85, .getfield 98, 3), (88, .iload_n 1, 1), (89, .aload_n 0, 1), (90, .getfield 98, 3), (93, .sipush 300, 3), (96, .iload_n 1, 1), (97, .iadd, 1), (98, .baload, 1), (99, .bastore, 1), (100, .iinc 1 1, 3), (103, .goto (-29), 3), (106, .aload_n 0, 1), (107, .getfield 101, 3), (110, .iconst 0, 1), (111, .aload_n 0, 1), (112, .getfield 101, 3), (115, .iconst 1, 1), (116, .iaload, 1), (117, .iastore, 1), (118, .aload_n 0, 1), (119, .aload_n 0, 1), (120, .getfield 298, 3), (123, .putfield 329, 3), (126, .aload_n 0, 1), (127, .getfield 329, 3), (130, .ireturn, 1)]
def Y_X11_law : mY := (11, ⟨"MastMoveModel", "law", "()I"⟩, prog_13_method_51_code, 2, some .int, t_X11_law)
set_option maxRecDepth 100000 in
theorem k_X11_law : chkT prog_13_method_51_code t_X11_law = true := by decide +kernel
def t_X11_fault : List mI := [(0, .aload_n 0, 1), (1, .iconst 0, 1), (2, .putfield 114, 3), (5, .aload_n 0, 1), (6, .getfield 95, 3), (9, .ireturn, 1)]
def Y_X11_fault : mY := (11, ⟨"MastMoveModel", "fault", "()I"⟩, prog_13_method_52_code, 1, some .int, t_X11_fault)
set_option maxRecDepth 100000 in
theorem k_X11_fault : chkT prog_13_method_52_code t_X11_fault = true := by decide +kernel
def t_X11_deliver : List mI := [(0, .aload_n 0, 1), (1, .iconst 0, 1), (2, .putfield 114, 3), (5, .iload_n 1, 1), (6, .i2l, 1), (7, .lconst 0, 1), (8, .ldc2_w 131, 3), (11, .invokestatic 119, 3), (14, .ifCond .eq 15, 3), (17, .aload_n 0, 1), (18, .getfield 332, 3), (21, .iload_n 1, 1), (22, .iadd, 1), (23, .ldc_w 334, 3), (26, .if_icmp .le 6, 3), (29, .bipush (-2), 2), (31, .ireturn, 1), (32, .aload_n 0, 1), (33, .dup, 1), (34, .getfield 332, 3), (37, .iload_n 1, 1), (38, .iadd, 1), (39, .putfield 332, 3), (42, .aload_n 0, 1), (43, .getfield 332, 3), (46, .ireturn, 1)]
def Y_X11_deliver : mY := (11, ⟨"MastMoveModel", "deliver", "(I)I"⟩, prog_13_method_53_code, 2, some .int, t_X11_deliver)
set_option maxRecDepth 100000 in
theorem k_X11_deliver : chkT prog_13_method_53_code t_X11_deliver = true := by decide +kernel
end
section
/-! method tables -/
def t_X11_go : List mI := [(0, .aload_n 0, 1), (1, .iconst 0, 1), (2, .putfield 114, 3), (5, .aload_n 0, 1), (6, .getfield 189, 3), (9, .bipush 52, 2), (11, .if_icmp .eq 18, 3), (14, .aload_n 0, 1), (15, .getfield 82, 3), (18, .iconst (-1), 1), (19, .if_icmp .eq 10, 3), (22, .aload_n 0, 1), (23, .getfield 192, 3), (26, .ifCond .ne 6, 3), (29, .bipush (-9), 2), (31, .ireturn, 1), (32, .lconst 0, 1), (33, .lstore_n 1, 1), (34, .iconst 0, 1), (35, .istore_n 3, 1), (36, .iload_n 3, 1), (37, .aload_n 0, 1), (38, .getfield 159, 3), (41, .if_icmp .ge 173, 3), (44, .aload_n 0, 1), (45, .getfield 111, 3), (48, .iconst 0, 1), (49, .aload_n 0, 1), (50, .getfield 64, 3), (53, .iload_n 3, 1), (54, .iaload, 1), (55, .i2l, 1), (56, .lastore, 1), (57, .aload_n 0, 1), (58, .getfield 111, 3), (61, .iconst 1, 1), (62, .aload_n 0, 1), (63, .getfield 67, 3), (66, .iload_n 3, 1), (67, .iaload, 1), (68, .i2l, 1), (69, .lastore, 1), (70, .aload_n 0, 1), (71, .getfield 111, 3), (74, .iconst 2, 1), (75, .aload_n 0, 1), (76, .getfield 70, 3), (79, .iload_n 3, 1), (80, .iaload, 1), (81, .i2l, 1), (82, .lastore, 1), (83, .aload_n 0, 1), (84, .getfield 111, 3), (87, .iconst 3, 1), (88, .aload_n 0, 1), (89, .getfield 73, 3), (92, .iload_n 3, 1), (93, .iaload, 1), (94, .i2l, 1), (95, .lastore, 1), (96, .aload_n 0, 1), (97, .getfield 111, 3), (100, .iconst 4, 1), (101, .aload_n 0, 1), (102, .getfield 189, 3), (105, .i2l, 1), (106, .lastore, 1), (107, .aload_n 0, 1), (108, .getfield 111, 3), (111, .iconst 5, 1), (112, .aload_n 0, 1), (113, .getfield 332, 3), (116, .i2l, 1), (117, .lastore, 1), (118, .aload_n 0, 1), (119, .iconst 0, 1), (120, .invokevirtual 325, 3), (123, .lconst 0, 1), (124, .aload_n 0, 1), (125, .getfield 319, 3), (128, .invokestatic 335, 3), (131, .aload_n 0, 1), (132, .getfield 64, 3), (135, .iload_n 3, 1), (136, .iaload, 1), (137, .aload_n 0, 1), (138, .getfield 73, 3), (141, .iload_n 3, 1), (142, .iaload, 1), (143, .isub, 1), (144, .aload_n 0, 1), (145, .getfield 332, 3), (148, .invokestatic 305, 3), (151, .i2l, 1), (152, .invokestatic 339, 3), (155, .lstore 4, 2), (157, .aload_n 0, 1), (158, .getfield 303, 3), (161, .iconst (-1), 1), (162, .if_icmp .eq 17, 3), (165, .lload 4, 2), (167, .aload_n 0, 1), (168, .getfield 303, 3), (171, .i2l, 1), (172, .lload_n 1, 1), (173, .lsub, 1), (174, .invokestatic 339, 3), (177, .lstore 4, 2), (179, .aload_n 0, 1), (180, .getfield 73, 3), (183, .iload_n 3, 1), (184, .dup2, 1), (185, .iaload, 1), (186, .lload 4, 2), (188, .l2i, 1), (189, .iadd, 1), (190, .iastore, 1), (191, .aload_n 0, 1), (192, .dup, 1), (193, .getfield 332, 3), (196, .lload 4, 2), (198, .l2i, 1), (199, .isub, 1), (200, .putfield 332, 3), (203, .lload_n 1, 1), (204, .lload 4, 2), (206, .ladd, 1), (207, .lstore_n 1, 1), (208, .iinc 3 1, 3), (211, .goto (-175), 3), (214, .iconst 0, 1), (215, .istore_n 3, 1), (216, .iload_n 3, 1), (217, .aload_n 0, 1), (218, .getfield 145, 3), (221, .if_icmp .ge 29, 3), (224, .aload_n 0, 1), (225, .getfield 85, 3), (228, .iload_n 3, 1), (229, .iaload, 1), (230, .aload_n 0, 1), (231, .getfield 189, 3), (234, .if_icmp .ne 10, 3), (237, .aload_n 0, 1), (238, .getfield 52, 3), (241, .iload_n 3, 1), (242, .iconst 1, 1), (243, .bastore, 1), (244, .iinc 3 1, 3), (247, .goto (-31), 3), (250, .aload_n 0, 1), (251, .dup, 1), (252, .getfield 189, 3), (255, .iconst 1, 1), (256, .iadd, 1), (257, .putfield 189, 3), (260, .aload_n 0, 1), (261, .getfield 189, 3), (264, .ireturn, 1)]
def Y_X11_go : mY := (11, ⟨"MastMoveModel", "go", "()I"⟩, prog_13_method_54_code, 6, some .int, t_X11_go)
set_option maxRecDepth 100000 in
theorem k_X11_go : chkT prog_13_method_54_code t_X11_go = true := by decide +kernel
def t_X11_fail : List mI := [(0, .aload_n 0, 1), (1, .iconst 0, 1), (2, .putfield 114, 3), (5, .aload_n 0, 1), (6, .iload_n 1, 1), (7, .invokevirtual 165, 3), (10, .ifCond .eq 13, 3), (13, .aload_n 0, 1), (14, .getfield 55, 3), (17, .iload_n 1, 1), (18, .baload, 1), (19, .iload_n 2, 1), (20, .if_icmp .ne 5, 3), (23, .iconst 0, 1), (24, .ireturn, 1), (25, .aload_n 0, 1), (26, .getfield 55, 3), (29, .iload_n 1, 1), (30, .iload_n 2, 1), (31, .bastore, 1), (32, .iconst 1, 1), (33, .ireturn, 1)]
def Y_X11_fail : mY := (11, ⟨"MastMoveModel", "fail", "(IZ)Z"⟩, prog_13_method_55_code, 3, some .boolean, t_X11_fail)
set_option maxRecDepth 100000 in
theorem k_X11_fail : chkT prog_13_method_55_code t_X11_fail = true := by decide +kernel
def t_X11_isOn : List mI := [(0, .iload_n 1, 1), (1, .istore_n 2, 1), (2, .iload_n 2, 1), (3, .iconst (-1), 1), (4, .if_icmp .eq 22, 3), (7, .aload_n 0, 1), (8, .getfield 55, 3), (11, .iload_n 2, 1), (12, .baload, 1), (13, .ifCond .ne 13, 3), (16, .aload_n 0, 1), (17, .getfield 42, 3), (20, .iload_n 2, 1), (21, .iaload, 1), (22, .istore_n 2, 1), (23, .goto (-21), 3), (26, .iload_n 2, 1), (27, .iconst (-1), 1), (28, .if_icmp .ne 7, 3), (31, .iconst 1, 1), (32, .goto 4, 3), (35, .iconst 0, 1), (36, .ireturn, 1)]
def Y_X11_isOn : mY := (11, ⟨"MastMoveModel", "isOn", "(I)Z"⟩, prog_13_method_56_code, 3, some .boolean, t_X11_isOn)
set_option maxRecDepth 100000 in
theorem k_X11_isOn : chkT prog_13_method_56_code t_X11_isOn = true := by decide +kernel
def t_X11_on : List mI := [(0, .aload_n 0, 1), (1, .iconst 0, 1), (2, .putfield 114, 3), (5, .aload_n 0, 1), (6, .iload_n 1, 1), (7, .invokevirtual 165, 3), (10, .ifCond .eq 19, 3), (13, .aload_n 0, 1), (14, .iload_n 1, 1), (15, .invokevirtual 341, 3), (18, .ifCond .eq 7, 3), (21, .iconst 1, 1), (22, .goto 9, 3), (25, .iconst 0, 1), (26, .goto 5, 3), (29, .bipush (-2), 2), (31, .ireturn, 1)]
def Y_X11_on : mY := (11, ⟨"MastMoveModel", "on", "(I)I"⟩, prog_13_method_57_code, 2, some .int, t_X11_on)
set_option maxRecDepth 100000 in
theorem k_X11_on : chkT prog_13_method_57_code t_X11_on = true := by decide +kernel
def t_X11_now : List mI := [(0, .aload_n 0, 1), (1, .getfield 52, 3), (4, .iload_n 1, 1), (5, .baload, 1), (6, .ifCond .eq 12, 3), (9, .aload_n 0, 1), (10, .getfield 88, 3), (13, .iload_n 1, 1), (14, .iaload, 1), (15, .goto 9, 3), (18, .aload_n 0, 1), (19, .getfield 39, 3), (22, .iload_n 1, 1), (23, .iaload, 1), (24, .ireturn, 1)]
def Y_X11_now : mY := (11, ⟨"MastMoveModel", "now", "(I)I"⟩, prog_13_method_58_code, 2, some .int, t_X11_now)
set_option maxRecDepth 100000 in
theorem k_X11_now : chkT prog_13_method_58_code t_X11_now = true := by decide +kernel
def t_X11_hurtBy : List mI := [(0, .aload_n 0, 1), (1, .getfield 76, 3), (4, .iload_n 1, 1), (5, .iaload, 1), (6, .istore_n 2, 1), (7, .iload_n 2, 1), (8, .iconst (-1), 1), (9, .if_icmp .ne 5, 3), (12, .iconst (-1), 1), (13, .ireturn, 1), (14, .iconst 0, 1), (15, .istore_n 3, 1), (16, .iload_n 3, 1), (17, .aload_n 0, 1), (18, .getfield 145, 3), (21, .if_icmp .ge 46, 3), (24, .iload_n 3, 1), (25, .iload_n 2, 1), (26, .if_icmp .eq 35, 3), (29, .aload_n 0, 1), (30, .iload_n 3, 1), (31, .invokevirtual 341, 3), (34, .ifCond .eq 27, 3), (37, .aload_n 0, 1), (38, .iload_n 3, 1), (39, .invokevirtual 344, 3), (42, .aload_n 0, 1), (43, .iload_n 2, 1), (44, .invokevirtual 344, 3), (47, .if_icmp .ne 14, 3), (50, .aload_n 0, 1), (51, .iload_n 3, 1), (52, .iload_n 1, 1), (53, .invokevirtual 178, 3), (56, .ifCond .eq 5, 3), (59, .iload_n 3, 1), (60, .ireturn, 1), (61, .iinc 3 1, 3), (64, .goto (-48), 3), (67, .iconst 0, 1), (68, .istore_n 3, 1), (69, .iload_n 3, 1), (70, .aload_n 0, 1), (71, .getfield 154, 3), (74, .if_icmp .ge 56, 3), (77, .aload_n 0, 1), (78, .getfield 189, 3), (81, .aload_n 0, 1), (82, .getfield 45, 3), (85, .iload_n 3, 1), (86, .iaload, 1), (87, .if_icmp .ge 37, 3), (90, .aload_n 0, 1), (91, .getfield 39, 3), (94, .bipush 10, 2), (96, .iload_n 3, 1), (97, .iadd, 1), (98, .iaload, 1), (99, .aload_n 0, 1), (100, .iload_n 2, 1), (101, .invokevirtual 344, 3), (104, .if_icmp .ne 20, 3), (107, .aload_n 0, 1), (108, .bipush 10, 2), (110, .iload_n 3, 1), (111, .iadd, 1), (112, .iload_n 1, 1), (113, .invokevirtual 178, 3), (116, .ifCond .eq 8, 3), (119, .bipush 10, 2), (121, .iload_n 3, 1), (122, .iadd, 1), (123, .ireturn, 1), (124, .iinc 3 1, 3), (127, .goto (-58), 3), (130, .iconst (-1), 1), (131, .ireturn, 1)]
def Y_X11_hurtBy : mY := (11, ⟨"MastMoveModel", "hurtBy", "(I)I"⟩, prog_13_method_59_code, 4, some .int, t_X11_hurtBy)
set_option maxRecDepth 100000 in
theorem k_X11_hurtBy : chkT prog_13_method_59_code t_X11_hurtBy = true := by decide +kernel
def t_X11_pictureOf : List mI := [(0, .aload_n 0, 1), (1, .getfield 76, 3), (4, .iload_n 1, 1), (5, .iaload, 1), (6, .istore_n 2, 1), (7, .iload_n 2, 1), (8, .iconst (-1), 1), (9, .if_icmp .eq 16, 3), (12, .aload_n 0, 1), (13, .iload_n 2, 1), (14, .iload_n 1, 1), (15, .invokevirtual 172, 3), (18, .aload_n 0, 1), (19, .getfield 23, 3), (22, .if_icmp .ge 5, 3), (25, .iconst 1, 1), (26, .ireturn, 1), (27, .aload_n 0, 1), (28, .iload_n 2, 1), (29, .invokevirtual 341, 3), (32, .ifCond .ne 5, 3), (35, .iconst 2, 1), (36, .ireturn, 1), (37, .aload_n 0, 1), (38, .iload_n 1, 1), (39, .invokevirtual 347, 3), (42, .iconst (-1), 1), (43, .if_icmp .eq 5, 3), (46, .iconst 3, 1), (47, .ireturn, 1), (48, .aload_n 0, 1), (49, .getfield 52, 3), (52, .iload_n 2, 1), (53, .baload, 1), (54, .ifCond .eq 22, 3), (57, .aload_n 0, 1), (58, .getfield 73, 3), (61, .iload_n 1, 1), (62, .iaload, 1), (63, .aload_n 0, 1), (64, .getfield 64, 3), (67, .iload_n 1, 1), (68, .iaload, 1), (69, .if_icmp .ge 7, 3), (72, .iconst 4, 1), (73, .goto 4, 3), (76, .iconst 0, 1), (77, .ireturn, 1)]
def Y_X11_pictureOf : mY := (11, ⟨"MastMoveModel", "pictureOf", "(I)I"⟩, prog_13_method_60_code, 3, some .int, t_X11_pictureOf)
set_option maxRecDepth 100000 in
theorem k_X11_pictureOf : chkT prog_13_method_60_code t_X11_pictureOf = true := by decide +kernel
def t_X11_snowOf : List mI := [(0, .aload_n 0, 1), (1, .iload_n 1, 1), (2, .invokevirtual 350, 3), (5, .istore_n 2, 1), (6, .iload_n 2, 1), (7, .ifCond .ne 7, 3), (10, .iconst 0, 1), (11, .goto 30, 3), (14, .iload_n 2, 1), (15, .iconst 4, 1), (16, .if_icmp .ne 19, 3), (19, .aload_n 0, 1), (20, .getfield 64, 3), (23, .iload_n 1, 1), (24, .iaload, 1), (25, .aload_n 0, 1), (26, .getfield 73, 3), (29, .iload_n 1, 1), (30, .iaload, 1), (31, .isub, 1), (32, .goto 9, 3), (35, .aload_n 0, 1), (36, .getfield 64, 3), (39, .iload_n 1, 1), (40, .iaload, 1), (41, .ireturn, 1)]
def Y_X11_snowOf : mY := (11, ⟨"MastMoveModel", "snowOf", "(I)I"⟩, prog_13_method_61_code, 3, some .int, t_X11_snowOf)
set_option maxRecDepth 100000 in
theorem k_X11_snowOf : chkT prog_13_method_61_code t_X11_snowOf = true := by decide +kernel
def t_X11_picture : List mI := [(0, .aload_n 0, 1), (1, .iconst 0, 1), (2, .putfield 114, 3), (5, .aload_n 0, 1), (6, .iload_n 1, 1), (7, .invokevirtual 162, 3), (10, .ifCond .eq 11, 3), (13, .aload_n 0, 1), (14, .iload_n 1, 1), (15, .invokevirtual 350, 3), (18, .goto 5, 3), (21, .bipush (-2), 2), (23, .ireturn, 1)]
def Y_X11_picture : mY := (11, ⟨"MastMoveModel", "picture", "(I)I"⟩, prog_13_method_62_code, 2, some .int, t_X11_picture)
set_option maxRecDepth 100000 in
theorem k_X11_picture : chkT prog_13_method_62_code t_X11_picture = true := by decide +kernel
def t_X11_snow : List mI := [(0, .aload_n 0, 1), (1, .iconst 0, 1), (2, .putfield 114, 3), (5, .aload_n 0, 1), (6, .iload_n 1, 1), (7, .invokevirtual 162, 3), (10, .ifCond .eq 11, 3), (13, .aload_n 0, 1), (14, .iload_n 1, 1), (15, .invokevirtual 353, 3), (18, .goto 5, 3), (21, .bipush (-2), 2), (23, .ireturn, 1)]
def Y_X11_snow : mY := (11, ⟨"MastMoveModel", "snow", "(I)I"⟩, prog_13_method_63_code, 2, some .int, t_X11_snow)
set_option maxRecDepth 100000 in
theorem k_X11_snow : chkT prog_13_method_63_code t_X11_snow = true := by decide +kernel
def t_X11_hurt : List mI := [(0, .aload_n 0, 1), (1, .iconst 0, 1), (2, .putfield 114, 3), (5, .aload_n 0, 1), (6, .iload_n 1, 1), (7, .invokevirtual 162, 3), (10, .ifCond .eq 11, 3), (13, .aload_n 0, 1), (14, .iload_n 1, 1), (15, .invokevirtual 347, 3), (18, .goto 4, 3), (21, .iconst (-1), 1), (22, .ireturn, 1)]
def Y_X11_hurt : mY := (11, ⟨"MastMoveModel", "hurt", "(I)I"⟩, prog_13_method_64_code, 2, some .int, t_X11_hurt)
set_option maxRecDepth 100000 in
theorem k_X11_hurt : chkT prog_13_method_64_code t_X11_hurt = true := by decide +kernel
def t_X11_blame : List mI := [(0, .aload_n 0, 1), (1, .iconst 0, 1), (2, .putfield 114, 3), (5, .iload_n 1, 1), (6, .i2l, 1), (7, .lconst 0, 1), (8, .iconst 1, 1), (9, .aload_n 0, 1), (10, .getfield 159, 3), (13, .ishl, 1), (14, .iconst 1, 1), (15, .isub, 1), (16, .i2l, 1), (17, .invokestatic 119, 3), (20, .ifCond .ne 6, 3), (23, .bipush (-2), 2), (25, .ireturn, 1), (26, .iconst 0, 1), (27, .istore_n 2, 1), (28, .iconst 0, 1), (29, .istore_n 3, 1), (30, .iload_n 3, 1), (31, .aload_n 0, 1), (32, .getfield 159, 3), (35, .if_icmp .ge 39, 3), (38, .iload_n 1, 1), (39, .iload_n 3, 1), (40, .ishr, 1), (41, .iconst 1, 1), (42, .iand, 1), (43, .iconst 1, 1), (44, .if_icmp .ne 24, 3), (47, .aload_n 0, 1), (48, .getfield 76, 3), (51, .iload_n 3, 1), (52, .iaload, 1), (53, .iconst (-1), 1), (54, .if_icmp .eq 14, 3), (57, .iload_n 2, 1), (58, .iconst 1, 1), (59, .aload_n 0, 1), (60, .getfield 76, 3), (63, .iload_n 3, 1), (64, .iaload, 1), (65, .ishl, 1), (66, .ior, 1), (67, .istore_n 2, 1), (68, .iinc 3 1, 3), (71, .goto (-41), 3), (74, .iconst 0, 1), (75, .istore_n 3, 1), (76, .iload_n 3, 1), (77, .aload_n 0, 1), (78, .getfield 159, 3), (81, .if_icmp .ge 43, 3), (84, .iload_n 1, 1), (85, .iload_n 3, 1), (86, .ishr, 1), (87, .iconst 1, 1), (88, .iand, 1), (89, .ifCond .ne 29, 3), (92, .aload_n 0, 1), (93, .getfield 76, 3), (96, .iload_n 3, 1), (97, .iaload, 1), (98, .iconst (-1), 1), (99, .if_icmp .eq 19, 3), (102, .iload_n 2, 1), (103, .aload_n 0, 1), (104, .getfield 76, 3), (107, .iload_n 3, 1), (108, .iaload, 1), (109, .ishr, 1), (110, .iconst 1, 1), (111, .iand, 1), (112, .iconst 1, 1), (113, .if_icmp .ne 5, 3), (116, .iconst (-1), 1), (117, .ireturn, 1), (118, .iinc 3 1, 3), (121, .goto (-45), 3), (124, .iload_n 2, 1), (125, .ireturn, 1)]
def Y_X11_blame : mY := (11, ⟨"MastMoveModel", "blame", "(I)I"⟩, prog_13_method_65_code, 4, some .int, t_X11_blame)
set_option maxRecDepth 100000 in
theorem k_X11_blame : chkT prog_13_method_65_code t_X11_blame = true := by decide +kernel
def t_X11_mastOf : List mI := [(0, .aload_n 0, 1), (1, .iconst 0, 1), (2, .putfield 114, 3), (5, .aload_n 0, 1), (6, .iload_n 1, 1), (7, .invokevirtual 165, 3), (10, .ifCond .ne 6, 3), (13, .bipush (-2), 2), (15, .ireturn, 1), (16, .iload_n 2, 1), (17, .tableswitch 127 0 7 #[47, 54, 61, 68, 75, 90, 97, 112], 47), (64, .aload_n 0, 1), (65, .getfield 30, 3), (68, .iload_n 1, 1), (69, .iaload, 1), (70, .ireturn, 1), (71, .aload_n 0, 1), (72, .getfield 33, 3), (75, .iload_n 1, 1), (76, .iaload, 1), (77, .ireturn, 1), (78, .aload_n 0, 1), (79, .getfield 36, 3), (82, .iload_n 1, 1), (83, .iaload, 1), (84, .ireturn, 1), (85, .aload_n 0, 1), (86, .getfield 42, 3), (89, .iload_n 1, 1), (90, .iaload, 1), (91, .ireturn, 1), (92, .aload_n 0, 1), (93, .getfield 48, 3), (96, .iload_n 1, 1), (97, .baload, 1), (98, .ifCond .eq 7, 3), (101, .iconst 1, 1), (102, .goto 4, 3), (105, .iconst 0, 1), (106, .ireturn, 1), (107, .aload_n 0, 1), (108, .getfield 39, 3), (111, .iload_n 1, 1), (112, .iaload, 1), (113, .ireturn, 1), (114, .aload_n 0, 1), (115, .getfield 52, 3), (118, .iload_n 1, 1), (119, .baload, 1), (120, .ifCond .eq 7, 3), (123, .iconst 1, 1), (124, .goto 4, 3), (127, .iconst 0, 1), (128, .ireturn, 1), (129, .aload_n 0, 1), (130, .getfield 55, 3), (133, .iload_n 1, 1), (134, .baload, 1), (135, .ifCond .eq 7, 3), (138, .iconst 1, 1), (139, .goto 4, 3), (142, .iconst 0, 1), (143, .ireturn, 1), (144, .bipush (-2), 2), (146, .ireturn, 1)]
def Y_X11_mastOf : mY := (11, ⟨"MastMoveModel", "mastOf", "(II)I"⟩, prog_13_method_66_code, 3, some .int, t_X11_mastOf)
set_option maxRecDepth 100000 in
theorem k_X11_mastOf : chkT prog_13_method_66_code t_X11_mastOf = true := by decide +kernel
def t_X11_areaOf : List mI := [(0, .aload_n 0, 1), (1, .iconst 0, 1), (2, .putfield 114, 3), (5, .aload_n 0, 1), (6, .iload_n 1, 1), (7, .invokevirtual 162, 3), (10, .ifCond .ne 6, 3), (13, .bipush (-2), 2), (15, .ireturn, 1), (16, .iload_n 2, 1), (17, .tableswitch 81 0 5 #[39, 46, 53, 60, 67, 74], 39), (56, .aload_n 0, 1), (57, .getfield 64, 3), (60, .iload_n 1, 1), (61, .iaload, 1), (62, .ireturn, 1), (63, .aload_n 0, 1), (64, .getfield 67, 3), (67, .iload_n 1, 1), (68, .iaload, 1), (69, .ireturn, 1), (70, .aload_n 0, 1), (71, .getfield 70, 3), (74, .iload_n 1, 1), (75, .iaload, 1), (76, .ireturn, 1), (77, .aload_n 0, 1), (78, .getfield 73, 3), (81, .iload_n 1, 1), (82, .iaload, 1), (83, .ireturn, 1), (84, .aload_n 0, 1), (85, .getfield 76, 3), (88, .iload_n 1, 1), (89, .iaload, 1), (90, .ireturn, 1), (91, .aload_n 0, 1), (92, .getfield 79, 3), (95, .iload_n 1, 1), (96, .iaload, 1), (97, .ireturn, 1), (98, .bipush (-2), 2), (100, .ireturn, 1)]
def Y_X11_areaOf : mY := (11, ⟨"MastMoveModel", "areaOf", "(II)I"⟩, prog_13_method_67_code, 3, some .int, t_X11_areaOf)
set_option maxRecDepth 100000 in
theorem k_X11_areaOf : chkT prog_13_method_67_code t_X11_areaOf = true := by decide +kernel
def t_X11_count : List mI := [(0, .aload_n 0, 1), (1, .iconst 0, 1), (2, .putfield 114, 3), (5, .iconst 0, 1), (6, .istore_n 2, 1), (7, .iload_n 1, 1), (8, .tableswitch 163 0 10 #[60, 65, 70, 75, 80, 85, 90, 95, 121, 153, 158], 60), (68, .aload_n 0, 1), (69, .getfield 189, 3), (72, .ireturn, 1), (73, .aload_n 0, 1), (74, .getfield 145, 3), (77, .ireturn, 1), (78, .aload_n 0, 1), (79, .getfield 154, 3), (82, .ireturn, 1), (83, .aload_n 0, 1), (84, .getfield 159, 3), (87, .ireturn, 1), (88, .aload_n 0, 1), (89, .getfield 332, 3), (92, .ireturn, 1), (93, .aload_n 0, 1), (94, .getfield 329, 3), (97, .ireturn, 1), (98, .aload_n 0, 1), (99, .getfield 213, 3), (102, .ireturn, 1), (103, .iconst 0, 1), (104, .istore_n 3, 1), (105, .iload_n 3, 1), (106, .aload_n 0, 1), (107, .getfield 159, 3), (110, .if_icmp .ge 17, 3), (113, .iload_n 2, 1), (114, .aload_n 0, 1), (115, .iload_n 3, 1), (116, .invokevirtual 353, 3), (119, .iadd, 1), (120, .istore_n 2, 1), (121, .iinc 3 1, 3), (124, .goto (-19), 3), (127, .iload_n 2, 1), (128, .ireturn, 1), (129, .iconst 0, 1), (130, .istore_n 3, 1), (131, .iload_n 3, 1), (132, .iconst 4, 1), (133, .if_icmp .ge 26, 3), (136, .iload_n 2, 1), (137, .aload_n 0, 1), (138, .getfield 9, 3), (141, .iload_n 3, 1), (142, .iaload, 1), (143, .ifCond .lt 7, 3), (146, .iconst 1, 1), (147, .goto 4, 3), (150, .iconst 0, 1), (151, .iadd, 1), (152, .istore_n 2, 1), (153, .iinc 3 1, 3), (156, .goto (-25), 3), (159, .iload_n 2, 1), (160, .ireturn, 1), (161, .aload_n 0, 1), (162, .getfield 82, 3), (165, .ireturn, 1), (166, .aload_n 0, 1), (167, .getfield 200, 3), (170, .ireturn, 1), (171, .iconst (-1), 1), (172, .ireturn, 1)]
def Y_X11_count : mY := (11, ⟨"MastMoveModel", "count", "(I)I"⟩, prog_13_method_68_code, 4, some .int, t_X11_count)
set_option maxRecDepth 100000 in
theorem k_X11_count : chkT prog_13_method_68_code t_X11_count = true := by decide +kernel
def t_J6_bitCount_0f7a4 : List mI := [(0, .iload_n 0, 1), (1, .iload_n 0, 1), (2, .iconst 1, 1), (3, .iushr, 1), (4, .ldc_w 265, 3), (7, .iand, 1), (8, .isub, 1), (9, .istore_n 0, 1), (10, .iload_n 0, 1), (11, .ldc_w 266, 3), (14, .iand, 1), (15, .iload_n 0, 1), (16, .iconst 2, 1), (17, .iushr, 1), (18, .ldc_w 266, 3), (21, .iand, 1), (22, .iadd, 1), (23, .istore_n 0, 1), (24, .iload_n 0, 1), (25, .iload_n 0, 1), (26, .iconst 4, 1), (27, .iushr, 1), (28, .iadd, 1), (29, .ldc_w 267, 3), (32, .iand, 1), (33, .istore_n 0, 1), (34, .iload_n 0, 1), (35, .iload_n 0, 1), (36, .bipush 8, 2), (38, .iushr, 1), (39, .iadd, 1), (40, .istore_n 0, 1), (41, .iload_n 0, 1), (42, .iload_n 0, 1), (43, .bipush 16, 2), (45, .iushr, 1), (46, .iadd, 1), (47, .istore_n 0, 1), (48, .iload_n 0, 1), (49, .bipush 63, 2), (51, .iand, 1), (52, .ireturn, 1)]
def Y_J6_bitCount_0f7a4 : mY := (13, ⟨"java/lang/Integer", "bitCount", "(I)I"⟩, prog_14_method_49_code, 1, some .int, t_J6_bitCount_0f7a4)
set_option maxRecDepth 100000 in
theorem k_J6_bitCount_0f7a4 : chkT prog_14_method_49_code t_J6_bitCount_0f7a4 = true := by decide +kernel
def t_J9_max_7cf53 : List mI := [(0, .iload_n 0, 1), (1, .iload_n 1, 1), (2, .if_icmp .lt 7, 3), (5, .iload_n 0, 1), (6, .goto 4, 3), (9, .iload_n 1, 1), (10, .ireturn, 1)]
def Y_J9_max_7cf53 : mY := (14, ⟨"java/lang/Math", "max", "(II)I"⟩, prog_15_method_65_code, 2, some .int, t_J9_max_7cf53)
set_option maxRecDepth 100000 in
theorem k_J9_max_7cf53 : chkT prog_15_method_65_code t_J9_max_7cf53 = true := by decide +kernel
def t_J9_max_f86c9 : List mI := [(0, .lload_n 0, 1), (1, .lload_n 2, 1), (2, .lcmp, 1), (3, .ifCond .lt 7, 3), (6, .lload_n 0, 1), (7, .goto 4, 3), (10, .lload_n 2, 1), (11, .lreturn, 1)]
def Y_J9_max_f86c9 : mY := (14, ⟨"java/lang/Math", "max", "(JJ)J"⟩, prog_15_method_66_code, 4, some .long, t_J9_max_f86c9)
set_option maxRecDepth 100000 in
theorem k_J9_max_f86c9 : chkT prog_15_method_66_code t_J9_max_f86c9 = true := by decide +kernel
def t_J9_min_7cf53 : List mI := [(0, .iload_n 0, 1), (1, .iload_n 1, 1), (2, .if_icmp .gt 7, 3), (5, .iload_n 0, 1), (6, .goto 4, 3), (9, .iload_n 1, 1), (10, .ireturn, 1)]
def Y_J9_min_7cf53 : mY := (14, ⟨"java/lang/Math", "min", "(II)I"⟩, prog_15_method_69_code, 2, some .int, t_J9_min_7cf53)
set_option maxRecDepth 100000 in
theorem k_J9_min_7cf53 : chkT prog_15_method_69_code t_J9_min_7cf53 = true := by decide +kernel
def t_J9_min_f86c9 : List mI := [(0, .lload_n 0, 1), (1, .lload_n 2, 1), (2, .lcmp, 1), (3, .ifCond .gt 7, 3), (6, .lload_n 0, 1), (7, .goto 4, 3), (10, .lload_n 2, 1), (11, .lreturn, 1)]
def Y_J9_min_f86c9 : mY := (14, ⟨"java/lang/Math", "min", "(JJ)J"⟩, prog_15_method_70_code, 4, some .long, t_J9_min_f86c9)
set_option maxRecDepth 100000 in
theorem k_J9_min_f86c9 : chkT prog_15_method_70_code t_J9_min_f86c9 = true := by decide +kernel
def t_J0_length_8abf5 : List mI := [(0, .aload_n 0, 1), (1, .getfield 9, 3), (4, .arraylength, 1), (5, .aload_n 0, 1), (6, .invokevirtual 335, 3), (9, .ishr, 1), (10, .ireturn, 1)]
def Y_J0_length_8abf5 : mY := (15, ⟨"java/lang/String", "length", "()I"⟩, prog_16_method_54_code, 1, some .int, t_J0_length_8abf5)
set_option maxRecDepth 100000 in
theorem k_J0_length_8abf5 : chkT prog_16_method_54_code t_J0_length_8abf5 = true := by decide +kernel
def t_J0_charAt_5068e : List mI := [(0, .aload_n 0, 1), (1, .invokevirtual 492, 3), (4, .ifCond .eq 12, 3), (7, .aload_n 0, 1), (8, .getfield 9, 3), (11, .iload_n 1, 1), (12, .invokestatic 495, 3), (15, .ireturn, 1), (16, .aload_n 0, 1), (17, .getfield 9, 3), (20, .iload_n 1, 1), (21, .invokestatic 498, 3), (24, .ireturn, 1)]
def Y_J0_charAt_5068e : mY := (15, ⟨"java/lang/String", "charAt", "(I)C"⟩, prog_16_method_56_code, 2, some .char, t_J0_charAt_5068e)
set_option maxRecDepth 100000 in
theorem k_J0_charAt_5068e : chkT prog_16_method_56_code t_J0_charAt_5068e = true := by decide +kernel
def t_J0_coder_7d493 : List mI := [(0, .getstatic 38, 3), (3, .ifCond .eq 10, 3), (6, .aload_n 0, 1), (7, .getfield 15, 3), (10, .goto 4, 3), (13, .iconst 1, 1), (14, .ireturn, 1)]
def Y_J0_coder_7d493 : mY := (15, ⟨"java/lang/String", "coder", "()B"⟩, prog_16_method_152_code, 1, some .byte, t_J0_coder_7d493)
set_option maxRecDepth 100000 in
theorem k_J0_coder_7d493 : chkT prog_16_method_152_code t_J0_coder_7d493 = true := by decide +kernel
def t_J0_isLatin1_aae02 : List mI := [(0, .getstatic 38, 3), (3, .ifCond .eq 14, 3), (6, .aload_n 0, 1), (7, .getfield 15, 3), (10, .ifCond .ne 7, 3), (13, .iconst 1, 1), (14, .goto 4, 3), (17, .iconst 0, 1), (18, .ireturn, 1)]
def Y_J0_isLatin1_aae02 : mY := (15, ⟨"java/lang/String", "isLatin1", "()Z"⟩, prog_16_method_154_code, 1, some .boolean, t_J0_isLatin1_aae02)
set_option maxRecDepth 100000 in
theorem k_J0_isLatin1_aae02 : chkT prog_16_method_154_code t_J0_isLatin1_aae02 = true := by decide +kernel
def t_J1_charAt_3b067 : List mI := [(0, .iload_n 1, 1), (1, .aload_n 0, 1), (2, .arraylength, 1), (3, .invokestatic 9, 3), (6, .aload_n 0, 1), (7, .iload_n 1, 1), (8, .baload, 1), (9, .sipush 255, 3), (12, .iand, 1), (13, .i2c, 1), (14, .ireturn, 1)]
def Y_J1_charAt_3b067 : mY := (16, ⟨"java/lang/StringLatin1", "charAt", "([BI)C"⟩, prog_17_method_2_code, 2, some .char, t_J1_charAt_3b067)
set_option maxRecDepth 100000 in
theorem k_J1_charAt_3b067 : chkT prog_17_method_2_code t_J1_charAt_3b067 = true := by decide +kernel
def t_J7_fill_d0a16 : List mI := [(0, .iconst 0, 1), (1, .istore_n 3, 1), (2, .aload_n 0, 1), (3, .arraylength, 1), (4, .istore 4, 2), (6, .iload_n 3, 1), (7, .iload 4, 2), (9, .if_icmp .ge 13, 3), (12, .aload_n 0, 1), (13, .iload_n 3, 1), (14, .lload_n 1, 1), (15, .lastore, 1), (16, .iinc 3 1, 3), (19, .goto (-13), 3), (22, .return_, 1)]
def Y_J7_fill_d0a16 : mY := (17, ⟨"java/util/Arrays", "fill", "([JJ)V"⟩, prog_20_method_101_code, 5, none, t_J7_fill_d0a16)
set_option maxRecDepth 100000 in
theorem k_J7_fill_d0a16 : chkT prog_20_method_101_code t_J7_fill_d0a16 = true := by decide +kernel
def t_J7_fill_53178 : List mI := [(0, .iconst 0, 1), (1, .istore_n 2, 1), (2, .aload_n 0, 1), (3, .arraylength, 1), (4, .istore_n 3, 1), (5, .iload_n 2, 1), (6, .iload_n 3, 1), (7, .if_icmp .ge 13, 3), (10, .aload_n 0, 1), (11, .iload_n 2, 1), (12, .iload_n 1, 1), (13, .iastore, 1), (14, .iinc 2 1, 3), (17, .goto (-12), 3), (20, .return_, 1)]
def Y_J7_fill_53178 : mY := (17, ⟨"java/util/Arrays", "fill", "([II)V"⟩, prog_20_method_103_code, 4, none, t_J7_fill_53178)
set_option maxRecDepth 100000 in
theorem k_J7_fill_53178 : chkT prog_20_method_103_code t_J7_fill_53178 = true := by decide +kernel
end
section
/-! the law, a piece -/
def t_L0 : List mI := [(0, .new 7, 3), (3, .dup, 1), (4, .invokespecial 9, 3), (7, .astore_n 1, 1), (8, .new 10, 3), (11, .dup, 1), (12, .invokespecial 12, 3), (15, .astore_n 2, 1), (16, .iconst 0, 1), (17, .istore_n 3, 1), (18, .iload_n 3, 1), (19, .aload_n 0, 1), (20, .arraylength, 1), (21, .bipush 7, 2), (23, .isub, 1), (24, .if_icmp .gt 1231, 3), (27, .aload_n 0, 1), (28, .iload_n 3, 1), (29, .iaload, 1), (30, .bipush 31, 2), (32, .iand, 1), (33, .tableswitch 1216 0 30 #[139, 172, 263, 326, 389, 412, 445, 458, 491, 554, 577, 590, 613, 676, 699, 712, 725, 748, 761, 810, 833, 856, 879, 902, 925, 958, 991, 1014, 1057, 1080, 1153], 139), (172, .aload_n 1, 1), (173, .aload_n 0, 1), (174, .iload_n 3, 1), (175, .iconst 1, 1), (176, .iadd, 1), (177, .iaload, 1), (178, .aload_n 0, 1), (179, .iload_n 3, 1), (180, .iconst 2, 1), (181, .iadd, 1), (182, .iaload, 1), (183, .invokevirtual 13, 3), (186, .aload_n 2, 1), (187, .aload_n 0, 1), (188, .iload_n 3, 1), (189, .iconst 1, 1), (190, .iadd, 1), (191, .iaload, 1), (192, .aload_n 0, 1), (193, .iload_n 3, 1), (194, .iconst 2, 1), (195, .iadd, 1), (196, .iaload, 1)]
set_option maxRecDepth 100000 in
theorem k_L0 : chkT code t_L0 = true := by decide +kernel
def t_L1 : List mI := [(197, .invokevirtual 17, 3), (200, .if_icmp .eq 1049, 3), (203, .iconst 0, 1), (204, .ireturn, 1), (205, .aload_n 1, 1), (206, .aload_n 0, 1), (207, .iload_n 3, 1), (208, .iconst 1, 1), (209, .iadd, 1), (210, .iaload, 1), (211, .aload_n 0, 1), (212, .iload_n 3, 1), (213, .iconst 2, 1), (214, .iadd, 1), (215, .iaload, 1), (216, .aload_n 0, 1), (217, .iload_n 3, 1), (218, .iconst 3, 1), (219, .iadd, 1), (220, .iaload, 1), (221, .aload_n 0, 1), (222, .iload_n 3, 1), (223, .iconst 4, 1), (224, .iadd, 1), (225, .iaload, 1), (226, .aload_n 0, 1), (227, .iload_n 3, 1), (228, .iconst 5, 1), (229, .iadd, 1), (230, .iaload, 1), (231, .ifCond .eq 7, 3), (234, .iconst 1, 1), (235, .goto 4, 3), (238, .iconst 0, 1), (239, .aload_n 0, 1), (240, .iload_n 3, 1), (241, .bipush 6, 2), (243, .iadd, 1), (244, .iaload, 1), (245, .invokevirtual 18, 3), (248, .aload_n 2, 1), (249, .aload_n 0, 1), (250, .iload_n 3, 1), (251, .iconst 1, 1), (252, .iadd, 1)]
set_option maxRecDepth 100000 in
theorem k_L1 : chkT code t_L1 = true := by decide +kernel
def t_L2 : List mI := [(253, .iaload, 1), (254, .aload_n 0, 1), (255, .iload_n 3, 1), (256, .iconst 2, 1), (257, .iadd, 1), (258, .iaload, 1), (259, .aload_n 0, 1), (260, .iload_n 3, 1), (261, .iconst 3, 1), (262, .iadd, 1), (263, .iaload, 1), (264, .aload_n 0, 1), (265, .iload_n 3, 1), (266, .iconst 4, 1), (267, .iadd, 1), (268, .iaload, 1), (269, .aload_n 0, 1), (270, .iload_n 3, 1), (271, .iconst 5, 1), (272, .iadd, 1), (273, .iaload, 1), (274, .ifCond .eq 7, 3), (277, .iconst 1, 1), (278, .goto 4, 3), (281, .iconst 0, 1), (282, .aload_n 0, 1), (283, .iload_n 3, 1), (284, .bipush 6, 2), (286, .iadd, 1), (287, .iaload, 1), (288, .invokevirtual 22, 3), (291, .if_icmp .eq 958, 3), (294, .iconst 0, 1), (295, .ireturn, 1), (296, .aload_n 1, 1), (297, .aload_n 0, 1), (298, .iload_n 3, 1), (299, .iconst 1, 1), (300, .iadd, 1), (301, .iaload, 1), (302, .aload_n 0, 1), (303, .iload_n 3, 1), (304, .iconst 2, 1), (305, .iadd, 1), (306, .iaload, 1)]
set_option maxRecDepth 100000 in
theorem k_L2 : chkT code t_L2 = true := by decide +kernel
def t_L3 : List mI := [(307, .aload_n 0, 1), (308, .iload_n 3, 1), (309, .iconst 3, 1), (310, .iadd, 1), (311, .iaload, 1), (312, .aload_n 0, 1), (313, .iload_n 3, 1), (314, .iconst 4, 1), (315, .iadd, 1), (316, .iaload, 1), (317, .aload_n 0, 1), (318, .iload_n 3, 1), (319, .iconst 5, 1), (320, .iadd, 1), (321, .iaload, 1), (322, .invokevirtual 23, 3), (325, .aload_n 2, 1), (326, .aload_n 0, 1), (327, .iload_n 3, 1), (328, .iconst 1, 1), (329, .iadd, 1), (330, .iaload, 1), (331, .aload_n 0, 1), (332, .iload_n 3, 1), (333, .iconst 2, 1), (334, .iadd, 1), (335, .iaload, 1), (336, .aload_n 0, 1), (337, .iload_n 3, 1), (338, .iconst 3, 1), (339, .iadd, 1), (340, .iaload, 1), (341, .aload_n 0, 1), (342, .iload_n 3, 1), (343, .iconst 4, 1), (344, .iadd, 1), (345, .iaload, 1), (346, .aload_n 0, 1), (347, .iload_n 3, 1), (348, .iconst 5, 1), (349, .iadd, 1), (350, .iaload, 1), (351, .invokevirtual 27, 3), (354, .if_icmp .eq 895, 3), (357, .iconst 0, 1)]
set_option maxRecDepth 100000 in
theorem k_L3 : chkT code t_L3 = true := by decide +kernel
def t_L4 : List mI := [(358, .ireturn, 1), (359, .aload_n 1, 1), (360, .aload_n 0, 1), (361, .iload_n 3, 1), (362, .iconst 1, 1), (363, .iadd, 1), (364, .iaload, 1), (365, .aload_n 0, 1), (366, .iload_n 3, 1), (367, .iconst 2, 1), (368, .iadd, 1), (369, .iaload, 1), (370, .aload_n 0, 1), (371, .iload_n 3, 1), (372, .iconst 3, 1), (373, .iadd, 1), (374, .iaload, 1), (375, .aload_n 0, 1), (376, .iload_n 3, 1), (377, .iconst 4, 1), (378, .iadd, 1), (379, .iaload, 1), (380, .aload_n 0, 1), (381, .iload_n 3, 1), (382, .iconst 5, 1), (383, .iadd, 1), (384, .iaload, 1), (385, .invokevirtual 28, 3), (388, .aload_n 2, 1), (389, .aload_n 0, 1), (390, .iload_n 3, 1), (391, .iconst 1, 1), (392, .iadd, 1), (393, .iaload, 1), (394, .aload_n 0, 1), (395, .iload_n 3, 1), (396, .iconst 2, 1), (397, .iadd, 1), (398, .iaload, 1), (399, .aload_n 0, 1), (400, .iload_n 3, 1), (401, .iconst 3, 1), (402, .iadd, 1), (403, .iaload, 1), (404, .aload_n 0, 1)]
set_option maxRecDepth 100000 in
theorem k_L4 : chkT code t_L4 = true := by decide +kernel
end
section
/-! the law, a piece -/
def t_L5 : List mI := [(405, .iload_n 3, 1), (406, .iconst 4, 1), (407, .iadd, 1), (408, .iaload, 1), (409, .aload_n 0, 1), (410, .iload_n 3, 1), (411, .iconst 5, 1), (412, .iadd, 1), (413, .iaload, 1), (414, .invokevirtual 31, 3), (417, .if_icmp .eq 832, 3), (420, .iconst 0, 1), (421, .ireturn, 1), (422, .aload_n 1, 1), (423, .aload_n 0, 1), (424, .iload_n 3, 1), (425, .iconst 1, 1), (426, .iadd, 1), (427, .iaload, 1), (428, .invokevirtual 32, 3), (431, .aload_n 2, 1), (432, .aload_n 0, 1), (433, .iload_n 3, 1), (434, .iconst 1, 1), (435, .iadd, 1), (436, .iaload, 1), (437, .invokevirtual 36, 3), (440, .if_icmp .eq 809, 3), (443, .iconst 0, 1), (444, .ireturn, 1), (445, .aload_n 1, 1), (446, .aload_n 0, 1), (447, .iload_n 3, 1), (448, .iconst 1, 1), (449, .iadd, 1), (450, .iaload, 1), (451, .aload_n 0, 1), (452, .iload_n 3, 1), (453, .iconst 2, 1), (454, .iadd, 1), (455, .iaload, 1), (456, .invokevirtual 37, 3), (459, .aload_n 2, 1), (460, .aload_n 0, 1), (461, .iload_n 3, 1)]
set_option maxRecDepth 100000 in
theorem k_L5 : chkT code t_L5 = true := by decide +kernel
def t_L6 : List mI := [(462, .iconst 1, 1), (463, .iadd, 1), (464, .iaload, 1), (465, .aload_n 0, 1), (466, .iload_n 3, 1), (467, .iconst 2, 1), (468, .iadd, 1), (469, .iaload, 1), (470, .invokevirtual 40, 3), (473, .if_icmp .eq 776, 3), (476, .iconst 0, 1), (477, .ireturn, 1), (478, .aload_n 1, 1), (479, .invokevirtual 41, 3), (482, .aload_n 2, 1), (483, .invokevirtual 45, 3), (486, .if_icmp .eq 763, 3), (489, .iconst 0, 1), (490, .ireturn, 1), (491, .aload_n 1, 1), (492, .aload_n 0, 1), (493, .iload_n 3, 1), (494, .iconst 1, 1), (495, .iadd, 1), (496, .iaload, 1), (497, .aload_n 0, 1), (498, .iload_n 3, 1), (499, .iconst 2, 1), (500, .iadd, 1), (501, .iaload, 1), (502, .invokevirtual 46, 3), (505, .aload_n 2, 1), (506, .aload_n 0, 1), (507, .iload_n 3, 1), (508, .iconst 1, 1), (509, .iadd, 1), (510, .iaload, 1), (511, .aload_n 0, 1), (512, .iload_n 3, 1), (513, .iconst 2, 1), (514, .iadd, 1), (515, .iaload, 1), (516, .invokevirtual 49, 3), (519, .if_icmp .eq 730, 3), (522, .iconst 0, 1)]
set_option maxRecDepth 100000 in
theorem k_L6 : chkT code t_L6 = true := by decide +kernel
def t_L7 : List mI := [(523, .ireturn, 1), (524, .aload_n 1, 1), (525, .aload_n 0, 1), (526, .iload_n 3, 1), (527, .iconst 1, 1), (528, .iadd, 1), (529, .iaload, 1), (530, .aload_n 0, 1), (531, .iload_n 3, 1), (532, .iconst 2, 1), (533, .iadd, 1), (534, .iaload, 1), (535, .i2l, 1), (536, .bipush 32, 2), (538, .lshl, 1), (539, .aload_n 0, 1), (540, .iload_n 3, 1), (541, .iconst 3, 1), (542, .iadd, 1), (543, .iaload, 1), (544, .i2l, 1), (545, .ldc2_w 50, 3), (548, .land, 1), (549, .lor, 1), (550, .invokevirtual 52, 3), (553, .aload_n 2, 1), (554, .aload_n 0, 1), (555, .iload_n 3, 1), (556, .iconst 1, 1), (557, .iadd, 1), (558, .iaload, 1), (559, .aload_n 0, 1), (560, .iload_n 3, 1), (561, .iconst 2, 1), (562, .iadd, 1), (563, .iaload, 1), (564, .i2l, 1), (565, .bipush 32, 2), (567, .lshl, 1), (568, .aload_n 0, 1), (569, .iload_n 3, 1), (570, .iconst 3, 1), (571, .iadd, 1), (572, .iaload, 1), (573, .i2l, 1)]
set_option maxRecDepth 100000 in
theorem k_L7 : chkT code t_L7 = true := by decide +kernel
def t_L8 : List mI := [(574, .ldc2_w 50, 3), (577, .land, 1), (578, .lor, 1), (579, .invokevirtual 56, 3), (582, .if_icmp .eq 667, 3), (585, .iconst 0, 1), (586, .ireturn, 1), (587, .aload_n 1, 1), (588, .aload_n 0, 1), (589, .iload_n 3, 1), (590, .iconst 1, 1), (591, .iadd, 1), (592, .iaload, 1), (593, .invokevirtual 57, 3), (596, .aload_n 2, 1), (597, .aload_n 0, 1), (598, .iload_n 3, 1), (599, .iconst 1, 1), (600, .iadd, 1), (601, .iaload, 1), (602, .invokevirtual 60, 3), (605, .if_icmp .eq 644, 3), (608, .iconst 0, 1), (609, .ireturn, 1), (610, .aload_n 1, 1), (611, .invokevirtual 61, 3), (614, .aload_n 2, 1), (615, .invokevirtual 64, 3), (618, .if_icmp .eq 631, 3), (621, .iconst 0, 1), (622, .ireturn, 1), (623, .aload_n 1, 1), (624, .aload_n 0, 1), (625, .iload_n 3, 1), (626, .iconst 1, 1), (627, .iadd, 1), (628, .iaload, 1), (629, .invokevirtual 65, 3), (632, .aload_n 2, 1), (633, .aload_n 0, 1), (634, .iload_n 3, 1), (635, .iconst 1, 1), (636, .iadd, 1), (637, .iaload, 1), (638, .invokevirtual 68, 3)]
set_option maxRecDepth 100000 in
theorem k_L8 : chkT code t_L8 = true := by decide +kernel
def t_L9 : List mI := [(641, .if_icmp .eq 608, 3), (644, .iconst 0, 1), (645, .ireturn, 1), (646, .aload_n 1, 1), (647, .aload_n 0, 1), (648, .iload_n 3, 1), (649, .iconst 1, 1), (650, .iadd, 1), (651, .iaload, 1), (652, .aload_n 0, 1), (653, .iload_n 3, 1), (654, .iconst 2, 1), (655, .iadd, 1), (656, .iaload, 1), (657, .aload_n 0, 1), (658, .iload_n 3, 1), (659, .iconst 3, 1), (660, .iadd, 1), (661, .iaload, 1), (662, .aload_n 0, 1), (663, .iload_n 3, 1), (664, .iconst 4, 1), (665, .iadd, 1), (666, .iaload, 1), (667, .aload_n 0, 1), (668, .iload_n 3, 1), (669, .iconst 5, 1), (670, .iadd, 1), (671, .iaload, 1), (672, .invokevirtual 69, 3), (675, .aload_n 2, 1), (676, .aload_n 0, 1), (677, .iload_n 3, 1), (678, .iconst 1, 1), (679, .iadd, 1), (680, .iaload, 1), (681, .aload_n 0, 1), (682, .iload_n 3, 1), (683, .iconst 2, 1), (684, .iadd, 1), (685, .iaload, 1), (686, .aload_n 0, 1), (687, .iload_n 3, 1), (688, .iconst 3, 1), (689, .iadd, 1)]
set_option maxRecDepth 100000 in
theorem k_L9 : chkT code t_L9 = true := by decide +kernel
end
section
/-! the law, a piece -/
def t_L10 : List mI := [(690, .iaload, 1), (691, .aload_n 0, 1), (692, .iload_n 3, 1), (693, .iconst 4, 1), (694, .iadd, 1), (695, .iaload, 1), (696, .aload_n 0, 1), (697, .iload_n 3, 1), (698, .iconst 5, 1), (699, .iadd, 1), (700, .iaload, 1), (701, .invokevirtual 72, 3), (704, .if_icmp .eq 545, 3), (707, .iconst 0, 1), (708, .ireturn, 1), (709, .aload_n 1, 1), (710, .aload_n 0, 1), (711, .iload_n 3, 1), (712, .iconst 1, 1), (713, .iadd, 1), (714, .iaload, 1), (715, .invokevirtual 73, 3), (718, .aload_n 2, 1), (719, .aload_n 0, 1), (720, .iload_n 3, 1), (721, .iconst 1, 1), (722, .iadd, 1), (723, .iaload, 1), (724, .invokevirtual 76, 3), (727, .if_icmp .eq 522, 3), (730, .iconst 0, 1), (731, .ireturn, 1), (732, .aload_n 1, 1), (733, .invokevirtual 77, 3), (736, .aload_n 2, 1), (737, .invokevirtual 80, 3), (740, .if_icmp .eq 509, 3), (743, .iconst 0, 1), (744, .ireturn, 1), (745, .aload_n 1, 1), (746, .invokevirtual 81, 3), (749, .aload_n 2, 1), (750, .invokevirtual 84, 3), (753, .if_icmp .eq 496, 3), (756, .iconst 0, 1)]
set_option maxRecDepth 100000 in
theorem k_L10 : chkT code t_L10 = true := by decide +kernel
def t_L11 : List mI := [(757, .ireturn, 1), (758, .aload_n 1, 1), (759, .aload_n 0, 1), (760, .iload_n 3, 1), (761, .iconst 1, 1), (762, .iadd, 1), (763, .iaload, 1), (764, .invokevirtual 85, 3), (767, .aload_n 2, 1), (768, .aload_n 0, 1), (769, .iload_n 3, 1), (770, .iconst 1, 1), (771, .iadd, 1), (772, .iaload, 1), (773, .invokevirtual 88, 3), (776, .if_icmp .eq 473, 3), (779, .iconst 0, 1), (780, .ireturn, 1), (781, .aload_n 1, 1), (782, .invokevirtual 89, 3), (785, .aload_n 2, 1), (786, .invokevirtual 92, 3), (789, .if_icmp .eq 460, 3), (792, .iconst 0, 1), (793, .ireturn, 1), (794, .aload_n 1, 1), (795, .aload_n 0, 1), (796, .iload_n 3, 1), (797, .iconst 1, 1), (798, .iadd, 1), (799, .iaload, 1), (800, .aload_n 0, 1), (801, .iload_n 3, 1), (802, .iconst 2, 1), (803, .iadd, 1), (804, .iaload, 1), (805, .ifCond .eq 7, 3), (808, .iconst 1, 1), (809, .goto 4, 3), (812, .iconst 0, 1), (813, .invokevirtual 93, 3), (816, .aload_n 2, 1), (817, .aload_n 0, 1), (818, .iload_n 3, 1), (819, .iconst 1, 1)]
set_option maxRecDepth 100000 in
theorem k_L11 : chkT code t_L11 = true := by decide +kernel
def t_L12 : List mI := [(820, .iadd, 1), (821, .iaload, 1), (822, .aload_n 0, 1), (823, .iload_n 3, 1), (824, .iconst 2, 1), (825, .iadd, 1), (826, .iaload, 1), (827, .ifCond .eq 7, 3), (830, .iconst 1, 1), (831, .goto 4, 3), (834, .iconst 0, 1), (835, .invokevirtual 97, 3), (838, .if_icmp .eq 411, 3), (841, .iconst 0, 1), (842, .ireturn, 1), (843, .aload_n 1, 1), (844, .aload_n 0, 1), (845, .iload_n 3, 1), (846, .iconst 1, 1), (847, .iadd, 1), (848, .iaload, 1), (849, .invokevirtual 98, 3), (852, .aload_n 2, 1), (853, .aload_n 0, 1), (854, .iload_n 3, 1), (855, .iconst 1, 1), (856, .iadd, 1), (857, .iaload, 1), (858, .invokevirtual 101, 3), (861, .if_icmp .eq 388, 3), (864, .iconst 0, 1), (865, .ireturn, 1), (866, .aload_n 1, 1), (867, .aload_n 0, 1), (868, .iload_n 3, 1), (869, .iconst 1, 1), (870, .iadd, 1), (871, .iaload, 1), (872, .invokevirtual 102, 3), (875, .aload_n 2, 1), (876, .aload_n 0, 1), (877, .iload_n 3, 1), (878, .iconst 1, 1), (879, .iadd, 1), (880, .iaload, 1)]
set_option maxRecDepth 100000 in
theorem k_L12 : chkT code t_L12 = true := by decide +kernel
def t_L13 : List mI := [(881, .invokevirtual 105, 3), (884, .if_icmp .eq 365, 3), (887, .iconst 0, 1), (888, .ireturn, 1), (889, .aload_n 1, 1), (890, .aload_n 0, 1), (891, .iload_n 3, 1), (892, .iconst 1, 1), (893, .iadd, 1), (894, .iaload, 1), (895, .invokevirtual 106, 3), (898, .aload_n 2, 1), (899, .aload_n 0, 1), (900, .iload_n 3, 1), (901, .iconst 1, 1), (902, .iadd, 1), (903, .iaload, 1), (904, .invokevirtual 109, 3), (907, .if_icmp .eq 342, 3), (910, .iconst 0, 1), (911, .ireturn, 1), (912, .aload_n 1, 1), (913, .aload_n 0, 1), (914, .iload_n 3, 1), (915, .iconst 1, 1), (916, .iadd, 1), (917, .iaload, 1), (918, .invokevirtual 110, 3), (921, .aload_n 2, 1), (922, .aload_n 0, 1), (923, .iload_n 3, 1), (924, .iconst 1, 1), (925, .iadd, 1), (926, .iaload, 1), (927, .invokevirtual 113, 3), (930, .if_icmp .eq 319, 3), (933, .iconst 0, 1), (934, .ireturn, 1), (935, .aload_n 1, 1), (936, .aload_n 0, 1), (937, .iload_n 3, 1), (938, .iconst 1, 1), (939, .iadd, 1), (940, .iaload, 1), (941, .invokevirtual 114, 3)]
set_option maxRecDepth 100000 in
theorem k_L13 : chkT code t_L13 = true := by decide +kernel
def t_L14 : List mI := [(944, .aload_n 2, 1), (945, .aload_n 0, 1), (946, .iload_n 3, 1), (947, .iconst 1, 1), (948, .iadd, 1), (949, .iaload, 1), (950, .invokevirtual 117, 3), (953, .if_icmp .eq 296, 3), (956, .iconst 0, 1), (957, .ireturn, 1), (958, .aload_n 1, 1), (959, .aload_n 0, 1), (960, .iload_n 3, 1), (961, .iconst 1, 1), (962, .iadd, 1), (963, .iaload, 1), (964, .aload_n 0, 1), (965, .iload_n 3, 1), (966, .iconst 2, 1), (967, .iadd, 1), (968, .iaload, 1), (969, .invokevirtual 118, 3), (972, .aload_n 2, 1), (973, .aload_n 0, 1), (974, .iload_n 3, 1), (975, .iconst 1, 1), (976, .iadd, 1), (977, .iaload, 1), (978, .aload_n 0, 1), (979, .iload_n 3, 1), (980, .iconst 2, 1), (981, .iadd, 1), (982, .iaload, 1), (983, .invokevirtual 121, 3), (986, .if_icmp .eq 263, 3), (989, .iconst 0, 1), (990, .ireturn, 1), (991, .aload_n 1, 1), (992, .aload_n 0, 1), (993, .iload_n 3, 1), (994, .iconst 1, 1), (995, .iadd, 1), (996, .iaload, 1), (997, .aload_n 0, 1), (998, .iload_n 3, 1)]
set_option maxRecDepth 100000 in
theorem k_L14 : chkT code t_L14 = true := by decide +kernel
end
section
/-! the law, a piece -/
def t_L15 : List mI := [(999, .iconst 2, 1), (1000, .iadd, 1), (1001, .iaload, 1), (1002, .invokevirtual 122, 3), (1005, .aload_n 2, 1), (1006, .aload_n 0, 1), (1007, .iload_n 3, 1), (1008, .iconst 1, 1), (1009, .iadd, 1), (1010, .iaload, 1), (1011, .aload_n 0, 1), (1012, .iload_n 3, 1), (1013, .iconst 2, 1), (1014, .iadd, 1), (1015, .iaload, 1), (1016, .invokevirtual 125, 3), (1019, .if_icmp .eq 230, 3), (1022, .iconst 0, 1), (1023, .ireturn, 1), (1024, .aload_n 1, 1), (1025, .aload_n 0, 1), (1026, .iload_n 3, 1), (1027, .iconst 1, 1), (1028, .iadd, 1), (1029, .iaload, 1), (1030, .invokevirtual 126, 3), (1033, .aload_n 2, 1), (1034, .aload_n 0, 1), (1035, .iload_n 3, 1), (1036, .iconst 1, 1), (1037, .iadd, 1), (1038, .iaload, 1), (1039, .invokevirtual 129, 3), (1042, .if_icmp .eq 207, 3), (1045, .iconst 0, 1), (1046, .ireturn, 1), (1047, .aload_n 1, 1), (1048, .aload_n 0, 1), (1049, .iload_n 3, 1), (1050, .iconst 1, 1), (1051, .iadd, 1), (1052, .iaload, 1), (1053, .aload_n 0, 1), (1054, .iload_n 3, 1), (1055, .iconst 2, 1)]
set_option maxRecDepth 100000 in
theorem k_L15 : chkT code t_L15 = true := by decide +kernel
def t_L16 : List mI := [(1056, .iadd, 1), (1057, .iaload, 1), (1058, .aload_n 0, 1), (1059, .iload_n 3, 1), (1060, .iconst 3, 1), (1061, .iadd, 1), (1062, .iaload, 1), (1063, .invokevirtual 130, 3), (1066, .aload_n 2, 1), (1067, .aload_n 0, 1), (1068, .iload_n 3, 1), (1069, .iconst 1, 1), (1070, .iadd, 1), (1071, .iaload, 1), (1072, .aload_n 0, 1), (1073, .iload_n 3, 1), (1074, .iconst 2, 1), (1075, .iadd, 1), (1076, .iaload, 1), (1077, .aload_n 0, 1), (1078, .iload_n 3, 1), (1079, .iconst 3, 1), (1080, .iadd, 1), (1081, .iaload, 1), (1082, .invokevirtual 134, 3), (1085, .if_icmp .eq 164, 3), (1088, .iconst 0, 1), (1089, .ireturn, 1), (1090, .aload_n 1, 1), (1091, .aload_n 0, 1), (1092, .iload_n 3, 1), (1093, .iconst 1, 1), (1094, .iadd, 1), (1095, .iaload, 1), (1096, .invokevirtual 135, 3), (1099, .aload_n 2, 1), (1100, .aload_n 0, 1), (1101, .iload_n 3, 1), (1102, .iconst 1, 1), (1103, .iadd, 1), (1104, .iaload, 1), (1105, .invokevirtual 139, 3), (1108, .if_icmp .eq 141, 3), (1111, .iconst 0, 1), (1112, .ireturn, 1)]
set_option maxRecDepth 100000 in
theorem k_L16 : chkT code t_L16 = true := by decide +kernel
def t_L17 : List mI := [(1113, .aload_n 1, 1), (1114, .aload_n 0, 1), (1115, .iload_n 3, 1), (1116, .iconst 1, 1), (1117, .iadd, 1), (1118, .iaload, 1), (1119, .aload_n 0, 1), (1120, .iload_n 3, 1), (1121, .iconst 2, 1), (1122, .iadd, 1), (1123, .iaload, 1), (1124, .aload_n 0, 1), (1125, .iload_n 3, 1), (1126, .iconst 3, 1), (1127, .iadd, 1), (1128, .iaload, 1), (1129, .i2l, 1), (1130, .bipush 32, 2), (1132, .lshl, 1), (1133, .aload_n 0, 1), (1134, .iload_n 3, 1), (1135, .iconst 4, 1), (1136, .iadd, 1), (1137, .iaload, 1), (1138, .i2l, 1), (1139, .ldc2_w 50, 3), (1142, .land, 1), (1143, .lor, 1), (1144, .invokevirtual 140, 3), (1147, .aload_n 2, 1), (1148, .aload_n 0, 1), (1149, .iload_n 3, 1), (1150, .iconst 1, 1), (1151, .iadd, 1), (1152, .iaload, 1), (1153, .aload_n 0, 1), (1154, .iload_n 3, 1), (1155, .iconst 2, 1), (1156, .iadd, 1), (1157, .iaload, 1), (1158, .aload_n 0, 1), (1159, .iload_n 3, 1), (1160, .iconst 3, 1), (1161, .iadd, 1), (1162, .iaload, 1)]
set_option maxRecDepth 100000 in
theorem k_L17 : chkT code t_L17 = true := by decide +kernel
def t_L18 : List mI := [(1163, .i2l, 1), (1164, .bipush 32, 2), (1166, .lshl, 1), (1167, .aload_n 0, 1), (1168, .iload_n 3, 1), (1169, .iconst 4, 1), (1170, .iadd, 1), (1171, .iaload, 1), (1172, .i2l, 1), (1173, .ldc2_w 50, 3), (1176, .land, 1), (1177, .lor, 1), (1178, .invokevirtual 144, 3), (1181, .if_icmp .eq 68, 3), (1184, .iconst 0, 1), (1185, .ireturn, 1), (1186, .aload_n 1, 1), (1187, .aload_n 0, 1), (1188, .iload_n 3, 1), (1189, .iconst 1, 1), (1190, .iadd, 1), (1191, .iaload, 1), (1192, .aload_n 0, 1), (1193, .iload_n 3, 1), (1194, .iconst 2, 1), (1195, .iadd, 1), (1196, .iaload, 1), (1197, .aload_n 0, 1), (1198, .iload_n 3, 1), (1199, .iconst 3, 1), (1200, .iadd, 1), (1201, .iaload, 1), (1202, .aload_n 0, 1), (1203, .iload_n 3, 1), (1204, .iconst 4, 1), (1205, .iadd, 1), (1206, .iaload, 1), (1207, .aload_n 0, 1), (1208, .iload_n 3, 1), (1209, .iconst 5, 1), (1210, .iadd, 1), (1211, .iaload, 1), (1212, .invokevirtual 145, 3), (1215, .aload_n 2, 1), (1216, .aload_n 0, 1)]
set_option maxRecDepth 100000 in
theorem k_L18 : chkT code t_L18 = true := by decide +kernel
def t_L19 : List mI := [(1217, .iload_n 3, 1), (1218, .iconst 1, 1), (1219, .iadd, 1), (1220, .iaload, 1), (1221, .aload_n 0, 1), (1222, .iload_n 3, 1), (1223, .iconst 2, 1), (1224, .iadd, 1), (1225, .iaload, 1), (1226, .aload_n 0, 1), (1227, .iload_n 3, 1), (1228, .iconst 3, 1), (1229, .iadd, 1), (1230, .iaload, 1), (1231, .aload_n 0, 1), (1232, .iload_n 3, 1), (1233, .iconst 4, 1), (1234, .iadd, 1), (1235, .iaload, 1), (1236, .aload_n 0, 1), (1237, .iload_n 3, 1), (1238, .iconst 5, 1), (1239, .iadd, 1), (1240, .iaload, 1), (1241, .invokevirtual 148, 3), (1244, .if_icmp .eq 5, 3), (1247, .iconst 0, 1), (1248, .ireturn, 1), (1249, .iinc 3 7, 3), (1252, .goto (-1234), 3), (1255, .iconst 1, 1), (1256, .ireturn, 1)]
set_option maxRecDepth 100000 in
theorem k_L19 : chkT code t_L19 = true := by decide +kernel
theorem chk_app {b : ByteArray} {a c : List mI} (h : chkT b a = true) (k : chkT b c = true) : chkT b (a ++ c) = true := by
  unfold chkT at *
  rw [List.all_append, h, k]; rfl
def t_L_law : List mI := t_L0 ++ (t_L1 ++ (t_L2 ++ (t_L3 ++ (t_L4 ++ (t_L5 ++ (t_L6 ++ (t_L7 ++ (t_L8 ++ (t_L9 ++ (t_L10 ++ (t_L11 ++ (t_L12 ++ (t_L13 ++ (t_L14 ++ (t_L15 ++ (t_L16 ++ (t_L17 ++ (t_L18 ++ (t_L19)))))))))))))))))))
def Y_L_law : mY := (12, x, code, 4, ret, t_L_law)
theorem k_L_law : chkT code t_L_law = true := chk_app k_L0 (chk_app k_L1 (chk_app k_L2 (chk_app k_L3 (chk_app k_L4 (chk_app k_L5 (chk_app k_L6 (chk_app k_L7 (chk_app k_L8 (chk_app k_L9 (chk_app k_L10 (chk_app k_L11 (chk_app k_L12 (chk_app k_L13 (chk_app k_L14 (chk_app k_L15 (chk_app k_L16 (chk_app k_L17 (chk_app k_L18 (k_L19)))))))))))))))))))
end
section
/-! links: fields, constants, classes, methods -/
def flT : List (List (Nat × Nat × Nat × Nat)) := [
  [(9, 0, 6, 167), (15, 0, 7, 171), (18, 0, 2, 157), (21, 0, 3, 160), (24, 0, 4, 162), (27, 0, 5, 164)],
  [(11, 1, 0, 189), (19, 1, 1, 193), (23, 1, 6, 207), (27, 1, 7, 209), (32, 1, 2, 197), (39, 1, 3, 200), (42, 1, 4, 203), (45, 4, 10, 122), (49, 4, 3, 102), (55, 1, 5, 205), (58, 4, 8, 118), (68, 0, 6, 170), (85, 4, 9, 120), (88, 0, 5, 165), (91, 0, 2, 159)],
  [(9, 2, 0, 325), (15, 2, 1, 326), (18, 2, 2, 327), (21, 2, 3, 328), (24, 2, 4, 329), (29, 2, 9, 336), (33, 2, 5, 330), (36, 2, 6, 331), (39, 2, 8, 333), (50, 2, 7, 332)],
  [(12, 3, 0, 361), (21, 3, 1, 362), (43, 2, 8, 334), (53, 2, 9, 337)],
  [(9, 4, 3, 100), (15, 4, 6, 109), (18, 4, 7, 112), (21, 4, 0, 97), (24, 4, 1, 98), (27, 4, 2, 99), (30, 4, 5, 107), (33, 0, 0, 153), (36, 0, 1, 155), (37, 4, 9, 119), (41, 4, 4, 105), (48, 4, 10, 123)],
  [(11, 5, 0, 234), (15, 5, 1, 235), (18, 5, 2, 236), (21, 5, 3, 237), (24, 5, 4, 238), (28, 1, 2, 196), (61, 4, 3, 103), (72, 1, 0, 192), (80, 4, 4, 106), (114, 4, 7, 115)],
  [(9, 6, 0, 375), (15, 6, 2, 379), (19, 6, 1, 377)],
  [(9, 7, 0, 280), (15, 7, 1, 281)],
  [(9, 8, 0, 302), (15, 8, 1, 303), (18, 8, 3, 305), (22, 8, 2, 304), (25, 8, 4, 306), (28, 7, 1, 282)],
  [(9, 9, 0, 257), (15, 9, 1, 258), (18, 9, 2, 259), (21, 9, 3, 260), (28, 1, 2, 198), (42, 1, 0, 190), (46, 4, 6, 110), (62, 1, 4, 202), (65, 1, 1, 194), (69, 0, 6, 168), (82, 4, 7, 113), (85, 4, 8, 116), (92, 4, 5, 108), (99, 9, 4, 261)],
  [(12, 10, 0, 390), (19, 10, 1, 391), (26, 10, 2, 392), (33, 10, 3, 393), (40, 10, 4, 394), (46, 10, 5, 395), (53, 10, 6, 396), (58, 10, 7, 397), (62, 10, 8, 398), (66, 10, 9, 399), (69, 10, 10, 400), (72, 10, 11, 401), (81, 1, 6, 208), (84, 1, 7, 210), (95, 1, 2, 199), (98, 1, 0, 191), (108, 4, 3, 101), (111, 4, 4, 104), (114, 1, 3, 201), (117, 4, 8, 117), (125, 1, 4, 204), (128, 1, 1, 195), (132, 0, 0, 154), (137, 0, 1, 156), (140, 0, 2, 158), (143, 0, 3, 161), (146, 0, 4, 163), (156, 6, 2, 380), (159, 6, 0, 376), (166, 0, 6, 169), (182, 1, 5, 206), (188, 4, 7, 114), (197, 4, 6, 111), (207, 7, 1, 283), (218, 2, 8, 335), (225, 4, 9, 121), (228, 4, 10, 124), (262, 9, 4, 262), (273, 6, 1, 378), (285, 2, 9, 338), (292, 0, 5, 166)],
  [(9, 11, 1, 992), (13, 11, 2, 993), (16, 11, 3, 994), (20, 11, 4, 995), (23, 11, 9, 1000), (27, 11, 10, 1001), (30, 11, 13, 1004), (33, 11, 14, 1005), (36, 11, 15, 1006), (39, 11, 16, 1007), (42, 11, 17, 1008), (45, 11, 18, 1009), (48, 11, 19, 1010), (52, 11, 20, 1011), (55, 11, 21, 1012), (58, 11, 22, 1013), (61, 11, 23, 1014), (64, 11, 24, 1015), (67, 11, 25, 1016), (70, 11, 26, 1017), (73, 11, 27, 1018), (76, 11, 28, 1019), (79, 11, 29, 1020), (82, 11, 30, 1021), (85, 11, 33, 1024), (88, 11, 34, 1025), (91, 11, 35, 1026), (95, 11, 37, 1028), (98, 11, 38, 1029), (101, 11, 39, 1030), (105, 11, 40, 1031), (108, 11, 41, 1032), (111, 11, 54, 1045), (114, 11, 0, 991), (145, 11, 5, 996), (154, 11, 6, 997), (159, 11, 7, 998), (189, 11, 8, 999), (192, 11, 32, 1023), (200, 11, 31, 1022), (213, 11, 36, 1027), (216, 11, 43, 1034), (219, 11, 42, 1033), (222, 11, 44, 1035), (228, 11, 45, 1036), (231, 11, 46, 1037), (240, 11, 50, 1041), (246, 11, 52, 1043), (281, 11, 47, 1038), (298, 11, 48, 1039), (303, 11, 49, 1040), (316, 11, 53, 1044), (319, 11, 51, 1042), (329, 11, 12, 1003), (332, 11, 11, 1002)],
  []]
def fl1 : List (Nat × Nat × Nat × Nat) → Nat → Option (Nat × Nat × Nat)
  | [], _ => none
  | e :: r, i => match Nat.beq e.1 i with
    | true => some e.2
    | false => fl1 r i
def lAt {α : Type} : List α → Nat → Option α
  | [], _ => none
  | a :: _, 0 => some a
  | _ :: r, n + 1 => lAt r n
/-- the field that entry i of class o names: its class, its place -/
def fl (o i : Nat) : Option (Nat × Nat) := match lAt flT o with
  | none => none
  | some r => match fl1 r i with
    | none => none
    | some e => some (e.1, e.2.1)
def flC (o : Nat) (e : Nat × Nat × Nat × Nat) : Bool := decide (lw_tbl[e.2.2.2]? = some (Cond.fieldLink (RN o) e.1 (TT e.2.1 e.2.2.1).1 (TT e.2.1 e.2.2.1).2.1 (TT e.2.1 e.2.2.1).2.2.1)) && decide (e.2.1 < 12) && decide (e.2.2.1 < NF e.2.1)
def flA : Nat → List (List (Nat × Nat × Nat × Nat)) → Bool
  | _, [] => true
  | o, r :: rs => r.all (flC o) && flA (o + 1) rs
theorem flA_ok : flA 0 flT = true := by decide +kernel
theorem flA_at : ∀ (rs : List (List (Nat × Nat × Nat × Nat))) (o : Nat), flA o rs = true → ∀ (n : Nat) (r : List (Nat × Nat × Nat × Nat)), lAt rs n = some r → r.all (flC (o + n)) = true
  | [], _, _, n, r, h => by cases n <;> cases h
  | q :: rs, o, hA, n, r, h => by
    simp only [flA, Bool.and_eq_true] at hA
    cases n with
    | zero => cases h; exact hA.1
    | succ n =>
      have := flA_at rs (o + 1) hA.2 n r h
      rw [show o + (n + 1) = o + 1 + n by omega]
      exact this
theorem fl1_at : ∀ (r : List (Nat × Nat × Nat × Nat)) (i : Nat) (e : Nat × Nat × Nat), fl1 r i = some e → (i, e) ∈ r
  | [], _, _, h => by cases h
  | q :: r, i, e, h => by
    unfold fl1 at h
    split at h
    · next hb =>
      have hi := Nat.eq_of_beq_eq_true hb
      cases h
      subst hi
      exact List.mem_cons_self
    · exact List.mem_cons_of_mem _ (fl1_at r i e h)
theorem fl_ok {o i ci k : Nat} (h : fl o i = some (ci, k)) : Cond.fieldLink (RN o) i (TT ci k).1 (TT ci k).2.1 (TT ci k).2.2.1 ∈ goodL ∧ ci < 12 ∧ k < NF ci := by
  unfold fl at h
  split at h
  · cases h
  · next r hr =>
    split at h
    · cases h
    · next e he =>
      cases h
      have h1 := List.all_eq_true.mp (flA_at flT 0 flA_ok o r hr) _ (fl1_at r i e he)
      simp only [flC, Bool.and_eq_true, decide_eq_true_eq, Nat.zero_add] at h1
      exact ⟨mem_at _ h1.1.1 rfl, h1.1.2, h1.2⟩
theorem ci_2_28 : Cond.constant (RN 2) 28 (10000000) ∈ goodL := mem_at 324 (by decide +kernel) rfl
theorem ci_10_76 : Cond.constant (RN 10) 76 (1000000) ∈ goodL := mem_at 431 (by decide +kernel) rfl
theorem ci_10_124 : Cond.constant (RN 10) 124 (100000) ∈ goodL := mem_at 461 (by decide +kernel) rfl
theorem ci_13_265 : Cond.constant (RN 13) 265 (1431655765) ∈ goodL := mem_at 571 (by decide +kernel) rfl
theorem ci_13_266 : Cond.constant (RN 13) 266 (858993459) ∈ goodL := mem_at 572 (by decide +kernel) rfl
theorem ci_13_267 : Cond.constant (RN 13) 267 (252645135) ∈ goodL := mem_at 573 (by decide +kernel) rfl
theorem ci_8_53 : Cond.constant (RN 8) 53 (1000000) ∈ goodL := mem_at 667 (by decide +kernel) rfl
theorem ci_8_60 : Cond.constant (RN 8) 60 (999999) ∈ goodL := mem_at 669 (by decide +kernel) rfl
theorem ci_10_221 : Cond.constant (RN 10) 221 (10000000) ∈ goodL := mem_at 817 (by decide +kernel) rfl
theorem ci_11_104 : Cond.constant (RN 11) 104 (54272) ∈ goodL := mem_at 990 (by decide +kernel) rfl
theorem ci_11_334 : Cond.constant (RN 11) 334 (10000000) ∈ goodL := mem_at 1378 (by decide +kernel) rfl
theorem cl_2_73 : Cond.constantLong (RN 2) 73 (-1) ∈ goodL := mem_at 853 (by decide +kernel) rfl
theorem cl_11_117 : Cond.constantLong (RN 11) 117 (3) ∈ goodL := mem_at 1165 (by decide +kernel) rfl
theorem cl_11_131 : Cond.constantLong (RN 11) 131 (1000000) ∈ goodL := mem_at 1188 (by decide +kernel) rfl
theorem cl_11_133 : Cond.constantLong (RN 11) 133 (100) ∈ goodL := mem_at 1189 (by decide +kernel) rfl
theorem cl_11_135 : Cond.constantLong (RN 11) 135 (10000) ∈ goodL := mem_at 1197 (by decide +kernel) rfl
theorem cl_11_137 : Cond.constantLong (RN 11) 137 (11) ∈ goodL := mem_at 1198 (by decide +kernel) rfl
theorem cl_11_143 : Cond.constantLong (RN 11) 143 (-1) ∈ goodL := mem_at 1199 (by decide +kernel) rfl
theorem cl_11_152 : Cond.constantLong (RN 11) 152 (52) ∈ goodL := mem_at 1208 (by decide +kernel) rfl
theorem cl_11_157 : Cond.constantLong (RN 11) 157 (100000) ∈ goodL := mem_at 1213 (by decide +kernel) rfl
theorem cl_11_176 : Cond.constantLong (RN 11) 176 (10) ∈ goodL := mem_at 1246 (by decide +kernel) rfl
theorem cl_11_244 : Cond.constantLong (RN 11) 244 (48) ∈ goodL := mem_at 1320 (by decide +kernel) rfl
theorem cl_12_50 : Cond.constantLong (RN 12) 50 (4294967295) ∈ goodL := mem_at 1441 (by decide +kernel) rfl
theorem kl_12_7 : Cond.classLink (RN 12) 7 (RN 10) ∈ goodL := mem_at 74 (by decide +kernel) rfl
theorem kl_10_9 : Cond.classLink (RN 10) 9 (RN 1) ∈ goodL := mem_at 82 (by decide +kernel) rfl
theorem kl_1_9 : Cond.classLink (RN 1) 9 (RN 4) ∈ goodL := mem_at 88 (by decide +kernel) rfl
theorem kl_1_17 : Cond.classLink (RN 1) 17 (RN 0) ∈ goodL := mem_at 90 (by decide +kernel) rfl
theorem kl_10_16 : Cond.classLink (RN 10) 16 (RN 5) ∈ goodL := mem_at 228 (by decide +kernel) rfl
theorem kl_10_23 : Cond.classLink (RN 10) 23 (RN 9) ∈ goodL := mem_at 251 (by decide +kernel) rfl
theorem kl_10_30 : Cond.classLink (RN 10) 30 (RN 7) ∈ goodL := mem_at 274 (by decide +kernel) rfl
theorem kl_10_37 : Cond.classLink (RN 10) 37 (RN 3) ∈ goodL := mem_at 290 (by decide +kernel) rfl
theorem kl_3_9 : Cond.classLink (RN 3) 9 (RN 8) ∈ goodL := mem_at 296 (by decide +kernel) rfl
theorem kl_3_18 : Cond.classLink (RN 3) 18 (RN 2) ∈ goodL := mem_at 318 (by decide +kernel) rfl
theorem kl_10_44 : Cond.classLink (RN 10) 44 (RN 6) ∈ goodL := mem_at 368 (by decide +kernel) rfl
theorem kl_10_51 : Cond.classLink (RN 10) 51 (RN 2) ∈ goodL := mem_at 388 (by decide +kernel) rfl
theorem kl_12_10 : Cond.classLink (RN 12) 10 (RN 11) ∈ goodL := mem_at 984 (by decide +kernel) rfl
theorem in_0 : Cond.instantiable (RN 0) (NF 0) ∈ goodL := mem_at 148 (by decide +kernel) rfl
theorem in_1 : Cond.instantiable (RN 1) (NF 1) ∈ goodL := mem_at 83 (by decide +kernel) rfl
theorem in_2 : Cond.instantiable (RN 2) (NF 2) ∈ goodL := mem_at 319 (by decide +kernel) rfl
theorem in_3 : Cond.instantiable (RN 3) (NF 3) ∈ goodL := mem_at 291 (by decide +kernel) rfl
theorem in_4 : Cond.instantiable (RN 4) (NF 4) ∈ goodL := mem_at 92 (by decide +kernel) rfl
theorem in_5 : Cond.instantiable (RN 5) (NF 5) ∈ goodL := mem_at 229 (by decide +kernel) rfl
theorem in_6 : Cond.instantiable (RN 6) (NF 6) ∈ goodL := mem_at 370 (by decide +kernel) rfl
theorem in_7 : Cond.instantiable (RN 7) (NF 7) ∈ goodL := mem_at 275 (by decide +kernel) rfl
theorem in_8 : Cond.instantiable (RN 8) (NF 8) ∈ goodL := mem_at 297 (by decide +kernel) rfl
theorem in_9 : Cond.instantiable (RN 9) (NF 9) ∈ goodL := mem_at 252 (by decide +kernel) rfl
theorem in_10 : Cond.instantiable (RN 10) (NF 10) ∈ goodL := mem_at 75 (by decide +kernel) rfl
theorem in_11 : Cond.instantiable (RN 11) (NF 11) ∈ goodL := mem_at 985 (by decide +kernel) rfl
theorem ini_0 : Cond.initialized (RN 0) ∈ goodL := mem_at 57 (by decide +kernel) rfl
theorem ini_1 : Cond.initialized (RN 1) ∈ goodL := mem_at 55 (by decide +kernel) rfl
theorem ini_2 : Cond.initialized (RN 2) ∈ goodL := mem_at 63 (by decide +kernel) rfl
theorem ini_3 : Cond.initialized (RN 3) ∈ goodL := mem_at 61 (by decide +kernel) rfl
theorem ini_4 : Cond.initialized (RN 4) ∈ goodL := mem_at 56 (by decide +kernel) rfl
theorem ini_5 : Cond.initialized (RN 5) ∈ goodL := mem_at 58 (by decide +kernel) rfl
theorem ini_6 : Cond.initialized (RN 6) ∈ goodL := mem_at 64 (by decide +kernel) rfl
theorem ini_7 : Cond.initialized (RN 7) ∈ goodL := mem_at 60 (by decide +kernel) rfl
theorem ini_8 : Cond.initialized (RN 8) ∈ goodL := mem_at 62 (by decide +kernel) rfl
theorem ini_9 : Cond.initialized (RN 9) ∈ goodL := mem_at 59 (by decide +kernel) rfl
theorem ini_10 : Cond.initialized (RN 10) ∈ goodL := mem_at 54 (by decide +kernel) rfl
theorem ini_11 : Cond.initialized (RN 11) ∈ goodL := mem_at 65 (by decide +kernel) rfl
theorem ini_12 : Cond.initialized (RN 12) ∈ goodL := mem_at 53 (by decide +kernel) rfl
theorem ini_13 : Cond.initialized (RN 13) ∈ goodL := mem_at 68 (by decide +kernel) rfl
theorem ini_14 : Cond.initialized (RN 14) ∈ goodL := mem_at 67 (by decide +kernel) rfl
theorem ini_15 : Cond.initialized (RN 15) ∈ goodL := mem_at 69 (by decide +kernel) rfl
theorem ini_16 : Cond.initialized (RN 16) ∈ goodL := mem_at 70 (by decide +kernel) rfl
theorem ini_17 : Cond.initialized (RN 17) ∈ goodL := mem_at 66 (by decide +kernel) rfl
theorem ac_int : Cond.arrayClass .int ∈ goodL := mem_at 250 (by decide +kernel) rfl
theorem ac_byte : Cond.arrayClass .byte ∈ goodL := mem_at 289 (by decide +kernel) rfl
theorem ac_long : Cond.arrayClass .long ∈ goodL := mem_at 360 (by decide +kernel) rfl
theorem ac_boolean : Cond.arrayClass .boolean ∈ goodL := mem_at 1157 (by decide +kernel) rfl
def mOK (Y : mY) (na : Nat) : Prop := chkT Y.2.2.1 Y.2.2.2.2.2 = true ∧ Cond.code Y.2.1 Y.2.2.1 Y.2.2.2.1 Y.2.2.2.2.1 ∈ goodL ∧ Cond.initialized Y.2.1.cls ∈ goodL ∧ plainName Y.2.1.cls = true ∧ (Y.2.1.cls ≠ "java/lang/invoke/MethodHandle" ∧ Y.2.1.cls ≠ "java/lang/invoke/VarHandle" ∧ (parseMethodDescriptor Y.2.1.desc).map (fun d => d.parameters.length) = some na) ∧ Y.2.2.2.1 ≤ 41 ∧ Y.2.1.cls = RN Y.1
def iOK (Y : mY) : Prop := Cond.instanceMethod Y.2.1 ∈ goodL ∧ Cond.selects Y.2.1.cls Y.2.1 Y.2.1 ∈ goodL
def nOK (Y : mY) : Prop := Cond.instanceMethod Y.2.1 ∈ goodL ∧ Y.2.1.name = "<init>" ∧ Y.2.2.2.2.1 = none
def sOK (Y : mY) : Prop := Cond.static Y.2.1 ∈ goodL
theorem m_X0_init : mOK Y_X0_init 0 := ⟨k_X0_init, mem_at 151 (by decide +kernel) rfl, ini_0, by decide +kernel, by decide +kernel, by decide, rfl⟩
theorem n_X0_init : nOK Y_X0_init := ⟨mem_at 150 (by decide +kernel) rfl, rfl, rfl⟩
theorem m_X0_lookAt : mOK Y_X0_lookAt 1 := ⟨k_X0_lookAt, mem_at 484 (by decide +kernel) rfl, ini_0, by decide +kernel, by decide +kernel, by decide, rfl⟩
theorem i_X0_lookAt : iOK Y_X0_lookAt := ⟨mem_at 482 (by decide +kernel) rfl, mem_at 483 (by decide +kernel) rfl⟩
theorem m_X0_fact : mOK Y_X0_fact 1 := ⟨k_X0_fact, mem_at 936 (by decide +kernel) rfl, ini_0, by decide +kernel, by decide +kernel, by decide, rfl⟩
theorem i_X0_fact : iOK Y_X0_fact := ⟨mem_at 934 (by decide +kernel) rfl, mem_at 935 (by decide +kernel) rfl⟩
theorem m_X1_init : mOK Y_X1_init 0 := ⟨k_X1_init, mem_at 86 (by decide +kernel) rfl, ini_1, by decide +kernel, by decide +kernel, by decide, rfl⟩
theorem n_X1_init : nOK Y_X1_init := ⟨mem_at 85 (by decide +kernel) rfl, rfl, rfl⟩
theorem m_X1_isMast : mOK Y_X1_isMast 1 := ⟨k_X1_isMast, mem_at 448 (by decide +kernel) rfl, ini_1, by decide +kernel, by decide +kernel, by decide, rfl⟩
theorem i_X1_isMast : iOK Y_X1_isMast := ⟨mem_at 446 (by decide +kernel) rfl, mem_at 447 (by decide +kernel) rfl⟩
theorem m_X1_isSender : mOK Y_X1_isSender 1 := ⟨k_X1_isSender, mem_at 504 (by decide +kernel) rfl, ini_1, by decide +kernel, by decide +kernel, by decide, rfl⟩
theorem i_X1_isSender : iOK Y_X1_isSender := ⟨mem_at 502 (by decide +kernel) rfl, mem_at 503 (by decide +kernel) rfl⟩
theorem m_X1_isArea : mOK Y_X1_isArea 1 := ⟨k_X1_isArea, mem_at 480 (by decide +kernel) rfl, ini_1, by decide +kernel, by decide +kernel, by decide, rfl⟩
theorem i_X1_isArea : iOK Y_X1_isArea := ⟨mem_at 478 (by decide +kernel) rfl, mem_at 479 (by decide +kernel) rfl⟩
theorem m_X1_isOn : mOK Y_X1_isOn 1 := ⟨k_X1_isOn, mem_at 875 (by decide +kernel) rfl, ini_1, by decide +kernel, by decide +kernel, by decide, rfl⟩
theorem i_X1_isOn : iOK Y_X1_isOn := ⟨mem_at 873 (by decide +kernel) rfl, mem_at 874 (by decide +kernel) rfl⟩
theorem m_X1_isSending : mOK Y_X1_isSending 1 := ⟨k_X1_isSending, mem_at 900 (by decide +kernel) rfl, ini_1, by decide +kernel, by decide +kernel, by decide, rfl⟩
theorem i_X1_isSending : iOK Y_X1_isSending := ⟨mem_at 898 (by decide +kernel) rfl, mem_at 899 (by decide +kernel) rfl⟩
theorem m_X1_strongestAt : mOK Y_X1_strongestAt 1 := ⟨k_X1_strongestAt, mem_at 492 (by decide +kernel) rfl, ini_1, by decide +kernel, by decide +kernel, by decide, rfl⟩
theorem i_X1_strongestAt : iOK Y_X1_strongestAt := ⟨mem_at 490 (by decide +kernel) rfl, mem_at 491 (by decide +kernel) rfl⟩
theorem m_X1_couldHurt : mOK Y_X1_couldHurt 2 := ⟨k_X1_couldHurt, mem_at 598 (by decide +kernel) rfl, ini_1, by decide +kernel, by decide +kernel, by decide, rfl⟩
theorem i_X1_couldHurt : iOK Y_X1_couldHurt := ⟨mem_at 596 (by decide +kernel) rfl, mem_at 597 (by decide +kernel) rfl⟩
theorem m_X1_hurterOf : mOK Y_X1_hurterOf 1 := ⟨k_X1_hurterOf, mem_at 891 (by decide +kernel) rfl, ini_1, by decide +kernel, by decide +kernel, by decide, rfl⟩
theorem i_X1_hurterOf : iOK Y_X1_hurterOf := ⟨mem_at 889 (by decide +kernel) rfl, mem_at 890 (by decide +kernel) rfl⟩
theorem m_X1_pictureOf : mOK Y_X1_pictureOf 1 := ⟨k_X1_pictureOf, mem_at 886 (by decide +kernel) rfl, ini_1, by decide +kernel, by decide +kernel, by decide, rfl⟩
theorem i_X1_pictureOf : iOK Y_X1_pictureOf := ⟨mem_at 884 (by decide +kernel) rfl, mem_at 885 (by decide +kernel) rfl⟩
theorem m_X1_snowOf : mOK Y_X1_snowOf 1 := ⟨k_X1_snowOf, mem_at 908 (by decide +kernel) rfl, ini_1, by decide +kernel, by decide +kernel, by decide, rfl⟩
theorem i_X1_snowOf : iOK Y_X1_snowOf := ⟨mem_at 906 (by decide +kernel) rfl, mem_at 907 (by decide +kernel) rfl⟩
theorem m_X1_snowInAll : mOK Y_X1_snowInAll 0 := ⟨k_X1_snowInAll, mem_at 944 (by decide +kernel) rfl, ini_1, by decide +kernel, by decide +kernel, by decide, rfl⟩
theorem i_X1_snowInAll : iOK Y_X1_snowInAll := ⟨mem_at 942 (by decide +kernel) rfl, mem_at 943 (by decide +kernel) rfl⟩
theorem m_X2_init : mOK Y_X2_init 0 := ⟨k_X2_init, mem_at 322 (by decide +kernel) rfl, ini_2, by decide +kernel, by decide +kernel, by decide, rfl⟩
theorem n_X2_init : nOK Y_X2_init := ⟨mem_at 321 (by decide +kernel) rfl, rfl, rfl⟩
theorem m_X2_clear : mOK Y_X2_clear 0 := ⟨k_X2_clear, mem_at 748 (by decide +kernel) rfl, ini_2, by decide +kernel, by decide +kernel, by decide, rfl⟩
theorem i_X2_clear : iOK Y_X2_clear := ⟨mem_at 746 (by decide +kernel) rfl, mem_at 747 (by decide +kernel) rfl⟩
theorem m_X2_add : mOK Y_X2_add 1 := ⟨k_X2_add, mem_at 780 (by decide +kernel) rfl, ini_2, by decide +kernel, by decide +kernel, by decide, rfl⟩
theorem i_X2_add : iOK Y_X2_add := ⟨mem_at 778 (by decide +kernel) rfl, mem_at 779 (by decide +kernel) rfl⟩
theorem m_X2_beginSum : mOK Y_X2_beginSum 0 := ⟨k_X2_beginSum, mem_at 764 (by decide +kernel) rfl, ini_2, by decide +kernel, by decide +kernel, by decide, rfl⟩
theorem i_X2_beginSum : iOK Y_X2_beginSum := ⟨mem_at 762 (by decide +kernel) rfl, mem_at 763 (by decide +kernel) rfl⟩
theorem m_X2_endSum : mOK Y_X2_endSum 0 := ⟨k_X2_endSum, mem_at 784 (by decide +kernel) rfl, ini_2, by decide +kernel, by decide +kernel, by decide, rfl⟩
theorem i_X2_endSum : iOK Y_X2_endSum := ⟨mem_at 782 (by decide +kernel) rfl, mem_at 783 (by decide +kernel) rfl⟩
theorem m_X2_endGive : mOK Y_X2_endGive 0 := ⟨k_X2_endGive, mem_at 795 (by decide +kernel) rfl, ini_2, by decide +kernel, by decide +kernel, by decide, rfl⟩
theorem i_X2_endGive : iOK Y_X2_endGive := ⟨mem_at 793 (by decide +kernel) rfl, mem_at 794 (by decide +kernel) rfl⟩
theorem m_X2_gift : mOK Y_X2_gift 1 := ⟨k_X2_gift, mem_at 833 (by decide +kernel) rfl, ini_2, by decide +kernel, by decide +kernel, by decide, rfl⟩
theorem i_X2_gift : iOK Y_X2_gift := ⟨mem_at 831 (by decide +kernel) rfl, mem_at 832 (by decide +kernel) rfl⟩
theorem m_X2_holds : mOK Y_X2_holds 3 := ⟨k_X2_holds, mem_at 837 (by decide +kernel) rfl, ini_2, by decide +kernel, by decide +kernel, by decide, rfl⟩
theorem i_X2_holds : iOK Y_X2_holds := ⟨mem_at 836 (by decide +kernel) rfl, mem_at 21 (by decide +kernel) rfl⟩
theorem m_X2_push : mOK Y_X2_push 1 := ⟨k_X2_push, mem_at 841 (by decide +kernel) rfl, ini_2, by decide +kernel, by decide +kernel, by decide, rfl⟩
theorem i_X2_push : iOK Y_X2_push := ⟨mem_at 840 (by decide +kernel) rfl, mem_at 22 (by decide +kernel) rfl⟩
theorem m_X2_pop : mOK Y_X2_pop 0 := ⟨k_X2_pop, mem_at 845 (by decide +kernel) rfl, ini_2, by decide +kernel, by decide +kernel, by decide, rfl⟩
theorem i_X2_pop : iOK Y_X2_pop := ⟨mem_at 844 (by decide +kernel) rfl, mem_at 23 (by decide +kernel) rfl⟩
theorem m_X2_isComparison : mOK Y_X2_isComparison 1 := ⟨k_X2_isComparison, mem_at 791 (by decide +kernel) rfl, ini_2, by decide +kernel, by decide +kernel, by decide, rfl⟩
theorem s_X2_isComparison : sOK Y_X2_isComparison := mem_at 790 (by decide +kernel) rfl
theorem m_X2_compares : mOK Y_X2_compares 3 := ⟨k_X2_compares, mem_at 856 (by decide +kernel) rfl, ini_2, by decide +kernel, by decide +kernel, by decide, rfl⟩
theorem s_X2_compares : sOK Y_X2_compares := mem_at 855 (by decide +kernel) rfl
theorem m_X2_combined : mOK Y_X2_combined 3 := ⟨k_X2_combined, mem_at 849 (by decide +kernel) rfl, ini_2, by decide +kernel, by decide +kernel, by decide, rfl⟩
theorem s_X2_combined : sOK Y_X2_combined := mem_at 848 (by decide +kernel) rfl
theorem m_X2_quotient : mOK Y_X2_quotient 2 := ⟨k_X2_quotient, mem_at 852 (by decide +kernel) rfl, ini_2, by decide +kernel, by decide +kernel, by decide, rfl⟩
theorem s_X2_quotient : sOK Y_X2_quotient := mem_at 851 (by decide +kernel) rfl
theorem m_X3_init : mOK Y_X3_init 0 := ⟨k_X3_init, mem_at 294 (by decide +kernel) rfl, ini_3, by decide +kernel, by decide +kernel, by decide, rfl⟩
theorem n_X3_init : nOK Y_X3_init := ⟨mem_at 293 (by decide +kernel) rfl, rfl, rfl⟩
theorem m_X3_faultOf : mOK Y_X3_faultOf 1 := ⟨k_X3_faultOf, mem_at 646 (by decide +kernel) rfl, ini_3, by decide +kernel, by decide +kernel, by decide, rfl⟩
theorem i_X3_faultOf : iOK Y_X3_faultOf := ⟨mem_at 644 (by decide +kernel) rfl, mem_at 645 (by decide +kernel) rfl⟩
theorem m_X3_exchange : mOK Y_X3_exchange 1 := ⟨k_X3_exchange, mem_at 808 (by decide +kernel) rfl, ini_3, by decide +kernel, by decide +kernel, by decide, rfl⟩
theorem i_X3_exchange : iOK Y_X3_exchange := ⟨mem_at 806 (by decide +kernel) rfl, mem_at 807 (by decide +kernel) rfl⟩
theorem m_X3_readCap : mOK Y_X3_readCap 0 := ⟨k_X3_readCap, mem_at 799 (by decide +kernel) rfl, ini_3, by decide +kernel, by decide +kernel, by decide, rfl⟩
theorem i_X3_readCap : iOK Y_X3_readCap := ⟨mem_at 798 (by decide +kernel) rfl, mem_at 18 (by decide +kernel) rfl⟩
theorem m_X3_readGive : mOK Y_X3_readGive 0 := ⟨k_X3_readGive, mem_at 756 (by decide +kernel) rfl, ini_3, by decide +kernel, by decide +kernel, by decide, rfl⟩
theorem i_X3_readGive : iOK Y_X3_readGive := ⟨mem_at 755 (by decide +kernel) rfl, mem_at 13 (by decide +kernel) rfl⟩
theorem m_X3_readConds : mOK Y_X3_readConds 0 := ⟨k_X3_readConds, mem_at 788 (by decide +kernel) rfl, ini_3, by decide +kernel, by decide +kernel, by decide, rfl⟩
theorem i_X3_readConds : iOK Y_X3_readConds := ⟨mem_at 787 (by decide +kernel) rfl, mem_at 17 (by decide +kernel) rfl⟩
theorem m_X3_readSum : mOK Y_X3_readSum 1 := ⟨k_X3_readSum, mem_at 768 (by decide +kernel) rfl, ini_3, by decide +kernel, by decide +kernel, by decide, rfl⟩
theorem i_X3_readSum : iOK Y_X3_readSum := ⟨mem_at 767 (by decide +kernel) rfl, mem_at 14 (by decide +kernel) rfl⟩
theorem m_X3_readTerm : mOK Y_X3_readTerm 1 := ⟨k_X3_readTerm, mem_at 772 (by decide +kernel) rfl, ini_3, by decide +kernel, by decide +kernel, by decide, rfl⟩
theorem i_X3_readTerm : iOK Y_X3_readTerm := ⟨mem_at 771 (by decide +kernel) rfl, mem_at 15 (by decide +kernel) rfl⟩
theorem m_X3_readFactor : mOK Y_X3_readFactor 1 := ⟨k_X3_readFactor, mem_at 776 (by decide +kernel) rfl, ini_3, by decide +kernel, by decide +kernel, by decide, rfl⟩
theorem i_X3_readFactor : iOK Y_X3_readFactor := ⟨mem_at 775 (by decide +kernel) rfl, mem_at 16 (by decide +kernel) rfl⟩
theorem m_X4_init : mOK Y_X4_init 0 := ⟨k_X4_init, mem_at 95 (by decide +kernel) rfl, ini_4, by decide +kernel, by decide +kernel, by decide, rfl⟩
theorem n_X4_init : nOK Y_X4_init := ⟨mem_at 94 (by decide +kernel) rfl, rfl, rfl⟩
theorem m_X4_stand : mOK Y_X4_stand 4 := ⟨k_X4_stand, mem_at 452 (by decide +kernel) rfl, ini_4, by decide +kernel, by decide +kernel, by decide, rfl⟩
theorem i_X4_stand : iOK Y_X4_stand := ⟨mem_at 450 (by decide +kernel) rfl, mem_at 451 (by decide +kernel) rfl⟩
theorem m_X4_strengthAt : mOK Y_X4_strengthAt 1 := ⟨k_X4_strengthAt, mem_at 496 (by decide +kernel) rfl, ini_4, by decide +kernel, by decide +kernel, by decide, rfl⟩
theorem i_X4_strengthAt : iOK Y_X4_strengthAt := ⟨mem_at 494 (by decide +kernel) rfl, mem_at 495 (by decide +kernel) rfl⟩
theorem m_X4_channelNow : mOK Y_X4_channelNow 0 := ⟨k_X4_channelNow, mem_at 895 (by decide +kernel) rfl, ini_4, by decide +kernel, by decide +kernel, by decide, rfl⟩
theorem i_X4_channelNow : iOK Y_X4_channelNow := ⟨mem_at 893 (by decide +kernel) rfl, mem_at 894 (by decide +kernel) rfl⟩
theorem m_X4_fact : mOK Y_X4_fact 1 := ⟨k_X4_fact, mem_at 927 (by decide +kernel) rfl, ini_4, by decide +kernel, by decide +kernel, by decide, rfl⟩
theorem i_X4_fact : iOK Y_X4_fact := ⟨mem_at 925 (by decide +kernel) rfl, mem_at 926 (by decide +kernel) rfl⟩
theorem m_X5_init : mOK Y_X5_init 0 := ⟨k_X5_init, mem_at 232 (by decide +kernel) rfl, ini_5, by decide +kernel, by decide +kernel, by decide, rfl⟩
theorem n_X5_init : nOK Y_X5_init := ⟨mem_at 231 (by decide +kernel) rfl, rfl, rfl⟩
theorem m_X5_schedule : mOK Y_X5_schedule 3 := ⟨k_X5_schedule, mem_at 518 (by decide +kernel) rfl, ini_5, by decide +kernel, by decide +kernel, by decide, rfl⟩
theorem i_X5_schedule : iOK Y_X5_schedule := ⟨mem_at 516 (by decide +kernel) rfl, mem_at 517 (by decide +kernel) rfl⟩
theorem m_X5_allOf : mOK Y_X5_allOf 1 := ⟨k_X5_allOf, mem_at 532 (by decide +kernel) rfl, ini_5, by decide +kernel, by decide +kernel, by decide, rfl⟩
theorem s_X5_allOf : sOK Y_X5_allOf := mem_at 531 (by decide +kernel) rfl
theorem m_X5_isWindy : mOK Y_X5_isWindy 2 := ⟨k_X5_isWindy, mem_at 525 (by decide +kernel) rfl, ini_5, by decide +kernel, by decide +kernel, by decide, rfl⟩
theorem s_X5_isWindy : sOK Y_X5_isWindy := mem_at 524 (by decide +kernel) rfl
theorem m_X5_findCalm : mOK Y_X5_findCalm 1 := ⟨k_X5_findCalm, mem_at 522 (by decide +kernel) rfl, ini_5, by decide +kernel, by decide +kernel, by decide, rfl⟩
theorem i_X5_findCalm : iOK Y_X5_findCalm := ⟨mem_at 521 (by decide +kernel) rfl, mem_at 1 (by decide +kernel) rfl⟩
theorem m_X5_canFollow : mOK Y_X5_canFollow 3 := ⟨k_X5_canFollow, mem_at 538 (by decide +kernel) rfl, ini_5, by decide +kernel, by decide +kernel, by decide, rfl⟩
theorem s_X5_canFollow : sOK Y_X5_canFollow := mem_at 537 (by decide +kernel) rfl
theorem m_X5_findSoonest : mOK Y_X5_findSoonest 1 := ⟨k_X5_findSoonest, mem_at 529 (by decide +kernel) rfl, ini_5, by decide +kernel, by decide +kernel, by decide, rfl⟩
theorem i_X5_findSoonest : iOK Y_X5_findSoonest := ⟨mem_at 528 (by decide +kernel) rfl, mem_at 2 (by decide +kernel) rfl⟩
theorem m_X5_firstTurn : mOK Y_X5_firstTurn 2 := ⟨k_X5_firstTurn, mem_at 545 (by decide +kernel) rfl, ini_5, by decide +kernel, by decide +kernel, by decide, rfl⟩
theorem i_X5_firstTurn : iOK Y_X5_firstTurn := ⟨mem_at 544 (by decide +kernel) rfl, mem_at 3 (by decide +kernel) rfl⟩
theorem m_X5_findLatest : mOK Y_X5_findLatest 2 := ⟨k_X5_findLatest, mem_at 552 (by decide +kernel) rfl, ini_5, by decide +kernel, by decide +kernel, by decide, rfl⟩
theorem i_X5_findLatest : iOK Y_X5_findLatest := ⟨mem_at 551 (by decide +kernel) rfl, mem_at 4 (by decide +kernel) rfl⟩
theorem m_X5_lastTurn : mOK Y_X5_lastTurn 2 := ⟨k_X5_lastTurn, mem_at 556 (by decide +kernel) rfl, ini_5, by decide +kernel, by decide +kernel, by decide, rfl⟩
theorem i_X5_lastTurn : iOK Y_X5_lastTurn := ⟨mem_at 555 (by decide +kernel) rfl, mem_at 5 (by decide +kernel) rfl⟩
theorem m_X5_pickSets : mOK Y_X5_pickSets 3 := ⟨k_X5_pickSets, mem_at 563 (by decide +kernel) rfl, ini_5, by decide +kernel, by decide +kernel, by decide, rfl⟩
theorem i_X5_pickSets : iOK Y_X5_pickSets := ⟨mem_at 562 (by decide +kernel) rfl, mem_at 6 (by decide +kernel) rfl⟩
theorem m_X5_leastSet : mOK Y_X5_leastSet 4 := ⟨k_X5_leastSet, mem_at 567 (by decide +kernel) rfl, ini_5, by decide +kernel, by decide +kernel, by decide, rfl⟩
theorem i_X5_leastSet : iOK Y_X5_leastSet := ⟨mem_at 566 (by decide +kernel) rfl, mem_at 7 (by decide +kernel) rfl⟩
theorem m_X5_isAllowed : mOK Y_X5_isAllowed 4 := ⟨k_X5_isAllowed, mem_at 576 (by decide +kernel) rfl, ini_5, by decide +kernel, by decide +kernel, by decide, rfl⟩
theorem s_X5_isAllowed : sOK Y_X5_isAllowed := mem_at 575 (by decide +kernel) rfl
theorem m_X6_init : mOK Y_X6_init 0 := ⟨k_X6_init, mem_at 373 (by decide +kernel) rfl, ini_6, by decide +kernel, by decide +kernel, by decide, rfl⟩
theorem n_X6_init : nOK Y_X6_init := ⟨mem_at 372 (by decide +kernel) rfl, rfl, rfl⟩
theorem m_X6_isEmpty : mOK Y_X6_isEmpty 0 := ⟨k_X6_isEmpty, mem_at 472 (by decide +kernel) rfl, ini_6, by decide +kernel, by decide +kernel, by decide, rfl⟩
theorem i_X6_isEmpty : iOK Y_X6_isEmpty := ⟨mem_at 470 (by decide +kernel) rfl, mem_at 471 (by decide +kernel) rfl⟩
theorem m_X6_begin : mOK Y_X6_begin 2 := ⟨k_X6_begin, mem_at 957 (by decide +kernel) rfl, ini_6, by decide +kernel, by decide +kernel, by decide, rfl⟩
theorem i_X6_begin : iOK Y_X6_begin := ⟨mem_at 955 (by decide +kernel) rfl, mem_at 956 (by decide +kernel) rfl⟩
theorem m_X6_cut : mOK Y_X6_cut 1 := ⟨k_X6_cut, mem_at 972 (by decide +kernel) rfl, ini_6, by decide +kernel, by decide +kernel, by decide, rfl⟩
theorem i_X6_cut : iOK Y_X6_cut := ⟨mem_at 970 (by decide +kernel) rfl, mem_at 971 (by decide +kernel) rfl⟩
theorem m_X6_reaches : mOK Y_X6_reaches 2 := ⟨k_X6_reaches, mem_at 980 (by decide +kernel) rfl, ini_6, by decide +kernel, by decide +kernel, by decide, rfl⟩
theorem i_X6_reaches : iOK Y_X6_reaches := ⟨mem_at 978 (by decide +kernel) rfl, mem_at 979 (by decide +kernel) rfl⟩
theorem m_X7_init : mOK Y_X7_init 0 := ⟨k_X7_init, mem_at 278 (by decide +kernel) rfl, ini_7, by decide +kernel, by decide +kernel, by decide, rfl⟩
theorem n_X7_init : nOK Y_X7_init := ⟨mem_at 277 (by decide +kernel) rfl, rfl, rfl⟩
theorem m_X7_hasRoomFor : mOK Y_X7_hasRoomFor 1 := ⟨k_X7_hasRoomFor, mem_at 629 (by decide +kernel) rfl, ini_7, by decide +kernel, by decide +kernel, by decide, rfl⟩
theorem i_X7_hasRoomFor : iOK Y_X7_hasRoomFor := ⟨mem_at 627 (by decide +kernel) rfl, mem_at 628 (by decide +kernel) rfl⟩
theorem m_X7_append : mOK Y_X7_append 1 := ⟨k_X7_append, mem_at 633 (by decide +kernel) rfl, ini_7, by decide +kernel, by decide +kernel, by decide, rfl⟩
theorem i_X7_append : iOK Y_X7_append := ⟨mem_at 631 (by decide +kernel) rfl, mem_at 632 (by decide +kernel) rfl⟩
theorem m_X7_at : mOK Y_X7_at 1 := ⟨k_X7_at, mem_at 654 (by decide +kernel) rfl, ini_7, by decide +kernel, by decide +kernel, by decide, rfl⟩
theorem i_X7_at : iOK Y_X7_at := ⟨mem_at 652 (by decide +kernel) rfl, mem_at 653 (by decide +kernel) rfl⟩
theorem m_X7_has : mOK Y_X7_has 3 := ⟨k_X7_has, mem_at 680 (by decide +kernel) rfl, ini_7, by decide +kernel, by decide +kernel, by decide, rfl⟩
theorem i_X7_has : iOK Y_X7_has := ⟨mem_at 678 (by decide +kernel) rfl, mem_at 679 (by decide +kernel) rfl⟩
theorem m_X8_init : mOK Y_X8_init 0 := ⟨k_X8_init, mem_at 300 (by decide +kernel) rfl, ini_8, by decide +kernel, by decide +kernel, by decide, rfl⟩
theorem n_X8_init : nOK Y_X8_init := ⟨mem_at 299 (by decide +kernel) rfl, rfl, rfl⟩
theorem m_X8_kind : mOK Y_X8_kind 0 := ⟨k_X8_kind, mem_at 752 (by decide +kernel) rfl, ini_8, by decide +kernel, by decide +kernel, by decide, rfl⟩
theorem i_X8_kind : iOK Y_X8_kind := ⟨mem_at 750 (by decide +kernel) rfl, mem_at 751 (by decide +kernel) rfl⟩
theorem m_X8_place : mOK Y_X8_place 0 := ⟨k_X8_place, mem_at 804 (by decide +kernel) rfl, ini_8, by decide +kernel, by decide +kernel, by decide, rfl⟩
theorem i_X8_place : iOK Y_X8_place := ⟨mem_at 802 (by decide +kernel) rfl, mem_at 803 (by decide +kernel) rfl⟩
theorem m_X8_next : mOK Y_X8_next 0 := ⟨k_X8_next, mem_at 760 (by decide +kernel) rfl, ini_8, by decide +kernel, by decide +kernel, by decide, rfl⟩
theorem i_X8_next : iOK Y_X8_next := ⟨mem_at 758 (by decide +kernel) rfl, mem_at 759 (by decide +kernel) rfl⟩
theorem m_X8_split : mOK Y_X8_split 1 := ⟨k_X8_split, mem_at 650 (by decide +kernel) rfl, ini_8, by decide +kernel, by decide +kernel, by decide, rfl⟩
theorem i_X8_split : iOK Y_X8_split := ⟨mem_at 648 (by decide +kernel) rfl, mem_at 649 (by decide +kernel) rfl⟩
theorem m_X8_numberOf : mOK Y_X8_numberOf 3 := ⟨k_X8_numberOf, mem_at 666 (by decide +kernel) rfl, ini_8, by decide +kernel, by decide +kernel, by decide, rfl⟩
theorem s_X8_numberOf : sOK Y_X8_numberOf := mem_at 665 (by decide +kernel) rfl
theorem m_X8_kindOfText : mOK Y_X8_kindOfText 3 := ⟨k_X8_kindOfText, mem_at 672 (by decide +kernel) rfl, ini_8, by decide +kernel, by decide +kernel, by decide, rfl⟩
theorem s_X8_kindOfText : sOK Y_X8_kindOfText := mem_at 671 (by decide +kernel) rfl
theorem m_X8_kindOfFact : mOK Y_X8_kindOfFact 3 := ⟨k_X8_kindOfFact, mem_at 675 (by decide +kernel) rfl, ini_8, by decide +kernel, by decide +kernel, by decide, rfl⟩
theorem s_X8_kindOfFact : sOK Y_X8_kindOfFact := mem_at 674 (by decide +kernel) rfl
theorem m_X8_kindOfRuleWord : mOK Y_X8_kindOfRuleWord 3 := ⟨k_X8_kindOfRuleWord, mem_at 737 (by decide +kernel) rfl, ini_8, by decide +kernel, by decide +kernel, by decide, rfl⟩
theorem s_X8_kindOfRuleWord : sOK Y_X8_kindOfRuleWord := mem_at 736 (by decide +kernel) rfl
theorem m_X8_isBlank : mOK Y_X8_isBlank 1 := ⟨k_X8_isBlank, mem_at 657 (by decide +kernel) rfl, ini_8, by decide +kernel, by decide +kernel, by decide, rfl⟩
theorem s_X8_isBlank : sOK Y_X8_isBlank := mem_at 656 (by decide +kernel) rfl
theorem m_X8_isDigit : mOK Y_X8_isDigit 1 := ⟨k_X8_isDigit, mem_at 663 (by decide +kernel) rfl, ini_8, by decide +kernel, by decide +kernel, by decide, rfl⟩
theorem s_X8_isDigit : sOK Y_X8_isDigit := mem_at 662 (by decide +kernel) rfl
theorem m_X8_isLetter : mOK Y_X8_isLetter 1 := ⟨k_X8_isLetter, mem_at 660 (by decide +kernel) rfl, ini_8, by decide +kernel, by decide +kernel, by decide, rfl⟩
theorem s_X8_isLetter : sOK Y_X8_isLetter := mem_at 659 (by decide +kernel) rfl
theorem m_X8_isSign : mOK Y_X8_isSign 1 := ⟨k_X8_isSign, mem_at 744 (by decide +kernel) rfl, ini_8, by decide +kernel, by decide +kernel, by decide, rfl⟩
theorem s_X8_isSign : sOK Y_X8_isSign := mem_at 743 (by decide +kernel) rfl
theorem m_X9_init : mOK Y_X9_init 0 := ⟨k_X9_init, mem_at 255 (by decide +kernel) rfl, ini_9, by decide +kernel, by decide +kernel, by decide, rfl⟩
theorem n_X9_init : nOK Y_X9_init := ⟨mem_at 254 (by decide +kernel) rfl, rfl, rfl⟩
theorem m_X9_search : mOK Y_X9_search 1 := ⟨k_X9_search, mem_at 588 (by decide +kernel) rfl, ini_9, by decide +kernel, by decide +kernel, by decide, rfl⟩
theorem i_X9_search : iOK Y_X9_search := ⟨mem_at 586 (by decide +kernel) rfl, mem_at 587 (by decide +kernel) rfl⟩
theorem m_X9_findNear : mOK Y_X9_findNear 1 := ⟨k_X9_findNear, mem_at 592 (by decide +kernel) rfl, ini_9, by decide +kernel, by decide +kernel, by decide, rfl⟩
theorem i_X9_findNear : iOK Y_X9_findNear := ⟨mem_at 591 (by decide +kernel) rfl, mem_at 8 (by decide +kernel) rfl⟩
theorem m_X9_bannedFor : mOK Y_X9_bannedFor 2 := ⟨k_X9_bannedFor, mem_at 603 (by decide +kernel) rfl, ini_9, by decide +kernel, by decide +kernel, by decide, rfl⟩
theorem i_X9_bannedFor : iOK Y_X9_bannedFor := ⟨mem_at 602 (by decide +kernel) rfl, mem_at 9 (by decide +kernel) rfl⟩
theorem m_X9_tryChannels : mOK Y_X9_tryChannels 1 := ⟨k_X9_tryChannels, mem_at 608 (by decide +kernel) rfl, ini_9, by decide +kernel, by decide +kernel, by decide, rfl⟩
theorem i_X9_tryChannels : iOK Y_X9_tryChannels := ⟨mem_at 607 (by decide +kernel) rfl, mem_at 10 (by decide +kernel) rfl⟩
theorem m_X9_begin : mOK Y_X9_begin 1 := ⟨k_X9_begin, mem_at 612 (by decide +kernel) rfl, ini_9, by decide +kernel, by decide +kernel, by decide, rfl⟩
theorem i_X9_begin : iOK Y_X9_begin := ⟨mem_at 611 (by decide +kernel) rfl, mem_at 11 (by decide +kernel) rfl⟩
theorem m_X9_lastWithMore : mOK Y_X9_lastWithMore 1 := ⟨k_X9_lastWithMore, mem_at 616 (by decide +kernel) rfl, ini_9, by decide +kernel, by decide +kernel, by decide, rfl⟩
theorem i_X9_lastWithMore : iOK Y_X9_lastWithMore := ⟨mem_at 615 (by decide +kernel) rfl, mem_at 12 (by decide +kernel) rfl⟩
theorem m_X10_init : mOK Y_X10_init 0 := ⟨k_X10_init, mem_at 78 (by decide +kernel) rfl, ini_10, by decide +kernel, by decide +kernel, by decide, rfl⟩
theorem n_X10_init : nOK Y_X10_init := ⟨mem_at 77 (by decide +kernel) rfl, rfl, rfl⟩
theorem m_X10_terms : mOK Y_X10_terms 2 := ⟨k_X10_terms, mem_at 430 (by decide +kernel) rfl, ini_10, by decide +kernel, by decide +kernel, by decide, rfl⟩
theorem i_X10_terms : iOK Y_X10_terms := ⟨mem_at 428 (by decide +kernel) rfl, mem_at 429 (by decide +kernel) rfl⟩
theorem m_X10_mast : mOK Y_X10_mast 6 := ⟨k_X10_mast, mem_at 438 (by decide +kernel) rfl, ini_10, by decide +kernel, by decide +kernel, by decide, rfl⟩
theorem i_X10_mast : iOK Y_X10_mast := ⟨mem_at 436 (by decide +kernel) rfl, mem_at 437 (by decide +kernel) rfl⟩
theorem m_X10_abroad : mOK Y_X10_abroad 5 := ⟨k_X10_abroad, mem_at 456 (by decide +kernel) rfl, ini_10, by decide +kernel, by decide +kernel, by decide, rfl⟩
theorem i_X10_abroad : iOK Y_X10_abroad := ⟨mem_at 454 (by decide +kernel) rfl, mem_at 455 (by decide +kernel) rfl⟩
theorem m_X10_area : mOK Y_X10_area 5 := ⟨k_X10_area, mem_at 460 (by decide +kernel) rfl, ini_10, by decide +kernel, by decide +kernel, by decide, rfl⟩
theorem i_X10_area : iOK Y_X10_area := ⟨mem_at 458 (by decide +kernel) rfl, mem_at 459 (by decide +kernel) rfl⟩
theorem m_X10_poor : mOK Y_X10_poor 1 := ⟨k_X10_poor, mem_at 465 (by decide +kernel) rfl, ini_10, by decide +kernel, by decide +kernel, by decide, rfl⟩
theorem i_X10_poor : iOK Y_X10_poor := ⟨mem_at 463 (by decide +kernel) rfl, mem_at 464 (by decide +kernel) rfl⟩
theorem m_X10_aim : mOK Y_X10_aim 2 := ⟨k_X10_aim, mem_at 476 (by decide +kernel) rfl, ini_10, by decide +kernel, by decide +kernel, by decide, rfl⟩
theorem i_X10_aim : iOK Y_X10_aim := ⟨mem_at 474 (by decide +kernel) rfl, mem_at 475 (by decide +kernel) rfl⟩
theorem m_X10_turn : mOK Y_X10_turn 0 := ⟨k_X10_turn, mem_at 488 (by decide +kernel) rfl, ini_10, by decide +kernel, by decide +kernel, by decide, rfl⟩
theorem i_X10_turn : iOK Y_X10_turn := ⟨mem_at 486 (by decide +kernel) rfl, mem_at 487 (by decide +kernel) rfl⟩
theorem m_X10_strength : mOK Y_X10_strength 2 := ⟨k_X10_strength, mem_at 500 (by decide +kernel) rfl, ini_10, by decide +kernel, by decide +kernel, by decide, rfl⟩
theorem i_X10_strength : iOK Y_X10_strength := ⟨mem_at 498 (by decide +kernel) rfl, mem_at 499 (by decide +kernel) rfl⟩
theorem m_X10_plan : mOK Y_X10_plan 2 := ⟨k_X10_plan, mem_at 510 (by decide +kernel) rfl, ini_10, by decide +kernel, by decide +kernel, by decide, rfl⟩
theorem i_X10_plan : iOK Y_X10_plan := ⟨mem_at 508 (by decide +kernel) rfl, mem_at 509 (by decide +kernel) rfl⟩
theorem m_X10_weekOf : mOK Y_X10_weekOf 1 := ⟨k_X10_weekOf, mem_at 580 (by decide +kernel) rfl, ini_10, by decide +kernel, by decide +kernel, by decide, rfl⟩
theorem i_X10_weekOf : iOK Y_X10_weekOf := ⟨mem_at 578 (by decide +kernel) rfl, mem_at 579 (by decide +kernel) rfl⟩
theorem m_X10_channels : mOK Y_X10_channels 0 := ⟨k_X10_channels, mem_at 584 (by decide +kernel) rfl, ini_10, by decide +kernel, by decide +kernel, by decide, rfl⟩
theorem i_X10_channels : iOK Y_X10_channels := ⟨mem_at 582 (by decide +kernel) rfl, mem_at 583 (by decide +kernel) rfl⟩
theorem m_X10_channelOf : mOK Y_X10_channelOf 1 := ⟨k_X10_channelOf, mem_at 621 (by decide +kernel) rfl, ini_10, by decide +kernel, by decide +kernel, by decide, rfl⟩
theorem i_X10_channelOf : iOK Y_X10_channelOf := ⟨mem_at 619 (by decide +kernel) rfl, mem_at 620 (by decide +kernel) rfl⟩
theorem m_X10_feed : mOK Y_X10_feed 5 := ⟨k_X10_feed, mem_at 625 (by decide +kernel) rfl, ini_10, by decide +kernel, by decide +kernel, by decide, rfl⟩
theorem i_X10_feed : iOK Y_X10_feed := ⟨mem_at 623 (by decide +kernel) rfl, mem_at 624 (by decide +kernel) rfl⟩
theorem m_X10_end : mOK Y_X10_end 1 := ⟨k_X10_end, mem_at 638 (by decide +kernel) rfl, ini_10, by decide +kernel, by decide +kernel, by decide, rfl⟩
theorem i_X10_end : iOK Y_X10_end := ⟨mem_at 636 (by decide +kernel) rfl, mem_at 637 (by decide +kernel) rfl⟩
theorem m_X10_law : mOK Y_X10_law 0 := ⟨k_X10_law, mem_at 642 (by decide +kernel) rfl, ini_10, by decide +kernel, by decide +kernel, by decide, rfl⟩
theorem i_X10_law : iOK Y_X10_law := ⟨mem_at 640 (by decide +kernel) rfl, mem_at 641 (by decide +kernel) rfl⟩
theorem m_X10_fault : mOK Y_X10_fault 0 := ⟨k_X10_fault, mem_at 812 (by decide +kernel) rfl, ini_10, by decide +kernel, by decide +kernel, by decide, rfl⟩
theorem i_X10_fault : iOK Y_X10_fault := ⟨mem_at 810 (by decide +kernel) rfl, mem_at 811 (by decide +kernel) rfl⟩
theorem m_X10_deliver : mOK Y_X10_deliver 1 := ⟨k_X10_deliver, mem_at 816 (by decide +kernel) rfl, ini_10, by decide +kernel, by decide +kernel, by decide, rfl⟩
theorem i_X10_deliver : iOK Y_X10_deliver := ⟨mem_at 814 (by decide +kernel) rfl, mem_at 815 (by decide +kernel) rfl⟩
theorem m_X10_go : mOK Y_X10_go 0 := ⟨k_X10_go, mem_at 821 (by decide +kernel) rfl, ini_10, by decide +kernel, by decide +kernel, by decide, rfl⟩
theorem i_X10_go : iOK Y_X10_go := ⟨mem_at 819 (by decide +kernel) rfl, mem_at 820 (by decide +kernel) rfl⟩
theorem m_X10_fail : mOK Y_X10_fail 2 := ⟨k_X10_fail, mem_at 867 (by decide +kernel) rfl, ini_10, by decide +kernel, by decide +kernel, by decide, rfl⟩
theorem i_X10_fail : iOK Y_X10_fail := ⟨mem_at 865 (by decide +kernel) rfl, mem_at 866 (by decide +kernel) rfl⟩
theorem m_X10_on : mOK Y_X10_on 1 := ⟨k_X10_on, mem_at 871 (by decide +kernel) rfl, ini_10, by decide +kernel, by decide +kernel, by decide, rfl⟩
theorem i_X10_on : iOK Y_X10_on := ⟨mem_at 869 (by decide +kernel) rfl, mem_at 870 (by decide +kernel) rfl⟩
theorem m_X10_picture : mOK Y_X10_picture 1 := ⟨k_X10_picture, mem_at 882 (by decide +kernel) rfl, ini_10, by decide +kernel, by decide +kernel, by decide, rfl⟩
theorem i_X10_picture : iOK Y_X10_picture := ⟨mem_at 880 (by decide +kernel) rfl, mem_at 881 (by decide +kernel) rfl⟩
theorem m_X10_snow : mOK Y_X10_snow 1 := ⟨k_X10_snow, mem_at 904 (by decide +kernel) rfl, ini_10, by decide +kernel, by decide +kernel, by decide, rfl⟩
theorem i_X10_snow : iOK Y_X10_snow := ⟨mem_at 902 (by decide +kernel) rfl, mem_at 903 (by decide +kernel) rfl⟩
theorem m_X10_hurt : mOK Y_X10_hurt 1 := ⟨k_X10_hurt, mem_at 913 (by decide +kernel) rfl, ini_10, by decide +kernel, by decide +kernel, by decide, rfl⟩
theorem i_X10_hurt : iOK Y_X10_hurt := ⟨mem_at 911 (by decide +kernel) rfl, mem_at 912 (by decide +kernel) rfl⟩
theorem m_X10_blame : mOK Y_X10_blame 1 := ⟨k_X10_blame, mem_at 918 (by decide +kernel) rfl, ini_10, by decide +kernel, by decide +kernel, by decide, rfl⟩
theorem i_X10_blame : iOK Y_X10_blame := ⟨mem_at 916 (by decide +kernel) rfl, mem_at 917 (by decide +kernel) rfl⟩
theorem m_X10_mastOf : mOK Y_X10_mastOf 2 := ⟨k_X10_mastOf, mem_at 923 (by decide +kernel) rfl, ini_10, by decide +kernel, by decide +kernel, by decide, rfl⟩
theorem i_X10_mastOf : iOK Y_X10_mastOf := ⟨mem_at 921 (by decide +kernel) rfl, mem_at 922 (by decide +kernel) rfl⟩
theorem m_X10_areaOf : mOK Y_X10_areaOf 2 := ⟨k_X10_areaOf, mem_at 932 (by decide +kernel) rfl, ini_10, by decide +kernel, by decide +kernel, by decide, rfl⟩
theorem i_X10_areaOf : iOK Y_X10_areaOf := ⟨mem_at 930 (by decide +kernel) rfl, mem_at 931 (by decide +kernel) rfl⟩
theorem m_X10_count : mOK Y_X10_count 1 := ⟨k_X10_count, mem_at 940 (by decide +kernel) rfl, ini_10, by decide +kernel, by decide +kernel, by decide, rfl⟩
theorem i_X10_count : iOK Y_X10_count := ⟨mem_at 938 (by decide +kernel) rfl, mem_at 939 (by decide +kernel) rfl⟩
theorem m_X10_row : mOK Y_X10_row 3 := ⟨k_X10_row, mem_at 953 (by decide +kernel) rfl, ini_10, by decide +kernel, by decide +kernel, by decide, rfl⟩
theorem i_X10_row : iOK Y_X10_row := ⟨mem_at 951 (by decide +kernel) rfl, mem_at 952 (by decide +kernel) rfl⟩
theorem m_X10_tear : mOK Y_X10_tear 1 := ⟨k_X10_tear, mem_at 964 (by decide +kernel) rfl, ini_10, by decide +kernel, by decide +kernel, by decide, rfl⟩
theorem i_X10_tear : iOK Y_X10_tear := ⟨mem_at 962 (by decide +kernel) rfl, mem_at 963 (by decide +kernel) rfl⟩
theorem m_X10_write : mOK Y_X10_write 3 := ⟨k_X10_write, mem_at 968 (by decide +kernel) rfl, ini_10, by decide +kernel, by decide +kernel, by decide, rfl⟩
theorem i_X10_write : iOK Y_X10_write := ⟨mem_at 966 (by decide +kernel) rfl, mem_at 967 (by decide +kernel) rfl⟩
theorem m_X10_paste : mOK Y_X10_paste 5 := ⟨k_X10_paste, mem_at 976 (by decide +kernel) rfl, ini_10, by decide +kernel, by decide +kernel, by decide, rfl⟩
theorem i_X10_paste : iOK Y_X10_paste := ⟨mem_at 974 (by decide +kernel) rfl, mem_at 975 (by decide +kernel) rfl⟩
theorem m_X10_isWithin : mOK Y_X10_isWithin 3 := ⟨k_X10_isWithin, mem_at 434 (by decide +kernel) rfl, ini_10, by decide +kernel, by decide +kernel, by decide, rfl⟩
theorem s_X10_isWithin : sOK Y_X10_isWithin := mem_at 433 (by decide +kernel) rfl
theorem m_X10_isIn : mOK Y_X10_isIn 2 := ⟨k_X10_isIn, mem_at 541 (by decide +kernel) rfl, ini_10, by decide +kernel, by decide +kernel, by decide, rfl⟩
theorem s_X10_isIn : sOK Y_X10_isIn := mem_at 540 (by decide +kernel) rfl
theorem m_X10_asNumber : mOK Y_X10_asNumber 1 := ⟨k_X10_asNumber, mem_at 878 (by decide +kernel) rfl, ini_10, by decide +kernel, by decide +kernel, by decide, rfl⟩
theorem s_X10_asNumber : sOK Y_X10_asNumber := mem_at 877 (by decide +kernel) rfl
theorem m_X10_isSlot : mOK Y_X10_isSlot 1 := ⟨k_X10_isSlot, mem_at 468 (by decide +kernel) rfl, ini_10, by decide +kernel, by decide +kernel, by decide, rfl⟩
theorem s_X10_isSlot : sOK Y_X10_isSlot := mem_at 467 (by decide +kernel) rfl
theorem m_X10_isPlace : mOK Y_X10_isPlace 2 := ⟨k_X10_isPlace, mem_at 444 (by decide +kernel) rfl, ini_10, by decide +kernel, by decide +kernel, by decide, rfl⟩
theorem s_X10_isPlace : sOK Y_X10_isPlace := mem_at 443 (by decide +kernel) rfl
theorem m_X10_isFitSender : mOK Y_X10_isFitSender 4 := ⟨k_X10_isFitSender, mem_at 441 (by decide +kernel) rfl, ini_10, by decide +kernel, by decide +kernel, by decide, rfl⟩
theorem s_X10_isFitSender : sOK Y_X10_isFitSender := mem_at 440 (by decide +kernel) rfl
theorem m_X10_dropChannels : mOK Y_X10_dropChannels 0 := ⟨k_X10_dropChannels, mem_at 514 (by decide +kernel) rfl, ini_10, by decide +kernel, by decide +kernel, by decide, rfl⟩
theorem i_X10_dropChannels : iOK Y_X10_dropChannels := ⟨mem_at 513 (by decide +kernel) rfl, mem_at 0 (by decide +kernel) rfl⟩
theorem m_X10_giveBoxes : mOK Y_X10_giveBoxes 0 := ⟨k_X10_giveBoxes, mem_at 825 (by decide +kernel) rfl, ini_10, by decide +kernel, by decide +kernel, by decide, rfl⟩
theorem i_X10_giveBoxes : iOK Y_X10_giveBoxes := ⟨mem_at 824 (by decide +kernel) rfl, mem_at 19 (by decide +kernel) rfl⟩
theorem m_X10_portionOf : mOK Y_X10_portionOf 2 := ⟨k_X10_portionOf, mem_at 829 (by decide +kernel) rfl, ini_10, by decide +kernel, by decide +kernel, by decide, rfl⟩
theorem i_X10_portionOf : iOK Y_X10_portionOf := ⟨mem_at 828 (by decide +kernel) rfl, mem_at 20 (by decide +kernel) rfl⟩
theorem m_X10_rowsThere : mOK Y_X10_rowsThere 0 := ⟨k_X10_rowsThere, mem_at 949 (by decide +kernel) rfl, ini_10, by decide +kernel, by decide +kernel, by decide, rfl⟩
theorem i_X10_rowsThere : iOK Y_X10_rowsThere := ⟨mem_at 948 (by decide +kernel) rfl, mem_at 24 (by decide +kernel) rfl⟩
theorem m_X11_init : mOK Y_X11_init 0 := ⟨k_X11_init, mem_at 988 (by decide +kernel) rfl, ini_11, by decide +kernel, by decide +kernel, by decide, rfl⟩
theorem n_X11_init : nOK Y_X11_init := ⟨mem_at 987 (by decide +kernel) rfl, rfl, rfl⟩
theorem m_X11_in : mOK Y_X11_in 3 := ⟨k_X11_in, mem_at 1168 (by decide +kernel) rfl, ini_11, by decide +kernel, by decide +kernel, by decide, rfl⟩
theorem s_X11_in : sOK Y_X11_in := mem_at 1167 (by decide +kernel) rfl
theorem m_X11_isSlot : mOK Y_X11_isSlot 1 := ⟨k_X11_isSlot, mem_at 1164 (by decide +kernel) rfl, ini_11, by decide +kernel, by decide +kernel, by decide, rfl⟩
theorem s_X11_isSlot : sOK Y_X11_isSlot := mem_at 1163 (by decide +kernel) rfl
theorem m_X11_cut : mOK Y_X11_cut 2 := ⟨k_X11_cut, mem_at 1179 (by decide +kernel) rfl, ini_11, by decide +kernel, by decide +kernel, by decide, rfl⟩
theorem s_X11_cut : sOK Y_X11_cut := mem_at 1178 (by decide +kernel) rfl
theorem m_X11_row : mOK Y_X11_row 3 := ⟨k_X11_row, mem_at 1161 (by decide +kernel) rfl, ini_11, by decide +kernel, by decide +kernel, by decide, rfl⟩
theorem i_X11_row : iOK Y_X11_row := ⟨mem_at 1159 (by decide +kernel) rfl, mem_at 1160 (by decide +kernel) rfl⟩
theorem m_X11_tear : mOK Y_X11_tear 1 := ⟨k_X11_tear, mem_at 1172 (by decide +kernel) rfl, ini_11, by decide +kernel, by decide +kernel, by decide, rfl⟩
theorem i_X11_tear : iOK Y_X11_tear := ⟨mem_at 1170 (by decide +kernel) rfl, mem_at 1171 (by decide +kernel) rfl⟩
theorem m_X11_write : mOK Y_X11_write 3 := ⟨k_X11_write, mem_at 1176 (by decide +kernel) rfl, ini_11, by decide +kernel, by decide +kernel, by decide, rfl⟩
theorem i_X11_write : iOK Y_X11_write := ⟨mem_at 1174 (by decide +kernel) rfl, mem_at 1175 (by decide +kernel) rfl⟩
theorem m_X11_paste : mOK Y_X11_paste 5 := ⟨k_X11_paste, mem_at 1183 (by decide +kernel) rfl, ini_11, by decide +kernel, by decide +kernel, by decide, rfl⟩
theorem i_X11_paste : iOK Y_X11_paste := ⟨mem_at 1181 (by decide +kernel) rfl, mem_at 1182 (by decide +kernel) rfl⟩
theorem m_X11_terms : mOK Y_X11_terms 2 := ⟨k_X11_terms, mem_at 1187 (by decide +kernel) rfl, ini_11, by decide +kernel, by decide +kernel, by decide, rfl⟩
theorem i_X11_terms : iOK Y_X11_terms := ⟨mem_at 1185 (by decide +kernel) rfl, mem_at 1186 (by decide +kernel) rfl⟩
theorem m_X11_isSender : mOK Y_X11_isSender 4 := ⟨k_X11_isSender, mem_at 1196 (by decide +kernel) rfl, ini_11, by decide +kernel, by decide +kernel, by decide, rfl⟩
theorem s_X11_isSender : sOK Y_X11_isSender := mem_at 1195 (by decide +kernel) rfl
theorem m_X11_sender : mOK Y_X11_sender 5 := ⟨k_X11_sender, mem_at 1203 (by decide +kernel) rfl, ini_11, by decide +kernel, by decide +kernel, by decide, rfl⟩
theorem i_X11_sender : iOK Y_X11_sender := ⟨mem_at 1202 (by decide +kernel) rfl, mem_at 25 (by decide +kernel) rfl⟩
theorem m_X11_mast : mOK Y_X11_mast 6 := ⟨k_X11_mast, mem_at 1193 (by decide +kernel) rfl, ini_11, by decide +kernel, by decide +kernel, by decide, rfl⟩
theorem i_X11_mast : iOK Y_X11_mast := ⟨mem_at 1191 (by decide +kernel) rfl, mem_at 1192 (by decide +kernel) rfl⟩
theorem m_X11_abroad : mOK Y_X11_abroad 5 := ⟨k_X11_abroad, mem_at 1207 (by decide +kernel) rfl, ini_11, by decide +kernel, by decide +kernel, by decide, rfl⟩
theorem i_X11_abroad : iOK Y_X11_abroad := ⟨mem_at 1205 (by decide +kernel) rfl, mem_at 1206 (by decide +kernel) rfl⟩
theorem m_X11_area : mOK Y_X11_area 5 := ⟨k_X11_area, mem_at 1212 (by decide +kernel) rfl, ini_11, by decide +kernel, by decide +kernel, by decide, rfl⟩
theorem i_X11_area : iOK Y_X11_area := ⟨mem_at 1210 (by decide +kernel) rfl, mem_at 1211 (by decide +kernel) rfl⟩
theorem m_X11_isMast : mOK Y_X11_isMast 1 := ⟨k_X11_isMast, mem_at 1229 (by decide +kernel) rfl, ini_11, by decide +kernel, by decide +kernel, by decide, rfl⟩
theorem i_X11_isMast : iOK Y_X11_isMast := ⟨mem_at 1228 (by decide +kernel) rfl, mem_at 27 (by decide +kernel) rfl⟩
theorem m_X11_isArea : mOK Y_X11_isArea 1 := ⟨k_X11_isArea, mem_at 1225 (by decide +kernel) rfl, ini_11, by decide +kernel, by decide +kernel, by decide, rfl⟩
theorem i_X11_isArea : iOK Y_X11_isArea := ⟨mem_at 1224 (by decide +kernel) rfl, mem_at 26 (by decide +kernel) rfl⟩
theorem m_X11_poor : mOK Y_X11_poor 1 := ⟨k_X11_poor, mem_at 1217 (by decide +kernel) rfl, ini_11, by decide +kernel, by decide +kernel, by decide, rfl⟩
theorem i_X11_poor : iOK Y_X11_poor := ⟨mem_at 1215 (by decide +kernel) rfl, mem_at 1216 (by decide +kernel) rfl⟩
theorem m_X11_turned : mOK Y_X11_turned 2 := ⟨k_X11_turned, mem_at 1233 (by decide +kernel) rfl, ini_11, by decide +kernel, by decide +kernel, by decide, rfl⟩
theorem i_X11_turned : iOK Y_X11_turned := ⟨mem_at 1232 (by decide +kernel) rfl, mem_at 28 (by decide +kernel) rfl⟩
theorem m_X11_aim : mOK Y_X11_aim 2 := ⟨k_X11_aim, mem_at 1221 (by decide +kernel) rfl, ini_11, by decide +kernel, by decide +kernel, by decide, rfl⟩
theorem i_X11_aim : iOK Y_X11_aim := ⟨mem_at 1219 (by decide +kernel) rfl, mem_at 1220 (by decide +kernel) rfl⟩
theorem m_X11_at : mOK Y_X11_at 2 := ⟨k_X11_at, mem_at 1241 (by decide +kernel) rfl, ini_11, by decide +kernel, by decide +kernel, by decide, rfl⟩
theorem i_X11_at : iOK Y_X11_at := ⟨mem_at 1240 (by decide +kernel) rfl, mem_at 29 (by decide +kernel) rfl⟩
theorem m_X11_turn : mOK Y_X11_turn 0 := ⟨k_X11_turn, mem_at 1237 (by decide +kernel) rfl, ini_11, by decide +kernel, by decide +kernel, by decide, rfl⟩
theorem i_X11_turn : iOK Y_X11_turn := ⟨mem_at 1235 (by decide +kernel) rfl, mem_at 1236 (by decide +kernel) rfl⟩
theorem m_X11_strength : mOK Y_X11_strength 2 := ⟨k_X11_strength, mem_at 1245 (by decide +kernel) rfl, ini_11, by decide +kernel, by decide +kernel, by decide, rfl⟩
theorem i_X11_strength : iOK Y_X11_strength := ⟨mem_at 1243 (by decide +kernel) rfl, mem_at 1244 (by decide +kernel) rfl⟩
theorem m_X11_hurts : mOK Y_X11_hurts 2 := ⟨k_X11_hurts, mem_at 1277 (by decide +kernel) rfl, ini_11, by decide +kernel, by decide +kernel, by decide, rfl⟩
theorem i_X11_hurts : iOK Y_X11_hurts := ⟨mem_at 1276 (by decide +kernel) rfl, mem_at 33 (by decide +kernel) rfl⟩
theorem m_X11_hurtsOne : mOK Y_X11_hurtsOne 2 := ⟨k_X11_hurtsOne, mem_at 1273 (by decide +kernel) rfl, ini_11, by decide +kernel, by decide +kernel, by decide, rfl⟩
theorem i_X11_hurtsOne : iOK Y_X11_hurtsOne := ⟨mem_at 1272 (by decide +kernel) rfl, mem_at 32 (by decide +kernel) rfl⟩
theorem m_X11_sizeOf : mOK Y_X11_sizeOf 1 := ⟨k_X11_sizeOf, mem_at 1261 (by decide +kernel) rfl, ini_11, by decide +kernel, by decide +kernel, by decide, rfl⟩
theorem s_X11_sizeOf : sOK Y_X11_sizeOf := mem_at 1260 (by decide +kernel) rfl
theorem m_X11_may : mOK Y_X11_may 5 := ⟨k_X11_may, mem_at 1258 (by decide +kernel) rfl, ini_11, by decide +kernel, by decide +kernel, by decide, rfl⟩
theorem i_X11_may : iOK Y_X11_may := ⟨mem_at 1257 (by decide +kernel) rfl, mem_at 31 (by decide +kernel) rfl⟩
theorem m_X11_fewest : mOK Y_X11_fewest 2 := ⟨k_X11_fewest, mem_at 1254 (by decide +kernel) rfl, ini_11, by decide +kernel, by decide +kernel, by decide, rfl⟩
theorem i_X11_fewest : iOK Y_X11_fewest := ⟨mem_at 1253 (by decide +kernel) rfl, mem_at 30 (by decide +kernel) rfl⟩
theorem m_X11_plan : mOK Y_X11_plan 2 := ⟨k_X11_plan, mem_at 1250 (by decide +kernel) rfl, ini_11, by decide +kernel, by decide +kernel, by decide, rfl⟩
theorem i_X11_plan : iOK Y_X11_plan := ⟨mem_at 1248 (by decide +kernel) rfl, mem_at 1249 (by decide +kernel) rfl⟩
theorem m_X11_weekOf : mOK Y_X11_weekOf 1 := ⟨k_X11_weekOf, mem_at 1265 (by decide +kernel) rfl, ini_11, by decide +kernel, by decide +kernel, by decide, rfl⟩
theorem i_X11_weekOf : iOK Y_X11_weekOf := ⟨mem_at 1263 (by decide +kernel) rfl, mem_at 1264 (by decide +kernel) rfl⟩
theorem m_X11_goes : mOK Y_X11_goes 2 := ⟨k_X11_goes, mem_at 1281 (by decide +kernel) rfl, ini_11, by decide +kernel, by decide +kernel, by decide, rfl⟩
theorem i_X11_goes : iOK Y_X11_goes := ⟨mem_at 1280 (by decide +kernel) rfl, mem_at 34 (by decide +kernel) rfl⟩
theorem m_X11_channels : mOK Y_X11_channels 0 := ⟨k_X11_channels, mem_at 1269 (by decide +kernel) rfl, ini_11, by decide +kernel, by decide +kernel, by decide, rfl⟩
theorem i_X11_channels : iOK Y_X11_channels := ⟨mem_at 1267 (by decide +kernel) rfl, mem_at 1268 (by decide +kernel) rfl⟩
theorem m_X11_unlike : mOK Y_X11_unlike 0 := ⟨k_X11_unlike, mem_at 1285 (by decide +kernel) rfl, ini_11, by decide +kernel, by decide +kernel, by decide, rfl⟩
theorem i_X11_unlike : iOK Y_X11_unlike := ⟨mem_at 1284 (by decide +kernel) rfl, mem_at 35 (by decide +kernel) rfl⟩
theorem m_X11_channelOf : mOK Y_X11_channelOf 1 := ⟨k_X11_channelOf, mem_at 1289 (by decide +kernel) rfl, ini_11, by decide +kernel, by decide +kernel, by decide, rfl⟩
theorem i_X11_channelOf : iOK Y_X11_channelOf := ⟨mem_at 1287 (by decide +kernel) rfl, mem_at 1288 (by decide +kernel) rfl⟩
theorem m_X11_feed : mOK Y_X11_feed 5 := ⟨k_X11_feed, mem_at 1293 (by decide +kernel) rfl, ini_11, by decide +kernel, by decide +kernel, by decide, rfl⟩
theorem i_X11_feed : iOK Y_X11_feed := ⟨mem_at 1291 (by decide +kernel) rfl, mem_at 1292 (by decide +kernel) rfl⟩
theorem m_X11_end : mOK Y_X11_end 1 := ⟨k_X11_end, mem_at 1297 (by decide +kernel) rfl, ini_11, by decide +kernel, by decide +kernel, by decide, rfl⟩
theorem i_X11_end : iOK Y_X11_end := ⟨mem_at 1295 (by decide +kernel) rfl, mem_at 1296 (by decide +kernel) rfl⟩
theorem m_X11_see : mOK Y_X11_see 1 := ⟨k_X11_see, mem_at 1313 (by decide +kernel) rfl, ini_11, by decide +kernel, by decide +kernel, by decide, rfl⟩
theorem i_X11_see : iOK Y_X11_see := ⟨mem_at 1312 (by decide +kernel) rfl, mem_at 38 (by decide +kernel) rfl⟩
theorem m_X11_isLetter : mOK Y_X11_isLetter 1 := ⟨k_X11_isLetter, mem_at 1316 (by decide +kernel) rfl, ini_11, by decide +kernel, by decide +kernel, by decide, rfl⟩
theorem s_X11_isLetter : sOK Y_X11_isLetter := mem_at 1315 (by decide +kernel) rfl
theorem m_X11_isDigit : mOK Y_X11_isDigit 1 := ⟨k_X11_isDigit, mem_at 1319 (by decide +kernel) rfl, ini_11, by decide +kernel, by decide +kernel, by decide, rfl⟩
theorem s_X11_isDigit : sOK Y_X11_isDigit := mem_at 1318 (by decide +kernel) rfl
theorem m_X11_next : mOK Y_X11_next 0 := ⟨k_X11_next, mem_at 1309 (by decide +kernel) rfl, ini_11, by decide +kernel, by decide +kernel, by decide, rfl⟩
theorem i_X11_next : iOK Y_X11_next := ⟨mem_at 1308 (by decide +kernel) rfl, mem_at 37 (by decide +kernel) rfl⟩
theorem m_X11_bad : mOK Y_X11_bad 0 := ⟨k_X11_bad, mem_at 1336 (by decide +kernel) rfl, ini_11, by decide +kernel, by decide +kernel, by decide, rfl⟩
theorem i_X11_bad : iOK Y_X11_bad := ⟨mem_at 1335 (by decide +kernel) rfl, mem_at 41 (by decide +kernel) rfl⟩
theorem m_X11_isSign : mOK Y_X11_isSign 1 := ⟨k_X11_isSign, mem_at 1363 (by decide +kernel) rfl, ini_11, by decide +kernel, by decide +kernel, by decide, rfl⟩
theorem i_X11_isSign : iOK Y_X11_isSign := ⟨mem_at 1362 (by decide +kernel) rfl, mem_at 46 (by decide +kernel) rfl⟩
theorem m_X11_is : mOK Y_X11_is 1 := ⟨k_X11_is, mem_at 1329 (by decide +kernel) rfl, ini_11, by decide +kernel, by decide +kernel, by decide, rfl⟩
theorem i_X11_is : iOK Y_X11_is := ⟨mem_at 1328 (by decide +kernel) rfl, mem_at 40 (by decide +kernel) rfl⟩
theorem m_X11_whole : mOK Y_X11_whole 0 := ⟨k_X11_whole, mem_at 1340 (by decide +kernel) rfl, ini_11, by decide +kernel, by decide +kernel, by decide, rfl⟩
theorem i_X11_whole : iOK Y_X11_whole := ⟨mem_at 1339 (by decide +kernel) rfl, mem_at 42 (by decide +kernel) rfl⟩
theorem m_X11_factor : mOK Y_X11_factor 0 := ⟨k_X11_factor, mem_at 1353 (by decide +kernel) rfl, ini_11, by decide +kernel, by decide +kernel, by decide, rfl⟩
theorem i_X11_factor : iOK Y_X11_factor := ⟨mem_at 1352 (by decide +kernel) rfl, mem_at 45 (by decide +kernel) rfl⟩
theorem m_X11_term : mOK Y_X11_term 0 := ⟨k_X11_term, mem_at 1349 (by decide +kernel) rfl, ini_11, by decide +kernel, by decide +kernel, by decide, rfl⟩
theorem i_X11_term : iOK Y_X11_term := ⟨mem_at 1348 (by decide +kernel) rfl, mem_at 44 (by decide +kernel) rfl⟩
theorem m_X11_sum : mOK Y_X11_sum 0 := ⟨k_X11_sum, mem_at 1345 (by decide +kernel) rfl, ini_11, by decide +kernel, by decide +kernel, by decide, rfl⟩
theorem i_X11_sum : iOK Y_X11_sum := ⟨mem_at 1344 (by decide +kernel) rfl, mem_at 43 (by decide +kernel) rfl⟩
theorem m_X11_conds : mOK Y_X11_conds 0 := ⟨k_X11_conds, mem_at 1368 (by decide +kernel) rfl, ini_11, by decide +kernel, by decide +kernel, by decide, rfl⟩
theorem i_X11_conds : iOK Y_X11_conds := ⟨mem_at 1367 (by decide +kernel) rfl, mem_at 47 (by decide +kernel) rfl⟩
theorem m_X11_rule : mOK Y_X11_rule 0 := ⟨k_X11_rule, mem_at 1324 (by decide +kernel) rfl, ini_11, by decide +kernel, by decide +kernel, by decide, rfl⟩
theorem i_X11_rule : iOK Y_X11_rule := ⟨mem_at 1323 (by decide +kernel) rfl, mem_at 39 (by decide +kernel) rfl⟩
theorem m_X11_reads : mOK Y_X11_reads 1 := ⟨k_X11_reads, mem_at 1305 (by decide +kernel) rfl, ini_11, by decide +kernel, by decide +kernel, by decide, rfl⟩
theorem i_X11_reads : iOK Y_X11_reads := ⟨mem_at 1304 (by decide +kernel) rfl, mem_at 36 (by decide +kernel) rfl⟩
theorem m_X11_law : mOK Y_X11_law 0 := ⟨k_X11_law, mem_at 1301 (by decide +kernel) rfl, ini_11, by decide +kernel, by decide +kernel, by decide, rfl⟩
theorem i_X11_law : iOK Y_X11_law := ⟨mem_at 1299 (by decide +kernel) rfl, mem_at 1300 (by decide +kernel) rfl⟩
theorem m_X11_fault : mOK Y_X11_fault 0 := ⟨k_X11_fault, mem_at 1373 (by decide +kernel) rfl, ini_11, by decide +kernel, by decide +kernel, by decide, rfl⟩
theorem i_X11_fault : iOK Y_X11_fault := ⟨mem_at 1371 (by decide +kernel) rfl, mem_at 1372 (by decide +kernel) rfl⟩
theorem m_X11_deliver : mOK Y_X11_deliver 1 := ⟨k_X11_deliver, mem_at 1377 (by decide +kernel) rfl, ini_11, by decide +kernel, by decide +kernel, by decide, rfl⟩
theorem i_X11_deliver : iOK Y_X11_deliver := ⟨mem_at 1375 (by decide +kernel) rfl, mem_at 1376 (by decide +kernel) rfl⟩
theorem m_X11_go : mOK Y_X11_go 0 := ⟨k_X11_go, mem_at 1382 (by decide +kernel) rfl, ini_11, by decide +kernel, by decide +kernel, by decide, rfl⟩
theorem i_X11_go : iOK Y_X11_go := ⟨mem_at 1380 (by decide +kernel) rfl, mem_at 1381 (by decide +kernel) rfl⟩
theorem m_X11_fail : mOK Y_X11_fail 2 := ⟨k_X11_fail, mem_at 1388 (by decide +kernel) rfl, ini_11, by decide +kernel, by decide +kernel, by decide, rfl⟩
theorem i_X11_fail : iOK Y_X11_fail := ⟨mem_at 1386 (by decide +kernel) rfl, mem_at 1387 (by decide +kernel) rfl⟩
theorem m_X11_isOn : mOK Y_X11_isOn 1 := ⟨k_X11_isOn, mem_at 1396 (by decide +kernel) rfl, ini_11, by decide +kernel, by decide +kernel, by decide, rfl⟩
theorem i_X11_isOn : iOK Y_X11_isOn := ⟨mem_at 1395 (by decide +kernel) rfl, mem_at 48 (by decide +kernel) rfl⟩
theorem m_X11_on : mOK Y_X11_on 1 := ⟨k_X11_on, mem_at 1392 (by decide +kernel) rfl, ini_11, by decide +kernel, by decide +kernel, by decide, rfl⟩
theorem i_X11_on : iOK Y_X11_on := ⟨mem_at 1390 (by decide +kernel) rfl, mem_at 1391 (by decide +kernel) rfl⟩
theorem m_X11_now : mOK Y_X11_now 1 := ⟨k_X11_now, mem_at 1412 (by decide +kernel) rfl, ini_11, by decide +kernel, by decide +kernel, by decide, rfl⟩
theorem i_X11_now : iOK Y_X11_now := ⟨mem_at 1411 (by decide +kernel) rfl, mem_at 51 (by decide +kernel) rfl⟩
theorem m_X11_hurtBy : mOK Y_X11_hurtBy 1 := ⟨k_X11_hurtBy, mem_at 1408 (by decide +kernel) rfl, ini_11, by decide +kernel, by decide +kernel, by decide, rfl⟩
theorem i_X11_hurtBy : iOK Y_X11_hurtBy := ⟨mem_at 1407 (by decide +kernel) rfl, mem_at 50 (by decide +kernel) rfl⟩
theorem m_X11_pictureOf : mOK Y_X11_pictureOf 1 := ⟨k_X11_pictureOf, mem_at 1404 (by decide +kernel) rfl, ini_11, by decide +kernel, by decide +kernel, by decide, rfl⟩
theorem i_X11_pictureOf : iOK Y_X11_pictureOf := ⟨mem_at 1403 (by decide +kernel) rfl, mem_at 49 (by decide +kernel) rfl⟩
theorem m_X11_snowOf : mOK Y_X11_snowOf 1 := ⟨k_X11_snowOf, mem_at 1420 (by decide +kernel) rfl, ini_11, by decide +kernel, by decide +kernel, by decide, rfl⟩
theorem i_X11_snowOf : iOK Y_X11_snowOf := ⟨mem_at 1419 (by decide +kernel) rfl, mem_at 52 (by decide +kernel) rfl⟩
theorem m_X11_picture : mOK Y_X11_picture 1 := ⟨k_X11_picture, mem_at 1400 (by decide +kernel) rfl, ini_11, by decide +kernel, by decide +kernel, by decide, rfl⟩
theorem i_X11_picture : iOK Y_X11_picture := ⟨mem_at 1398 (by decide +kernel) rfl, mem_at 1399 (by decide +kernel) rfl⟩
theorem m_X11_snow : mOK Y_X11_snow 1 := ⟨k_X11_snow, mem_at 1416 (by decide +kernel) rfl, ini_11, by decide +kernel, by decide +kernel, by decide, rfl⟩
theorem i_X11_snow : iOK Y_X11_snow := ⟨mem_at 1414 (by decide +kernel) rfl, mem_at 1415 (by decide +kernel) rfl⟩
theorem m_X11_hurt : mOK Y_X11_hurt 1 := ⟨k_X11_hurt, mem_at 1424 (by decide +kernel) rfl, ini_11, by decide +kernel, by decide +kernel, by decide, rfl⟩
theorem i_X11_hurt : iOK Y_X11_hurt := ⟨mem_at 1422 (by decide +kernel) rfl, mem_at 1423 (by decide +kernel) rfl⟩
theorem m_X11_blame : mOK Y_X11_blame 1 := ⟨k_X11_blame, mem_at 1428 (by decide +kernel) rfl, ini_11, by decide +kernel, by decide +kernel, by decide, rfl⟩
theorem i_X11_blame : iOK Y_X11_blame := ⟨mem_at 1426 (by decide +kernel) rfl, mem_at 1427 (by decide +kernel) rfl⟩
theorem m_X11_mastOf : mOK Y_X11_mastOf 2 := ⟨k_X11_mastOf, mem_at 1432 (by decide +kernel) rfl, ini_11, by decide +kernel, by decide +kernel, by decide, rfl⟩
theorem i_X11_mastOf : iOK Y_X11_mastOf := ⟨mem_at 1430 (by decide +kernel) rfl, mem_at 1431 (by decide +kernel) rfl⟩
theorem m_X11_areaOf : mOK Y_X11_areaOf 2 := ⟨k_X11_areaOf, mem_at 1436 (by decide +kernel) rfl, ini_11, by decide +kernel, by decide +kernel, by decide, rfl⟩
theorem i_X11_areaOf : iOK Y_X11_areaOf := ⟨mem_at 1434 (by decide +kernel) rfl, mem_at 1435 (by decide +kernel) rfl⟩
theorem m_X11_count : mOK Y_X11_count 1 := ⟨k_X11_count, mem_at 1440 (by decide +kernel) rfl, ini_11, by decide +kernel, by decide +kernel, by decide, rfl⟩
theorem i_X11_count : iOK Y_X11_count := ⟨mem_at 1438 (by decide +kernel) rfl, mem_at 1439 (by decide +kernel) rfl⟩
theorem m_J6_bitCount_0f7a4 : mOK Y_J6_bitCount_0f7a4 1 := ⟨k_J6_bitCount_0f7a4, mem_at 570 (by decide +kernel) rfl, ini_13, by decide +kernel, by decide +kernel, by decide, rfl⟩
theorem s_J6_bitCount_0f7a4 : sOK Y_J6_bitCount_0f7a4 := mem_at 569 (by decide +kernel) rfl
theorem m_J0_length_8abf5 : mOK Y_J0_length_8abf5 0 := ⟨k_J0_length_8abf5, mem_at 684 (by decide +kernel) rfl, ini_15, by decide +kernel, by decide +kernel, by decide, rfl⟩
theorem i_J0_length_8abf5 : iOK Y_J0_length_8abf5 := ⟨mem_at 682 (by decide +kernel) rfl, mem_at 683 (by decide +kernel) rfl⟩
theorem m_J0_charAt_5068e : mOK Y_J0_charAt_5068e 1 := ⟨k_J0_charAt_5068e, mem_at 695 (by decide +kernel) rfl, ini_15, by decide +kernel, by decide +kernel, by decide, rfl⟩
theorem i_J0_charAt_5068e : iOK Y_J0_charAt_5068e := ⟨mem_at 693 (by decide +kernel) rfl, mem_at 694 (by decide +kernel) rfl⟩
theorem m_J0_coder_7d493 : mOK Y_J0_coder_7d493 0 := ⟨k_J0_coder_7d493, mem_at 688 (by decide +kernel) rfl, ini_15, by decide +kernel, by decide +kernel, by decide, rfl⟩
theorem i_J0_coder_7d493 : iOK Y_J0_coder_7d493 := ⟨mem_at 686 (by decide +kernel) rfl, mem_at 687 (by decide +kernel) rfl⟩
theorem m_J0_isLatin1_aae02 : mOK Y_J0_isLatin1_aae02 0 := ⟨k_J0_isLatin1_aae02, mem_at 699 (by decide +kernel) rfl, ini_15, by decide +kernel, by decide +kernel, by decide, rfl⟩
theorem i_J0_isLatin1_aae02 : iOK Y_J0_isLatin1_aae02 := ⟨mem_at 697 (by decide +kernel) rfl, mem_at 698 (by decide +kernel) rfl⟩
theorem m_J1_charAt_3b067 : mOK Y_J1_charAt_3b067 2 := ⟨k_J1_charAt_3b067, mem_at 702 (by decide +kernel) rfl, ini_16, by decide +kernel, by decide +kernel, by decide, rfl⟩
theorem s_J1_charAt_3b067 : sOK Y_J1_charAt_3b067 := mem_at 701 (by decide +kernel) rfl
theorem m_J7_fill_d0a16 : mOK Y_J7_fill_d0a16 2 := ⟨k_J7_fill_d0a16, mem_at 960 (by decide +kernel) rfl, ini_17, by decide +kernel, by decide +kernel, by decide, rfl⟩
theorem s_J7_fill_d0a16 : sOK Y_J7_fill_d0a16 := mem_at 959 (by decide +kernel) rfl
theorem m_J7_fill_53178 : mOK Y_J7_fill_53178 2 := ⟨k_J7_fill_53178, mem_at 535 (by decide +kernel) rfl, ini_17, by decide +kernel, by decide +kernel, by decide, rfl⟩
theorem s_J7_fill_53178 : sOK Y_J7_fill_53178 := mem_at 534 (by decide +kernel) rfl
theorem l_12_9 : Cond.methodLink (RN 12) 9 Y_X10_init.2.1 ∈ goodL := mem_at 76 (by decide +kernel) rfl
theorem l_10_11 : Cond.methodLink (RN 10) 11 Y_X1_init.2.1 ∈ goodL := mem_at 84 (by decide +kernel) rfl
theorem l_12_13 : Cond.methodLink (RN 12) 13 Y_X10_terms.2.1 ∈ goodL := mem_at 427 (by decide +kernel) rfl
theorem l_10_77 : Cond.methodLink (RN 10) 77 Y_X10_isWithin.2.1 ∈ goodL := mem_at 432 (by decide +kernel) rfl
theorem l_12_18 : Cond.methodLink (RN 12) 18 Y_X10_mast.2.1 ∈ goodL := mem_at 435 (by decide +kernel) rfl
theorem l_10_87 : Cond.methodLink (RN 10) 87 Y_X10_isFitSender.2.1 ∈ goodL := mem_at 439 (by decide +kernel) rfl
theorem l_10_120 : Cond.methodLink (RN 10) 120 Y_X10_isPlace.2.1 ∈ goodL := mem_at 442 (by decide +kernel) rfl
theorem l_10_91 : Cond.methodLink (RN 10) 91 Y_X1_isMast.2.1 ∈ goodL := mem_at 445 (by decide +kernel) rfl
theorem l_10_102 : Cond.methodLink (RN 10) 102 Y_X4_stand.2.1 ∈ goodL := mem_at 449 (by decide +kernel) rfl
theorem l_12_23 : Cond.methodLink (RN 12) 23 Y_X10_abroad.2.1 ∈ goodL := mem_at 453 (by decide +kernel) rfl
theorem l_12_28 : Cond.methodLink (RN 12) 28 Y_X10_area.2.1 ∈ goodL := mem_at 457 (by decide +kernel) rfl
theorem l_12_32 : Cond.methodLink (RN 12) 32 Y_X10_poor.2.1 ∈ goodL := mem_at 462 (by decide +kernel) rfl
theorem l_10_149 : Cond.methodLink (RN 10) 149 Y_X10_isSlot.2.1 ∈ goodL := mem_at 466 (by decide +kernel) rfl
theorem l_10_152 : Cond.methodLink (RN 10) 152 Y_X6_isEmpty.2.1 ∈ goodL := mem_at 469 (by decide +kernel) rfl
theorem l_12_37 : Cond.methodLink (RN 12) 37 Y_X10_aim.2.1 ∈ goodL := mem_at 473 (by decide +kernel) rfl
theorem l_10_163 : Cond.methodLink (RN 10) 163 Y_X1_isArea.2.1 ∈ goodL := mem_at 477 (by decide +kernel) rfl
theorem l_10_169 : Cond.methodLink (RN 10) 169 Y_X0_lookAt.2.1 ∈ goodL := mem_at 481 (by decide +kernel) rfl
theorem l_12_41 : Cond.methodLink (RN 12) 41 Y_X10_turn.2.1 ∈ goodL := mem_at 485 (by decide +kernel) rfl
theorem l_10_172 : Cond.methodLink (RN 10) 172 Y_X1_strongestAt.2.1 ∈ goodL := mem_at 489 (by decide +kernel) rfl
theorem l_1_61 : Cond.methodLink (RN 1) 61 Y_X4_strengthAt.2.1 ∈ goodL := mem_at 493 (by decide +kernel) rfl
theorem l_12_46 : Cond.methodLink (RN 12) 46 Y_X10_strength.2.1 ∈ goodL := mem_at 497 (by decide +kernel) rfl
theorem l_10_176 : Cond.methodLink (RN 10) 176 Y_X1_isSender.2.1 ∈ goodL := mem_at 501 (by decide +kernel) rfl
theorem l_1_35 : Cond.methodLink (RN 1) 35 Y_X1_isMast.2.1 ∈ goodL := mem_at 505 (by decide +kernel) rfl
theorem l_10_179 : Cond.methodLink (RN 10) 179 Y_X4_strengthAt.2.1 ∈ goodL := mem_at 506 (by decide +kernel) rfl
theorem l_12_52 : Cond.methodLink (RN 12) 52 Y_X10_plan.2.1 ∈ goodL := mem_at 507 (by decide +kernel) rfl
theorem l_10_185 : Cond.methodLink (RN 10) 185 Y_X10_dropChannels.2.1 ∈ goodL := mem_at 511 (by decide +kernel) rfl
theorem l_10_189 : Cond.methodLink (RN 10) 189 Y_X5_schedule.2.1 ∈ goodL := mem_at 515 (by decide +kernel) rfl
theorem l_5_33 : Cond.methodLink (RN 5) 33 Y_X5_findCalm.2.1 ∈ goodL := mem_at 519 (by decide +kernel) rfl
theorem l_5_53 : Cond.methodLink (RN 5) 53 Y_X5_isWindy.2.1 ∈ goodL := mem_at 523 (by decide +kernel) rfl
theorem l_5_37 : Cond.methodLink (RN 5) 37 Y_X5_findSoonest.2.1 ∈ goodL := mem_at 526 (by decide +kernel) rfl
theorem l_5_41 : Cond.methodLink (RN 5) 41 Y_X5_allOf.2.1 ∈ goodL := mem_at 530 (by decide +kernel) rfl
theorem l_5_66 : Cond.methodLink (RN 5) 66 Y_J7_fill_53178.2.1 ∈ goodL := mem_at 533 (by decide +kernel) rfl
theorem l_5_76 : Cond.methodLink (RN 5) 76 Y_X5_canFollow.2.1 ∈ goodL := mem_at 536 (by decide +kernel) rfl
theorem l_5_84 : Cond.methodLink (RN 5) 84 Y_X5_firstTurn.2.1 ∈ goodL := mem_at 542 (by decide +kernel) rfl
theorem l_5_88 : Cond.methodLink (RN 5) 88 Y_J9_min_7cf53.2.1 ∈ goodL := mem_at 546 (by decide +kernel) rfl
theorem l_5_45 : Cond.methodLink (RN 5) 45 Y_X5_findLatest.2.1 ∈ goodL := mem_at 549 (by decide +kernel) rfl
theorem l_5_94 : Cond.methodLink (RN 5) 94 Y_X5_lastTurn.2.1 ∈ goodL := mem_at 553 (by decide +kernel) rfl
theorem l_5_97 : Cond.methodLink (RN 5) 97 Y_J9_max_7cf53.2.1 ∈ goodL := mem_at 557 (by decide +kernel) rfl
theorem l_5_49 : Cond.methodLink (RN 5) 49 Y_X5_pickSets.2.1 ∈ goodL := mem_at 560 (by decide +kernel) rfl
theorem l_5_100 : Cond.methodLink (RN 5) 100 Y_X5_leastSet.2.1 ∈ goodL := mem_at 564 (by decide +kernel) rfl
theorem l_5_104 : Cond.methodLink (RN 5) 104 Y_J6_bitCount_0f7a4.2.1 ∈ goodL := mem_at 568 (by decide +kernel) rfl
theorem l_5_110 : Cond.methodLink (RN 5) 110 Y_X5_isAllowed.2.1 ∈ goodL := mem_at 574 (by decide +kernel) rfl
theorem l_12_57 : Cond.methodLink (RN 12) 57 Y_X10_weekOf.2.1 ∈ goodL := mem_at 577 (by decide +kernel) rfl
theorem l_12_61 : Cond.methodLink (RN 12) 61 Y_X10_channels.2.1 ∈ goodL := mem_at 581 (by decide +kernel) rfl
theorem l_10_193 : Cond.methodLink (RN 10) 193 Y_X9_search.2.1 ∈ goodL := mem_at 585 (by decide +kernel) rfl
theorem l_9_24 : Cond.methodLink (RN 9) 24 Y_X9_findNear.2.1 ∈ goodL := mem_at 589 (by decide +kernel) rfl
theorem l_9_56 : Cond.methodLink (RN 9) 56 Y_J7_fill_53178.2.1 ∈ goodL := mem_at 593 (by decide +kernel) rfl
theorem l_9_74 : Cond.methodLink (RN 9) 74 Y_X1_isMast.2.1 ∈ goodL := mem_at 594 (by decide +kernel) rfl
theorem l_9_78 : Cond.methodLink (RN 9) 78 Y_X1_couldHurt.2.1 ∈ goodL := mem_at 595 (by decide +kernel) rfl
theorem l_1_65 : Cond.methodLink (RN 1) 65 Y_X1_isSender.2.1 ∈ goodL := mem_at 599 (by decide +kernel) rfl
theorem l_9_34 : Cond.methodLink (RN 9) 34 Y_X9_bannedFor.2.1 ∈ goodL := mem_at 600 (by decide +kernel) rfl
theorem l_9_38 : Cond.methodLink (RN 9) 38 Y_X9_tryChannels.2.1 ∈ goodL := mem_at 605 (by decide +kernel) rfl
theorem l_9_95 : Cond.methodLink (RN 9) 95 Y_X9_begin.2.1 ∈ goodL := mem_at 609 (by decide +kernel) rfl
theorem l_9_102 : Cond.methodLink (RN 9) 102 Y_X9_lastWithMore.2.1 ∈ goodL := mem_at 613 (by decide +kernel) rfl
theorem l_9_51 : Cond.methodLink (RN 9) 51 Y_J6_bitCount_0f7a4.2.1 ∈ goodL := mem_at 617 (by decide +kernel) rfl
theorem l_12_65 : Cond.methodLink (RN 12) 65 Y_X10_channelOf.2.1 ∈ goodL := mem_at 618 (by decide +kernel) rfl
theorem l_12_69 : Cond.methodLink (RN 12) 69 Y_X10_feed.2.1 ∈ goodL := mem_at 622 (by decide +kernel) rfl
theorem l_10_200 : Cond.methodLink (RN 10) 200 Y_X7_hasRoomFor.2.1 ∈ goodL := mem_at 626 (by decide +kernel) rfl
theorem l_10_203 : Cond.methodLink (RN 10) 203 Y_X7_append.2.1 ∈ goodL := mem_at 630 (by decide +kernel) rfl
theorem l_7_19 : Cond.methodLink (RN 7) 19 Y_X7_hasRoomFor.2.1 ∈ goodL := mem_at 634 (by decide +kernel) rfl
theorem l_12_73 : Cond.methodLink (RN 12) 73 Y_X10_end.2.1 ∈ goodL := mem_at 635 (by decide +kernel) rfl
theorem l_12_77 : Cond.methodLink (RN 12) 77 Y_X10_law.2.1 ∈ goodL := mem_at 639 (by decide +kernel) rfl
theorem l_10_210 : Cond.methodLink (RN 10) 210 Y_X3_faultOf.2.1 ∈ goodL := mem_at 643 (by decide +kernel) rfl
theorem l_3_25 : Cond.methodLink (RN 3) 25 Y_X8_split.2.1 ∈ goodL := mem_at 647 (by decide +kernel) rfl
theorem l_8_33 : Cond.methodLink (RN 8) 33 Y_X7_at.2.1 ∈ goodL := mem_at 651 (by decide +kernel) rfl
theorem l_8_36 : Cond.methodLink (RN 8) 36 Y_X8_isBlank.2.1 ∈ goodL := mem_at 655 (by decide +kernel) rfl
theorem l_8_40 : Cond.methodLink (RN 8) 40 Y_X8_isLetter.2.1 ∈ goodL := mem_at 658 (by decide +kernel) rfl
theorem l_8_43 : Cond.methodLink (RN 8) 43 Y_X8_isDigit.2.1 ∈ goodL := mem_at 661 (by decide +kernel) rfl
theorem l_8_46 : Cond.methodLink (RN 8) 46 Y_X8_numberOf.2.1 ∈ goodL := mem_at 664 (by decide +kernel) rfl
theorem l_8_54 : Cond.methodLink (RN 8) 54 Y_J9_min_7cf53.2.1 ∈ goodL := mem_at 668 (by decide +kernel) rfl
theorem l_8_50 : Cond.methodLink (RN 8) 50 Y_X8_kindOfText.2.1 ∈ goodL := mem_at 670 (by decide +kernel) rfl
theorem l_8_61 : Cond.methodLink (RN 8) 61 Y_X8_kindOfFact.2.1 ∈ goodL := mem_at 673 (by decide +kernel) rfl
theorem l_8_72 : Cond.methodLink (RN 8) 72 Y_X7_has.2.1 ∈ goodL := mem_at 677 (by decide +kernel) rfl
theorem l_7_23 : Cond.methodLink (RN 7) 23 Y_J0_length_8abf5.2.1 ∈ goodL := mem_at 681 (by decide +kernel) rfl
theorem l_15_335 : Cond.methodLink (RN 15) 335 Y_J0_coder_7d493.2.1 ∈ goodL := mem_at 685 (by decide +kernel) rfl
theorem l_7_28 : Cond.methodLink (RN 7) 28 Y_X7_at.2.1 ∈ goodL := mem_at 691 (by decide +kernel) rfl
theorem l_7_32 : Cond.methodLink (RN 7) 32 Y_J0_charAt_5068e.2.1 ∈ goodL := mem_at 692 (by decide +kernel) rfl
theorem l_15_492 : Cond.methodLink (RN 15) 492 Y_J0_isLatin1_aae02.2.1 ∈ goodL := mem_at 696 (by decide +kernel) rfl
theorem l_15_495 : Cond.methodLink (RN 15) 495 Y_J1_charAt_3b067.2.1 ∈ goodL := mem_at 700 (by decide +kernel) rfl
theorem l_8_64 : Cond.methodLink (RN 8) 64 Y_X8_kindOfRuleWord.2.1 ∈ goodL := mem_at 735 (by decide +kernel) rfl
theorem l_8_67 : Cond.methodLink (RN 8) 67 Y_X8_isSign.2.1 ∈ goodL := mem_at 742 (by decide +kernel) rfl
theorem l_3_29 : Cond.methodLink (RN 3) 29 Y_X2_clear.2.1 ∈ goodL := mem_at 745 (by decide +kernel) rfl
theorem l_3_32 : Cond.methodLink (RN 3) 32 Y_X8_kind.2.1 ∈ goodL := mem_at 749 (by decide +kernel) rfl
theorem l_3_36 : Cond.methodLink (RN 3) 36 Y_X3_readGive.2.1 ∈ goodL := mem_at 753 (by decide +kernel) rfl
theorem l_3_47 : Cond.methodLink (RN 3) 47 Y_X8_next.2.1 ∈ goodL := mem_at 757 (by decide +kernel) rfl
theorem l_3_62 : Cond.methodLink (RN 3) 62 Y_X2_beginSum.2.1 ∈ goodL := mem_at 761 (by decide +kernel) rfl
theorem l_3_65 : Cond.methodLink (RN 3) 65 Y_X3_readSum.2.1 ∈ goodL := mem_at 765 (by decide +kernel) rfl
theorem l_3_85 : Cond.methodLink (RN 3) 85 Y_X3_readTerm.2.1 ∈ goodL := mem_at 769 (by decide +kernel) rfl
theorem l_3_88 : Cond.methodLink (RN 3) 88 Y_X3_readFactor.2.1 ∈ goodL := mem_at 773 (by decide +kernel) rfl
theorem l_3_81 : Cond.methodLink (RN 3) 81 Y_X2_add.2.1 ∈ goodL := mem_at 777 (by decide +kernel) rfl
theorem l_3_69 : Cond.methodLink (RN 3) 69 Y_X2_endSum.2.1 ∈ goodL := mem_at 781 (by decide +kernel) rfl
theorem l_3_72 : Cond.methodLink (RN 3) 72 Y_X3_readConds.2.1 ∈ goodL := mem_at 785 (by decide +kernel) rfl
theorem l_3_78 : Cond.methodLink (RN 3) 78 Y_X2_isComparison.2.1 ∈ goodL := mem_at 789 (by decide +kernel) rfl
theorem l_3_75 : Cond.methodLink (RN 3) 75 Y_X2_endGive.2.1 ∈ goodL := mem_at 792 (by decide +kernel) rfl
theorem l_3_40 : Cond.methodLink (RN 3) 40 Y_X3_readCap.2.1 ∈ goodL := mem_at 796 (by decide +kernel) rfl
theorem l_3_56 : Cond.methodLink (RN 3) 56 Y_J9_min_7cf53.2.1 ∈ goodL := mem_at 800 (by decide +kernel) rfl
theorem l_3_50 : Cond.methodLink (RN 3) 50 Y_X8_place.2.1 ∈ goodL := mem_at 801 (by decide +kernel) rfl
theorem l_10_214 : Cond.methodLink (RN 10) 214 Y_X3_exchange.2.1 ∈ goodL := mem_at 805 (by decide +kernel) rfl
theorem l_12_81 : Cond.methodLink (RN 12) 81 Y_X10_fault.2.1 ∈ goodL := mem_at 809 (by decide +kernel) rfl
theorem l_12_85 : Cond.methodLink (RN 12) 85 Y_X10_deliver.2.1 ∈ goodL := mem_at 813 (by decide +kernel) rfl
theorem l_12_89 : Cond.methodLink (RN 12) 89 Y_X10_go.2.1 ∈ goodL := mem_at 818 (by decide +kernel) rfl
theorem l_10_222 : Cond.methodLink (RN 10) 222 Y_X10_giveBoxes.2.1 ∈ goodL := mem_at 822 (by decide +kernel) rfl
theorem l_10_288 : Cond.methodLink (RN 10) 288 Y_X10_portionOf.2.1 ∈ goodL := mem_at 826 (by decide +kernel) rfl
theorem l_10_295 : Cond.methodLink (RN 10) 295 Y_X2_gift.2.1 ∈ goodL := mem_at 830 (by decide +kernel) rfl
theorem l_2_42 : Cond.methodLink (RN 2) 42 Y_X2_holds.2.1 ∈ goodL := mem_at 834 (by decide +kernel) rfl
theorem l_2_53 : Cond.methodLink (RN 2) 53 Y_X2_push.2.1 ∈ goodL := mem_at 838 (by decide +kernel) rfl
theorem l_2_46 : Cond.methodLink (RN 2) 46 Y_X2_pop.2.1 ∈ goodL := mem_at 842 (by decide +kernel) rfl
theorem l_2_57 : Cond.methodLink (RN 2) 57 Y_X2_isComparison.2.1 ∈ goodL := mem_at 846 (by decide +kernel) rfl
theorem l_2_61 : Cond.methodLink (RN 2) 61 Y_X2_combined.2.1 ∈ goodL := mem_at 847 (by decide +kernel) rfl
theorem l_2_69 : Cond.methodLink (RN 2) 69 Y_X2_quotient.2.1 ∈ goodL := mem_at 850 (by decide +kernel) rfl
theorem l_2_65 : Cond.methodLink (RN 2) 65 Y_X2_compares.2.1 ∈ goodL := mem_at 854 (by decide +kernel) rfl
theorem l_10_299 : Cond.methodLink (RN 10) 299 Y_J9_min_7cf53.2.1 ∈ goodL := mem_at 857 (by decide +kernel) rfl
theorem l_10_305 : Cond.methodLink (RN 10) 305 Y_J9_min_f86c9.2.1 ∈ goodL := mem_at 858 (by decide +kernel) rfl
theorem l_10_308 : Cond.methodLink (RN 10) 308 Y_J9_max_f86c9.2.1 ∈ goodL := mem_at 861 (by decide +kernel) rfl
theorem l_12_93 : Cond.methodLink (RN 12) 93 Y_X10_fail.2.1 ∈ goodL := mem_at 864 (by decide +kernel) rfl
theorem l_12_98 : Cond.methodLink (RN 12) 98 Y_X10_on.2.1 ∈ goodL := mem_at 868 (by decide +kernel) rfl
theorem l_10_231 : Cond.methodLink (RN 10) 231 Y_X1_isOn.2.1 ∈ goodL := mem_at 872 (by decide +kernel) rfl
theorem l_10_234 : Cond.methodLink (RN 10) 234 Y_X10_asNumber.2.1 ∈ goodL := mem_at 876 (by decide +kernel) rfl
theorem l_12_102 : Cond.methodLink (RN 12) 102 Y_X10_picture.2.1 ∈ goodL := mem_at 879 (by decide +kernel) rfl
theorem l_10_238 : Cond.methodLink (RN 10) 238 Y_X1_pictureOf.2.1 ∈ goodL := mem_at 883 (by decide +kernel) rfl
theorem l_1_52 : Cond.methodLink (RN 1) 52 Y_X1_isOn.2.1 ∈ goodL := mem_at 887 (by decide +kernel) rfl
theorem l_1_82 : Cond.methodLink (RN 1) 82 Y_X1_hurterOf.2.1 ∈ goodL := mem_at 888 (by decide +kernel) rfl
theorem l_1_71 : Cond.methodLink (RN 1) 71 Y_X4_channelNow.2.1 ∈ goodL := mem_at 892 (by decide +kernel) rfl
theorem l_1_75 : Cond.methodLink (RN 1) 75 Y_X1_couldHurt.2.1 ∈ goodL := mem_at 896 (by decide +kernel) rfl
theorem l_1_79 : Cond.methodLink (RN 1) 79 Y_X1_isSending.2.1 ∈ goodL := mem_at 897 (by decide +kernel) rfl
theorem l_12_106 : Cond.methodLink (RN 12) 106 Y_X10_snow.2.1 ∈ goodL := mem_at 901 (by decide +kernel) rfl
theorem l_10_241 : Cond.methodLink (RN 10) 241 Y_X1_snowOf.2.1 ∈ goodL := mem_at 905 (by decide +kernel) rfl
theorem l_1_94 : Cond.methodLink (RN 1) 94 Y_X1_pictureOf.2.1 ∈ goodL := mem_at 909 (by decide +kernel) rfl
theorem l_12_110 : Cond.methodLink (RN 12) 110 Y_X10_hurt.2.1 ∈ goodL := mem_at 910 (by decide +kernel) rfl
theorem l_10_244 : Cond.methodLink (RN 10) 244 Y_X1_hurterOf.2.1 ∈ goodL := mem_at 914 (by decide +kernel) rfl
theorem l_12_114 : Cond.methodLink (RN 12) 114 Y_X10_blame.2.1 ∈ goodL := mem_at 915 (by decide +kernel) rfl
theorem l_10_247 : Cond.methodLink (RN 10) 247 Y_X10_isIn.2.1 ∈ goodL := mem_at 919 (by decide +kernel) rfl
theorem l_12_118 : Cond.methodLink (RN 12) 118 Y_X10_mastOf.2.1 ∈ goodL := mem_at 920 (by decide +kernel) rfl
theorem l_10_250 : Cond.methodLink (RN 10) 250 Y_X4_fact.2.1 ∈ goodL := mem_at 924 (by decide +kernel) rfl
theorem l_12_122 : Cond.methodLink (RN 12) 122 Y_X10_areaOf.2.1 ∈ goodL := mem_at 929 (by decide +kernel) rfl
theorem l_10_254 : Cond.methodLink (RN 10) 254 Y_X0_fact.2.1 ∈ goodL := mem_at 933 (by decide +kernel) rfl
theorem l_12_126 : Cond.methodLink (RN 12) 126 Y_X10_count.2.1 ∈ goodL := mem_at 937 (by decide +kernel) rfl
theorem l_10_255 : Cond.methodLink (RN 10) 255 Y_X1_snowInAll.2.1 ∈ goodL := mem_at 941 (by decide +kernel) rfl
theorem l_1_97 : Cond.methodLink (RN 1) 97 Y_X1_snowOf.2.1 ∈ goodL := mem_at 945 (by decide +kernel) rfl
theorem l_10_259 : Cond.methodLink (RN 10) 259 Y_X10_rowsThere.2.1 ∈ goodL := mem_at 946 (by decide +kernel) rfl
theorem l_12_130 : Cond.methodLink (RN 12) 130 Y_X10_row.2.1 ∈ goodL := mem_at 950 (by decide +kernel) rfl
theorem l_10_265 : Cond.methodLink (RN 10) 265 Y_X6_begin.2.1 ∈ goodL := mem_at 954 (by decide +kernel) rfl
theorem l_6_22 : Cond.methodLink (RN 6) 22 Y_J7_fill_d0a16.2.1 ∈ goodL := mem_at 958 (by decide +kernel) rfl
theorem l_12_135 : Cond.methodLink (RN 12) 135 Y_X10_tear.2.1 ∈ goodL := mem_at 961 (by decide +kernel) rfl
theorem l_12_140 : Cond.methodLink (RN 12) 140 Y_X10_write.2.1 ∈ goodL := mem_at 965 (by decide +kernel) rfl
theorem l_10_269 : Cond.methodLink (RN 10) 269 Y_X6_cut.2.1 ∈ goodL := mem_at 969 (by decide +kernel) rfl
theorem l_12_145 : Cond.methodLink (RN 12) 145 Y_X10_paste.2.1 ∈ goodL := mem_at 973 (by decide +kernel) rfl
theorem l_10_276 : Cond.methodLink (RN 10) 276 Y_X6_reaches.2.1 ∈ goodL := mem_at 977 (by decide +kernel) rfl
theorem l_12_12 : Cond.methodLink (RN 12) 12 Y_X11_init.2.1 ∈ goodL := mem_at 986 (by decide +kernel) rfl
theorem l_12_134 : Cond.methodLink (RN 12) 134 Y_X11_row.2.1 ∈ goodL := mem_at 1158 (by decide +kernel) rfl
theorem l_11_123 : Cond.methodLink (RN 11) 123 Y_X11_isSlot.2.1 ∈ goodL := mem_at 1162 (by decide +kernel) rfl
theorem l_11_119 : Cond.methodLink (RN 11) 119 Y_X11_in.2.1 ∈ goodL := mem_at 1166 (by decide +kernel) rfl
theorem l_12_139 : Cond.methodLink (RN 12) 139 Y_X11_tear.2.1 ∈ goodL := mem_at 1169 (by decide +kernel) rfl
theorem l_12_144 : Cond.methodLink (RN 12) 144 Y_X11_write.2.1 ∈ goodL := mem_at 1173 (by decide +kernel) rfl
theorem l_11_127 : Cond.methodLink (RN 11) 127 Y_X11_cut.2.1 ∈ goodL := mem_at 1177 (by decide +kernel) rfl
theorem l_12_148 : Cond.methodLink (RN 12) 148 Y_X11_paste.2.1 ∈ goodL := mem_at 1180 (by decide +kernel) rfl
theorem l_12_17 : Cond.methodLink (RN 12) 17 Y_X11_terms.2.1 ∈ goodL := mem_at 1184 (by decide +kernel) rfl
theorem l_12_22 : Cond.methodLink (RN 12) 22 Y_X11_mast.2.1 ∈ goodL := mem_at 1190 (by decide +kernel) rfl
theorem l_11_139 : Cond.methodLink (RN 11) 139 Y_X11_isSender.2.1 ∈ goodL := mem_at 1194 (by decide +kernel) rfl
theorem l_11_148 : Cond.methodLink (RN 11) 148 Y_X11_sender.2.1 ∈ goodL := mem_at 1200 (by decide +kernel) rfl
theorem l_12_27 : Cond.methodLink (RN 12) 27 Y_X11_abroad.2.1 ∈ goodL := mem_at 1204 (by decide +kernel) rfl
theorem l_12_31 : Cond.methodLink (RN 12) 31 Y_X11_area.2.1 ∈ goodL := mem_at 1209 (by decide +kernel) rfl
theorem l_12_36 : Cond.methodLink (RN 12) 36 Y_X11_poor.2.1 ∈ goodL := mem_at 1214 (by decide +kernel) rfl
theorem l_12_40 : Cond.methodLink (RN 12) 40 Y_X11_aim.2.1 ∈ goodL := mem_at 1218 (by decide +kernel) rfl
theorem l_11_162 : Cond.methodLink (RN 11) 162 Y_X11_isArea.2.1 ∈ goodL := mem_at 1222 (by decide +kernel) rfl
theorem l_11_165 : Cond.methodLink (RN 11) 165 Y_X11_isMast.2.1 ∈ goodL := mem_at 1226 (by decide +kernel) rfl
theorem l_11_168 : Cond.methodLink (RN 11) 168 Y_X11_turned.2.1 ∈ goodL := mem_at 1230 (by decide +kernel) rfl
theorem l_12_45 : Cond.methodLink (RN 12) 45 Y_X11_turn.2.1 ∈ goodL := mem_at 1234 (by decide +kernel) rfl
theorem l_11_172 : Cond.methodLink (RN 11) 172 Y_X11_at.2.1 ∈ goodL := mem_at 1238 (by decide +kernel) rfl
theorem l_12_49 : Cond.methodLink (RN 12) 49 Y_X11_strength.2.1 ∈ goodL := mem_at 1242 (by decide +kernel) rfl
theorem l_12_56 : Cond.methodLink (RN 12) 56 Y_X11_plan.2.1 ∈ goodL := mem_at 1247 (by decide +kernel) rfl
theorem l_11_196 : Cond.methodLink (RN 11) 196 Y_X11_fewest.2.1 ∈ goodL := mem_at 1251 (by decide +kernel) rfl
theorem l_11_185 : Cond.methodLink (RN 11) 185 Y_X11_may.2.1 ∈ goodL := mem_at 1255 (by decide +kernel) rfl
theorem l_11_181 : Cond.methodLink (RN 11) 181 Y_X11_sizeOf.2.1 ∈ goodL := mem_at 1259 (by decide +kernel) rfl
theorem l_12_60 : Cond.methodLink (RN 12) 60 Y_X11_weekOf.2.1 ∈ goodL := mem_at 1262 (by decide +kernel) rfl
theorem l_12_64 : Cond.methodLink (RN 12) 64 Y_X11_channels.2.1 ∈ goodL := mem_at 1266 (by decide +kernel) rfl
theorem l_11_203 : Cond.methodLink (RN 11) 203 Y_X11_hurtsOne.2.1 ∈ goodL := mem_at 1270 (by decide +kernel) rfl
theorem l_11_178 : Cond.methodLink (RN 11) 178 Y_X11_hurts.2.1 ∈ goodL := mem_at 1274 (by decide +kernel) rfl
theorem l_11_206 : Cond.methodLink (RN 11) 206 Y_X11_goes.2.1 ∈ goodL := mem_at 1278 (by decide +kernel) rfl
theorem l_11_209 : Cond.methodLink (RN 11) 209 Y_X11_unlike.2.1 ∈ goodL := mem_at 1282 (by decide +kernel) rfl
theorem l_12_68 : Cond.methodLink (RN 12) 68 Y_X11_channelOf.2.1 ∈ goodL := mem_at 1286 (by decide +kernel) rfl
theorem l_12_72 : Cond.methodLink (RN 12) 72 Y_X11_feed.2.1 ∈ goodL := mem_at 1290 (by decide +kernel) rfl
theorem l_12_76 : Cond.methodLink (RN 12) 76 Y_X11_end.2.1 ∈ goodL := mem_at 1294 (by decide +kernel) rfl
theorem l_12_80 : Cond.methodLink (RN 12) 80 Y_X11_law.2.1 ∈ goodL := mem_at 1298 (by decide +kernel) rfl
theorem l_11_325 : Cond.methodLink (RN 11) 325 Y_X11_reads.2.1 ∈ goodL := mem_at 1302 (by decide +kernel) rfl
theorem l_11_261 : Cond.methodLink (RN 11) 261 Y_X11_next.2.1 ∈ goodL := mem_at 1306 (by decide +kernel) rfl
theorem l_11_225 : Cond.methodLink (RN 11) 225 Y_X11_see.2.1 ∈ goodL := mem_at 1310 (by decide +kernel) rfl
theorem l_11_234 : Cond.methodLink (RN 11) 234 Y_X11_isLetter.2.1 ∈ goodL := mem_at 1314 (by decide +kernel) rfl
theorem l_11_237 : Cond.methodLink (RN 11) 237 Y_X11_isDigit.2.1 ∈ goodL := mem_at 1317 (by decide +kernel) rfl
theorem l_11_322 : Cond.methodLink (RN 11) 322 Y_X11_rule.2.1 ∈ goodL := mem_at 1321 (by decide +kernel) rfl
theorem l_11_268 : Cond.methodLink (RN 11) 268 Y_X11_is.2.1 ∈ goodL := mem_at 1326 (by decide +kernel) rfl
theorem l_11_249 : Cond.methodLink (RN 11) 249 Y_J0_length_8abf5.2.1 ∈ goodL := mem_at 1330 (by decide +kernel) rfl
theorem l_11_254 : Cond.methodLink (RN 11) 254 Y_J0_charAt_5068e.2.1 ∈ goodL := mem_at 1331 (by decide +kernel) rfl
theorem l_11_258 : Cond.methodLink (RN 11) 258 Y_X11_bad.2.1 ∈ goodL := mem_at 1333 (by decide +kernel) rfl
theorem l_11_264 : Cond.methodLink (RN 11) 264 Y_X11_whole.2.1 ∈ goodL := mem_at 1337 (by decide +kernel) rfl
theorem l_11_305 : Cond.methodLink (RN 11) 305 Y_J9_min_7cf53.2.1 ∈ goodL := mem_at 1341 (by decide +kernel) rfl
theorem l_11_284 : Cond.methodLink (RN 11) 284 Y_X11_sum.2.1 ∈ goodL := mem_at 1342 (by decide +kernel) rfl
theorem l_11_291 : Cond.methodLink (RN 11) 291 Y_X11_term.2.1 ∈ goodL := mem_at 1346 (by decide +kernel) rfl
theorem l_11_288 : Cond.methodLink (RN 11) 288 Y_X11_factor.2.1 ∈ goodL := mem_at 1350 (by decide +kernel) rfl
theorem l_11_278 : Cond.methodLink (RN 11) 278 Y_X11_isSign.2.1 ∈ goodL := mem_at 1360 (by decide +kernel) rfl
theorem l_11_312 : Cond.methodLink (RN 11) 312 Y_X11_conds.2.1 ∈ goodL := mem_at 1365 (by decide +kernel) rfl
theorem l_12_84 : Cond.methodLink (RN 12) 84 Y_X11_fault.2.1 ∈ goodL := mem_at 1370 (by decide +kernel) rfl
theorem l_12_88 : Cond.methodLink (RN 12) 88 Y_X11_deliver.2.1 ∈ goodL := mem_at 1374 (by decide +kernel) rfl
theorem l_12_92 : Cond.methodLink (RN 12) 92 Y_X11_go.2.1 ∈ goodL := mem_at 1379 (by decide +kernel) rfl
theorem l_11_335 : Cond.methodLink (RN 11) 335 Y_J9_max_f86c9.2.1 ∈ goodL := mem_at 1383 (by decide +kernel) rfl
theorem l_11_339 : Cond.methodLink (RN 11) 339 Y_J9_min_f86c9.2.1 ∈ goodL := mem_at 1384 (by decide +kernel) rfl
theorem l_12_97 : Cond.methodLink (RN 12) 97 Y_X11_fail.2.1 ∈ goodL := mem_at 1385 (by decide +kernel) rfl
theorem l_12_101 : Cond.methodLink (RN 12) 101 Y_X11_on.2.1 ∈ goodL := mem_at 1389 (by decide +kernel) rfl
theorem l_11_341 : Cond.methodLink (RN 11) 341 Y_X11_isOn.2.1 ∈ goodL := mem_at 1393 (by decide +kernel) rfl
theorem l_12_105 : Cond.methodLink (RN 12) 105 Y_X11_picture.2.1 ∈ goodL := mem_at 1397 (by decide +kernel) rfl
theorem l_11_350 : Cond.methodLink (RN 11) 350 Y_X11_pictureOf.2.1 ∈ goodL := mem_at 1401 (by decide +kernel) rfl
theorem l_11_347 : Cond.methodLink (RN 11) 347 Y_X11_hurtBy.2.1 ∈ goodL := mem_at 1405 (by decide +kernel) rfl
theorem l_11_344 : Cond.methodLink (RN 11) 344 Y_X11_now.2.1 ∈ goodL := mem_at 1409 (by decide +kernel) rfl
theorem l_12_109 : Cond.methodLink (RN 12) 109 Y_X11_snow.2.1 ∈ goodL := mem_at 1413 (by decide +kernel) rfl
theorem l_11_353 : Cond.methodLink (RN 11) 353 Y_X11_snowOf.2.1 ∈ goodL := mem_at 1417 (by decide +kernel) rfl
theorem l_12_113 : Cond.methodLink (RN 12) 113 Y_X11_hurt.2.1 ∈ goodL := mem_at 1421 (by decide +kernel) rfl
theorem l_12_117 : Cond.methodLink (RN 12) 117 Y_X11_blame.2.1 ∈ goodL := mem_at 1425 (by decide +kernel) rfl
theorem l_12_121 : Cond.methodLink (RN 12) 121 Y_X11_mastOf.2.1 ∈ goodL := mem_at 1429 (by decide +kernel) rfl
theorem l_12_125 : Cond.methodLink (RN 12) 125 Y_X11_areaOf.2.1 ∈ goodL := mem_at 1433 (by decide +kernel) rfl
theorem l_12_129 : Cond.methodLink (RN 12) 129 Y_X11_count.2.1 ∈ goodL := mem_at 1437 (by decide +kernel) rfl
def nestT : List (String × Nat × MethodName) := [(RN 1, 30, Y_X4_init.2.1), (RN 1, 31, Y_X0_init.2.1), (RN 10, 18, Y_X5_init.2.1), (RN 10, 25, Y_X9_init.2.1), (RN 10, 32, Y_X7_init.2.1), (RN 10, 39, Y_X3_init.2.1), (RN 3, 11, Y_X8_init.2.1), (RN 3, 20, Y_X2_init.2.1), (RN 10, 50, Y_X6_init.2.1), (RN 10, 57, Y_X2_init.2.1), (RN 5, 57, Y_X10_isIn.2.1), (RN 9, 88, Y_X10_isIn.2.1), (RN 4, 44, Y_X10_asNumber.2.1)]
theorem ln_1_30 : (RN 1, 30, Y_X4_init.2.1) ∈ nestT := List.mem_of_getElem? (i := 0) rfl
theorem ln_1_31 : (RN 1, 31, Y_X0_init.2.1) ∈ nestT := List.mem_of_getElem? (i := 1) rfl
theorem ln_10_18 : (RN 10, 18, Y_X5_init.2.1) ∈ nestT := List.mem_of_getElem? (i := 2) rfl
theorem ln_10_25 : (RN 10, 25, Y_X9_init.2.1) ∈ nestT := List.mem_of_getElem? (i := 3) rfl
theorem ln_10_32 : (RN 10, 32, Y_X7_init.2.1) ∈ nestT := List.mem_of_getElem? (i := 4) rfl
theorem ln_10_39 : (RN 10, 39, Y_X3_init.2.1) ∈ nestT := List.mem_of_getElem? (i := 5) rfl
theorem ln_3_11 : (RN 3, 11, Y_X8_init.2.1) ∈ nestT := List.mem_of_getElem? (i := 6) rfl
theorem ln_3_20 : (RN 3, 20, Y_X2_init.2.1) ∈ nestT := List.mem_of_getElem? (i := 7) rfl
theorem ln_10_50 : (RN 10, 50, Y_X6_init.2.1) ∈ nestT := List.mem_of_getElem? (i := 8) rfl
theorem ln_10_57 : (RN 10, 57, Y_X2_init.2.1) ∈ nestT := List.mem_of_getElem? (i := 9) rfl
theorem ln_5_57 : (RN 5, 57, Y_X10_isIn.2.1) ∈ nestT := List.mem_of_getElem? (i := 10) rfl
theorem ln_9_88 : (RN 9, 88, Y_X10_isIn.2.1) ∈ nestT := List.mem_of_getElem? (i := 11) rfl
theorem ln_4_44 : (RN 4, 44, Y_X10_asNumber.2.1) ∈ nestT := List.mem_of_getElem? (i := 12) rfl
theorem nest_ok : ∀ q ∈ nestT, Cond.methodLinkNest q.1 q.2.1 q.2.2 "MastMove" ∈ lw_tbl := by
  have h : nestT.map (fun q => Cond.methodLinkNest q.1 q.2.1 q.2.2 "MastMove") = ([93, 149, 230, 253, 276, 292, 298, 320, 371, 389, 539, 604, 928] : List Nat).filterMap (fun i => lw_tbl[i]?) := by decide +kernel
  exact fun q hq => mem_pos _ _ h _ (List.mem_map_of_mem hq)
end
section
/-! the mini world: cells by numbers, contents by three functions; the judgement WP over it -/
def shL : List ((Nat × Nat) ⊕ Nat) := [.inr 10, .inr 1, .inl (4, 14), .inl (5, 16), .inr 4, .inr 4, .inr 4, .inr 4, .inr 4, .inr 4, .inr 4, .inr 4, .inr 4, .inr 4, .inr 4, .inr 4, .inr 4, .inr 4, .inr 0, .inr 0, .inr 0, .inr 0, .inr 0, .inr 0, .inr 0, .inr 0, .inr 0, .inr 0, .inr 0, .inr 0, .inr 0, .inr 0, .inr 0, .inr 0, .inr 5, .inl (0, 1024), .inl (0, 1024), .inl (0, 53), .inl (0, 52), .inr 9, .inl (0, 10), .inl (0, 10), .inl (0, 10), .inl (0, 10), .inr 7, .inl (1, 300), .inr 3, .inr 8, .inl (0, 300), .inl (0, 300), .inr 2, .inl (0, 300), .inl (0, 10), .inl (0, 10), .inl (0, 10), .inl (3, 20), .inl (6, 4), .inr 6, .inl (3, 60), .inr 6, .inl (3, 60), .inr 6, .inl (3, 60), .inr 6, .inl (3, 60), .inl (0, 6), .inr 2, .inl (0, 300), .inl (0, 10), .inl (0, 10), .inl (0, 10), .inl (3, 20), .inr 11, .inl (0, 4), .inl (0, 4), .inl (3, 240), .inl (3, 60), .inl (0, 14), .inl (0, 14), .inl (0, 14), .inl (0, 14), .inl (0, 10), .inl (0, 4), .inl (2, 10), .inl (2, 10), .inl (2, 10), .inl (0, 16), .inl (0, 16), .inl (0, 16), .inl (0, 16), .inl (0, 16), .inl (0, 16), .inl (0, 16), .inl (0, 16), .inl (0, 10), .inl (0, 10), .inl (1, 300), .inl (1, 600), .inl (0, 2), .inl (2, 54272), .inl (2, 196), .inl (3, 6)]
abbrev NN : Nat := 102
abbrev NC : Nat := 72
def shp (n a : Nat) : Option ((Nat × Nat) ⊕ Nat) := match Nat.blt a n with
  | true => lAt shL a
  | false => none
def STL : List Nat := [5, 4, 4, 5, 4, 5, 4, 3, 2, 3]
def STB : List (List Int32) := [[104, 111, 109, 101, 115], [112, 111, 111, 114], [97, 103, 101, 100], [98, 111, 120, 101, 115], [119, 101, 101, 107], [115, 116, 111, 99, 107], [103, 105, 118, 101], [99, 97, 112], [105, 102], [97, 110, 100]]
def STR : List (Nat × Nat × String × Nat) := [(8, 70, "homes", 0), (8, 78, "poor", 1), (8, 80, "aged", 2), (8, 82, "boxes", 3), (8, 84, "week", 4), (8, 86, "stock", 5), (8, 88, "give", 6), (8, 90, "cap", 7), (8, 92, "if", 8), (8, 94, "and", 9), (11, 296, "give", 6), (11, 301, "cap", 7), (11, 267, "homes", 0), (11, 272, "poor", 1), (11, 273, "aged", 2), (11, 274, "boxes", 3), (11, 275, "week", 4), (11, 276, "stock", 5), (11, 310, "if", 8), (11, 294, "and", 9)]
abbrev Gl : Type := Launch × va_G × (Nat → ClassId) × Nat × (Nat × Nat × (Nat → Int32)) × (Nat → Nat) × (Nat → Nat)
abbrev gD (G : Gl) : va_G := G.2.1
abbrev gA (G : Gl) : Nat → ClassId := G.2.2.1
abbrev gb (G : Gl) : Nat := G.2.2.2.1
abbrev gS (G : Gl) : Nat × Nat × (Nat → Int32) := G.2.2.2.2.1
abbrev gK (G : Gl) : Nat → Nat := G.2.2.2.2.2.1
abbrev gV (G : Gl) : Nat → Nat := G.2.2.2.2.2.2
abbrev gX (G : Gl) : Nat → Prop := fun q => gb G ≤ q
def ra (G : Gl) (a : Nat) : Nat := if a < 1000000 then gb G + a else if a = 1000000 then (gS G).1 else gK G (a - 1000001)
def rv (G : Gl) (v : Value) : Value := match v with
  | .ref a => .ref (ra G a)
  | .int x => .int x
  | .long x => .long x
  | .null => .null
  | v => v
theorem ra_w {G : Gl} {a : Nat} (h : a < 1000000) : ra G a = gb G + a := by unfold ra; rw [if_pos h]
theorem rv_cat (G : Gl) (v : Value) : (rv G v).category = v.category := by cases v <;> rfl
abbrev mW : Type := (Nat → Nat → Int32) × (Nat → Nat → Int64) × (Nat → Nat → Option Nat)
/-- the kind of a field: 0 whole numbers of an int, 1 long, 2 a reference -/
def kd (t : FieldType) : Nat := match t with
  | .long => 1
  | .object _ => 2
  | .array _ => 2
  | _ => 0
def arrC (G : Gl) (w : mW) (i t : Nat) : (Nat → Int32) ⊕ (Nat → Int64) ⊕ (Nat → UInt32) ⊕ (Nat → UInt64) ⊕ (Nat → Option Nat) := match t with
  | 0 => .inl (w.1 i)
  | 1 => .inl (w.1 i)
  | 2 => .inl (w.1 i)
  | 3 => .inr (.inl (w.2.1 i))
  | _ => .inr (.inr (.inr (.inr (fun k => (w.2.2 i k).map (ra G)))))
def fldV (G : Gl) (w : mW) (i k t : Nat) : Value := match t with
  | 0 => .int (w.1 i k)
  | 1 => .long (w.2.1 i k)
  | _ => va_rf ((w.2.2 i k).map (ra G))
def cellE (G : Gl) (w : mW) (i : Nat) : va_E := match lAt shL i with
  | none => .inr (0, [])
  | some (.inl q) => .inl (gA G q.1, q.2, arrC G w i q.1)
  | some (.inr ci) => .inr (ci, (List.range (NF ci)).map (fun k => fldV G w i k (kd (tyT ci k))))
def cellsE (G : Gl) (n : Nat) (w : mW) : va_W := (List.range n).map (fun i => (gb G + i, cellE G w i))
def rep (G : Gl) (n : Nat) (w : mW) (H : Heap) : Prop := H.size = gb G + n ∧ va_P (gD G) vwCl (cellsE G n w) H
theorem cells_at {G : Gl} {n : Nat} {w : mW} {i : Nat} (h : i < n) : (cellsE G n w)[i]? = some (gb G + i, cellE G w i) := by
  unfold cellsE
  rw [List.getElem?_map, List.getElem?_range h]
  rfl
theorem cells_in {G : Gl} {n : Nat} {w : mW} {i : Nat} {q : Nat × va_E} (h : (cellsE G n w)[i]? = some q) : i < n ∧ q = (gb G + i, cellE G w i) := by
  have hl : i < n := by
    have := (List.getElem?_eq_some_iff.mp h).1
    simpa [cellsE] using this
  rw [cells_at hl] at h
  exact ⟨hl, (Option.some.inj h).symm⟩
theorem cells_D {G : Gl} {n : Nat} {w : mW} : va_D (gX G) (cellsE G n w) := by
  refine ⟨fun i j p q hp hq e => ?_, fun k q hq => ?_⟩
  · obtain ⟨-, rfl⟩ := cells_in hp
    obtain ⟨-, rfl⟩ := cells_in hq
    exact Nat.add_left_cancel e
  · obtain ⟨-, rfl⟩ := cells_in hq
    exact Nat.le_add_right _ _
theorem cells_set {G : Gl} {n : Nat} {w w' : mW} {i : Nat} {e : va_E} (he : cellE G w' i = e) (ho : ∀ j, j ≠ i → cellE G w' j = cellE G w j) : (cellsE G n w).set i (gb G + i, e) = cellsE G n w' := by
  apply List.ext_getElem?
  intro j
  by_cases hj : j < n
  · rw [cells_at hj]
    by_cases hi : j = i
    · subst hi
      rw [List.getElem?_set_self (by simpa [cellsE] using hj), he]
    · rw [List.getElem?_set_ne (Ne.symm hi), cells_at hj, ho j hi]
  · rw [List.getElem?_eq_none (by simpa [cellsE] using Nat.le_of_not_lt hj), List.getElem?_eq_none (by simpa [cellsE] using Nat.le_of_not_lt hj)]
theorem cells_push {G : Gl} {n : Nat} {w w' : mW} {e : va_E} (he : cellE G w' n = e) (ho : ∀ j, j < n → cellE G w' j = cellE G w j) : cellsE G n w ++ [(gb G + n, e)] = cellsE G (n + 1) w' := by
  unfold cellsE
  rw [List.range_succ, List.map_append]
  congr 1
  · exact List.map_congr_left (fun j hj => by rw [ho j (List.mem_range.mp hj)])
  · simp [he]
/-- storing -/
def sI (w : mW) (a k : Nat) (v : Int32) : mW := (fun a' k' => if a' = a then (if k' = k then v else w.1 a' k') else w.1 a' k', w.2)
def sL (w : mW) (a k : Nat) (v : Int64) : mW := (w.1, fun a' k' => if a' = a then (if k' = k then v else w.2.1 a' k') else w.2.1 a' k', w.2.2)
def sR (w : mW) (a k : Nat) (v : Option Nat) : mW := (w.1, w.2.1, fun a' k' => if a' = a then (if k' = k then v else w.2.2 a' k') else w.2.2 a' k')
theorem cell_other {G : Gl} {w w' : mW} {j : Nat} (h1 : w'.1 j = w.1 j) (h2 : w'.2.1 j = w.2.1 j) (h3 : w'.2.2 j = w.2.2 j) : cellE G w' j = cellE G w j := by
  unfold cellE arrC fldV
  rw [h1, h2, h3]
theorem sI_o {w : mW} {a k j : Nat} {v : Int32} (h : j ≠ a) : (sI w a k v).1 j = w.1 j := by funext q; simp [sI, h]
theorem sL_o {w : mW} {a k j : Nat} {v : Int64} (h : j ≠ a) : (sL w a k v).2.1 j = w.2.1 j := by funext q; simp [sL, h]
theorem sR_o {w : mW} {a k j : Nat} {v : Option Nat} (h : j ≠ a) : (sR w a k v).2.2 j = w.2.2 j := by funext q; simp [sR, h]
theorem shp_spec {n a : Nat} {x : (Nat × Nat) ⊕ Nat} (h : shp n a = some x) : a < n ∧ lAt shL a = some x ∧ a < 1000000 := by
  unfold shp at h
  split at h
  · next hb =>
    have h1 : a < n := Nat.lt_of_lt_of_le (Nat.lt_of_lt_of_le (Nat.lt_succ_self a) (Nat.le_of_ble_eq_true hb)) (Nat.le_refl _)
    refine ⟨h1, h, ?_⟩
    have key : ∀ (l : List ((Nat × Nat) ⊕ Nat)) (i : Nat) (y : (Nat × Nat) ⊕ Nat), lAt l i = some y → i < l.length := by
      intro l
      induction l with
      | nil => intro i y hy; cases i <;> cases hy
      | cons q l ih =>
        intro i y hy
        cases i with
        | zero => exact Nat.succ_pos _
        | succ i => exact Nat.succ_lt_succ (ih i y hy)
    exact Nat.lt_trans (key _ _ _ h) (by decide)
  · cases h
def gT (G : Gl) : List (ClassId × FieldType) := [(gA G 0, .int), (gA G 1, .byte), (gA G 2, .boolean), (gA G 3, .long), (gA G 4, .object "MastMove$Mast"), (gA G 5, .object "MastMove$Area"), (gA G 6, .object "MastMove$Row")]
/-- what stands outside the world: the script, the texts, one static, links -/
def out (G : Gl) (U : State) : Prop :=
  (va_X (gS G).1 (gS G).2.1 (gS G).2.2 U U.heap ∧ (gS G).1 < gb G) ∧ gb G ≤ U.heap.size ∧ vk_S 10 STL STB (gK G) (gV G) (gX G) U U.heap ∧ (∀ q ∈ STR, vk_R (RN q.1) q.2.1 q.2.2.1 (gK G q.2.2.2) U) ∧ va_Z "java/lang/String" "COMPACT_STRINGS" "Z" (.int 1) (gX G) U U.heap ∧ (∀ q ∈ nestT, va_Nw (.methodLinkNest q.1 q.2.1 q.2.2 "MastMove") U) ∧ va_AO "MastMove$Mast" U ∧ va_AO "MastMove$Area" U ∧ va_AO "MastMove$Row" U
theorem out_moved {G : Gl} {s U : State} {H : Heap} {locs : List Loc} (h : out G s) (hU : U.heap = H) (hW : s.WarmedH U.vm) (hS : va_S (gX G) s.heap H locs) : out G U := by
  obtain ⟨⟨h1, h2⟩, h3, h4, h5, h6, h7, h8, h9, h10⟩ := h
  have hal := hW.alike
  refine ⟨⟨?_, h2⟩, ?_, ?_, fun q hq => (h5 q hq).warm hW, ?_, fun q hq => (h7 q hq).warmM hW, h8.moved hal, h9.moved hal, h10.moved hal⟩
  · rw [hU]
    exact (h1.kept (hS.2.1 _ (Nat.lt_of_lt_of_le h2 h3) (Nat.not_le.mpr h2))).moved hal
  · rw [hU]; exact Nat.le_trans h3 hS.1
  · rw [hU]; exact (h4.kept hS.2.1).moved hal
  · rw [hU]; exact (h6.kept hS.2.1).moved hal
def Cx (G : Gl) (Y : mY) (p : Program) (s : State) (m : MethodId) (args : Array Value) (meth : Method) (c : Code) : Prop :=
  p.tables.exec = Jvm.exec ∧ c.code = Y.2.2.1 ∧ meth.sig.returnType = Y.2.2.2.2.1 ∧ c.maxLocals = Y.2.2.2.1 ∧ s.vm.findClass (RN Y.1) = some m.cls ∧ (∀ w ∈ goodL, w.before args s = true) ∧ meth.locks = false ∧ meth.name = Y.2.1.name ∧ va_K (gD G) vwCl (gT G) s ∧ out G s ∧ chkT Y.2.2.1 Y.2.2.2.2.2 = true
abbrev tb (Y : mY) : List mI := Y.2.2.2.2.2
def pcO (Y : mY) (k : Nat) : Nat := match lAt (tb Y) k with
  | some e => e.1
  | none => 0
def nx (Y : mY) (k : Nat) : Option mI := match lAt (tb Y) k, lAt (tb Y) (k + 1) with
  | some e, some f => match Nat.beq f.1 (e.1 + e.2.2) with
    | true => some e
    | false => none
  | _, _ => none
def lg : List (Nat × Value) → Nat → Option Value
  | [], _ => none
  | q :: r, i => match Nat.beq q.1 i with
    | true => some q.2
    | false => lg r i
def rvl (G : Gl) (lv : List (Nat × Value)) : List (Nat × Value) := lv.map (fun q => (q.1, rv G q.2))
theorem lg_mem : ∀ {lv : List (Nat × Value)} {i : Nat} {v : Value}, lg lv i = some v → (i, v) ∈ lv
  | [], _, _, h => by cases h
  | q :: r, i, v, h => by
    unfold lg at h
    split at h
    · next hb =>
      have hi := Nat.eq_of_beq_eq_true hb
      cases h
      subst hi
      exact List.mem_cons_self
    · exact List.mem_cons_of_mem _ (lg_mem h)
theorem lg_has {G : Gl} {ls : Array Slot} {n i : Nat} {lv : List (Nat × Value)} {v : Value} (h : lv_has ls n (rvl G lv)) (hg : lg lv i = some v) : ls[i]? = some (.val (rv G v)) :=
  h.2.2 (i, rv G v) (List.mem_map_of_mem (f := fun q : Nat × Value => (q.1, rv G q.2)) (lg_mem hg))
theorem at_dec {Y : mY} {k : Nat} {e : mI} (hc : chkT Y.2.2.1 Y.2.2.2.2.2 = true) (h : lAt (tb Y) k = some e) : decode Y.2.2.1 (pcO Y k) = .ok e.2 := by
  have key : ∀ (l : List mI) (i : Nat) (y : mI), lAt l i = some y → y ∈ l := by
    intro l
    induction l with
    | nil => intro i y hy; cases i <;> cases hy
    | cons q l ih =>
      intro i y hy
      cases i with
      | zero => cases hy; exact List.mem_cons_self
      | succ i => exact List.mem_cons_of_mem _ (ih i y hy)
  have h1 := List.all_eq_true.mp hc e (key _ _ _ h)
  unfold pcO
  rw [h]
  exact of_decide_eq_true h1
theorem nx_dec {Y : mY} {k : Nat} {e : mI} (hc : chkT Y.2.2.1 Y.2.2.2.2.2 = true) (h : nx Y k = some e) : decode Y.2.2.1 (pcO Y k) = .ok e.2 ∧ pcO Y (k + 1) = pcO Y k + e.2.2 := by
  unfold nx at h
  split at h
  · next e0 f h1 h2 =>
    split at h
    · next hb =>
      cases h
      refine ⟨at_dec hc h1, ?_⟩
      unfold pcO
      rw [h1, h2]
      exact Nat.eq_of_beq_eq_true hb
    · cases h
  · cases h
def WP (G : Gl) (Y : mY) (R : Room) (QQ : List Frame → Array Value → State → State → Prop) (N : Nat × Nat × Nat) (k : Nat) (lv : List (Nat × Value)) (st : List Value) (w : mW) : Prop :=
  ∀ (p : Program) (e : Env) (s : State) (m : MethodId) (args : Array Value) (below : List Frame) (meth : Method) (c : Code), Cx G Y p s m args meth c → ∀ (H : Heap) (locs : List Loc) (ls : Array Slot), rep G N.1 w H → va_S (gX G) s.heap H locs → lv_has ls Y.2.2.2.1 (rvl G lv) →
    W p G.1 e R s m args below meth c H locs N.2.1 N.2.2 (QQ below args s) (F0 m (pcO Y k) ls (st.map (rv G)))
theorem rvl_cat (G : Gl) (lv : List (Nat × Value)) (i : Nat) : (rvl G lv).filter (fun q => !(q.1 == i) && !(q.1 + 1 == i && q.2.category == 2)) = rvl G (lv.filter (fun q => !(q.1 == i) && !(q.1 + 1 == i && q.2.category == 2))) := by
  unfold rvl
  rw [List.filter_map]
  congr 1
  apply List.filter_congr
  intro q _
  simp only [Function.comp, rv_cat]
theorem rvl_cat2 (G : Gl) (lv : List (Nat × Value)) (i : Nat) : (rvl G lv).filter (fun q => !(q.1 == i) && (!(q.1 == i + 1) && !(q.1 + 1 == i && q.2.category == 2))) = rvl G (lv.filter (fun q => !(q.1 == i) && (!(q.1 == i + 1) && !(q.1 + 1 == i && q.2.category == 2)))) := by
  unfold rvl
  rw [List.filter_map]
  congr 1
  apply List.filter_congr
  intro q _
  simp only [Function.comp, rv_cat]
section ROWS
variable {G : Gl} {Y : mY} {R : Room} {QQ : List Frame → Array Value → State → State → Prop} {N : Nat × Nat × Nat} {k : Nat} {lv : List (Nat × Value)} {st : List Value} {w : mW} {pc : Nat}
/-- fewer locals, in another order -/
theorem wp_loc {lv' : List (Nat × Value)} (ks : List Nat) (hl : lv_pick lv ks = lv') (kk : WP G Y R QQ N k lv' st w) : WP G Y R QQ N k lv st w := by
  intro p e s m args below meth c C H locs ls hr hS hh
  refine kk p e s m args below meth c C H locs ls hr hS ⟨hh.1, hh.2.1, fun q hq => ?_⟩
  subst hl
  obtain ⟨q0, h0, rfl⟩ := List.mem_map.mp hq
  obtain ⟨i, -, hi⟩ := List.mem_filterMap.mp h0
  exact hh.2.2 _ (List.mem_map_of_mem (f := fun q : Nat × Value => (q.1, rv G q.2)) (List.mem_of_getElem? hi))
theorem wp_iadd {x y : Int32} (hd : nx Y k = some (pc, .iadd, 1)) 
    (kk : WP G Y R QQ N (k + 1) lv (.int (x + y) :: st) w) : WP G Y R QQ N k lv (.int y :: .int x :: st) w := by
  intro p e s m args below meth c C H locs ls hr hS hh
  obtain ⟨hx, hb, hrt, hml, hown, hts, hlk, hnm, hK, hO, hc⟩ := id C
  obtain ⟨h1, h2⟩ := nx_dec hc hd
  have K := kk p e s m args below meth c C H locs ls hr hS hh
  rw [h2] at K
  exact lv_iadd hx hb h1  K
theorem wp_isub {x y : Int32} (hd : nx Y k = some (pc, .isub, 1)) 
    (kk : WP G Y R QQ N (k + 1) lv (.int (x - y) :: st) w) : WP G Y R QQ N k lv (.int y :: .int x :: st) w := by
  intro p e s m args below meth c C H locs ls hr hS hh
  obtain ⟨hx, hb, hrt, hml, hown, hts, hlk, hnm, hK, hO, hc⟩ := id C
  obtain ⟨h1, h2⟩ := nx_dec hc hd
  have K := kk p e s m args below meth c C H locs ls hr hS hh
  rw [h2] at K
  exact lv_isub hx hb h1  K
theorem wp_imul {x y : Int32} (hd : nx Y k = some (pc, .imul, 1)) 
    (kk : WP G Y R QQ N (k + 1) lv (.int (x * y) :: st) w) : WP G Y R QQ N k lv (.int y :: .int x :: st) w := by
  intro p e s m args below meth c C H locs ls hr hS hh
  obtain ⟨hx, hb, hrt, hml, hown, hts, hlk, hnm, hK, hO, hc⟩ := id C
  obtain ⟨h1, h2⟩ := nx_dec hc hd
  have K := kk p e s m args below meth c C H locs ls hr hS hh
  rw [h2] at K
  exact lv_imul hx hb h1  K
theorem wp_iand {x y : Int32} (hd : nx Y k = some (pc, .iand, 1)) 
    (kk : WP G Y R QQ N (k + 1) lv (.int (x &&& y) :: st) w) : WP G Y R QQ N k lv (.int y :: .int x :: st) w := by
  intro p e s m args below meth c C H locs ls hr hS hh
  obtain ⟨hx, hb, hrt, hml, hown, hts, hlk, hnm, hK, hO, hc⟩ := id C
  obtain ⟨h1, h2⟩ := nx_dec hc hd
  have K := kk p e s m args below meth c C H locs ls hr hS hh
  rw [h2] at K
  exact lv_iand hx hb h1  K
theorem wp_ior {x y : Int32} (hd : nx Y k = some (pc, .ior, 1)) 
    (kk : WP G Y R QQ N (k + 1) lv (.int (x ||| y) :: st) w) : WP G Y R QQ N k lv (.int y :: .int x :: st) w := by
  intro p e s m args below meth c C H locs ls hr hS hh
  obtain ⟨hx, hb, hrt, hml, hown, hts, hlk, hnm, hK, hO, hc⟩ := id C
  obtain ⟨h1, h2⟩ := nx_dec hc hd
  have K := kk p e s m args below meth c C H locs ls hr hS hh
  rw [h2] at K
  exact lv_ior hx hb h1  K
theorem wp_ixor {x y : Int32} (hd : nx Y k = some (pc, .ixor, 1)) 
    (kk : WP G Y R QQ N (k + 1) lv (.int (x ^^^ y) :: st) w) : WP G Y R QQ N k lv (.int y :: .int x :: st) w := by
  intro p e s m args below meth c C H locs ls hr hS hh
  obtain ⟨hx, hb, hrt, hml, hown, hts, hlk, hnm, hK, hO, hc⟩ := id C
  obtain ⟨h1, h2⟩ := nx_dec hc hd
  have K := kk p e s m args below meth c C H locs ls hr hS hh
  rw [h2] at K
  exact lv_ixor hx hb h1  K
theorem wp_ishl {x y : Int32} (hd : nx Y k = some (pc, .ishl, 1)) 
    (kk : WP G Y R QQ N (k + 1) lv (.int (x <<< (y &&& 31)) :: st) w) : WP G Y R QQ N k lv (.int y :: .int x :: st) w := by
  intro p e s m args below meth c C H locs ls hr hS hh
  obtain ⟨hx, hb, hrt, hml, hown, hts, hlk, hnm, hK, hO, hc⟩ := id C
  obtain ⟨h1, h2⟩ := nx_dec hc hd
  have K := kk p e s m args below meth c C H locs ls hr hS hh
  rw [h2] at K
  exact lv_ishl hx hb h1  K
theorem wp_ishr {x y : Int32} (hd : nx Y k = some (pc, .ishr, 1)) 
    (kk : WP G Y R QQ N (k + 1) lv (.int (x >>> (y &&& 31)) :: st) w) : WP G Y R QQ N k lv (.int y :: .int x :: st) w := by
  intro p e s m args below meth c C H locs ls hr hS hh
  obtain ⟨hx, hb, hrt, hml, hown, hts, hlk, hnm, hK, hO, hc⟩ := id C
  obtain ⟨h1, h2⟩ := nx_dec hc hd
  have K := kk p e s m args below meth c C H locs ls hr hS hh
  rw [h2] at K
  exact lv_ishr hx hb h1  K
theorem wp_idiv {x y : Int32} (hd : nx Y k = some (pc, .idiv, 1)) (hne : ¬ y = 0)
    (kk : WP G Y R QQ N (k + 1) lv (.int (x / y) :: st) w) : WP G Y R QQ N k lv (.int y :: .int x :: st) w := by
  intro p e s m args below meth c C H locs ls hr hS hh
  obtain ⟨hx, hb, hrt, hml, hown, hts, hlk, hnm, hK, hO, hc⟩ := id C
  obtain ⟨h1, h2⟩ := nx_dec hc hd
  have K := kk p e s m args below meth c C H locs ls hr hS hh
  rw [h2] at K
  exact lv_idiv hx hb h1 hne K
theorem wp_irem {x y : Int32} (hd : nx Y k = some (pc, .irem, 1)) (hne : ¬ y = 0)
    (kk : WP G Y R QQ N (k + 1) lv (.int (x - x / y * y) :: st) w) : WP G Y R QQ N k lv (.int y :: .int x :: st) w := by
  intro p e s m args below meth c C H locs ls hr hS hh
  obtain ⟨hx, hb, hrt, hml, hown, hts, hlk, hnm, hK, hO, hc⟩ := id C
  obtain ⟨h1, h2⟩ := nx_dec hc hd
  have K := kk p e s m args below meth c C H locs ls hr hS hh
  rw [h2] at K
  exact lv_irem hx hb h1 hne K
theorem wp_ineg {x : Int32} (hd : nx Y k = some (pc, .ineg, 1)) 
    (kk : WP G Y R QQ N (k + 1) lv (.int (-x) :: st) w) : WP G Y R QQ N k lv (.int x :: st) w := by
  intro p e s m args below meth c C H locs ls hr hS hh
  obtain ⟨hx, hb, hrt, hml, hown, hts, hlk, hnm, hK, hO, hc⟩ := id C
  obtain ⟨h1, h2⟩ := nx_dec hc hd
  have K := kk p e s m args below meth c C H locs ls hr hS hh
  rw [h2] at K
  exact lv_ineg hx hb h1  K
theorem wp_iushr {x y : Int32} (hd : nx Y k = some (pc, .iushr, 1)) 
    (kk : WP G Y R QQ N (k + 1) lv (.int ((x.toUInt32 >>> (y.toUInt32 &&& Int32.toUInt32 31)).toInt32) :: st) w) : WP G Y R QQ N k lv (.int y :: .int x :: st) w := by
  intro p e s m args below meth c C H locs ls hr hS hh
  obtain ⟨hx, hb, hrt, hml, hown, hts, hlk, hnm, hK, hO, hc⟩ := id C
  obtain ⟨h1, h2⟩ := nx_dec hc hd
  have K := kk p e s m args below meth c C H locs ls hr hS hh
  rw [h2] at K
  exact lv_iushr hx hb h1 rfl K
theorem wp_ladd {x y : Int64} (hd : nx Y k = some (pc, .ladd, 1)) 
    (kk : WP G Y R QQ N (k + 1) lv (.long (x + y) :: st) w) : WP G Y R QQ N k lv (.long y :: .long x :: st) w := by
  intro p e s m args below meth c C H locs ls hr hS hh
  obtain ⟨hx, hb, hrt, hml, hown, hts, hlk, hnm, hK, hO, hc⟩ := id C
  obtain ⟨h1, h2⟩ := nx_dec hc hd
  have K := kk p e s m args below meth c C H locs ls hr hS hh
  rw [h2] at K
  exact lv_ladd hx hb h1  K
theorem wp_lsub {x y : Int64} (hd : nx Y k = some (pc, .lsub, 1)) 
    (kk : WP G Y R QQ N (k + 1) lv (.long (x - y) :: st) w) : WP G Y R QQ N k lv (.long y :: .long x :: st) w := by
  intro p e s m args below meth c C H locs ls hr hS hh
  obtain ⟨hx, hb, hrt, hml, hown, hts, hlk, hnm, hK, hO, hc⟩ := id C
  obtain ⟨h1, h2⟩ := nx_dec hc hd
  have K := kk p e s m args below meth c C H locs ls hr hS hh
  rw [h2] at K
  exact lv_lsub hx hb h1  K
theorem wp_lmul {x y : Int64} (hd : nx Y k = some (pc, .lmul, 1)) 
    (kk : WP G Y R QQ N (k + 1) lv (.long (x * y) :: st) w) : WP G Y R QQ N k lv (.long y :: .long x :: st) w := by
  intro p e s m args below meth c C H locs ls hr hS hh
  obtain ⟨hx, hb, hrt, hml, hown, hts, hlk, hnm, hK, hO, hc⟩ := id C
  obtain ⟨h1, h2⟩ := nx_dec hc hd
  have K := kk p e s m args below meth c C H locs ls hr hS hh
  rw [h2] at K
  exact lv_lmul hx hb h1  K
theorem wp_land {x y : Int64} (hd : nx Y k = some (pc, .land, 1)) 
    (kk : WP G Y R QQ N (k + 1) lv (.long (x &&& y) :: st) w) : WP G Y R QQ N k lv (.long y :: .long x :: st) w := by
  intro p e s m args below meth c C H locs ls hr hS hh
  obtain ⟨hx, hb, hrt, hml, hown, hts, hlk, hnm, hK, hO, hc⟩ := id C
  obtain ⟨h1, h2⟩ := nx_dec hc hd
  have K := kk p e s m args below meth c C H locs ls hr hS hh
  rw [h2] at K
  exact lv_land hx hb h1  K
theorem wp_lor {x y : Int64} (hd : nx Y k = some (pc, .lor, 1)) 
    (kk : WP G Y R QQ N (k + 1) lv (.long (x ||| y) :: st) w) : WP G Y R QQ N k lv (.long y :: .long x :: st) w := by
  intro p e s m args below meth c C H locs ls hr hS hh
  obtain ⟨hx, hb, hrt, hml, hown, hts, hlk, hnm, hK, hO, hc⟩ := id C
  obtain ⟨h1, h2⟩ := nx_dec hc hd
  have K := kk p e s m args below meth c C H locs ls hr hS hh
  rw [h2] at K
  exact lv_lor hx hb h1  K
theorem wp_ldiv {x y : Int64} (hd : nx Y k = some (pc, .ldiv, 1)) (hne : ¬ y = 0)
    (kk : WP G Y R QQ N (k + 1) lv (.long (x / y) :: st) w) : WP G Y R QQ N k lv (.long y :: .long x :: st) w := by
  intro p e s m args below meth c C H locs ls hr hS hh
  obtain ⟨hx, hb, hrt, hml, hown, hts, hlk, hnm, hK, hO, hc⟩ := id C
  obtain ⟨h1, h2⟩ := nx_dec hc hd
  have K := kk p e s m args below meth c C H locs ls hr hS hh
  rw [h2] at K
  exact lv_ldiv hx hb h1 hne K
theorem wp_lneg {x : Int64} (hd : nx Y k = some (pc, .lneg, 1)) 
    (kk : WP G Y R QQ N (k + 1) lv (.long (-x) :: st) w) : WP G Y R QQ N k lv (.long x :: st) w := by
  intro p e s m args below meth c C H locs ls hr hS hh
  obtain ⟨hx, hb, hrt, hml, hown, hts, hlk, hnm, hK, hO, hc⟩ := id C
  obtain ⟨h1, h2⟩ := nx_dec hc hd
  have K := kk p e s m args below meth c C H locs ls hr hS hh
  rw [h2] at K
  exact lv_lneg hx hb h1  K
theorem wp_lshl {x : Int64} {y : Int32} (hd : nx Y k = some (pc, .lshl, 1)) 
    (kk : WP G Y R QQ N (k + 1) lv (.long (x <<< (y.toInt64 &&& 63)) :: st) w) : WP G Y R QQ N k lv (.int y :: .long x :: st) w := by
  intro p e s m args below meth c C H locs ls hr hS hh
  obtain ⟨hx, hb, hrt, hml, hown, hts, hlk, hnm, hK, hO, hc⟩ := id C
  obtain ⟨h1, h2⟩ := nx_dec hc hd
  have K := kk p e s m args below meth c C H locs ls hr hS hh
  rw [h2] at K
  exact lv_lshl hx hb h1 rfl K
theorem wp_lshr {x : Int64} {y : Int32} (hd : nx Y k = some (pc, .lshr, 1)) 
    (kk : WP G Y R QQ N (k + 1) lv (.long (x >>> (y.toInt64 &&& 63)) :: st) w) : WP G Y R QQ N k lv (.int y :: .long x :: st) w := by
  intro p e s m args below meth c C H locs ls hr hS hh
  obtain ⟨hx, hb, hrt, hml, hown, hts, hlk, hnm, hK, hO, hc⟩ := id C
  obtain ⟨h1, h2⟩ := nx_dec hc hd
  have K := kk p e s m args below meth c C H locs ls hr hS hh
  rw [h2] at K
  exact lv_lshr hx hb h1 rfl K
theorem wp_lcmp {x y : Int64} (hd : nx Y k = some (pc, .lcmp, 1)) 
    (kk : WP G Y R QQ N (k + 1) lv (.int (lg_cmp x y) :: st) w) : WP G Y R QQ N k lv (.long y :: .long x :: st) w := by
  intro p e s m args below meth c C H locs ls hr hS hh
  obtain ⟨hx, hb, hrt, hml, hown, hts, hlk, hnm, hK, hO, hc⟩ := id C
  obtain ⟨h1, h2⟩ := nx_dec hc hd
  have K := kk p e s m args below meth c C H locs ls hr hS hh
  rw [h2] at K
  exact W.lcmp hx hb h1  K
theorem wp_i2l {x : Int32} (hd : nx Y k = some (pc, .i2l, 1)) 
    (kk : WP G Y R QQ N (k + 1) lv (.long x.toInt64 :: st) w) : WP G Y R QQ N k lv (.int x :: st) w := by
  intro p e s m args below meth c C H locs ls hr hS hh
  obtain ⟨hx, hb, hrt, hml, hown, hts, hlk, hnm, hK, hO, hc⟩ := id C
  obtain ⟨h1, h2⟩ := nx_dec hc hd
  have K := kk p e s m args below meth c C H locs ls hr hS hh
  rw [h2] at K
  exact lv_i2l hx hb h1 rfl K
theorem wp_l2i {x : Int64} (hd : nx Y k = some (pc, .l2i, 1)) 
    (kk : WP G Y R QQ N (k + 1) lv (.int x.toInt32 :: st) w) : WP G Y R QQ N k lv (.long x :: st) w := by
  intro p e s m args below meth c C H locs ls hr hS hh
  obtain ⟨hx, hb, hrt, hml, hown, hts, hlk, hnm, hK, hO, hc⟩ := id C
  obtain ⟨h1, h2⟩ := nx_dec hc hd
  have K := kk p e s m args below meth c C H locs ls hr hS hh
  rw [h2] at K
  exact lv_l2i hx hb h1 rfl K
theorem wp_i2b {x : Int32} (hd : nx Y k = some (pc, .i2b, 1)) 
    (kk : WP G Y R QQ N (k + 1) lv (.int x.toInt8.toInt32 :: st) w) : WP G Y R QQ N k lv (.int x :: st) w := by
  intro p e s m args below meth c C H locs ls hr hS hh
  obtain ⟨hx, hb, hrt, hml, hown, hts, hlk, hnm, hK, hO, hc⟩ := id C
  obtain ⟨h1, h2⟩ := nx_dec hc hd
  have K := kk p e s m args below meth c C H locs ls hr hS hh
  rw [h2] at K
  exact lv_i2b hx hb h1 rfl K
theorem wp_i2s {x : Int32} (hd : nx Y k = some (pc, .i2s, 1)) 
    (kk : WP G Y R QQ N (k + 1) lv (.int x.toInt16.toInt32 :: st) w) : WP G Y R QQ N k lv (.int x :: st) w := by
  intro p e s m args below meth c C H locs ls hr hS hh
  obtain ⟨hx, hb, hrt, hml, hown, hts, hlk, hnm, hK, hO, hc⟩ := id C
  obtain ⟨h1, h2⟩ := nx_dec hc hd
  have K := kk p e s m args below meth c C H locs ls hr hS hh
  rw [h2] at K
  exact lv_i2s hx hb h1 rfl K
theorem wp_i2c {x : Int32} (hd : nx Y k = some (pc, .i2c, 1)) 
    (kk : WP G Y R QQ N (k + 1) lv (.int (x.toUInt32 % 65536).toInt32 :: st) w) : WP G Y R QQ N k lv (.int x :: st) w := by
  intro p e s m args below meth c C H locs ls hr hS hh
  obtain ⟨hx, hb, hrt, hml, hown, hts, hlk, hnm, hK, hO, hc⟩ := id C
  obtain ⟨h1, h2⟩ := nx_dec hc hd
  have K := kk p e s m args below meth c C H locs ls hr hS hh
  rw [h2] at K
  exact lv_i2c hx hb h1 rfl K
theorem wp_iconst {n : Int} {v : Int32} (hd : nx Y k = some (pc, .iconst n, 1)) (hv : Int32.ofInt n = v)
    (kk : WP G Y R QQ N (k + 1) lv (.int v :: st) w) : WP G Y R QQ N k lv (st) w := by
  intro p e s m args below meth c C H locs ls hr hS hh
  obtain ⟨hx, hb, hrt, hml, hown, hts, hlk, hnm, hK, hO, hc⟩ := id C
  obtain ⟨h1, h2⟩ := nx_dec hc hd
  have K := kk p e s m args below meth c C H locs ls hr hS hh
  rw [h2] at K
  exact lv_iconst hx hb h1 hv K
theorem wp_bipush {n : Int} {v : Int32} (hd : nx Y k = some (pc, .bipush n, 2)) (hv : (Int8.ofInt n).toInt32 = v)
    (kk : WP G Y R QQ N (k + 1) lv (.int v :: st) w) : WP G Y R QQ N k lv (st) w := by
  intro p e s m args below meth c C H locs ls hr hS hh
  obtain ⟨hx, hb, hrt, hml, hown, hts, hlk, hnm, hK, hO, hc⟩ := id C
  obtain ⟨h1, h2⟩ := nx_dec hc hd
  have K := kk p e s m args below meth c C H locs ls hr hS hh
  rw [h2] at K
  exact lv_bipush hx hb h1 hv K
theorem wp_sipush {n : Int} {v : Int32} (hd : nx Y k = some (pc, .sipush n, 3)) (hv : (Int16.ofInt n).toInt32 = v)
    (kk : WP G Y R QQ N (k + 1) lv (.int v :: st) w) : WP G Y R QQ N k lv (st) w := by
  intro p e s m args below meth c C H locs ls hr hS hh
  obtain ⟨hx, hb, hrt, hml, hown, hts, hlk, hnm, hK, hO, hc⟩ := id C
  obtain ⟨h1, h2⟩ := nx_dec hc hd
  have K := kk p e s m args below meth c C H locs ls hr hS hh
  rw [h2] at K
  exact lv_sipush hx hb h1 hv K
theorem wp_lconst {n : Fin 2} {v : Int64} (hd : nx Y k = some (pc, .lconst n, 1)) (hv : Int64.ofNat (n : Nat) = v)
    (kk : WP G Y R QQ N (k + 1) lv (.long v :: st) w) : WP G Y R QQ N k lv (st) w := by
  intro p e s m args below meth c C H locs ls hr hS hh
  obtain ⟨hx, hb, hrt, hml, hown, hts, hlk, hnm, hK, hO, hc⟩ := id C
  obtain ⟨h1, h2⟩ := nx_dec hc hd
  have K := kk p e s m args below meth c C H locs ls hr hS hh
  rw [h2] at K
  exact lv_lconst hx hb h1 hv K
theorem wp_iload_n {n : Fin 4} {x : Int32} (hd : nx Y k = some (pc, .iload_n n, 1)) (hl : lg lv n = some (.int x))
    (kk : WP G Y R QQ N (k + 1) lv (.int x :: st) w) : WP G Y R QQ N k lv (st) w := by
  intro p e s m args below meth c C H locs ls hr hS hh
  obtain ⟨hx, hb, hrt, hml, hown, hts, hlk, hnm, hK, hO, hc⟩ := id C
  obtain ⟨h1, h2⟩ := nx_dec hc hd
  have K := kk p e s m args below meth c C H locs ls hr hS hh
  rw [h2] at K
  exact lv_iload_n hx hb h1 rfl (lg_has hh hl) K
theorem wp_iload {n : Nat} {x : Int32} (hd : nx Y k = some (pc, .iload n, 2)) (hl : lg lv n = some (.int x))
    (kk : WP G Y R QQ N (k + 1) lv (.int x :: st) w) : WP G Y R QQ N k lv (st) w := by
  intro p e s m args below meth c C H locs ls hr hS hh
  obtain ⟨hx, hb, hrt, hml, hown, hts, hlk, hnm, hK, hO, hc⟩ := id C
  obtain ⟨h1, h2⟩ := nx_dec hc hd
  have K := kk p e s m args below meth c C H locs ls hr hS hh
  rw [h2] at K
  exact lv_iload hx hb h1 (lg_has hh hl) K
theorem wp_lload_n {n : Fin 4} {x : Int64} (hd : nx Y k = some (pc, .lload_n n, 1)) (hl : lg lv n = some (.long x))
    (kk : WP G Y R QQ N (k + 1) lv (.long x :: st) w) : WP G Y R QQ N k lv (st) w := by
  intro p e s m args below meth c C H locs ls hr hS hh
  obtain ⟨hx, hb, hrt, hml, hown, hts, hlk, hnm, hK, hO, hc⟩ := id C
  obtain ⟨h1, h2⟩ := nx_dec hc hd
  have K := kk p e s m args below meth c C H locs ls hr hS hh
  rw [h2] at K
  exact lv_lload_n hx hb h1 rfl (lg_has hh hl) K
theorem wp_lload {n : Nat} {x : Int64} (hd : nx Y k = some (pc, .lload n, 2)) (hl : lg lv n = some (.long x))
    (kk : WP G Y R QQ N (k + 1) lv (.long x :: st) w) : WP G Y R QQ N k lv (st) w := by
  intro p e s m args below meth c C H locs ls hr hS hh
  obtain ⟨hx, hb, hrt, hml, hown, hts, hlk, hnm, hK, hO, hc⟩ := id C
  obtain ⟨h1, h2⟩ := nx_dec hc hd
  have K := kk p e s m args below meth c C H locs ls hr hS hh
  rw [h2] at K
  exact lv_lload hx hb h1 (lg_has hh hl) K
theorem wp_aload_n {n : Fin 4} {x : Nat} (hd : nx Y k = some (pc, .aload_n n, 1)) (hl : lg lv n = some (.ref x))
    (kk : WP G Y R QQ N (k + 1) lv (.ref x :: st) w) : WP G Y R QQ N k lv (st) w := by
  intro p e s m args below meth c C H locs ls hr hS hh
  obtain ⟨hx, hb, hrt, hml, hown, hts, hlk, hnm, hK, hO, hc⟩ := id C
  obtain ⟨h1, h2⟩ := nx_dec hc hd
  have K := kk p e s m args below meth c C H locs ls hr hS hh
  rw [h2] at K
  exact lv_aload_n hx hb h1 rfl (lg_has hh hl) K
theorem wp_aload {n : Nat} {x : Nat} (hd : nx Y k = some (pc, .aload n, 2)) (hl : lg lv n = some (.ref x))
    (kk : WP G Y R QQ N (k + 1) lv (.ref x :: st) w) : WP G Y R QQ N k lv (st) w := by
  intro p e s m args below meth c C H locs ls hr hS hh
  obtain ⟨hx, hb, hrt, hml, hown, hts, hlk, hnm, hK, hO, hc⟩ := id C
  obtain ⟨h1, h2⟩ := nx_dec hc hd
  have K := kk p e s m args below meth c C H locs ls hr hS hh
  rw [h2] at K
  exact lv_aload hx hb h1 (lg_has hh hl) K
theorem wp_istore_n {n : Fin 4} {i : Nat} {x : Int32} {lv' : List (Nat × Value)} (hd : nx Y k = some (pc, .istore_n n, 1)) (hi : (n : Nat) = i) (hn : i < Y.2.2.2.1) (hl : (i, Value.int x) :: lv.filter (fun q => !(q.1 == i) && !(q.1 + 1 == i && q.2.category == 2)) = lv')
    (kk : WP G Y R QQ N (k + 1) lv' st w) : WP G Y R QQ N k lv (.int x :: st) w := by
  intro p e s m args below meth c C H locs ls hr hS hh
  obtain ⟨hx, hb, hrt, hml, hown, hts, hlk, hnm, hK, hO, hc⟩ := id C
  obtain ⟨h1, h2⟩ := nx_dec hc hd
  refine lv_istore_n hx hb h1 hi hh hn rfl (fun ls hh2 => ?_)
  rw [rvl_cat] at hh2
  have K := kk p e s m args below meth c C H locs ls hr hS (by rw [← hl]; exact hh2)
  rw [h2] at K
  exact K
theorem wp_istore {i : Nat} {x : Int32} {lv' : List (Nat × Value)} (hd : nx Y k = some (pc, .istore i, 2)) (hn : i < Y.2.2.2.1) (hl : (i, Value.int x) :: lv.filter (fun q => !(q.1 == i) && !(q.1 + 1 == i && q.2.category == 2)) = lv')
    (kk : WP G Y R QQ N (k + 1) lv' st w) : WP G Y R QQ N k lv (.int x :: st) w := by
  intro p e s m args below meth c C H locs ls hr hS hh
  obtain ⟨hx, hb, hrt, hml, hown, hts, hlk, hnm, hK, hO, hc⟩ := id C
  obtain ⟨h1, h2⟩ := nx_dec hc hd
  refine lv_istore hx hb h1 hh hn rfl (fun ls hh2 => ?_)
  rw [rvl_cat] at hh2
  have K := kk p e s m args below meth c C H locs ls hr hS (by rw [← hl]; exact hh2)
  rw [h2] at K
  exact K
theorem wp_lstore_n {n : Fin 4} {i : Nat} {x : Int64} {lv' : List (Nat × Value)} (hd : nx Y k = some (pc, .lstore_n n, 1)) (hi : (n : Nat) = i) (hn : i + 1 < Y.2.2.2.1) (hl : (i, Value.long x) :: lv.filter (fun q => !(q.1 == i) && (!(q.1 == i + 1) && !(q.1 + 1 == i && q.2.category == 2))) = lv')
    (kk : WP G Y R QQ N (k + 1) lv' st w) : WP G Y R QQ N k lv (.long x :: st) w := by
  intro p e s m args below meth c C H locs ls hr hS hh
  obtain ⟨hx, hb, hrt, hml, hown, hts, hlk, hnm, hK, hO, hc⟩ := id C
  obtain ⟨h1, h2⟩ := nx_dec hc hd
  refine lv_lstore_n hx hb h1 hi hh hn rfl (fun ls hh2 => ?_)
  rw [rvl_cat2] at hh2
  have K := kk p e s m args below meth c C H locs ls hr hS (by rw [← hl]; exact hh2)
  rw [h2] at K
  exact K
theorem wp_lstore {i : Nat} {x : Int64} {lv' : List (Nat × Value)} (hd : nx Y k = some (pc, .lstore i, 2)) (hn : i + 1 < Y.2.2.2.1) (hl : (i, Value.long x) :: lv.filter (fun q => !(q.1 == i) && (!(q.1 == i + 1) && !(q.1 + 1 == i && q.2.category == 2))) = lv')
    (kk : WP G Y R QQ N (k + 1) lv' st w) : WP G Y R QQ N k lv (.long x :: st) w := by
  intro p e s m args below meth c C H locs ls hr hS hh
  obtain ⟨hx, hb, hrt, hml, hown, hts, hlk, hnm, hK, hO, hc⟩ := id C
  obtain ⟨h1, h2⟩ := nx_dec hc hd
  refine lv_lstore hx hb h1 hh hn rfl (fun ls hh2 => ?_)
  rw [rvl_cat2] at hh2
  have K := kk p e s m args below meth c C H locs ls hr hS (by rw [← hl]; exact hh2)
  rw [h2] at K
  exact K
theorem wp_astore_n {n : Fin 4} {i : Nat} {x : Nat} {lv' : List (Nat × Value)} (hd : nx Y k = some (pc, .astore_n n, 1)) (hi : (n : Nat) = i) (hn : i < Y.2.2.2.1) (hl : (i, Value.ref x) :: lv.filter (fun q => !(q.1 == i) && !(q.1 + 1 == i && q.2.category == 2)) = lv')
    (kk : WP G Y R QQ N (k + 1) lv' st w) : WP G Y R QQ N k lv (.ref x :: st) w := by
  intro p e s m args below meth c C H locs ls hr hS hh
  obtain ⟨hx, hb, hrt, hml, hown, hts, hlk, hnm, hK, hO, hc⟩ := id C
  obtain ⟨h1, h2⟩ := nx_dec hc hd
  refine lv_astore_n hx hb h1 hi hh hn rfl (fun ls hh2 => ?_)
  rw [rvl_cat] at hh2
  have K := kk p e s m args below meth c C H locs ls hr hS (by rw [← hl]; exact hh2)
  rw [h2] at K
  exact K
theorem wp_astore {i : Nat} {x : Nat} {lv' : List (Nat × Value)} (hd : nx Y k = some (pc, .astore i, 2)) (hn : i < Y.2.2.2.1) (hl : (i, Value.ref x) :: lv.filter (fun q => !(q.1 == i) && !(q.1 + 1 == i && q.2.category == 2)) = lv')
    (kk : WP G Y R QQ N (k + 1) lv' st w) : WP G Y R QQ N k lv (.ref x :: st) w := by
  intro p e s m args below meth c C H locs ls hr hS hh
  obtain ⟨hx, hb, hrt, hml, hown, hts, hlk, hnm, hK, hO, hc⟩ := id C
  obtain ⟨h1, h2⟩ := nx_dec hc hd
  refine lv_astore hx hb h1 hh hn rfl (fun ls hh2 => ?_)
  rw [rvl_cat] at hh2
  have K := kk p e s m args below meth c C H locs ls hr hS (by rw [← hl]; exact hh2)
  rw [h2] at K
  exact K
theorem lv_iinc2 {p : Program} {l : Launch} {e : Env} {R : Room} {s : State} {m : MethodId} {args : Array Value} {below : List Frame} {meth : Method} {c : Code} {H : Heap} {locs : List Loc} {cells slots : Nat} {Q : State → Prop} {cc : ByteArray} {pc : Nat} {ls : Array Slot} {rest : List Value} (hexec : p.tables.exec = Jvm.exec) (hb : c.code = cc) {i nL : Nat} {n : Int} {x : Int32} {lv : List (Nat × Value)} (hdg : decode cc pc = .ok (.iinc i n, 3)) (h : lv_has ls nL lv) (hk : (i, Value.int x) ∈ lv) (hn : i < nL)
    (kk : ∀ ls' : Array Slot, lv_has ls' nL ((i, Value.int (x + Int32.ofInt n)) :: lv.filter (fun q => !(q.1 == i) && !(q.1 + 1 == i && q.2.category == 2))) → W p l e R s m args below meth c H locs cells slots Q (F0 m (pc + 3) ls' rest)) : W p l e R s m args below meth c H locs cells slots Q (F0 m pc ls rest) := by
  obtain ⟨j, hj⟩ := List.getElem?_of_mem hk
  exact lv_iinc (k := j) hexec hb hdg h hj rfl hn rfl kk
theorem wp_iinc {i : Nat} {n : Int} {x v : Int32} {lv' : List (Nat × Value)} (hd : nx Y k = some (pc, .iinc i n, 3)) (hg : lg lv i = some (.int x)) (hv : x + Int32.ofInt n = v) (hn : i < Y.2.2.2.1) (hl : (i, Value.int v) :: lv.filter (fun q => !(q.1 == i) && !(q.1 + 1 == i && q.2.category == 2)) = lv')
    (kk : WP G Y R QQ N (k + 1) lv' st w) : WP G Y R QQ N k lv st w := by
  intro p e s m args below meth c C H locs ls hr hS hh
  obtain ⟨hx, hb, hrt, hml, hown, hts, hlk, hnm, hK, hO, hc⟩ := id C
  obtain ⟨h1, h2⟩ := nx_dec hc hd
  refine lv_iinc2 (x := x) hx hb h1 hh (List.mem_map_of_mem (f := fun q : Nat × Value => (q.1, rv G q.2)) (lg_mem hg)) hn (fun ls hh2 => ?_)
  rw [rvl_cat, hv] at hh2
  have K := kk p e s m args below meth c C H locs ls hr hS (by rw [← hl]; exact hh2)
  rw [h2] at K
  exact K
theorem wp_dup {va : Value} (hd : nx Y k = some (pc, .dup, 1)) (hv : va.category = 1)
    (kk : WP G Y R QQ N (k + 1) lv (va :: va :: st) w) : WP G Y R QQ N k lv (va :: st) w := by
  intro p e s m args below meth c C H locs ls hr hS hh
  obtain ⟨hx, hb, hrt, hml, hown, hts, hlk, hnm, hK, hO, hc⟩ := id C
  obtain ⟨h1, h2⟩ := nx_dec hc hd
  have K := kk p e s m args below meth c C H locs ls hr hS hh
  rw [h2] at K
  exact lv_dup hx hb h1 ((rv_cat G va).trans hv) K
theorem wp_pop {va : Value} (hd : nx Y k = some (pc, .pop, 1)) (hv : va.category = 1)
    (kk : WP G Y R QQ N (k + 1) lv (st) w) : WP G Y R QQ N k lv (va :: st) w := by
  intro p e s m args below meth c C H locs ls hr hS hh
  obtain ⟨hx, hb, hrt, hml, hown, hts, hlk, hnm, hK, hO, hc⟩ := id C
  obtain ⟨h1, h2⟩ := nx_dec hc hd
  have K := kk p e s m args below meth c C H locs ls hr hS hh
  rw [h2] at K
  exact lv_pop hx hb h1 ((rv_cat G va).trans hv) K
theorem wp_dup2 {va vb : Value} (hd : nx Y k = some (pc, .dup2, 1)) (hv : va.category = 1) (hv2 : vb.category = 1)
    (kk : WP G Y R QQ N (k + 1) lv (va :: vb :: va :: vb :: st) w) : WP G Y R QQ N k lv (va :: vb :: st) w := by
  intro p e s m args below meth c C H locs ls hr hS hh
  obtain ⟨hx, hb, hrt, hml, hown, hts, hlk, hnm, hK, hO, hc⟩ := id C
  obtain ⟨h1, h2⟩ := nx_dec hc hd
  have K := kk p e s m args below meth c C H locs ls hr hS hh
  rw [h2] at K
  exact lv_dup2_11 hx hb h1 ((rv_cat G va).trans hv) ((rv_cat G vb).trans hv2) K
theorem wp_if_eq {x : Int32} {off : Int} (j : Nat) (hd : nx Y k = some (pc, .ifCond .eq off, 3)) (hj : (pcO Y k : Int) + off = (pcO Y j : Int))
    (kt : x = 0 → WP G Y R QQ N j lv st w) (kf : ¬ x = 0 → WP G Y R QQ N (k + 1) lv st w) : WP G Y R QQ N k lv (.int x :: st) w := by
  intro p e s m args below meth c C H locs ls hr hS hh
  obtain ⟨hx, hb, hrt, hml, hown, hts, hlk, hnm, hK, hO, hc⟩ := id C
  obtain ⟨h1, h2⟩ := nx_dec hc hd
  refine lv_if_eq hx hb h1 hj (fun h => kt h p e s m args below meth c C H locs ls hr hS hh) (fun h => ?_)
  have K := kf h p e s m args below meth c C H locs ls hr hS hh
  rw [h2] at K
  exact K
theorem wp_icmp_eq {x y : Int32} {off : Int} (j : Nat) (hd : nx Y k = some (pc, .if_icmp .eq off, 3)) (hj : (pcO Y k : Int) + off = (pcO Y j : Int))
    (kt : x = y → WP G Y R QQ N j lv st w) (kf : ¬ x = y → WP G Y R QQ N (k + 1) lv st w) : WP G Y R QQ N k lv (.int y :: .int x :: st) w := by
  intro p e s m args below meth c C H locs ls hr hS hh
  obtain ⟨hx, hb, hrt, hml, hown, hts, hlk, hnm, hK, hO, hc⟩ := id C
  obtain ⟨h1, h2⟩ := nx_dec hc hd
  refine lv_icmp_eq hx hb h1 hj (fun h => kt h p e s m args below meth c C H locs ls hr hS hh) (fun h => ?_)
  have K := kf h p e s m args below meth c C H locs ls hr hS hh
  rw [h2] at K
  exact K
theorem wp_if_ne {x : Int32} {off : Int} (j : Nat) (hd : nx Y k = some (pc, .ifCond .ne off, 3)) (hj : (pcO Y k : Int) + off = (pcO Y j : Int))
    (kt : ¬ x = 0 → WP G Y R QQ N j lv st w) (kf : x = 0 → WP G Y R QQ N (k + 1) lv st w) : WP G Y R QQ N k lv (.int x :: st) w := by
  intro p e s m args below meth c C H locs ls hr hS hh
  obtain ⟨hx, hb, hrt, hml, hown, hts, hlk, hnm, hK, hO, hc⟩ := id C
  obtain ⟨h1, h2⟩ := nx_dec hc hd
  refine lv_if_ne hx hb h1 hj (fun h => kt h p e s m args below meth c C H locs ls hr hS hh) (fun h => ?_)
  have K := kf h p e s m args below meth c C H locs ls hr hS hh
  rw [h2] at K
  exact K
theorem wp_icmp_ne {x y : Int32} {off : Int} (j : Nat) (hd : nx Y k = some (pc, .if_icmp .ne off, 3)) (hj : (pcO Y k : Int) + off = (pcO Y j : Int))
    (kt : ¬ x = y → WP G Y R QQ N j lv st w) (kf : x = y → WP G Y R QQ N (k + 1) lv st w) : WP G Y R QQ N k lv (.int y :: .int x :: st) w := by
  intro p e s m args below meth c C H locs ls hr hS hh
  obtain ⟨hx, hb, hrt, hml, hown, hts, hlk, hnm, hK, hO, hc⟩ := id C
  obtain ⟨h1, h2⟩ := nx_dec hc hd
  refine lv_icmp_ne hx hb h1 hj (fun h => kt h p e s m args below meth c C H locs ls hr hS hh) (fun h => ?_)
  have K := kf h p e s m args below meth c C H locs ls hr hS hh
  rw [h2] at K
  exact K
theorem wp_if_lt {x : Int32} {off : Int} (j : Nat) (hd : nx Y k = some (pc, .ifCond .lt off, 3)) (hj : (pcO Y k : Int) + off = (pcO Y j : Int))
    (kt : x < 0 → WP G Y R QQ N j lv st w) (kf : ¬ x < 0 → WP G Y R QQ N (k + 1) lv st w) : WP G Y R QQ N k lv (.int x :: st) w := by
  intro p e s m args below meth c C H locs ls hr hS hh
  obtain ⟨hx, hb, hrt, hml, hown, hts, hlk, hnm, hK, hO, hc⟩ := id C
  obtain ⟨h1, h2⟩ := nx_dec hc hd
  refine lv_if_lt hx hb h1 hj (fun h => kt h p e s m args below meth c C H locs ls hr hS hh) (fun h => ?_)
  have K := kf h p e s m args below meth c C H locs ls hr hS hh
  rw [h2] at K
  exact K
theorem wp_icmp_lt {x y : Int32} {off : Int} (j : Nat) (hd : nx Y k = some (pc, .if_icmp .lt off, 3)) (hj : (pcO Y k : Int) + off = (pcO Y j : Int))
    (kt : x < y → WP G Y R QQ N j lv st w) (kf : ¬ x < y → WP G Y R QQ N (k + 1) lv st w) : WP G Y R QQ N k lv (.int y :: .int x :: st) w := by
  intro p e s m args below meth c C H locs ls hr hS hh
  obtain ⟨hx, hb, hrt, hml, hown, hts, hlk, hnm, hK, hO, hc⟩ := id C
  obtain ⟨h1, h2⟩ := nx_dec hc hd
  refine lv_icmp_lt hx hb h1 hj (fun h => kt h p e s m args below meth c C H locs ls hr hS hh) (fun h => ?_)
  have K := kf h p e s m args below meth c C H locs ls hr hS hh
  rw [h2] at K
  exact K
theorem wp_if_ge {x : Int32} {off : Int} (j : Nat) (hd : nx Y k = some (pc, .ifCond .ge off, 3)) (hj : (pcO Y k : Int) + off = (pcO Y j : Int))
    (kt : 0 ≤ x → WP G Y R QQ N j lv st w) (kf : ¬ 0 ≤ x → WP G Y R QQ N (k + 1) lv st w) : WP G Y R QQ N k lv (.int x :: st) w := by
  intro p e s m args below meth c C H locs ls hr hS hh
  obtain ⟨hx, hb, hrt, hml, hown, hts, hlk, hnm, hK, hO, hc⟩ := id C
  obtain ⟨h1, h2⟩ := nx_dec hc hd
  refine lv_if_ge hx hb h1 hj (fun h => kt h p e s m args below meth c C H locs ls hr hS hh) (fun h => ?_)
  have K := kf h p e s m args below meth c C H locs ls hr hS hh
  rw [h2] at K
  exact K
theorem wp_icmp_ge {x y : Int32} {off : Int} (j : Nat) (hd : nx Y k = some (pc, .if_icmp .ge off, 3)) (hj : (pcO Y k : Int) + off = (pcO Y j : Int))
    (kt : y ≤ x → WP G Y R QQ N j lv st w) (kf : ¬ y ≤ x → WP G Y R QQ N (k + 1) lv st w) : WP G Y R QQ N k lv (.int y :: .int x :: st) w := by
  intro p e s m args below meth c C H locs ls hr hS hh
  obtain ⟨hx, hb, hrt, hml, hown, hts, hlk, hnm, hK, hO, hc⟩ := id C
  obtain ⟨h1, h2⟩ := nx_dec hc hd
  refine lv_icmp_ge hx hb h1 hj (fun h => kt h p e s m args below meth c C H locs ls hr hS hh) (fun h => ?_)
  have K := kf h p e s m args below meth c C H locs ls hr hS hh
  rw [h2] at K
  exact K
theorem wp_if_gt {x : Int32} {off : Int} (j : Nat) (hd : nx Y k = some (pc, .ifCond .gt off, 3)) (hj : (pcO Y k : Int) + off = (pcO Y j : Int))
    (kt : 0 < x → WP G Y R QQ N j lv st w) (kf : ¬ 0 < x → WP G Y R QQ N (k + 1) lv st w) : WP G Y R QQ N k lv (.int x :: st) w := by
  intro p e s m args below meth c C H locs ls hr hS hh
  obtain ⟨hx, hb, hrt, hml, hown, hts, hlk, hnm, hK, hO, hc⟩ := id C
  obtain ⟨h1, h2⟩ := nx_dec hc hd
  refine lv_if_gt hx hb h1 hj (fun h => kt h p e s m args below meth c C H locs ls hr hS hh) (fun h => ?_)
  have K := kf h p e s m args below meth c C H locs ls hr hS hh
  rw [h2] at K
  exact K
theorem wp_icmp_gt {x y : Int32} {off : Int} (j : Nat) (hd : nx Y k = some (pc, .if_icmp .gt off, 3)) (hj : (pcO Y k : Int) + off = (pcO Y j : Int))
    (kt : y < x → WP G Y R QQ N j lv st w) (kf : ¬ y < x → WP G Y R QQ N (k + 1) lv st w) : WP G Y R QQ N k lv (.int y :: .int x :: st) w := by
  intro p e s m args below meth c C H locs ls hr hS hh
  obtain ⟨hx, hb, hrt, hml, hown, hts, hlk, hnm, hK, hO, hc⟩ := id C
  obtain ⟨h1, h2⟩ := nx_dec hc hd
  refine lv_icmp_gt hx hb h1 hj (fun h => kt h p e s m args below meth c C H locs ls hr hS hh) (fun h => ?_)
  have K := kf h p e s m args below meth c C H locs ls hr hS hh
  rw [h2] at K
  exact K
theorem wp_if_le {x : Int32} {off : Int} (j : Nat) (hd : nx Y k = some (pc, .ifCond .le off, 3)) (hj : (pcO Y k : Int) + off = (pcO Y j : Int))
    (kt : x ≤ 0 → WP G Y R QQ N j lv st w) (kf : ¬ x ≤ 0 → WP G Y R QQ N (k + 1) lv st w) : WP G Y R QQ N k lv (.int x :: st) w := by
  intro p e s m args below meth c C H locs ls hr hS hh
  obtain ⟨hx, hb, hrt, hml, hown, hts, hlk, hnm, hK, hO, hc⟩ := id C
  obtain ⟨h1, h2⟩ := nx_dec hc hd
  refine lv_if_le hx hb h1 hj (fun h => kt h p e s m args below meth c C H locs ls hr hS hh) (fun h => ?_)
  have K := kf h p e s m args below meth c C H locs ls hr hS hh
  rw [h2] at K
  exact K
theorem wp_icmp_le {x y : Int32} {off : Int} (j : Nat) (hd : nx Y k = some (pc, .if_icmp .le off, 3)) (hj : (pcO Y k : Int) + off = (pcO Y j : Int))
    (kt : x ≤ y → WP G Y R QQ N j lv st w) (kf : ¬ x ≤ y → WP G Y R QQ N (k + 1) lv st w) : WP G Y R QQ N k lv (.int y :: .int x :: st) w := by
  intro p e s m args below meth c C H locs ls hr hS hh
  obtain ⟨hx, hb, hrt, hml, hown, hts, hlk, hnm, hK, hO, hc⟩ := id C
  obtain ⟨h1, h2⟩ := nx_dec hc hd
  refine lv_icmp_le hx hb h1 hj (fun h => kt h p e s m args below meth c C H locs ls hr hS hh) (fun h => ?_)
  have K := kf h p e s m args below meth c C H locs ls hr hS hh
  rw [h2] at K
  exact K
theorem wp_goto {off : Int} (j : Nat) (hd : lAt (tb Y) k = some (pc, .goto off, 3)) (hj : (pcO Y k : Int) + off = (pcO Y j : Int)) (kk : WP G Y R QQ N j lv st w) : WP G Y R QQ N k lv st w := by
  intro p e s m args below meth c C H locs ls hr hS hh
  obtain ⟨hx, hb, hrt, hml, hown, hts, hlk, hnm, hK, hO, hc⟩ := id C
  exact lv_goto hx hb (at_dec hc hd) hj (kk p e s m args below meth c C H locs ls hr hS hh)
theorem wp_tsOut {dflt lo hi : Int} {offs : Array Int} {len : Nat} {x : Int32} (j : Nat) (hd : lAt (tb Y) k = some (pc, .tableswitch dflt lo hi offs, len)) (h : x.toInt < lo ∨ hi < x.toInt) (hj : (pcO Y k : Int) + dflt = (pcO Y j : Int)) (kk : WP G Y R QQ N j lv st w) : WP G Y R QQ N k lv (.int x :: st) w := by
  intro p e s m args below meth c C H locs ls hr hS hh
  obtain ⟨hx, hb, hrt, hml, hown, hts, hlk, hnm, hK, hO, hc⟩ := id C
  exact lv_tableOut hx hb (at_dec hc hd) h hj (kk p e s m args below meth c C H locs ls hr hS hh)
theorem wp_tsIn {dflt lo hi : Int} {offs : Array Int} {len : Nat} {x : Int32} {off : Int} (j : Nat) (hd : lAt (tb Y) k = some (pc, .tableswitch dflt lo hi offs, len)) (h1 : ¬ x.toInt < lo) (h2 : ¬ hi < x.toInt) (ho : offs[(x.toInt - lo).toNat]? = some off) (hj : (pcO Y k : Int) + off = (pcO Y j : Int)) (kk : WP G Y R QQ N j lv st w) : WP G Y R QQ N k lv (.int x :: st) w := by
  intro p e s m args below meth c C H locs ls hr hS hh
  obtain ⟨hx, hb, hrt, hml, hown, hts, hlk, hnm, hK, hO, hc⟩ := id C
  exact lv_tableIn hx hb (at_dec hc hd) h1 h2 ho hj (kk p e s m args below meth c C H locs ls hr hS hh)
theorem wp_ldc {i : Nat} {v : Int32} (hd : nx Y k = some (pc, .ldc i, 2)) (hq : Cond.constant (RN Y.1) i v ∈ goodL) (kk : WP G Y R QQ N (k + 1) lv (.int v :: st) w) : WP G Y R QQ N k lv st w := by
  intro p e s m args below meth c C H locs ls hr hS hh
  obtain ⟨hx, hb, hrt, hml, hown, hts, hlk, hnm, hK, hO, hc⟩ := id C
  obtain ⟨h1, h2⟩ := nx_dec hc hd
  have K := kk p e s m args below meth c C H locs ls hr hS hh
  rw [h2] at K
  exact lv_ldc hx hb hown (hts _ hq) h1 K
theorem wp_ldc_w {i : Nat} {v : Int32} (hd : nx Y k = some (pc, .ldc_w i, 3)) (hq : Cond.constant (RN Y.1) i v ∈ goodL) (kk : WP G Y R QQ N (k + 1) lv (.int v :: st) w) : WP G Y R QQ N k lv st w := by
  intro p e s m args below meth c C H locs ls hr hS hh
  obtain ⟨hx, hb, hrt, hml, hown, hts, hlk, hnm, hK, hO, hc⟩ := id C
  obtain ⟨h1, h2⟩ := nx_dec hc hd
  have K := kk p e s m args below meth c C H locs ls hr hS hh
  rw [h2] at K
  exact lv_ldcw hx hb hown (hts _ hq) h1 K
theorem wp_ldc2 {i : Nat} {v : Int64} (hd : nx Y k = some (pc, .ldc2_w i, 3)) (hq : Cond.constantLong (RN Y.1) i v ∈ goodL) (kk : WP G Y R QQ N (k + 1) lv (.long v :: st) w) : WP G Y R QQ N k lv st w := by
  intro p e s m args below meth c C H locs ls hr hS hh
  obtain ⟨hx, hb, hrt, hml, hown, hts, hlk, hnm, hK, hO, hc⟩ := id C
  obtain ⟨h1, h2⟩ := nx_dec hc hd
  have K := kk p e s m args below meth c C H locs ls hr hS hh
  rw [h2] at K
  exact lv_ldc2 hx hb hown (hts _ hq) h1 K
theorem ra_str (G : Gl) (i : Nat) : ra G (1000001 + i) = gK G i := by
  unfold ra
  rw [if_neg (by omega), if_neg (by omega), Nat.add_sub_cancel_left]
theorem ra_scr (G : Gl) : ra G 1000000 = (gS G).1 := by
  unfold ra
  rw [if_neg (by omega), if_pos rfl]
/-- a text's constant: the i-th of the ten words -/
theorem wp_ldcS {i j : Nat} {tx : String} (hd : nx Y k = some (pc, .ldc i, 2)) (hq : (Y.1, i, tx, j) ∈ STR) (kk : WP G Y R QQ N (k + 1) lv (.ref (1000001 + j) :: st) w) : WP G Y R QQ N k lv st w := by
  intro p e s m args below meth c C H locs ls hr hS hh
  obtain ⟨hx, hb, hrt, hml, hown, hts, hlk, hnm, hK, hO, hc⟩ := id C
  obtain ⟨h1, h2⟩ := nx_dec hc hd
  have K := kk p e s m args below meth c C H locs ls hr hS hh
  rw [h2] at K
  have hz := hO.2.2.2.1 _ hq
  rw [show (Value.ref (1000001 + j) :: st).map (rv G) = Value.ref (gK G j) :: st.map (rv G) by simp only [List.map_cons, rv, ra_str]] at K
  exact va_ldcS hx hb hown hz h1 K
/-- fields -/
theorem cell_obj {a ci : Nat} (h : lAt shL a = some (.inr ci)) : cellE G w a = .inr (ci, (List.range (NF ci)).map (fun k => fldV G w a k (kd (tyT ci k)))) := by
  unfold cellE
  rw [h]
theorem cell_arr {a t n : Nat} (h : lAt shL a = some (.inl (t, n))) : cellE G w a = .inl (gA G t, n, arrC G w a t) := by
  unfold cellE
  rw [h]
theorem fld_at {a ci f : Nat} (h : f < NF ci) : ((List.range (NF ci)).map (fun k => fldV G w a k (kd (tyT ci k))))[f]? = some (fldV G w a f (kd (tyT ci f))) := by
  rw [List.getElem?_map, List.getElem?_range h]
  rfl
theorem wp_get {a i ci f : Nat} {v : Value} (hd : nx Y k = some (pc, .getfield i, 3)) (hf : fl Y.1 i = some (ci, f)) (hs : shp N.1 a = some (.inr ci)) (hv : ∀ G, fldV G w a f (kd (tyT ci f)) = rv G v) (kk : WP G Y R QQ N (k + 1) lv (v :: st) w) : WP G Y R QQ N k lv (.ref a :: st) w := by
  intro p e s m args below meth c C H locs ls hr hS hh
  obtain ⟨hx, hb, hrt, hml, hown, hts, hlk, hnm, hK, hO, hc⟩ := id C
  obtain ⟨h1, h2⟩ := nx_dec hc hd
  obtain ⟨g1, g2, g3⟩ := fl_ok hf
  obtain ⟨s1, s2, s3⟩ := shp_spec hs
  have K := kk p e s m args below meth c C H locs ls hr hS hh
  rw [h2] at K
  have he := cells_at (G := G) (w := w) s1
  rw [cell_obj s2] at he
  show W _ _ _ _ _ _ _ _ _ _ _ _ _ _ _ (F0 m (pcO Y k) ls (.ref (ra G a) :: st.map (rv G)))
  rw [ra_w s3]
  refine va_get hx hb hts (lay_good ci g2) hown hK hr.2 a he (vwCl_at ci g2) f g3 (hts _ g1) (fun _ h => h) (fld_at g3) h1 ?_
  rw [hv G]
  exact K
theorem wp_geti {a i ci f : Nat} (hd : nx Y k = some (pc, .getfield i, 3)) (hf : fl Y.1 i = some (ci, f)) (hs : shp N.1 a = some (.inr ci)) (ht : kd (tyT ci f) = 0) (kk : WP G Y R QQ N (k + 1) lv (.int (w.1 a f) :: st) w) : WP G Y R QQ N k lv (.ref a :: st) w :=
  wp_get hd hf hs (fun G => by rw [ht]; rfl) kk
theorem wp_getl {a i ci f : Nat} (hd : nx Y k = some (pc, .getfield i, 3)) (hf : fl Y.1 i = some (ci, f)) (hs : shp N.1 a = some (.inr ci)) (ht : kd (tyT ci f) = 1) (kk : WP G Y R QQ N (k + 1) lv (.long (w.2.1 a f) :: st) w) : WP G Y R QQ N k lv (.ref a :: st) w :=
  wp_get hd hf hs (fun G => by rw [ht]; rfl) kk
theorem wp_getr {a i ci f b : Nat} (hd : nx Y k = some (pc, .getfield i, 3)) (hf : fl Y.1 i = some (ci, f)) (hs : shp N.1 a = some (.inr ci)) (ht : kd (tyT ci f) = 2) (hr : w.2.2 a f = some b) (kk : WP G Y R QQ N (k + 1) lv (.ref b :: st) w) : WP G Y R QQ N k lv (.ref a :: st) w :=
  wp_get hd hf hs (fun G => by rw [ht]; show va_rf _ = _; rw [hr]; rfl) kk
theorem fld_set {w w' : mW} {a ci f : Nat} {v : Value} (h1 : fldV G w' a f (kd (tyT ci f)) = v) (h2 : ∀ j, j ≠ f → fldV G w' a j (kd (tyT ci j)) = fldV G w a j (kd (tyT ci j))) : ((List.range (NF ci)).map (fun k => fldV G w a k (kd (tyT ci k)))).set f v = (List.range (NF ci)).map (fun k => fldV G w' a k (kd (tyT ci k))) := by
  apply List.ext_getElem?
  intro j
  by_cases hj : j < NF ci
  · rw [fld_at hj]
    by_cases hi : j = f
    · subst hi
      rw [List.getElem?_set_self (by simpa using hj), h1]
    · rw [List.getElem?_set_ne (Ne.symm hi), fld_at hj, h2 j hi]
  · rw [List.getElem?_eq_none (by simpa using Nat.le_of_not_lt hj), List.getElem?_eq_none (by simpa using Nat.le_of_not_lt hj)]
/-- a store into a field: the new world w' -/
theorem wp_put {a i ci f : Nat} {v : Value} {w' : mW} (hd : nx Y k = some (pc, .putfield i, 3)) (hf : fl Y.1 i = some (ci, f)) (hs : shp N.1 a = some (.inr ci)) (hfin : (TT ci f).2.2.2 = false ∨ ((TT ci f).2.2.2 = true ∧ Y.2.1.name = "<init>" ∧ (TT ci f).1 = RN Y.1))
    (hn : narrow (tyT ci f) (rv G v) = rv G v) (hfit : fits (tyT ci f) (rv G v) = true)
    (hv : fldV G w' a f (kd (tyT ci f)) = rv G v) (ho : ∀ j, j ≠ f → fldV G w' a j (kd (tyT ci j)) = fldV G w a j (kd (tyT ci j))) (hoo : ∀ j, j ≠ a → cellE G w' j = cellE G w j)
    (kk : WP G Y R QQ N (k + 1) lv st w') : WP G Y R QQ N k lv (v :: .ref a :: st) w := by
  intro p e s m args below meth c C H locs ls hr hS hh
  obtain ⟨hx, hb, hrt, hml, hown, hts, hlk, hnm, hK, hO, hc⟩ := id C
  obtain ⟨h1, h2⟩ := nx_dec hc hd
  obtain ⟨g1, g2, g3⟩ := fl_ok hf
  obtain ⟨s1, s2, s3⟩ := shp_spec hs
  have he := cells_at (G := G) (w := w) s1
  rw [cell_obj s2] at he
  show W _ _ _ _ _ _ _ _ _ _ _ _ _ _ _ (F0 m (pcO Y k) ls (rv G v :: .ref (ra G a) :: st.map (rv G)))
  rw [ra_w s3]
  have key : ∀ (H1 : Heap) (locs1 : List Loc), va_P (gD G) vwCl ((cellsE G N.1 w).set a (gb G + a, .inr (ci, ((List.range (NF ci)).map (fun k => fldV G w a k (kd (tyT ci k)))).set f (rv G v)))) H1 → H1.size = H.size → va_S (gX G) s.heap H1 locs1 → W p G.1 e R s m args below meth c H1 locs1 N.2.1 N.2.2 (QQ below args s) (F0 m (pcO Y k + 3) ls (st.map (rv G))) := by
    intro H1 locs1 hP1 hz hS1
    rw [fld_set hv ho] at hP1
    rw [cells_set (w' := w') (by rw [cell_obj s2]) hoo] at hP1
    have K := kk p e s m args below meth c C H1 locs1 ls ⟨hz.trans hr.1, hP1⟩ hS1 hh
    rw [h2] at K
    exact K
  have hap := va_apart (own := RN Y.1) hts (lay_good ci g2) (tyT ci) (ty_all ci g2) (nm_all ci g2) hK (vwCl_at ci g2)
  obtain ⟨r, hr1, cell, q1, q2, q3, q4⟩ := hr.2 a _ he
  have hre : r = (RN ci, TT ci, NF ci) := Option.some.inj (hr1.symm.trans (vwCl_at ci g2))
  subst hre
  obtain ⟨hSl, hfc, kC, hkC, hkind⟩ := hK.1 ci _ (vwCl_at ci g2)
  obtain ⟨cf, kf, fi, fd, hi, hsl⟩ := hSl f g3
  have hlay := hts _ (lay_good ci g2 _ (u_in_lay g3))
  have hst := (u_facts hfc hkC (u_lays hts (lay_good ci g2) g3) hi).1
  have hlen : f < ((List.range (NF ci)).map (fun k => fldV G w a k (kd (tyT ci k)))).length := by simpa using g3
  unfold u_lay at hlay
  rcases hfin with hfin | ⟨hfin, hin2, hdecl⟩
  · rw [if_neg (by rw [hfin]; decide)] at hlay
    have h6 := u_store hfc hkC hkind hlay hi (ty_all ci g2 f g3) hn hfit
    refine W.putK hx hb (f := fd) ⟨hown, hts _ g1, ⟨_, _, _, hi⟩, hst⟩ (by rw [q2]; exact h6) q1 q3 (by rw [hsl]; exact k2_hasslot (q4 f g3)) rfl rfl h1 fun H' e1 e2 e3 => ?_
    rw [hsl] at e1 ⊢
    exact key H' _ (hr.2.set cells_D he ⟨_, vwCl_at ci g2, t_OB.to (V := updV (vp_V ((List.range (NF ci)).map (fun k => fldV G w a k (kd (tyT ci k))))) f (rv G v)) ⟨_, e1, q2, q3, t_set q4 hap g3 (rv G v)⟩ (fun j _ => vp_updV_set hlen (rv G v) j)⟩ e3) e2 (hS.put e2 e3 (cells_D.2 a _ he))
  · rw [if_pos hfin] at hlay
    have hcf : m.cls = cf := by
      obtain ⟨_, _, c', _, _, _, -, -, hf', -, -, -, hown2, -⟩ := Cond.laysFinal_spec hlay
      have e1 : c' = cf := by have := hi.symm.trans hf'; simp at this; exact this.1.symm
      rw [hdecl] at hown2
      rw [← e1]; exact Option.some.inj (hown.symm.trans hown2)
    have h6 := u_fits hfc hkC hkind (Or.inr hlay) hi (ty_all ci g2 f g3) hn hfit
    refine W.putFinK hx hb hown (hts _ g1) hi hst hcf (hnm.trans hin2) (by rw [q2]; exact h6) q1 q3 (by rw [hsl]; exact k2_hasslot (q4 f g3)) rfl rfl h1 fun H' e1 e2 e3 => ?_
    rw [hsl] at e1 ⊢
    exact key H' _ (hr.2.set cells_D he ⟨_, vwCl_at ci g2, t_OB.to (V := updV (vp_V ((List.range (NF ci)).map (fun k => fldV G w a k (kd (tyT ci k))))) f (rv G v)) ⟨_, e1, q2, q3, t_set q4 hap g3 (rv G v)⟩ (fun j _ => vp_updV_set hlen (rv G v) j)⟩ e3) e2 (hS.put e2 e3 (cells_D.2 a _ he))
theorem fld_o {w w' : mW} {a k t : Nat} (h1 : w'.1 a k = w.1 a k) (h2 : w'.2.1 a k = w.2.1 a k) (h3 : w'.2.2 a k = w.2.2 a k) : fldV G w' a k t = fldV G w a k t := by
  unfold fldV
  rw [h1, h2, h3]
theorem wp_puti {a i ci f : Nat} {v : Int32} (hd : nx Y k = some (pc, .putfield i, 3)) (hf : fl Y.1 i = some (ci, f)) (hs : shp N.1 a = some (.inr ci)) (hfin : (TT ci f).2.2.2 = false ∨ ((TT ci f).2.2.2 = true ∧ Y.2.1.name = "<init>" ∧ (TT ci f).1 = RN Y.1)) (ht : tyT ci f = .int)
    (kk : WP G Y R QQ N (k + 1) lv st (sI w a f v)) : WP G Y R QQ N k lv (.int v :: .ref a :: st) w :=
  wp_put (w' := sI w a f v) hd hf hs hfin (by rw [ht]; rfl) (by rw [ht]; rfl) (by rw [ht]; simp [fldV, kd, sI, rv]) (fun j hj => fld_o (by simp [sI, hj]) rfl rfl) (fun j hj => cell_other (sI_o hj) rfl rfl) kk
theorem wp_putz {a i ci f : Nat} {v : Int32} (hd : nx Y k = some (pc, .putfield i, 3)) (hf : fl Y.1 i = some (ci, f)) (hs : shp N.1 a = some (.inr ci)) (hfin : (TT ci f).2.2.2 = false ∨ ((TT ci f).2.2.2 = true ∧ Y.2.1.name = "<init>" ∧ (TT ci f).1 = RN Y.1)) (ht : tyT ci f = .boolean) (hv : v = 0 ∨ v = 1)
    (kk : WP G Y R QQ N (k + 1) lv st (sI w a f v)) : WP G Y R QQ N k lv (.int v :: .ref a :: st) w :=
  wp_put (w' := sI w a f v) hd hf hs hfin (by rw [ht]; rcases hv with rfl | rfl <;> rfl) (by rw [ht]; rcases hv with rfl | rfl <;> rfl) (by rw [ht]; simp [fldV, kd, sI, rv]) (fun j hj => fld_o (by simp [sI, hj]) rfl rfl) (fun j hj => cell_other (sI_o hj) rfl rfl) kk
theorem wp_putl {a i ci f : Nat} {v : Int64} (hd : nx Y k = some (pc, .putfield i, 3)) (hf : fl Y.1 i = some (ci, f)) (hs : shp N.1 a = some (.inr ci)) (hfin : (TT ci f).2.2.2 = false ∨ ((TT ci f).2.2.2 = true ∧ Y.2.1.name = "<init>" ∧ (TT ci f).1 = RN Y.1)) (ht : tyT ci f = .long)
    (kk : WP G Y R QQ N (k + 1) lv st (sL w a f v)) : WP G Y R QQ N k lv (.long v :: .ref a :: st) w :=
  wp_put (w' := sL w a f v) hd hf hs hfin (by rw [ht]; rfl) (by rw [ht]; rfl) (by rw [ht]; simp [fldV, kd, sL, rv]) (fun j hj => fld_o rfl (by simp [sL, hj]) rfl) (fun j hj => cell_other rfl (sL_o hj) rfl) kk
theorem wp_putr {a i ci f b : Nat} (hd : nx Y k = some (pc, .putfield i, 3)) (hf : fl Y.1 i = some (ci, f)) (hs : shp N.1 a = some (.inr ci)) (hfin : (TT ci f).2.2.2 = false ∨ ((TT ci f).2.2.2 = true ∧ Y.2.1.name = "<init>" ∧ (TT ci f).1 = RN Y.1)) (ht : kd (tyT ci f) = 2)
    (kk : WP G Y R QQ N (k + 1) lv st (sR w a f (some b))) : WP G Y R QQ N k lv (.ref b :: .ref a :: st) w := by
  have hn : narrow (tyT ci f) (.ref (ra G b)) = .ref (ra G b) ∧ fits (tyT ci f) (.ref (ra G b)) = true := by
    cases hty : tyT ci f <;> simp [hty, kd] at ht <;> exact ⟨rfl, rfl⟩
  exact wp_put (w' := sR w a f (some b)) hd hf hs hfin hn.1 hn.2 (by rw [ht]; simp [fldV, sR, rv, va_rf]) (fun j hj => fld_o rfl rfl (by simp [sR, hj])) (fun j hj => cell_other rfl rfl (sR_o hj)) kk
/-- arrays -/
theorem arr_at {n a t len : Nat} (h : shp n a = some (.inl (t, len))) : (cellsE G n w)[a]? = some (gb G + a, .inl (gA G t, len, arrC G w a t)) ∧ ra G a = gb G + a := by
  obtain ⟨s1, s2, s3⟩ := shp_spec h
  rw [cells_at s1, cell_arr s2]
  exact ⟨rfl, ra_w s3⟩
theorem wp_iald {a len : Nat} {i : Int32} (hd : nx Y k = some (pc, .iaload, 1)) (hs : shp N.1 a = some (.inl (0, len))) (hi : vp_in i len) (kk : WP G Y R QQ N (k + 1) lv (.int (w.1 a i.toNatClampNeg) :: st) w) : WP G Y R QQ N k lv (.int i :: .ref a :: st) w := by
  intro p e s m args below meth c C H locs ls hr hS hh
  obtain ⟨hx, hb, hrt, hml, hown, hts, hlk, hnm, hK, hO, hc⟩ := id C
  obtain ⟨h1, h2⟩ := nx_dec hc hd
  obtain ⟨a1, a2⟩ := arr_at (G := G) (w := w) hs
  have K := kk p e s m args below meth c C H locs ls hr hS hh
  rw [h2] at K
  show W _ _ _ _ _ _ _ _ _ _ _ _ _ _ _ (F0 m (pcO Y k) ls (.int i :: .ref (ra G a) :: st.map (rv G)))
  rw [a2]
  exact va_iald hx hb hK hr.2 a 0 a1 rfl hi h1 K
theorem wp_bald {a len : Nat} {i : Int32} (hd : nx Y k = some (pc, .baload, 1)) (hs : shp N.1 a = some (.inl (1, len))) (hi : vp_in i len) (kk : WP G Y R QQ N (k + 1) lv (.int (w.1 a i.toNatClampNeg) :: st) w) : WP G Y R QQ N k lv (.int i :: .ref a :: st) w := by
  intro p e s m args below meth c C H locs ls hr hS hh
  obtain ⟨hx, hb, hrt, hml, hown, hts, hlk, hnm, hK, hO, hc⟩ := id C
  obtain ⟨h1, h2⟩ := nx_dec hc hd
  obtain ⟨a1, a2⟩ := arr_at (G := G) (w := w) hs
  have K := kk p e s m args below meth c C H locs ls hr hS hh
  rw [h2] at K
  show W _ _ _ _ _ _ _ _ _ _ _ _ _ _ _ (F0 m (pcO Y k) ls (.int i :: .ref (ra G a) :: st.map (rv G)))
  rw [a2]
  exact va_bald hx hb hK hr.2 a 1 a1 rfl hi h1 K
theorem wp_zald {a len : Nat} {i : Int32} (hd : nx Y k = some (pc, .baload, 1)) (hs : shp N.1 a = some (.inl (2, len))) (hi : vp_in i len) (kk : WP G Y R QQ N (k + 1) lv (.int (w.1 a i.toNatClampNeg) :: st) w) : WP G Y R QQ N k lv (.int i :: .ref a :: st) w := by
  intro p e s m args below meth c C H locs ls hr hS hh
  obtain ⟨hx, hb, hrt, hml, hown, hts, hlk, hnm, hK, hO, hc⟩ := id C
  obtain ⟨h1, h2⟩ := nx_dec hc hd
  obtain ⟨a1, a2⟩ := arr_at (G := G) (w := w) hs
  have K := kk p e s m args below meth c C H locs ls hr hS hh
  rw [h2] at K
  show W _ _ _ _ _ _ _ _ _ _ _ _ _ _ _ (F0 m (pcO Y k) ls (.int i :: .ref (ra G a) :: st.map (rv G)))
  rw [a2]
  exact va_zald hx hb hK hr.2 a 2 a1 rfl hi h1 K
theorem wp_lald {a len : Nat} {i : Int32} (hd : nx Y k = some (pc, .laload, 1)) (hs : shp N.1 a = some (.inl (3, len))) (hi : vp_in i len) (kk : WP G Y R QQ N (k + 1) lv (.long (w.2.1 a i.toNatClampNeg) :: st) w) : WP G Y R QQ N k lv (.int i :: .ref a :: st) w := by
  intro p e s m args below meth c C H locs ls hr hS hh
  obtain ⟨hx, hb, hrt, hml, hown, hts, hlk, hnm, hK, hO, hc⟩ := id C
  obtain ⟨h1, h2⟩ := nx_dec hc hd
  obtain ⟨a1, a2⟩ := arr_at (G := G) (w := w) hs
  have K := kk p e s m args below meth c C H locs ls hr hS hh
  rw [h2] at K
  show W _ _ _ _ _ _ _ _ _ _ _ _ _ _ _ (F0 m (pcO Y k) ls (.int i :: .ref (ra G a) :: st.map (rv G)))
  rw [a2]
  exact va_lald hx hb hK hr.2 a 3 a1 rfl hi h1 K
theorem wp_aald {a len t b : Nat} {i : Int32} (hd : nx Y k = some (pc, .aaload, 1)) (hs : shp N.1 a = some (.inl (t, len))) (ht : t = 4 ∨ t = 5 ∨ t = 6) (hi : vp_in i len) (hb2 : w.2.2 a i.toNatClampNeg = some b) (kk : WP G Y R QQ N (k + 1) lv (.ref b :: st) w) : WP G Y R QQ N k lv (.int i :: .ref a :: st) w := by
  intro p e s m args below meth c C H locs ls hr hS hh
  obtain ⟨hx, hb, hrt, hml, hown, hts, hlk, hnm, hK, hO, hc⟩ := id C
  obtain ⟨h1, h2⟩ := nx_dec hc hd
  obtain ⟨a1, a2⟩ := arr_at (G := G) (w := w) hs
  have K := kk p e s m args below meth c C H locs ls hr hS hh
  rw [h2] at K
  show W _ _ _ _ _ _ _ _ _ _ _ _ _ _ _ (F0 m (pcO Y k) ls (.int i :: .ref (ra G a) :: st.map (rv G)))
  rw [a2]
  have e1 : va_rf ((w.2.2 a i.toNatClampNeg).map (ra G)) = rv G (.ref b) := by rw [hb2]; rfl
  rcases ht with rfl | rfl | rfl
  · exact va_aldq (f := fun k => (w.2.2 a k).map (ra G)) hx hb hK hr.2 a 4 a1 rfl hi h1 (by rw [e1]; exact K)
  · exact va_aldq (f := fun k => (w.2.2 a k).map (ra G)) hx hb hK hr.2 a 5 a1 rfl hi h1 (by rw [e1]; exact K)
  · exact va_aldq (f := fun k => (w.2.2 a k).map (ra G)) hx hb hK hr.2 a 6 a1 rfl hi h1 (by rw [e1]; exact K)
theorem wp_alen {a t len : Nat} {v : Int32} (hd : nx Y k = some (pc, .arraylength, 1)) (hs : shp N.1 a = some (.inl (t, len))) (ht : t < 7) (hv : Int32.ofNat len = v) (kk : WP G Y R QQ N (k + 1) lv (.int v :: st) w) : WP G Y R QQ N k lv (.ref a :: st) w := by
  intro p e s m args below meth c C H locs ls hr hS hh
  obtain ⟨hx, hb, hrt, hml, hown, hts, hlk, hnm, hK, hO, hc⟩ := id C
  obtain ⟨h1, h2⟩ := nx_dec hc hd
  obtain ⟨a1, a2⟩ := arr_at (G := G) (w := w) hs
  have K := kk p e s m args below meth c C H locs ls hr hS hh
  rw [h2] at K
  show W _ _ _ _ _ _ _ _ _ _ _ _ _ _ _ (F0 m (pcO Y k) ls (.ref (ra G a) :: st.map (rv G)))
  rw [a2]
  obtain ⟨ty, hty⟩ : ∃ ty, (gT G)[t]? = some (gA G t, ty) := by
    match t, ht with
    | 0, _ => exact ⟨_, rfl⟩
    | 1, _ => exact ⟨_, rfl⟩
    | 2, _ => exact ⟨_, rfl⟩
    | 3, _ => exact ⟨_, rfl⟩
    | 4, _ => exact ⟨_, rfl⟩
    | 5, _ => exact ⟨_, rfl⟩
    | 6, _ => exact ⟨_, rfl⟩
    | n + 7, h => exact absurd h (by omega)
  exact va_alen hx hb hK hr.2 a t a1 hty hv h1 K
theorem wp_sld {i : Int32} (hd : nx Y k = some (pc, .iaload, 1)) (hi : vp_in i (gS G).2.1) (kk : WP G Y R QQ N (k + 1) lv (.int ((gS G).2.2 i.toNatClampNeg) :: st) w) : WP G Y R QQ N k lv (.int i :: .ref 1000000 :: st) w := by
  intro p e s m args below meth c C H locs ls hr hS hh
  obtain ⟨hx, hb, hrt, hml, hown, hts, hlk, hnm, hK, hO, hc⟩ := id C
  obtain ⟨h1, h2⟩ := nx_dec hc hd
  have K := kk p e s m args below meth c C H locs ls hr hS hh
  rw [h2] at K
  show W _ _ _ _ _ _ _ _ _ _ _ _ _ _ _ (F0 m (pcO Y k) ls (.int i :: .ref (ra G 1000000) :: st.map (rv G)))
  rw [ra_scr]
  exact va_sld hx hb hO.1.1 (Nat.lt_of_lt_of_le hO.1.2 hO.2.1) (Nat.not_le.mpr hO.1.2) hS hi h1 K
theorem wp_slen (hd : nx Y k = some (pc, .arraylength, 1)) (kk : WP G Y R QQ N (k + 1) lv (.int (Int32.ofNat (gS G).2.1) :: st) w) : WP G Y R QQ N k lv (.ref 1000000 :: st) w := by
  intro p e s m args below meth c C H locs ls hr hS hh
  obtain ⟨hx, hb, hrt, hml, hown, hts, hlk, hnm, hK, hO, hc⟩ := id C
  obtain ⟨h1, h2⟩ := nx_dec hc hd
  have K := kk p e s m args below meth c C H locs ls hr hS hh
  rw [h2] at K
  show W _ _ _ _ _ _ _ _ _ _ _ _ _ _ _ (F0 m (pcO Y k) ls (.ref (ra G 1000000) :: st.map (rv G)))
  rw [ra_scr]
  exact va_slen hx hb hO.1.1 (Nat.lt_of_lt_of_le hO.1.2 hO.2.1) (Nat.not_le.mpr hO.1.2) hS h1 K
theorem rep_set {n : Nat} {w w' : mW} {H H1 : Heap} {a : Nat} {e0 e1 : va_E} (hr : rep G n w H) (ha : (cellsE G n w)[a]? = some (gb G + a, e0)) (he : va_at (gD G) vwCl (gb G + a, e1) H1) (z : H1.size = H.size) (oq : ∀ q : Nat, q ≠ gb G + a → H1[q]? = H[q]?) (hc : cellE G w' a = e1) (ho : ∀ j, j ≠ a → cellE G w' j = cellE G w j) : rep G n w' H1 := by
  refine ⟨z.trans hr.1, ?_⟩
  have h := hr.2.set cells_D ha he oq
  rw [cells_set hc ho] at h
  exact h
theorem set_i (cA : ClassId) (n j : Nat) (f : Nat → Int32) (x : Int32) : (vp_cell cA (n, .inl f)).setSlot j (.int x) = vp_cell cA (n, .inl (upd f j x)) := by
  rw [vp_cell_i, vp_cell_i, arrV_store]
  congr 1
  funext q
  by_cases hq : q = j
  · subst hq; simp [updV, upd]
  · simp [updV, upd, hq]
theorem set_l (cA : ClassId) (n j : Nat) (f : Nat → Int64) (x : Int64) : (vp_cell cA (n, .inr (.inl f))).setSlot j (.long x) = vp_cell cA (n, .inr (.inl (vp_updL f j x))) := by
  rw [vp_cell_l, vp_cell_l, arrV_store]
  congr 1
  funext q
  by_cases hq : q = j
  · subst hq; simp [updV, vp_updL]
  · simp [updV, vp_updL, hq]
theorem set_q (cA : ClassId) (n j v : Nat) (f : Nat → Option Nat) : (vp_cell cA (n, .inr (.inr (.inr (.inr f))))).setSlot j (.ref v) = vp_cell cA (n, .inr (.inr (.inr (.inr (va_up f j (some v)))))) := by
  rw [vp_cell_q, vp_cell_q, arrV_store]
  congr 1
  funext q
  by_cases hq : q = j
  · subst hq; simp [updV, va_up, va_rf]
  · simp [updV, va_up, hq]
theorem wp_iast {a len : Nat} {i : Int32} {x : Int32} (hd : nx Y k = some (pc, .iastore, 1)) (hs : shp N.1 a = some (.inl (0, len))) (hi : vp_in i len) (kk : WP G Y R QQ N (k + 1) lv st (sI w a i.toNatClampNeg (x))) : WP G Y R QQ N k lv (.int x :: .int i :: .ref a :: st) w := by
  intro p e s m args below meth c C H locs ls hr hS hh
  obtain ⟨hx, hb, hrt, hml, hown, hts, hlk, hnm, hK, hO, hc⟩ := id C
  obtain ⟨h1, h2⟩ := nx_dec hc hd
  obtain ⟨a1, a2⟩ := arr_at (G := G) (w := w) hs
  obtain ⟨s1, s2, s3⟩ := shp_spec hs
  show W _ _ _ _ _ _ _ _ _ _ _ _ _ _ _ (F0 m (pcO Y k) ls (.int x :: .int i :: .ref (ra G a) :: st.map (rv G)))
  rw [a2]
  refine W.iast hx hb (hr.2 a _ a1) ((hK.2 0 _ rfl).1 len (fun j => .int (w.1 a j))) (fun q => by cases q) (by show ¬ (i < 0 ∨ (arrV _ _ _).slots.size ≤ _); rw [arrV_size]; exact hi) rfl rfl h1 fun H1 e1 z oq => ?_
  have hfn : (sI w a i.toNatClampNeg (x)).1 a = upd (w.1 a) i.toNatClampNeg (x) := by
    funext q
    simp [sI, upd]
  have hr1 : rep G N.1 (sI w a i.toNatClampNeg (x)) H1 := by
    refine rep_set (e1 := .inl (gA G 0, len, .inl (upd (w.1 a) i.toNatClampNeg (x)))) hr a1 ?_ z oq ?_ (fun j hj => cell_other (sI_o hj) rfl rfl)
    · show H1[gb G + a]? = some (vp_cell _ _)
      rw [e1]
      exact congrArg some (set_i (gA G 0) len i.toNatClampNeg (w.1 a) (x))
    · rw [cell_arr s2, ← hfn]
      rfl
  have K := kk p e s m args below meth c C H1 _ ls hr1 (hS.put (k := i.toNatClampNeg) z oq (cells_D.2 a _ a1)) hh
  rw [h2] at K
  exact K
theorem wp_bast {a len : Nat} {i : Int32} {x : Int32} (hd : nx Y k = some (pc, .bastore, 1)) (hs : shp N.1 a = some (.inl (1, len))) (hi : vp_in i len) (kk : WP G Y R QQ N (k + 1) lv st (sI w a i.toNatClampNeg (vp_nar .byte x))) : WP G Y R QQ N k lv (.int x :: .int i :: .ref a :: st) w := by
  intro p e s m args below meth c C H locs ls hr hS hh
  obtain ⟨hx, hb, hrt, hml, hown, hts, hlk, hnm, hK, hO, hc⟩ := id C
  obtain ⟨h1, h2⟩ := nx_dec hc hd
  obtain ⟨a1, a2⟩ := arr_at (G := G) (w := w) hs
  obtain ⟨s1, s2, s3⟩ := shp_spec hs
  show W _ _ _ _ _ _ _ _ _ _ _ _ _ _ _ (F0 m (pcO Y k) ls (.int x :: .int i :: .ref (ra G a) :: st.map (rv G)))
  rw [a2]
  refine W.bast hx hb (hr.2 a _ a1) ((hK.2 1 _ rfl).1 len (fun j => .int (w.1 a j))) (fun q => by cases q) (by show ¬ (i < 0 ∨ (arrV _ _ _).slots.size ≤ _); rw [arrV_size]; exact hi) rfl rfl h1 fun H1 e1 z oq => ?_
  have hfn : (sI w a i.toNatClampNeg (vp_nar .byte x)).1 a = upd (w.1 a) i.toNatClampNeg (vp_nar .byte x) := by
    funext q
    simp [sI, upd]
  have hr1 : rep G N.1 (sI w a i.toNatClampNeg (vp_nar .byte x)) H1 := by
    refine rep_set (e1 := .inl (gA G 1, len, .inl (upd (w.1 a) i.toNatClampNeg (vp_nar .byte x)))) hr a1 ?_ z oq ?_ (fun j hj => cell_other (sI_o hj) rfl rfl)
    · show H1[gb G + a]? = some (vp_cell _ _)
      rw [e1]
      exact congrArg some (set_i (gA G 1) len i.toNatClampNeg (w.1 a) (vp_nar .byte x))
    · rw [cell_arr s2, ← hfn]
      rfl
  have K := kk p e s m args below meth c C H1 _ ls hr1 (hS.put (k := i.toNatClampNeg) z oq (cells_D.2 a _ a1)) hh
  rw [h2] at K
  exact K
theorem wp_zast {a len : Nat} {i : Int32} {x : Int32} (hd : nx Y k = some (pc, .bastore, 1)) (hs : shp N.1 a = some (.inl (2, len))) (hi : vp_in i len) (kk : WP G Y R QQ N (k + 1) lv st (sI w a i.toNatClampNeg (vp_nar .boolean x))) : WP G Y R QQ N k lv (.int x :: .int i :: .ref a :: st) w := by
  intro p e s m args below meth c C H locs ls hr hS hh
  obtain ⟨hx, hb, hrt, hml, hown, hts, hlk, hnm, hK, hO, hc⟩ := id C
  obtain ⟨h1, h2⟩ := nx_dec hc hd
  obtain ⟨a1, a2⟩ := arr_at (G := G) (w := w) hs
  obtain ⟨s1, s2, s3⟩ := shp_spec hs
  show W _ _ _ _ _ _ _ _ _ _ _ _ _ _ _ (F0 m (pcO Y k) ls (.int x :: .int i :: .ref (ra G a) :: st.map (rv G)))
  rw [a2]
  refine W.zast hx hb (hr.2 a _ a1) ((hK.2 2 _ rfl).1 len (fun j => .int (w.1 a j))) (fun q => by cases q) (by show ¬ (i < 0 ∨ (arrV _ _ _).slots.size ≤ _); rw [arrV_size]; exact hi) rfl rfl h1 fun H1 e1 z oq => ?_
  have hfn : (sI w a i.toNatClampNeg (vp_nar .boolean x)).1 a = upd (w.1 a) i.toNatClampNeg (vp_nar .boolean x) := by
    funext q
    simp [sI, upd]
  have hr1 : rep G N.1 (sI w a i.toNatClampNeg (vp_nar .boolean x)) H1 := by
    refine rep_set (e1 := .inl (gA G 2, len, .inl (upd (w.1 a) i.toNatClampNeg (vp_nar .boolean x)))) hr a1 ?_ z oq ?_ (fun j hj => cell_other (sI_o hj) rfl rfl)
    · show H1[gb G + a]? = some (vp_cell _ _)
      rw [e1]
      exact congrArg some (set_i (gA G 2) len i.toNatClampNeg (w.1 a) (vp_nar .boolean x))
    · rw [cell_arr s2, ← hfn]
      rfl
  have K := kk p e s m args below meth c C H1 _ ls hr1 (hS.put (k := i.toNatClampNeg) z oq (cells_D.2 a _ a1)) hh
  rw [h2] at K
  exact K
theorem wp_last {a len : Nat} {i : Int32} {x : Int64} (hd : nx Y k = some (pc, .lastore, 1)) (hs : shp N.1 a = some (.inl (3, len))) (hi : vp_in i len) (kk : WP G Y R QQ N (k + 1) lv st (sL w a i.toNatClampNeg (x))) : WP G Y R QQ N k lv (.long x :: .int i :: .ref a :: st) w := by
  intro p e s m args below meth c C H locs ls hr hS hh
  obtain ⟨hx, hb, hrt, hml, hown, hts, hlk, hnm, hK, hO, hc⟩ := id C
  obtain ⟨h1, h2⟩ := nx_dec hc hd
  obtain ⟨a1, a2⟩ := arr_at (G := G) (w := w) hs
  obtain ⟨s1, s2, s3⟩ := shp_spec hs
  show W _ _ _ _ _ _ _ _ _ _ _ _ _ _ _ (F0 m (pcO Y k) ls (.long x :: .int i :: .ref (ra G a) :: st.map (rv G)))
  rw [a2]
  refine W.last hx hb (hr.2 a _ a1) ((hK.2 3 _ rfl).1 len (fun j => .long (w.2.1 a j))) (fun q => by cases q) (by show ¬ (i < 0 ∨ (arrV _ _ _).slots.size ≤ _); rw [arrV_size]; exact hi) rfl rfl h1 fun H1 e1 z oq => ?_
  have hfn : (sL w a i.toNatClampNeg (x)).2.1 a = vp_updL (w.2.1 a) i.toNatClampNeg (x) := by
    funext q
    simp [sL, vp_updL]
  have hr1 : rep G N.1 (sL w a i.toNatClampNeg (x)) H1 := by
    refine rep_set (e1 := .inl (gA G 3, len, .inr (.inl (vp_updL (w.2.1 a) i.toNatClampNeg (x))))) hr a1 ?_ z oq ?_ (fun j hj => cell_other rfl (sL_o hj) rfl)
    · show H1[gb G + a]? = some (vp_cell _ _)
      rw [e1]
      exact congrArg some (set_l (gA G 3) len i.toNatClampNeg (w.2.1 a) (x))
    · rw [cell_arr s2, ← hfn]
      rfl
  have K := kk p e s m args below meth c C H1 _ ls hr1 (hS.put (k := i.toNatClampNeg) z oq (cells_D.2 a _ a1)) hh
  rw [h2] at K
  exact K
/-- a store of a reference into an array of references -/
theorem wp_aast {a len t b ci : Nat} {i : Int32} (hd : nx Y k = some (pc, .aastore, 1)) (hs : shp N.1 a = some (.inl (t, len))) (ht : (t = 4 ∧ ci = 4) ∨ (t = 5 ∧ ci = 0) ∨ (t = 6 ∧ ci = 6)) (hsb : shp N.1 b = some (.inr ci)) (hi : vp_in i len) (kk : WP G Y R QQ N (k + 1) lv st (sR w a i.toNatClampNeg (some b))) : WP G Y R QQ N k lv (.ref b :: .int i :: .ref a :: st) w := by
  intro p e s m args below meth c C H locs ls hr hS hh
  obtain ⟨hx, hb, hrt, hml, hown, hts, hlk, hnm, hK, hO, hc⟩ := id C
  obtain ⟨h1, h2⟩ := nx_dec hc hd
  obtain ⟨a1, a2⟩ := arr_at (G := G) (w := w) hs
  obtain ⟨s1, s2, s3⟩ := shp_spec hs
  obtain ⟨t1, t2, t3⟩ := shp_spec hsb
  have hv := cells_at (G := G) (w := w) t1
  rw [cell_obj t2] at hv
  show W _ _ _ _ _ _ _ _ _ _ _ _ _ _ _ (F0 m (pcO Y k) ls (.ref (ra G b) :: .int i :: .ref (ra G a) :: st.map (rv G)))
  rw [a2, ra_w t3]
  have e1 : ∀ q : Nat, ((sR w a i.toNatClampNeg (some b)).2.2 a q).map (ra G) = va_up (fun k => (w.2.2 a k).map (ra G)) i.toNatClampNeg (some (gb G + b)) q := by
    intro q
    by_cases hq : q = i.toNatClampNeg
    · subst hq; simp [sR, va_up, ra_w t3]
    · simp [sR, va_up, hq]
  obtain ⟨r', hr', cellV, g1, g2, g3, -⟩ := hr.2 b _ hv
  have h0 : ¬ i < 0 := fun q => hi (Or.inl q)
  have hlt : i.toNatClampNeg < len := Nat.not_le.mp fun q => hi (Or.inr q)
  have hci : ci < 12 := by rcases ht with ⟨-, rfl⟩ | ⟨-, rfl⟩ | ⟨-, rfl⟩ <;> omega
  have hcls := (hK.1 ci _ (vwCl_at ci hci)).2
  obtain ⟨hty, harr⟩ : (gT G)[t]? = some (gA G t, .object (RN ci)) ∧ arrC G w a t = .inr (.inr (.inr (.inr (fun k => (w.2.2 a k).map (ra G))))) := by
    rcases ht with ⟨rfl, rfl⟩ | ⟨rfl, rfl⟩ | ⟨rfl, rfl⟩ <;> exact ⟨rfl, rfl⟩
  have harr2 : ∀ w2 : mW, arrC G w2 a t = .inr (.inr (.inr (.inr (fun k => (w2.2.2 a k).map (ra G))))) := by
    intro w2
    rcases ht with ⟨rfl, rfl⟩ | ⟨rfl, rfl⟩ | ⟨rfl, rfl⟩ <;> rfl
  rw [harr] at a1
  obtain ⟨kA, comp, k1, k2, k3, -⟩ := (hK.2 t _ hty).2
  have hcomp : comp = (gD G).1 ci := Option.some.inj (k3.symm.trans hcls.1)
  subst hcomp
  obtain ⟨kC, hkC, -⟩ := hcls.2
  refine W.aast hx hb (hr.2 a _ a1) (fun q h => by cases h) (fun h => by cases h) k1 k2 rfl hkC ⟨h0, by show _ < (arrV _ _ _).slots.size; rw [arrV_size]; exact hlt⟩ g1 (fun q h => by rw [g3] at h; cases h) (by rw [g2]; exact hkC) (by rw [g2]; exact va_assign hcls) rfl rfl h1 fun H1 e2 z oq => ?_
  have hr1 : rep G N.1 (sR w a i.toNatClampNeg (some b)) H1 := by
    refine rep_set (e1 := .inl (gA G t, len, .inr (.inr (.inr (.inr (va_up (fun k => (w.2.2 a k).map (ra G)) i.toNatClampNeg (some (gb G + b)))))))) hr a1 ?_ z oq ?_ (fun j hj => cell_other rfl rfl (sR_o hj))
    · show H1[gb G + a]? = some (vp_cell _ _)
      rw [e2]
      exact congrArg some (set_q _ _ _ _ _)
    · rw [cell_arr s2, harr2, show (fun q : Nat => ((sR w a i.toNatClampNeg (some b)).2.2 a q).map (ra G)) = va_up (fun k => (w.2.2 a k).map (ra G)) i.toNatClampNeg (some (gb G + b)) from funext e1]
  have K := kk p e s m args below meth c C H1 _ ls hr1 (hS.put (k := i.toNatClampNeg) z oq (cells_D.2 a _ a1)) hh
  rw [h2] at K
  exact K
/-- a method's end -/
def QM (G : Gl) (n mc ms : Nat) (Q : Option Value → mW → Prop) : List Frame → Array Value → State → State → Prop := fun below args s => MQ below (fun _ st o t => ∃ (r : Option Value) (w' : mW), o = .returned (r.map (rv G)) ∧ Q r w' ∧ rep G (n + mc) w' t.heap ∧ va_F (gX G) st t) args s mc ms (gX G)
theorem wp_zret {n mc ms : Nat} {Q : Option Value → mW → Prop} {v : Int32} {rt : FieldType} (hd : lAt (tb Y) k = some (pc, .ireturn, 1)) (ht : Y.2.2.2.2.1 = some rt) (hv : narrow rt (.int v) = .int v) (hq : Q (some (.int v)) w) : WP G Y R (QM G n mc ms Q) (n + mc, mc, ms) k lv [.int v] w := by
  intro p e s m args below meth c C H locs ls hr hS hh
  obtain ⟨hx, hb, hrt, hml, hown, hts, hlk, hnm, hK, hO, hc⟩ := id C
  exact W.zret hx hb (hrt.trans ht) hv (fun t h1 h2 => ⟨some (.int v), w, rfl, hq, by rw [h1]; exact hr, hS.F h1⟩) hS.2.2 (at_dec hc hd) hlk
theorem wp_iret {n mc ms : Nat} {Q : Option Value → mW → Prop} {v : Int32} (hd : lAt (tb Y) k = some (pc, .ireturn, 1)) (ht : Y.2.2.2.2.1 = some .int) (hq : Q (some (.int v)) w) : WP G Y R (QM G n mc ms Q) (n + mc, mc, ms) k lv [.int v] w := wp_zret hd ht rfl hq
theorem wp_lret {n mc ms : Nat} {Q : Option Value → mW → Prop} {v : Int64} (hd : lAt (tb Y) k = some (pc, .lreturn, 1)) (ht : Y.2.2.2.2.1 = some .long) (hq : Q (some (.long v)) w) : WP G Y R (QM G n mc ms Q) (n + mc, mc, ms) k lv [.long v] w := by
  intro p e s m args below meth c C H locs ls hr hS hh
  obtain ⟨hx, hb, hrt, hml, hown, hts, hlk, hnm, hK, hO, hc⟩ := id C
  exact W.lret hx hb (hrt.trans ht) (fun t h1 h2 => ⟨some (.long v), w, rfl, hq, by rw [h1]; exact hr, hS.F h1⟩) hS.2.2 (at_dec hc hd) hlk
theorem wp_vret {n mc ms : Nat} {Q : Option Value → mW → Prop} (hd : lAt (tb Y) k = some (pc, .return_, 1)) (ht : Y.2.2.2.2.1 = none) (hq : Q none w) : WP G Y R (QM G n mc ms Q) (n + mc, mc, ms) k lv [] w := by
  intro p e s m args below meth c C H locs ls hr hS hh
  obtain ⟨hx, hb, hrt, hml, hown, hts, hlk, hnm, hK, hO, hc⟩ := id C
  exact W.vret hx hb (hrt.trans ht) (fun t h1 h2 => ⟨none, w, rfl, hq, by rw [h1]; exact hr, hS.F h1⟩) hS.2.2 (at_dec hc hd) hlk
theorem wp_aret {n mc ms a : Nat} {Q : Option Value → mW → Prop} {C : String} (hd : lAt (tb Y) k = some (pc, .areturn, 1)) (ht : Y.2.2.2.2.1 = some (.object C)) (hq : Q (some (.ref a)) w) : WP G Y R (QM G n mc ms Q) (n + mc, mc, ms) k lv [.ref a] w := by
  intro p e s m args below meth c C H locs ls hr hS hh
  obtain ⟨hx, hb, hrt, hml, hown, hts, hlk, hnm, hK, hO, hc⟩ := id C
  exact W.aret (v := .ref (ra G a)) hx hb (hrt.trans ht) (Or.inl ⟨_, rfl⟩) (Or.inr ⟨_, rfl⟩) (fun t h1 h2 => ⟨some (.ref a), w, rfl, hq, by rw [h1]; exact hr, hS.F h1⟩) hS.2.2 (at_dec hc hd) hlk
end ROWS
end
section
/-! contracts over the mini world, calls, and what is made -/
theorem obj_i : Cond.instanceMethod Lib.objectInit ∈ goodL := mem_at 80 (by decide +kernel) rfl
theorem obj_c : Cond.code Lib.objectInit ⟨#[0xb1]⟩ 1 none ∈ goodL := mem_at 81 (by decide +kernel) rfl
theorem lo_0 : Cond.methodLink (RN 0) 3 Lib.objectInit ∈ goodL := mem_at 152 (by decide +kernel) rfl
theorem lo_1 : Cond.methodLink (RN 1) 3 Lib.objectInit ∈ goodL := mem_at 87 (by decide +kernel) rfl
theorem lo_2 : Cond.methodLink (RN 2) 3 Lib.objectInit ∈ goodL := mem_at 323 (by decide +kernel) rfl
theorem lo_3 : Cond.methodLink (RN 3) 3 Lib.objectInit ∈ goodL := mem_at 295 (by decide +kernel) rfl
theorem lo_4 : Cond.methodLink (RN 4) 3 Lib.objectInit ∈ goodL := mem_at 96 (by decide +kernel) rfl
theorem lo_5 : Cond.methodLink (RN 5) 3 Lib.objectInit ∈ goodL := mem_at 233 (by decide +kernel) rfl
theorem lo_6 : Cond.methodLink (RN 6) 3 Lib.objectInit ∈ goodL := mem_at 374 (by decide +kernel) rfl
theorem lo_7 : Cond.methodLink (RN 7) 3 Lib.objectInit ∈ goodL := mem_at 279 (by decide +kernel) rfl
theorem lo_8 : Cond.methodLink (RN 8) 3 Lib.objectInit ∈ goodL := mem_at 301 (by decide +kernel) rfl
theorem lo_9 : Cond.methodLink (RN 9) 3 Lib.objectInit ∈ goodL := mem_at 256 (by decide +kernel) rfl
theorem lo_10 : Cond.methodLink (RN 10) 3 Lib.objectInit ∈ goodL := mem_at 79 (by decide +kernel) rfl
theorem lo_11 : Cond.methodLink (RN 11) 3 Lib.objectInit ∈ goodL := mem_at 989 (by decide +kernel) rfl
def rmD (d mc ms : Nat) : Room := { frames := d + 1, cells := mc, slots := ms, locals := 60 * d + 60 }
def MT (G : Gl) (d : Nat) (Y : mY) (As : List Value) (n : Nat) (w : mW) (mc ms : Nat) (Q : Option Value → mW → Prop) : Prop :=
  Met G.1 Y.2.1 (Cond.code Y.2.1 Y.2.2.1 Y.2.2.2.1 Y.2.2.2.2.1 :: goodL) (rmD d mc ms) (va_Pc (As.map (rv G)) (fun U => rep G n w U.heap ∧ va_K (gD G) vwCl (gT G) U ∧ out G U))
    (fun _ st o t => ∃ (r : Option Value) (w' : mW), o = .returned (r.map (rv G)) ∧ Q r w' ∧ rep G (n + mc) w' t.heap ∧ va_F (gX G) st t) mc ms (gX G)
theorem lva_rv (G : Gl) : ∀ (As : List Value) (i : Nat), lv_args i (As.map (rv G)) = rvl G (lv_args i As)
  | [], _ => rfl
  | v :: As, i => by
    show (i, rv G v) :: lv_args (if (rv G v).category = 2 then i + 2 else i + 1) (As.map (rv G)) = (i, rv G v) :: rvl G _
    rw [rv_cat, lva_rv G As]
theorem lgsl_rv (G : Gl) (As : List Value) : (lg_sl (As.map (rv G))).length = (lg_sl As).length := by
  induction As with
  | nil => rfl
  | cons v As ih =>
    have h : ∀ (v : Value) (l : List Value), lg_sl (v :: l) = (if v.category = 2 then [Slot.val v, Slot.second] else [Slot.val v]) ++ lg_sl l := fun v l => by simp [lg_sl]
    rw [List.map_cons, h, h, List.length_append, List.length_append, ih, rv_cat]
    split <;> rfl
set_option maxHeartbeats 1000000 in
theorem MT.intro {G : Gl} {d : Nat} {Y : mY} {As : List Value} {n : Nat} {w : mW} {mc ms : Nat} {Q : Option Value → mW → Prop} {na : Nat} (hY : mOK Y na) (h0 : pcO Y 0 = 0) (hl : (lg_sl As).length ≤ Y.2.2.2.1)
    (body : WP G Y (rmD d mc ms) (QM G n mc ms Q) (n, 0, 0) 0 (lv_args 0 As) [] w) : MT G d Y As n w mc ms Q := by
  obtain ⟨y1, y2, y3, y4, y5, y6, y7⟩ := hY
  refine Met.ofW (cc := Y.2.2.1) (maxL := Y.2.2.2.1) (ret := Y.2.2.2.2.1) y4 rfl ?_
  intro p e s m args below meth c s₁ B hml hv
  obtain ⟨rfl, hrep, hK, hO⟩ := hv
  have hts := atoms_spec (ws := Cond.code Y.2.1 Y.2.2.1 Y.2.2.2.1 Y.2.2.2.2.1 :: goodL) B.pre
  have hown : s.vm.findClass Y.2.1.cls = some m.cls := findClass_of_methodNamed B.named
  have C : Cx G Y p s m (As.map (rv G)).toArray meth c := ⟨B.exec, B.bytes, B.returns, hml, by rw [← y7]; exact hown, fun w hw => hts w (List.mem_cons_of_mem _ hw), B.notSynchronized, (name_of_methodNamed B.named B.method).1, hK, hO, y1⟩
  have hl2 := lv_entry (As.map (rv G)) (n := Y.2.2.2.1) (by rw [lgsl_rv]; exact hl)
  rw [lg_entry_eq]
  rw [lva_rv] at hl2
  have K := body p e s m (As.map (rv G)).toArray below meth c C s.heap [] _ hrep va_S.rf hl2
  rw [h0] at K
  exact K
theorem blind {G : Gl} {n : Nat} {w : mW} {av : List Value} : FrameBlind (va_Pc av (fun U => rep G n w U.heap ∧ va_K (gD G) vwCl (gT G) U ∧ out G U)) := by
  intro a U g mk ⟨h1, h2, h3, h4⟩
  exact ⟨h1, h2, va_K.moved (u := U) (U := U.calling g mk a) (Vm.Alike.refl U.vm) h3, out_moved (H := U.heap) (locs := []) h4 rfl (State.WarmedH.refl U) va_S.rf⟩
def pops : Nat → List Value → List Value → Option (List Value × List Value)
  | 0, st, acc => some (acc, st)
  | n + 1, v :: st, acc => pops n st (v :: acc)
  | _ + 1, [], _ => none
theorem pops_spec : ∀ (n : Nat) (st acc As rest : List Value), pops n st acc = some (As, rest) → ∃ pre, As = pre ++ acc ∧ st = pre.reverse ++ rest ∧ pre.length = n
  | 0, st, acc, As, rest, h => by
    cases h
    exact ⟨[], rfl, rfl, rfl⟩
  | n + 1, v :: st, acc, As, rest, h => by
    obtain ⟨pre, h1, h2, h3⟩ := pops_spec n st (v :: acc) As rest h
    exact ⟨pre ++ [v], by rw [h1]; simp, by rw [h2]; simp, by simp [h3]⟩
  | n + 1, [], acc, As, rest, h => by cases h
section CALLS
variable {G : Gl} {Y Y' : mY} {R : Room} {QQ : List Frame → Array Value → State → State → Prop} {N : Nat × Nat × Nat} {k : Nat} {lv : List (Nat × Value)} {st : List Value} {w : mW} {pc : Nat}
theorem wp_cont {p : Program} {l : Launch} {e : Env} {s : State} {m : MethodId} {args : Array Value} {below : List Frame} {meth : Method} {c : Code} {H : Heap} {locs : List Loc} {cells slots mc ms n' : Nat} {Qw : State → Prop} {ls : Array Slot} {rest st0 : List Value} {Q : Option Value → mW → Prop}
    (hr : va_Run p l e R s m args below meth c H locs cells slots mc ms (F0 m pc ls st0) rest (fun st o t => ∃ (r : Option Value) (w' : mW), o = .returned (r.map (rv G)) ∧ Q r w' ∧ rep G n' w' t.heap ∧ va_F (gX G) st t) (gX G)) (hS : va_S (gX G) s.heap H locs)
    (kk : ∀ (r : Option Value) (w' : mW) (H1 : Heap) (locs1 : List Loc), Q r w' → rep G n' w' H1 → va_S (gX G) s.heap H1 locs1 → W p l e R s m args below meth c H1 locs1 (cells + mc) (slots + ms) Qw (F0 m (pc + 3) ls ((r.map (rv G)).toList ++ rest))) : W p l e R s m args below meth c H locs cells slots Qw (F0 m pc ls st0) := by
  intro T hT X
  obtain ⟨v, st₀, t, T', L, h0, X', hL, e1, e2, ⟨r, w', hv, hq, hrep, hz, hk⟩, st⟩ := hr T hT X
  cases hv
  rw [h0] at hz hk
  obtain ⟨t2, a1, b1⟩ := kk r w' T'.heap (locs ++ L) hq (by rw [e1]; exact hrep)
    ⟨Nat.le_trans hS.1 (by rw [e1]; exact hz), fun q h1 h2 => by rw [e1, hk q (Nat.lt_of_lt_of_le h1 hS.1) h2]; exact hS.2.1 q h1 h2, fun q hq => by
      rcases List.mem_append.mp hq with h | h
      · exact hS.2.2 q h
      · exact hL q h⟩ T' rfl X'
  exact ⟨t2, st t2 a1, b1⟩
theorem ws_good (hm : Cond.code Y'.2.1 Y'.2.2.1 Y'.2.2.2.1 Y'.2.2.2.2.1 ∈ goodL) : ∀ w ∈ (Cond.code Y'.2.1 Y'.2.2.1 Y'.2.2.2.1 Y'.2.2.2.2.1 :: goodL), w ∈ goodL := fun w h => (List.mem_cons.mp h).elim (fun e => e ▸ hm) id
theorem cat_rv (rest : List Value) : (rest.map (rv G)).map (fun v => v.category) = rest.map (fun v => v.category) := by
  rw [List.map_map]
  exact List.map_congr_left (fun v _ => rv_cat G v)
theorem st_rv {na : Nat} {As rest : List Value} (h : pops na st [] = some (As, rest)) : st.map (rv G) = (As.map (rv G)).reverse ++ rest.map (rv G) ∧ (As.map (rv G)).length = na := by
  obtain ⟨pre, h1, h2, h3⟩ := pops_spec _ _ _ _ _ h
  rw [List.append_nil] at h1
  subst h1
  rw [h2]
  simp [h3]
theorem st_rv2 {na a : Nat} {As rest : List Value} (h : pops na st [] = some (As, .ref a :: rest)) : st.map (rv G) = (As.map (rv G)).reverse ++ .ref (ra G a) :: rest.map (rv G) ∧ (As.map (rv G)).length = na := st_rv h
theorem wp_go {d mc ms : Nat} {Q' : Option Value → mW → Prop} {rest : List Value} {e0 : mI} (hd : nx Y k = some e0) (h3 : e0.2.2 = 3)
    (kk : ∀ r w', Q' r w' → WP G Y R QQ (N.1 + mc, N.2.1 + mc, N.2.2 + ms) (k + 1) lv (r.toList ++ rest) w')
    {p : Program} {e : Env} {s : State} {m : MethodId} {args : Array Value} {below : List Frame} {meth : Method} {c : Code} (C : Cx G Y p s m args meth c) {H : Heap} {locs : List Loc} {ls : Array Slot} (hS : va_S (gX G) s.heap H locs) (hh : lv_has ls Y.2.2.2.1 (rvl G lv)) {st0 : List Value}
    (hr : va_Run p G.1 e R s m args below meth c H locs N.2.1 N.2.2 mc ms (F0 m (pcO Y k) ls st0) (rest.map (rv G)) (fun st o t => ∃ (r : Option Value) (w' : mW), o = .returned (r.map (rv G)) ∧ Q' r w' ∧ rep G (N.1 + mc) w' t.heap ∧ va_F (gX G) st t) (gX G)) :
    W p G.1 e R s m args below meth c H locs N.2.1 N.2.2 (QQ below args s) (F0 m (pcO Y k) ls st0) := by
  refine wp_cont hr hS (fun r w' H1 locs1 hq hrep hS1 => ?_)
  have K := kk r w' hq p e s m args below meth c C H1 locs1 ls hrep hS1 hh
  rw [(nx_dec C.2.2.2.2.2.2.2.2.2.2 hd).2, h3] at K
  rw [List.map_append] at K
  cases r <;> exact K
theorem wp_cS {d mc ms na i : Nat} {Q' : Option Value → mW → Prop} {As rest : List Value} (hd : nx Y k = some (pc, .invokestatic i, 3)) (hl : Cond.methodLink (RN Y.1) i Y'.2.1 ∈ goodL) (hs : sOK Y') (hm : mOK Y' na) (hM : MT G d Y' As N.1 w mc ms Q') (hst : pops na st [] = some (As, rest)) (hcat : (rest.map (fun v => v.category)).sum ≤ 8)
    (hR : d + 2 ≤ R.frames ∧ 60 * d + 120 ≤ R.locals ∧ N.2.1 + mc ≤ R.cells ∧ N.2.2 + ms ≤ R.slots)
    (kk : ∀ r w', Q' r w' → WP G Y R QQ (N.1 + mc, N.2.1 + mc, N.2.2 + ms) (k + 1) lv (r.toList ++ rest) w') : WP G Y R QQ N k lv st w := by
  intro p e s m args below meth c C H locs ls hr hS hh
  obtain ⟨hx, hb, hrt, hml, hown, hts, hlk, hnm, hK, hO, hc⟩ := id C
  obtain ⟨y1, y2, y3, y4, y5, y6, y7⟩ := hm
  obtain ⟨h1, h2⟩ := nx_dec hc hd
  obtain ⟨t1, t2⟩ := st_rv (G := G) hst
  rw [t1]
  refine wp_go (d := d) hd rfl kk C hS hh (va_runS ⟨hx, hb, hml, hown, hts⟩ hM ⟨callB_of na hts (good_in (ws_good y2)) rfl rfl rfl (hts _ y3) (hts _ hl) y5 ⟨hR.1, ?_⟩, hts _ hs⟩ ⟨blind, fun U hU hW => ⟨rfl, by rw [hU]; exact hr, va_K.moved hW.alike hK, out_moved hO hU hW hS⟩⟩ rfl t2 hh.1 rfl (lv_room (by rw [cat_rv]; exact hcat)) h1 ⟨hR.2.2.1, hR.2.2.2⟩)
  have := hR.2.1
  show 8 + (Y'.2.2.2.1 + 11) + (60 * d + 60) ≤ R.locals
  omega
theorem wp_cSN {d mc ms na i : Nat} {Q' : Option Value → mW → Prop} {As rest : List Value} (hd : nx Y k = some (pc, .invokestatic i, 3)) (hl : (RN Y.1, i, Y'.2.1) ∈ nestT) (hs : sOK Y') (hm : mOK Y' na) (hM : MT G d Y' As N.1 w mc ms Q') (hst : pops na st [] = some (As, rest)) (hcat : (rest.map (fun v => v.category)).sum ≤ 8)
    (hR : d + 2 ≤ R.frames ∧ 60 * d + 120 ≤ R.locals ∧ N.2.1 + mc ≤ R.cells ∧ N.2.2 + ms ≤ R.slots)
    (kk : ∀ r w', Q' r w' → WP G Y R QQ (N.1 + mc, N.2.1 + mc, N.2.2 + ms) (k + 1) lv (r.toList ++ rest) w') : WP G Y R QQ N k lv st w := by
  intro p e s m args below meth c C H locs ls hr hS hh
  obtain ⟨hx, hb, hrt, hml, hown, hts, hlk, hnm, hK, hO, hc⟩ := id C
  obtain ⟨y1, y2, y3, y4, y5, y6, y7⟩ := hm
  obtain ⟨h1, h2⟩ := nx_dec hc hd
  obtain ⟨t1, t2⟩ := st_rv (G := G) hst
  rw [t1]
  refine wp_go (d := d) hd rfl kk C hS hh (va_runSN ⟨hx, hb, hml, hown, hts⟩ hM ⟨va_cnB na hts (good_in (ws_good y2)) rfl rfl rfl (hO.2.2.2.2.2.1 _ hl) (hts _ y3) y5 ⟨hR.1, ?_⟩, hts _ hs, trivial⟩ ⟨blind, fun U hU hW => ⟨rfl, by rw [hU]; exact hr, va_K.moved hW.alike hK, out_moved hO hU hW hS⟩⟩ rfl t2 hh.1 rfl (lv_room (by rw [cat_rv]; exact hcat)) h1 ⟨hR.2.2.1, hR.2.2.2⟩)
  have := hR.2.1
  show 8 + (Y'.2.2.2.1 + 11) + (60 * d + 60) ≤ R.locals
  omega
theorem wp_cV {d mc ms na i a : Nat} {Q' : Option Value → mW → Prop} {As rest : List Value} (hd : nx Y k = some (pc, .invokevirtual i, 3)) (hl : Cond.methodLink (RN Y.1) i Y'.2.1 ∈ goodL) (hi : iOK Y') (hm : mOK Y' na) (hs : shp N.1 a = some (.inr Y'.1)) (hc12 : Y'.1 < 12) (hM : MT G d Y' (.ref a :: As) N.1 w mc ms Q') (hst : pops na st [] = some (As, .ref a :: rest)) (hcat : (rest.map (fun v => v.category)).sum ≤ 8)
    (hR : d + 2 ≤ R.frames ∧ 60 * d + 120 ≤ R.locals ∧ N.2.1 + mc ≤ R.cells ∧ N.2.2 + ms ≤ R.slots)
    (kk : ∀ r w', Q' r w' → WP G Y R QQ (N.1 + mc, N.2.1 + mc, N.2.2 + ms) (k + 1) lv (r.toList ++ rest) w') : WP G Y R QQ N k lv st w := by
  intro p e s m args below meth c C H locs ls hr hS hh
  obtain ⟨hx, hb, hrt, hml, hown, hts, hlk, hnm, hK, hO, hc⟩ := id C
  obtain ⟨y1, y2, y3, y4, y5, y6, y7⟩ := hm
  obtain ⟨h1, h2⟩ := nx_dec hc hd
  obtain ⟨t1, t2⟩ := st_rv2 (G := G) hst
  obtain ⟨s1, s2, s3⟩ := shp_spec hs
  have he := cells_at (G := G) (w := w) s1
  rw [cell_obj s2] at he
  have hrec := va_recv hK hr.2 (vwCl_at Y'.1 hc12) he
  rw [← ra_w s3] at hrec
  rw [t1]
  refine wp_go (d := d) hd rfl kk C hS hh (va_runV (C := Y'.2.1.cls) ⟨hx, hb, hml, hown, hts⟩ hM ⟨callB_of na hts (good_in (ws_good y2)) rfl rfl rfl (hts _ y3) (hts _ hl) y5 ⟨hR.1, ?_⟩, hts _ hi.1, hts _ hi.2⟩ ⟨blind, by rw [y7]; exact hrec, fun U hU hW => ⟨rfl, by rw [hU]; exact hr, va_K.moved hW.alike hK, out_moved hO hU hW hS⟩⟩ rfl t2 hh.1 rfl (lv_room (by rw [cat_rv]; exact hcat)) h1 ⟨hR.2.2.1, hR.2.2.2⟩)
  have := hR.2.1
  show 8 + (Y'.2.2.2.1 + 11) + (60 * d + 60) ≤ R.locals
  omega
/-- a constructor, linked plainly or among nest mates -/
theorem wp_cI {d mc ms na i a : Nat} {Q' : Option Value → mW → Prop} {As rest : List Value} (hd : nx Y k = some (pc, .invokespecial i, 3)) (hl : Cond.methodLink (RN Y.1) i Y'.2.1 ∈ goodL ∨ (RN Y.1, i, Y'.2.1) ∈ nestT) (hi : nOK Y') (hm : mOK Y' na) (hM : MT G d Y' (.ref a :: As) N.1 w mc ms Q') (hst : pops na st [] = some (As, .ref a :: rest)) (hcat : (rest.map (fun v => v.category)).sum ≤ 8)
    (hR : d + 2 ≤ R.frames ∧ 60 * d + 120 ≤ R.locals ∧ N.2.1 + mc ≤ R.cells ∧ N.2.2 + ms ≤ R.slots)
    (kk : ∀ r w', Q' r w' → WP G Y R QQ (N.1 + mc, N.2.1 + mc, N.2.2 + ms) (k + 1) lv (r.toList ++ rest) w') : WP G Y R QQ N k lv st w := by
  intro p e s m args below meth c C H locs ls hr hS hh
  obtain ⟨hx, hb, hrt, hml, hown, hts, hlk, hnm, hK, hO, hc⟩ := id C
  obtain ⟨y1, y2, y3, y4, y5, y6, y7⟩ := hm
  obtain ⟨i1, i2, i3⟩ := hi
  obtain ⟨h1, h2⟩ := nx_dec hc hd
  obtain ⟨t1, t2⟩ := st_rv2 (G := G) hst
  rw [t1]
  have hRl : 8 + (Y'.2.2.2.1 + 11) + (rmD d mc ms).locals ≤ R.locals := by
    have := hR.2.1
    show 8 + (Y'.2.2.2.1 + 11) + (60 * d + 60) ≤ R.locals
    omega
  have hM2 := hM
  unfold MT at hM2
  rw [i3] at hM2 y2
  have hws : ∀ w ∈ (Cond.code Y'.2.1 Y'.2.2.1 Y'.2.2.2.1 none :: goodL), w ∈ goodL := fun w h => (List.mem_cons.mp h).elim (fun e => e ▸ y2) id
  rcases hl with hl | hl
  · exact wp_go (d := d) hd rfl kk C hS hh (va_runI ⟨hx, hb, hml, hown, hts⟩ hM2 (cwI na hts (good_in hws) rfl rfl rfl (hts _ y3) (hts _ hl) (hts _ i1) i2 y5 ⟨hR.1, hRl⟩) ⟨blind, fun U hU hW => ⟨rfl, by rw [hU]; exact hr, va_K.moved hW.alike hK, out_moved hO hU hW hS⟩⟩ rfl t2 hh.1 rfl (lv_room (by rw [cat_rv]; exact hcat)) h1 ⟨hR.2.2.1, hR.2.2.2⟩)
  · exact wp_go (d := d) hd rfl kk C hS hh (va_runIN ⟨hx, hb, hml, hown, hts⟩ hM2 ⟨va_cnB na hts (good_in hws) rfl rfl rfl (hO.2.2.2.2.2.1 _ hl) (hts _ y3) y5 ⟨hR.1, hRl⟩, i2, hts _ i1⟩ ⟨blind, fun U hU hW => ⟨rfl, by rw [hU]; exact hr, va_K.moved hW.alike hK, out_moved hO hU hW hS⟩⟩ rfl t2 hh.1 rfl (lv_room (by rw [cat_rv]; exact hcat)) h1 ⟨hR.2.2.1, hR.2.2.2⟩)
/-- Object's constructor -/
theorem wp_obj {i a : Nat} (hd : nx Y k = some (pc, .invokespecial i, 3)) (hl : Cond.methodLink (RN Y.1) i Lib.objectInit ∈ goodL) (hcat : (st.map (fun v => v.category)).sum ≤ 8) (hR : 1 ≤ R.frames ∧ 20 ≤ R.locals) (kk : WP G Y R QQ N (k + 1) lv st w) : WP G Y R QQ N k lv (.ref a :: st) w := by
  intro p e s m args below meth c C H locs ls hr hS hh
  obtain ⟨hx, hb, hrt, hml, hown, hts, hlk, hnm, hK, hO, hc⟩ := id C
  obtain ⟨h1, h2⟩ := nx_dec hc hd
  have K := kk p e s m args below meth c C H locs ls hr hS hh
  rw [h2] at K
  refine W.objInit (a := ra G a) (rest := st.map (rv G)) hx hb hown (hts _ hl) (hts _ obj_i) (hts _ obj_c) rfl (hh.1.trans hml.symm) rfl h1 hR.1 ?_ K
  have h := lv_room (m := m) (pc := pcO Y k) (ls := ls) (rest := (Value.ref a :: st).map (rv G)) (st := st.map (rv G)) (by rw [cat_rv]; exact hcat)
  have h3 := hR.2
  exact Nat.le_trans (Nat.add_le_add_right h 12) h3
/-- a new object: its fields are 0 and null -/
theorem wp_new {i ci : Nat} (hd : nx Y k = some (pc, .new i, 3)) (hl : Cond.classLink (RN Y.1) i (RN ci) ∈ goodL) (hin : Cond.instantiable (RN ci) (NF ci) ∈ goodL) (hini : Cond.initialized (RN ci) ∈ goodL) (hci : ci < 12) (hsh : shp (N.1 + 1) N.1 = some (.inr ci))
    (hz : w.1 N.1 = (fun _ => 0) ∧ w.2.1 N.1 = (fun _ => 0) ∧ w.2.2 N.1 = (fun _ => none)) (hdf : ∀ G : Gl, ∀ j, j < NF ci → ∀ w2 : mW, w2.1 N.1 j = 0 → w2.2.1 N.1 j = 0 → w2.2.2 N.1 j = none → defaultValue (tyT ci j) = fldV G w2 N.1 j (kd (tyT ci j))) (hR : N.2.1 + 1 ≤ R.cells ∧ N.2.2 + NF ci ≤ R.slots)
    (kk : WP G Y R QQ (N.1 + 1, N.2.1 + 1, N.2.2 + NF ci) (k + 1) lv (.ref N.1 :: st) w) : WP G Y R QQ N k lv st w := by
  intro p e s m args below meth c C H locs ls hr hS hh
  obtain ⟨hx, hb, hrt, hml, hown, hts, hlk, hnm, hK, hO, hc⟩ := id C
  obtain ⟨h1, h2⟩ := nx_dec hc hd
  obtain ⟨s1, s2, s3⟩ := shp_spec hsh
  have hKn := hK.1 ci _ (vwCl_at ci hci)
  refine W.newcK hx hb hown (hts _ hl) (hts _ hin) (hts _ hini) rfl h1 hR.1 hR.2 hKn.2.1 hr.1 fun H1 kC hkC e1 z1 o1 => ?_
  have hr1 : rep G (N.1 + 1) w H1 := by
    refine ⟨by rw [z1]; omega, ?_⟩
    rw [← cells_push (w := w) (w' := w) rfl (fun j _ => rfl)]
    refine (hr.2.kept (fun j x hx => ?_)).app (fun j x hx => ?_)
    · have := (hr.2 j x hx).lt
      exact o1 x.1 (by rw [hr.1] at this; exact this)
    · have hz0 : j < 1 := (List.getElem?_eq_some_iff.mp hx).1
      rw [show j = 0 by omega] at hx
      cases hx
      rw [cell_obj s2]
      refine ⟨_, vwCl_at ci hci, (u_born (tyT ci) hts (lay_good ci hci) hKn hkC e1 (ty_all ci hci)).to (fun j hj => ?_)⟩
      show _ = vp_V _ j
      rw [vp_V, List.getD_eq_getElem?_getD, fld_at hj]
      exact hdf G j hj w (by rw [hz.1]) (by rw [hz.2.1]) (by rw [hz.2.2])
  have K := kk p e s m args below meth c C H1 locs ls hr1 ⟨Nat.le_trans hS.1 (by rw [z1, hr.1]; omega), fun q q1 q2 => (o1 q (by have := Nat.lt_of_lt_of_le q1 hS.1; rw [hr.1] at this; exact this)).trans (hS.2.1 q q1 q2), hS.2.2⟩ hh
  rw [h2, show (Value.ref N.1 :: st).map (rv G) = Value.ref (gb G + N.1) :: st.map (rv G) by simp only [List.map_cons, rv, ra_w s3]] at K
  exact K
/-- a new array of numbers -/
theorem wp_newa {t len : Nat} {at0 : ArrayType} {ty : FieldType} {nn : Int32} (hd : nx Y k = some (pc, .newarray at0, 2)) (hty : newarray.typeOf at0 = ty) (hac : Cond.arrayClass ty ∈ goodL) (ht : (t = 0 ∧ ty = .int) ∨ (t = 1 ∧ ty = .byte) ∨ (t = 2 ∧ ty = .boolean) ∨ (t = 3 ∧ ty = .long)) (hnn : ¬ nn < 0) (hlen : nn.toNatClampNeg = len) (hb8 : len * 8 ≤ 536870912) (hsh : shp (N.1 + 1) N.1 = some (.inl (t, len)))
    (hz : w.1 N.1 = (fun _ => 0) ∧ w.2.1 N.1 = (fun _ => 0) ∧ w.2.2 N.1 = (fun _ => none)) (hR : N.2.1 + 1 ≤ R.cells ∧ N.2.2 + len ≤ R.slots)
    (kk : WP G Y R QQ (N.1 + 1, N.2.1 + 1, N.2.2 + len) (k + 1) lv (.ref N.1 :: st) w) : WP G Y R QQ N k lv (.int nn :: st) w := by
  intro p e s m args below meth c C H locs ls hr hS hh
  obtain ⟨hx, hb, hrt, hml, hown, hts, hlk, hnm, hK, hO, hc⟩ := id C
  obtain ⟨h1, h2⟩ := nx_dec hc hd
  obtain ⟨s1, s2, s3⟩ := shp_spec hsh
  subst hty
  have hcb : len * componentBytes (newarray.typeOf at0) ≤ 536870912 := by
    refine Nat.le_trans (Nat.mul_le_mul_left len ?_) hb8
    rcases ht with ⟨-, h⟩ | ⟨-, h⟩ | ⟨-, h⟩ | ⟨-, h⟩ <;> rw [h] <;> decide
  refine va_newaK hx hb (hts _ hac) rfl h1 rfl hnn hlen hcb hR.1 hR.2 hr.1 fun H1 cA e1 z1 o1 hAr hNm => ?_
  have hcell : cA = gA G t ∧ vp_cell (gA G t) (len, arrC G w N.1 t) = arrV (gA G t) len (fun _ => defaultValue (newarray.typeOf at0)) := by
    rcases ht with ⟨rfl, h⟩ | ⟨rfl, h⟩ | ⟨rfl, h⟩ | ⟨rfl, h⟩
    · rw [h] at hNm ⊢
      refine ⟨Option.some.inj (hNm.symm.trans (hK.2 0 _ rfl).2), ?_⟩
      show vp_cell _ (len, .inl (w.1 N.1)) = _
      rw [hz.1, vp_cell_i]; rfl
    · rw [h] at hNm ⊢
      refine ⟨Option.some.inj (hNm.symm.trans (hK.2 1 _ rfl).2), ?_⟩
      show vp_cell _ (len, .inl (w.1 N.1)) = _
      rw [hz.1, vp_cell_i]; rfl
    · rw [h] at hNm ⊢
      refine ⟨Option.some.inj (hNm.symm.trans (hK.2 2 _ rfl).2), ?_⟩
      show vp_cell _ (len, .inl (w.1 N.1)) = _
      rw [hz.1, vp_cell_i]; rfl
    · rw [h] at hNm ⊢
      refine ⟨Option.some.inj (hNm.symm.trans (hK.2 3 _ rfl).2), ?_⟩
      show vp_cell _ (len, .inr (.inl (w.2.1 N.1))) = _
      rw [hz.2.1, vp_cell_l]; rfl
  obtain ⟨rfl, hcell⟩ := hcell
  have hr1 : rep G (N.1 + 1) w H1 := by
    refine ⟨by rw [z1]; omega, ?_⟩
    rw [← cells_push (w := w) (w' := w) rfl (fun j _ => rfl)]
    refine (hr.2.kept (fun j x hx => ?_)).app (fun j x hx => ?_)
    · have := (hr.2 j x hx).lt
      exact o1 x.1 (by rw [hr.1] at this; exact this)
    · have hz0 : j < 1 := (List.getElem?_eq_some_iff.mp hx).1
      rw [show j = 0 by omega] at hx
      cases hx
      rw [cell_arr s2]
      show H1[gb G + N.1]? = some (vp_cell _ _)
      rw [hcell]
      exact e1
  have K := kk p e s m args below meth c C H1 locs ls hr1 ⟨Nat.le_trans hS.1 (by rw [z1, hr.1]; omega), fun q q1 q2 => (o1 q (by have := Nat.lt_of_lt_of_le q1 hS.1; rw [hr.1] at this; exact this)).trans (hS.2.1 q q1 q2), hS.2.2⟩ hh
  rw [h2, show (Value.ref N.1 :: st).map (rv G) = Value.ref (gb G + N.1) :: st.map (rv G) by simp only [List.map_cons, rv, ra_w s3]] at K
  exact K
/-- a new array of references -/
theorem wp_newq {t len i ci : Nat} {nn : Int32} (hd : nx Y k = some (pc, .anewarray i, 3)) (hl : Cond.classLink (RN Y.1) i (RN ci) ∈ goodL) (ht : (t = 4 ∧ ci = 4) ∨ (t = 5 ∧ ci = 0) ∨ (t = 6 ∧ ci = 6)) (hnn : ¬ nn < 0) (hlen : nn.toNatClampNeg = len) (hb8 : len * 8 ≤ 536870912) (hsh : shp (N.1 + 1) N.1 = some (.inl (t, len)))
    (hz : w.1 N.1 = (fun _ => 0) ∧ w.2.1 N.1 = (fun _ => 0) ∧ w.2.2 N.1 = (fun _ => none)) (hR : N.2.1 + 1 ≤ R.cells ∧ N.2.2 + len ≤ R.slots)
    (kk : WP G Y R QQ (N.1 + 1, N.2.1 + 1, N.2.2 + len) (k + 1) lv (.ref N.1 :: st) w) : WP G Y R QQ N k lv (.int nn :: st) w := by
  intro p e s m args below meth c C H locs ls hr hS hh
  obtain ⟨hx, hb, hrt, hml, hown, hts, hlk, hnm, hK, hO, hc⟩ := id C
  obtain ⟨h1, h2⟩ := nx_dec hc hd
  obtain ⟨s1, s2, s3⟩ := shp_spec hsh
  have hao : va_AO (RN ci) s := by
    rcases ht with ⟨-, rfl⟩ | ⟨-, rfl⟩ | ⟨-, rfl⟩
    · exact hO.2.2.2.2.2.2.1
    · exact hO.2.2.2.2.2.2.2.1
    · exact hO.2.2.2.2.2.2.2.2
  have hty : (gT G)[t]? = some (gA G t, .object (RN ci)) := by
    rcases ht with ⟨rfl, rfl⟩ | ⟨rfl, rfl⟩ | ⟨rfl, rfl⟩ <;> rfl
  subst hlen
  refine W.anew hx hb hown (hts _ hl) (va_AO.use hao) rfl h1 rfl hnn (by omega) hR.1 hR.2 fun cA kA comp f1 f2 f3 f4 => ?_
  have hcA : cA = gA G t := by
    obtain ⟨-, -, -, -, -, q⟩ := (hK.2 t _ hty).2
    exact Option.some.inj (f1.symm.trans q)
  subst hcA
  generalize hH1 : H.push ({ cls := gA G t, slots := Array.replicate nn.toNatClampNeg .null, vm := .none } : Cell) = H1
  have z1 : H1.size = H.size + 1 := by rw [← hH1, Array.size_push]
  have e1 : H1[H.size]? = some (arrV (gA G t) nn.toNatClampNeg (fun _ => .null)) := by rw [← hH1, Array.getElem?_push_size, ← arrV_new]
  have o1 : ∀ q : Nat, q < H.size → H1[q]? = H[q]? := fun q hq => by rw [← hH1, Array.getElem?_push, if_neg (Nat.ne_of_lt hq)]
  have hcell : vp_cell (gA G t) (nn.toNatClampNeg, arrC G w N.1 t) = arrV (gA G t) nn.toNatClampNeg (fun _ => .null) := by
    have e2 : arrC G w N.1 t = .inr (.inr (.inr (.inr (fun k => (w.2.2 N.1 k).map (ra G))))) := by
      rcases ht with ⟨rfl, rfl⟩ | ⟨rfl, rfl⟩ | ⟨rfl, rfl⟩ <;> rfl
    rw [e2, hz.2.2, vp_cell_q]; rfl
  have hr1 : rep G (N.1 + 1) w H1 := by
    refine ⟨by rw [z1, hr.1]; omega, ?_⟩
    rw [← cells_push (w := w) (w' := w) rfl (fun j _ => rfl)]
    refine (hr.2.kept (fun j x hx => ?_)).app (fun j x hx => ?_)
    · exact o1 x.1 ((hr.2 j x hx).lt)
    · have hz0 : j < 1 := (List.getElem?_eq_some_iff.mp hx).1
      rw [show j = 0 by omega] at hx
      cases hx
      rw [cell_arr s2]
      show H1[gb G + N.1]? = some (vp_cell _ _)
      rw [hcell, ← hr.1]
      exact e1
  have K := kk p e s m args below meth c C H1 locs ls hr1 ⟨Nat.le_trans hS.1 (by rw [z1]; omega), fun q q1 q2 => (o1 q (Nat.lt_of_lt_of_le q1 hS.1)).trans (hS.2.1 q q1 q2), hS.2.2⟩ hh
  rw [h2, show (Value.ref N.1 :: st).map (rv G) = Value.ref H.size :: st.map (rv G) by simp only [List.map_cons, rv, ra_w s3, hr.1]] at K
  exact K
end CALLS
/-- the world when all is made: contracts that make nothing -/
abbrev MQ2 (G : Gl) (d : Nat) (Y : mY) (As : List Value) (w : mW) (Q : Option Value → mW → Prop) : Prop := MT G d Y As NN w 0 0 Q
abbrev MD (G : Gl) (d : Nat) (Y : mY) (As : List Value) (w : mW) (r : Option Value) (w' : mW) : Prop := MT G d Y As NN w 0 0 (fun r' w'' => r' = r ∧ w'' = w')
abbrev WQ (G : Gl) (d : Nat) (Y : mY) (Q : Option Value → mW → Prop) (k : Nat) (lv : List (Nat × Value)) (st : List Value) (w : mW) : Prop := WP G Y (rmD d 0 0) (QM G NN 0 0 Q) (NN, 0, 0) k lv st w
section C2
variable {G : Gl} {Y Y' : mY} {Q : Option Value → mW → Prop} {k d : Nat} {lv : List (Nat × Value)} {st : List Value} {w : mW} {pc na i : Nat} {As rest : List Value}
theorem hR2 {d : Nat} : d + 2 ≤ (rmD (d + 1) 0 0).frames ∧ 60 * d + 120 ≤ (rmD (d + 1) 0 0).locals ∧ (0 : Nat) + 0 ≤ (rmD (d + 1) 0 0).cells ∧ (0 : Nat) + 0 ≤ (rmD (d + 1) 0 0).slots := ⟨Nat.le_refl _, by show _ ≤ 60 * (d + 1) + 60; omega, Nat.le_refl _, Nat.le_refl _⟩
theorem cS1 {v : Value} {w' : mW} (hd : nx Y k = some (pc, .invokestatic i, 3)) (hl : Cond.methodLink (RN Y.1) i Y'.2.1 ∈ goodL) (hs : sOK Y') (hm : mOK Y' na) (hM : MD G d Y' As w (some v) w') (hst : pops na st [] = some (As, rest)) (hcat : (rest.map (fun v => v.category)).sum ≤ 8) (kk : WQ G (d + 1) Y Q (k + 1) lv (v :: rest) w') : WQ G (d + 1) Y Q k lv st w :=
  wp_cS hd hl hs hm hM hst hcat hR2 (fun r w2 h => by obtain ⟨rfl, rfl⟩ := h; exact kk)
theorem cS0 {w' : mW} (hd : nx Y k = some (pc, .invokestatic i, 3)) (hl : Cond.methodLink (RN Y.1) i Y'.2.1 ∈ goodL) (hs : sOK Y') (hm : mOK Y' na) (hM : MD G d Y' As w none w') (hst : pops na st [] = some (As, rest)) (hcat : (rest.map (fun v => v.category)).sum ≤ 8) (kk : WQ G (d + 1) Y Q (k + 1) lv rest w') : WQ G (d + 1) Y Q k lv st w :=
  wp_cS hd hl hs hm hM hst hcat hR2 (fun r w2 h => by obtain ⟨rfl, rfl⟩ := h; exact kk)
theorem cN1 {v : Value} {w' : mW} (hd : nx Y k = some (pc, .invokestatic i, 3)) (hl : (RN Y.1, i, Y'.2.1) ∈ nestT) (hs : sOK Y') (hm : mOK Y' na) (hM : MD G d Y' As w (some v) w') (hst : pops na st [] = some (As, rest)) (hcat : (rest.map (fun v => v.category)).sum ≤ 8) (kk : WQ G (d + 1) Y Q (k + 1) lv (v :: rest) w') : WQ G (d + 1) Y Q k lv st w :=
  wp_cSN hd hl hs hm hM hst hcat hR2 (fun r w2 h => by obtain ⟨rfl, rfl⟩ := h; exact kk)
theorem cV1 {a : Nat} {v : Value} {w' : mW} (hd : nx Y k = some (pc, .invokevirtual i, 3)) (hl : Cond.methodLink (RN Y.1) i Y'.2.1 ∈ goodL) (hi : iOK Y') (hm : mOK Y' na) (hs : shp NN a = some (.inr Y'.1)) (hc12 : Y'.1 < 12) (hM : MD G d Y' (.ref a :: As) w (some v) w') (hst : pops na st [] = some (As, .ref a :: rest)) (hcat : (rest.map (fun v => v.category)).sum ≤ 8) (kk : WQ G (d + 1) Y Q (k + 1) lv (v :: rest) w') : WQ G (d + 1) Y Q k lv st w :=
  wp_cV hd hl hi hm hs hc12 hM hst hcat hR2 (fun r w2 h => by obtain ⟨rfl, rfl⟩ := h; exact kk)
theorem cV0 {a : Nat} {w' : mW} (hd : nx Y k = some (pc, .invokevirtual i, 3)) (hl : Cond.methodLink (RN Y.1) i Y'.2.1 ∈ goodL) (hi : iOK Y') (hm : mOK Y' na) (hs : shp NN a = some (.inr Y'.1)) (hc12 : Y'.1 < 12) (hM : MD G d Y' (.ref a :: As) w none w') (hst : pops na st [] = some (As, .ref a :: rest)) (hcat : (rest.map (fun v => v.category)).sum ≤ 8) (kk : WQ G (d + 1) Y Q (k + 1) lv rest w') : WQ G (d + 1) Y Q k lv st w :=
  wp_cV hd hl hi hm hs hc12 hM hst hcat hR2 (fun r w2 h => by obtain ⟨rfl, rfl⟩ := h; exact kk)
theorem cVq {a : Nat} {Q' : Option Value → mW → Prop} (hd : nx Y k = some (pc, .invokevirtual i, 3)) (hl : Cond.methodLink (RN Y.1) i Y'.2.1 ∈ goodL) (hi : iOK Y') (hm : mOK Y' na) (hs : shp NN a = some (.inr Y'.1)) (hc12 : Y'.1 < 12) (hM : MQ2 G d Y' (.ref a :: As) w Q') (hst : pops na st [] = some (As, .ref a :: rest)) (hcat : (rest.map (fun v => v.category)).sum ≤ 8) (kk : ∀ r w', Q' r w' → WQ G (d + 1) Y Q (k + 1) lv (r.toList ++ rest) w') : WQ G (d + 1) Y Q k lv st w :=
  wp_cV hd hl hi hm hs hc12 hM hst hcat hR2 kk
end C2
end
section
/-! the second phase: all is made; the world is (I, L, RR b) -/
abbrev IF : Type := Nat → Nat → Int32
abbrev LF : Type := Nat → Nat → Int64
abbrev RF : Type := Nat → Nat → Option Nat
def uI (I : IF) (a k : Nat) (v : Int32) : IF := fun a' k' => if a' = a then (if k' = k then v else I a' k') else I a' k'
def uL (L : LF) (a k : Nat) (v : Int64) : LF := fun a' k' => if a' = a then (if k' = k then v else L a' k') else L a' k'
def uR (R : RF) (a k : Nat) (v : Option Nat) : RF := fun a' k' => if a' = a then (if k' = k then v else R a' k') else R a' k'
def b2 (p : Prop) [Decidable p] : Int32 := if p then 1 else 0
theorem b2_t {p : Prop} [Decidable p] (h : p) : b2 p = 1 := if_pos h
theorem b2_f {p : Prop} [Decidable p] (h : ¬ p) : b2 p = 0 := if_neg h
theorem b2_01 (p : Prop) [Decidable p] : b2 p = 0 ∨ b2 p = 1 := by unfold b2; split <;> simp
theorem b2_ne {p : Prop} [Decidable p] : ¬ b2 p = 0 ↔ p := by unfold b2; split <;> simp_all
theorem b2_eq {p : Prop} [Decidable p] : b2 p = 0 ↔ ¬ p := by unfold b2; split <;> simp_all
def lawA (b : Bool) : Nat := if b then 50 else 66
def drfA (b : Bool) : Nat := if b then 66 else 50
def rrT (b : Bool) : List (Nat × List (Option Nat)) := [(0, [some 1, some 34, some 39, some 44, some 46, some 56, some 65, some (lawA b)]), (1, [some 2, some 3]), (34, [some 35, some 36, some 37, some 38]), (39, [some 40, some 41, some 42, some 43]), (44, [some 45]), (46, [some 47, some (drfA b)]), (47, [some 48, some 49]), (50, [some 51, some 52, some 53, some 54, some 55]), (57, [some 58]), (59, [some 60]), (61, [some 62]), (63, [some 64]), (66, [some 67, some 68, some 69, some 70, some 71]), (72, [none, some 73, some 74, some 75, some 76, none, none, none, none, none, none, none, none, some 77, some 78, some 79, some 80, some 81, some 82, some 83, some 84, some 85, some 86, some 87, some 88, some 89, some 90, some 91, some 92, some 93, none, none, none, some 94, some 95, some 96, none, none, some 97, some 98, some 99, some 100, none, none, none, none, none, none, none, none, none, none, none, none, some 101])]
def rr1 : List (Nat × List (Option Nat)) → Nat → Nat → Option Nat
  | [], _, _ => none
  | e :: r, a, k => match Nat.beq e.1 a with
    | true => (lAt e.2 k).getD none
    | false => rr1 r a k
/-- every reference of the world: only the law and the draft change their places -/
def RR (b : Bool) : RF := fun a k => match Nat.beq a 2 with
  | true => if k < 14 then some (4 + k) else none
  | false => match Nat.beq a 3 with
    | true => if k < 16 then some (18 + k) else none
    | false => match Nat.beq a 56 with
      | true => if k < 4 then some (57 + 2 * k) else none
      | false => rr1 (rrT b) a k
theorem sh_mast : ∀ m, m < 14 → shp NN (4 + m) = some (.inr 4) := by decide
theorem sh_area : ∀ m, m < 16 → shp NN (18 + m) = some (.inr 0) := by decide
theorem sh_row : ∀ m, m < 4 → shp NN (57 + 2 * m) = some (.inr 6) := by decide
theorem sh_rowA : ∀ m, m < 4 → shp NN (58 + 2 * m) = some (.inl (3, 60)) := by decide
theorem sh_law (b : Bool) : shp NN (lawA b) = some (.inr 2) := by cases b <;> rfl
theorem sh_drf (b : Bool) : shp NN (drfA b) = some (.inr 2) := by cases b <;> rfl
theorem rr_row : ∀ m, m < 4 → ∀ b, RR b (57 + 2 * m) 0 = some (58 + 2 * m) := by decide
section QROWS
variable {G : Gl} {Y : mY} {Q : Option Value → mW → Prop} {k d : Nat} {lv : List (Nat × Value)} {st : List Value} {pc : Nat} {I : IF} {L : LF} {R : RF} {bb : Bool}
theorem q_geti {a i ci f : Nat} (hd : nx Y k = some (pc, .getfield i, 3)) (hf : fl Y.1 i = some (ci, f)) (hs : shp NN a = some (.inr ci)) (ht : kd (tyT ci f) = 0) (kk : WQ G d Y Q (k + 1) lv (.int (I a f) :: st) (I, L, R)) : WQ G d Y Q k lv (.ref a :: st) (I, L, R) := wp_geti hd hf hs ht kk
theorem q_getl {a i ci f : Nat} (hd : nx Y k = some (pc, .getfield i, 3)) (hf : fl Y.1 i = some (ci, f)) (hs : shp NN a = some (.inr ci)) (ht : kd (tyT ci f) = 1) (kk : WQ G d Y Q (k + 1) lv (.long (L a f) :: st) (I, L, R)) : WQ G d Y Q k lv (.ref a :: st) (I, L, R) := wp_getl hd hf hs ht kk
theorem q_getr {a i ci f b : Nat} (hd : nx Y k = some (pc, .getfield i, 3)) (hf : fl Y.1 i = some (ci, f)) (hs : shp NN a = some (.inr ci)) (ht : kd (tyT ci f) = 2) (hr : R a f = some b) (kk : WQ G d Y Q (k + 1) lv (.ref b :: st) (I, L, R)) : WQ G d Y Q k lv (.ref a :: st) (I, L, R) := wp_getr hd hf hs ht hr kk
theorem q_puti {a i ci f : Nat} {v : Int32} (hd : nx Y k = some (pc, .putfield i, 3)) (hf : fl Y.1 i = some (ci, f)) (hs : shp NN a = some (.inr ci)) (hfin : (TT ci f).2.2.2 = false ∨ ((TT ci f).2.2.2 = true ∧ Y.2.1.name = "<init>" ∧ (TT ci f).1 = RN Y.1)) (ht : tyT ci f = .int) (kk : WQ G d Y Q (k + 1) lv st (uI I a f v, L, R)) : WQ G d Y Q k lv (.int v :: .ref a :: st) (I, L, R) := wp_puti hd hf hs hfin ht kk
theorem q_putz {a i ci f : Nat} {v : Int32} (hd : nx Y k = some (pc, .putfield i, 3)) (hf : fl Y.1 i = some (ci, f)) (hs : shp NN a = some (.inr ci)) (hfin : (TT ci f).2.2.2 = false ∨ ((TT ci f).2.2.2 = true ∧ Y.2.1.name = "<init>" ∧ (TT ci f).1 = RN Y.1)) (ht : tyT ci f = .boolean) (hv : v = 0 ∨ v = 1) (kk : WQ G d Y Q (k + 1) lv st (uI I a f v, L, R)) : WQ G d Y Q k lv (.int v :: .ref a :: st) (I, L, R) := wp_putz hd hf hs hfin ht hv kk
theorem q_putl {a i ci f : Nat} {v : Int64} (hd : nx Y k = some (pc, .putfield i, 3)) (hf : fl Y.1 i = some (ci, f)) (hs : shp NN a = some (.inr ci)) (hfin : (TT ci f).2.2.2 = false ∨ ((TT ci f).2.2.2 = true ∧ Y.2.1.name = "<init>" ∧ (TT ci f).1 = RN Y.1)) (ht : tyT ci f = .long) (kk : WQ G d Y Q (k + 1) lv st (I, uL L a f v, R)) : WQ G d Y Q k lv (.long v :: .ref a :: st) (I, L, R) := wp_putl hd hf hs hfin ht kk
theorem q_putr {a i ci f b : Nat} (hd : nx Y k = some (pc, .putfield i, 3)) (hf : fl Y.1 i = some (ci, f)) (hs : shp NN a = some (.inr ci)) (hfin : (TT ci f).2.2.2 = false ∨ ((TT ci f).2.2.2 = true ∧ Y.2.1.name = "<init>" ∧ (TT ci f).1 = RN Y.1)) (ht : kd (tyT ci f) = 2) (kk : WQ G d Y Q (k + 1) lv st (I, L, uR R a f (some b))) : WQ G d Y Q k lv (.ref b :: .ref a :: st) (I, L, R) := wp_putr hd hf hs hfin ht kk
theorem q_iald {a len : Nat} {i : Int32} (hd : nx Y k = some (pc, .iaload, 1)) (hs : shp NN a = some (.inl (0, len))) (hi : vp_in i len) (kk : WQ G d Y Q (k + 1) lv (.int (I a i.toNatClampNeg) :: st) (I, L, R)) : WQ G d Y Q k lv (.int i :: .ref a :: st) (I, L, R) := wp_iald hd hs hi kk
theorem q_bald {a len : Nat} {i : Int32} (hd : nx Y k = some (pc, .baload, 1)) (hs : shp NN a = some (.inl (1, len))) (hi : vp_in i len) (kk : WQ G d Y Q (k + 1) lv (.int (I a i.toNatClampNeg) :: st) (I, L, R)) : WQ G d Y Q k lv (.int i :: .ref a :: st) (I, L, R) := wp_bald hd hs hi kk
theorem q_zald {a len : Nat} {i : Int32} (hd : nx Y k = some (pc, .baload, 1)) (hs : shp NN a = some (.inl (2, len))) (hi : vp_in i len) (kk : WQ G d Y Q (k + 1) lv (.int (I a i.toNatClampNeg) :: st) (I, L, R)) : WQ G d Y Q k lv (.int i :: .ref a :: st) (I, L, R) := wp_zald hd hs hi kk
theorem q_lald {a len : Nat} {i : Int32} (hd : nx Y k = some (pc, .laload, 1)) (hs : shp NN a = some (.inl (3, len))) (hi : vp_in i len) (kk : WQ G d Y Q (k + 1) lv (.long (L a i.toNatClampNeg) :: st) (I, L, R)) : WQ G d Y Q k lv (.int i :: .ref a :: st) (I, L, R) := wp_lald hd hs hi kk
theorem q_iast {a len : Nat} {i : Int32} {x : Int32} (hd : nx Y k = some (pc, .iastore, 1)) (hs : shp NN a = some (.inl (0, len))) (hi : vp_in i len) (kk : WQ G d Y Q (k + 1) lv st (uI I a i.toNatClampNeg x, L, R)) : WQ G d Y Q k lv (.int x :: .int i :: .ref a :: st) (I, L, R) := wp_iast hd hs hi kk
theorem q_bast {a len : Nat} {i : Int32} {x : Int32} (hd : nx Y k = some (pc, .bastore, 1)) (hs : shp NN a = some (.inl (1, len))) (hi : vp_in i len) (kk : WQ G d Y Q (k + 1) lv st (uI I a i.toNatClampNeg (vp_nar .byte x), L, R)) : WQ G d Y Q k lv (.int x :: .int i :: .ref a :: st) (I, L, R) := wp_bast hd hs hi kk
theorem q_zast {a len : Nat} {i : Int32} {x : Int32} (hd : nx Y k = some (pc, .bastore, 1)) (hs : shp NN a = some (.inl (2, len))) (hi : vp_in i len) (kk : WQ G d Y Q (k + 1) lv st (uI I a i.toNatClampNeg (vp_nar .boolean x), L, R)) : WQ G d Y Q k lv (.int x :: .int i :: .ref a :: st) (I, L, R) := wp_zast hd hs hi kk
theorem q_last {a len : Nat} {i : Int32} {x : Int64} (hd : nx Y k = some (pc, .lastore, 1)) (hs : shp NN a = some (.inl (3, len))) (hi : vp_in i len) (kk : WQ G d Y Q (k + 1) lv st (I, uL L a i.toNatClampNeg x, R)) : WQ G d Y Q k lv (.long x :: .int i :: .ref a :: st) (I, L, R) := wp_last hd hs hi kk
theorem q_mast {m : Nat} {x : Int32} (hd : nx Y k = some (pc, .aaload, 1)) (hx : x = nI m) (hm : m < 14) (kk : WQ G d Y Q (k + 1) lv (.ref (4 + m) :: st) (I, L, RR bb)) : WQ G d Y Q k lv (.int x :: .ref 2 :: st) (I, L, RR bb) := by
  subst hx
  refine wp_aald (t := 4) (len := 14) hd rfl (by decide) (vp_in_nI hm (by decide)) ?_ kk
  rw [nI_clamp (by omega)]
  show (if m < 14 then _ else _) = _
  rw [if_pos hm]
theorem q_area {m : Nat} {x : Int32} (hd : nx Y k = some (pc, .aaload, 1)) (hx : x = nI m) (hm : m < 16) (kk : WQ G d Y Q (k + 1) lv (.ref (18 + m) :: st) (I, L, RR bb)) : WQ G d Y Q k lv (.int x :: .ref 3 :: st) (I, L, RR bb) := by
  subst hx
  refine wp_aald (t := 5) (len := 16) hd rfl (by decide) (vp_in_nI hm (by decide)) ?_ kk
  rw [nI_clamp (by omega)]
  show (if m < 16 then _ else _) = _
  rw [if_pos hm]
theorem q_rowo {m : Nat} {x : Int32} (hd : nx Y k = some (pc, .aaload, 1)) (hx : x = nI m) (hm : m < 4) (kk : WQ G d Y Q (k + 1) lv (.ref (57 + 2 * m) :: st) (I, L, RR bb)) : WQ G d Y Q k lv (.int x :: .ref 56 :: st) (I, L, RR bb) := by
  subst hx
  refine wp_aald (t := 6) (len := 4) hd rfl (by decide) (vp_in_nI hm (by decide)) ?_ kk
  rw [nI_clamp (by omega)]
  show (if m < 4 then _ else _) = _
  rw [if_pos hm]
end QROWS
end
section
/-! leaves of the class -/
theorem nb2 (p : Prop) [Decidable p] : narrow .boolean (.int (b2 p)) = .int (b2 p) := by rcases b2_01 p with h | h <;> rw [h] <;> rfl
theorem vpin {x : Int32} {n : Nat} (h0 : 0 ≤ x) (h1 : x < Int32.ofNat n) (hn : n < 2 ^ 31) : vp_in x n := by
  rw [vp_in_iff]
  have a := Int32.le_iff_toInt_le.mp h0
  have b := Int32.lt_iff_toInt_lt.mp h1
  have c : (Int32.ofNat n).toInt = n := nI_toInt hn
  rw [c] at b
  exact ⟨a, b⟩
theorem nI_get {x : Int32} {n : Nat} (h0 : 0 ≤ x) (h1 : x < nI n) (hn : n < 2 ^ 31) : ∃ m, m < n ∧ x = nI m := by
  have h := vpin h0 h1 hn
  exact vp_in_of h hn
theorem c_X10_isWithin (G : Gl) (d : Nat) (v f t : Int32) (w : mW) : MD G d Y_X10_isWithin [.int v, .int f, .int t] w (some (.int (b2 (f ≤ v ∧ v ≤ t)))) w := by
  refine MT.intro m_X10_isWithin rfl (Nat.le_of_ble_eq_true rfl) ?_
  show WQ G d Y_X10_isWithin _ 0 [(0, .int v), (1, .int f), (2, .int t)] [] w
  refine wp_iload_n rfl rfl ?_
  refine wp_iload_n rfl rfl ?_
  refine wp_icmp_lt 8 rfl rfl (fun h2 => ?_) (fun h2 => ?_)
  · refine wp_iconst (v := 0) rfl rfl ?_
    exact wp_zret rfl rfl (by first | rfl | exact nb2 _ | assumption) (⟨by first | rfl | grind [b2], rfl⟩)
  · refine wp_iload_n rfl rfl ?_
    refine wp_iload_n rfl rfl ?_
    refine wp_icmp_gt 8 rfl rfl (fun h5 => ?_) (fun h5 => ?_)
    · refine wp_iconst (v := 0) rfl rfl ?_
      exact wp_zret rfl rfl (by first | rfl | exact nb2 _ | assumption) (⟨by first | rfl | grind [b2], rfl⟩)
    · refine wp_iconst (v := 1) rfl rfl ?_
      refine wp_goto 9 rfl rfl ?_
      exact wp_zret rfl rfl (by first | rfl | exact nb2 _ | assumption) (⟨by first | rfl | grind [b2], rfl⟩)
theorem c_X10_isIn (G : Gl) (d : Nat) (s i : Int32) (w : mW) : MD G d Y_X10_isIn [.int s, .int i] w (some (.int (b2 (¬ (s >>> (i &&& 31)) &&& 1 = 0)))) w := by
  refine MT.intro m_X10_isIn rfl (Nat.le_of_ble_eq_true rfl) ?_
  show WQ G d Y_X10_isIn _ 0 [(0, .int s), (1, .int i)] [] w
  refine wp_iload_n rfl rfl ?_
  refine wp_iload_n rfl rfl ?_
  refine wp_ishr rfl ?_
  refine wp_iconst (v := 1) rfl rfl ?_
  refine wp_iand rfl ?_
  refine wp_if_eq 8 rfl rfl (fun h5 => ?_) (fun h5 => ?_)
  · refine wp_iconst (v := 0) rfl rfl ?_
    exact wp_zret rfl rfl (by first | rfl | exact nb2 _ | assumption) (⟨by first | rfl | grind [b2], rfl⟩)
  · refine wp_iconst (v := 1) rfl rfl ?_
    refine wp_goto 9 rfl rfl ?_
    exact wp_zret rfl rfl (by first | rfl | exact nb2 _ | assumption) (⟨by first | rfl | grind [b2], rfl⟩)
theorem c_X10_asNumber (G : Gl) (d : Nat) (s : Int32) (w : mW) : MD G d Y_X10_asNumber [.int s] w (some (.int (b2 (¬ s = 0)))) w := by
  refine MT.intro m_X10_asNumber rfl (Nat.le_of_ble_eq_true rfl) ?_
  show WQ G d Y_X10_asNumber _ 0 [(0, .int s)] [] w
  refine wp_iload_n rfl rfl ?_
  refine wp_if_eq 4 rfl rfl (fun h1 => ?_) (fun h1 => ?_)
  · refine wp_iconst (v := 0) rfl rfl ?_
    exact wp_iret rfl rfl (⟨by first | rfl | grind [b2], rfl⟩)
  · refine wp_iconst (v := 1) rfl rfl ?_
    refine wp_goto 5 rfl rfl ?_
    exact wp_iret rfl rfl (⟨by first | rfl | grind [b2], rfl⟩)
theorem c_X10_isSlot (G : Gl) (d : Nat) (s : Int32) (w : mW) : MD G (d + 1) Y_X10_isSlot [.int s] w (some (.int (b2 (0 ≤ s ∧ s ≤ 3)))) w := by
  refine MT.intro m_X10_isSlot rfl (Nat.le_of_ble_eq_true rfl) ?_
  show WQ G (d + 1) Y_X10_isSlot _ 0 [(0, .int s)] [] w
  refine wp_iload_n rfl rfl ?_
  refine wp_iconst (v := 0) rfl rfl ?_
  refine wp_iconst (v := 3) rfl rfl ?_
  refine cS1 rfl l_10_77 s_X10_isWithin m_X10_isWithin (c_X10_isWithin G _ _ _ _ _) rfl (Nat.le_of_ble_eq_true rfl) ?_
  exact wp_zret rfl rfl (by first | rfl | exact nb2 _ | assumption) (⟨by first | rfl | grind [b2], rfl⟩)
theorem c_X10_isPlace (G : Gl) (d : Nat) (x y : Int32) (w : mW) : MD G (d + 1) Y_X10_isPlace [.int x, .int y] w (some (.int (b2 ((0 ≤ x ∧ x ≤ 100) ∧ 0 ≤ y ∧ y ≤ 100)))) w := by
  refine MT.intro m_X10_isPlace rfl (Nat.le_of_ble_eq_true rfl) ?_
  show WQ G (d + 1) Y_X10_isPlace _ 0 [(0, .int x), (1, .int y)] [] w
  refine wp_iload_n rfl rfl ?_
  refine wp_iconst (v := 0) rfl rfl ?_
  refine wp_bipush (v := 100) rfl rfl ?_
  refine cS1 rfl l_10_77 s_X10_isWithin m_X10_isWithin (c_X10_isWithin G _ _ _ _ _) rfl (Nat.le_of_ble_eq_true rfl) ?_
  refine wp_if_eq 12 rfl rfl (fun h4 => ?_) (fun h4 => ?_)
  · refine wp_iconst (v := 0) rfl rfl ?_
    exact wp_zret rfl rfl (by first | rfl | exact nb2 _ | assumption) (⟨by first | rfl | grind [b2], rfl⟩)
  · refine wp_iload_n rfl rfl ?_
    refine wp_iconst (v := 0) rfl rfl ?_
    refine wp_bipush (v := 100) rfl rfl ?_
    refine cS1 rfl l_10_77 s_X10_isWithin m_X10_isWithin (c_X10_isWithin G _ _ _ _ _) rfl (Nat.le_of_ble_eq_true rfl) ?_
    refine wp_if_eq 12 rfl rfl (fun h9 => ?_) (fun h9 => ?_)
    · refine wp_iconst (v := 0) rfl rfl ?_
      exact wp_zret rfl rfl (by first | rfl | exact nb2 _ | assumption) (⟨by first | rfl | grind [b2], rfl⟩)
    · refine wp_iconst (v := 1) rfl rfl ?_
      refine wp_goto 13 rfl rfl ?_
      exact wp_zret rfl rfl (by first | rfl | exact nb2 _ | assumption) (⟨by first | rfl | grind [b2], rfl⟩)
theorem c_X10_isFitSender (G : Gl) (d : Nat) (x y p c : Int32) (w : mW) : MD G (d + 2) Y_X10_isFitSender [.int x, .int y, .int p, .int c] w (some (.int (b2 (((0 ≤ x ∧ x ≤ 100) ∧ 0 ≤ y ∧ y ≤ 100) ∧ (1 ≤ p ∧ p ≤ 10000) ∧ 0 ≤ c ∧ c ≤ 11)))) w := by
  refine MT.intro m_X10_isFitSender rfl (Nat.le_of_ble_eq_true rfl) ?_
  show WQ G (d + 2) Y_X10_isFitSender _ 0 [(0, .int x), (1, .int y), (2, .int p), (3, .int c)] [] w
  refine wp_iload_n rfl rfl ?_
  refine wp_iload_n rfl rfl ?_
  refine cS1 rfl l_10_120 s_X10_isPlace m_X10_isPlace (c_X10_isPlace G _ _ _ _) rfl (Nat.le_of_ble_eq_true rfl) ?_
  refine wp_if_eq 16 rfl rfl (fun h3 => ?_) (fun h3 => ?_)
  · refine wp_iconst (v := 0) rfl rfl ?_
    exact wp_zret rfl rfl (by first | rfl | exact nb2 _ | assumption) (⟨by first | rfl | grind [b2], rfl⟩)
  · refine wp_iload_n rfl rfl ?_
    refine wp_iconst (v := 1) rfl rfl ?_
    refine wp_sipush (v := 10000) rfl rfl ?_
    refine cS1 rfl l_10_77 s_X10_isWithin m_X10_isWithin (c_X10_isWithin G _ _ _ _ _) rfl (Nat.le_of_ble_eq_true rfl) ?_
    refine wp_if_eq 16 rfl rfl (fun h8 => ?_) (fun h8 => ?_)
    · refine wp_iconst (v := 0) rfl rfl ?_
      exact wp_zret rfl rfl (by first | rfl | exact nb2 _ | assumption) (⟨by first | rfl | grind [b2], rfl⟩)
    · refine wp_iload_n rfl rfl ?_
      refine wp_iconst (v := 0) rfl rfl ?_
      refine wp_bipush (v := 11) rfl rfl ?_
      refine cS1 rfl l_10_77 s_X10_isWithin m_X10_isWithin (c_X10_isWithin G _ _ _ _ _) rfl (Nat.le_of_ble_eq_true rfl) ?_
      refine wp_if_eq 16 rfl rfl (fun h13 => ?_) (fun h13 => ?_)
      · refine wp_iconst (v := 0) rfl rfl ?_
        exact wp_zret rfl rfl (by first | rfl | exact nb2 _ | assumption) (⟨by first | rfl | grind [b2], rfl⟩)
      · refine wp_iconst (v := 1) rfl rfl ?_
        refine wp_goto 17 rfl rfl ?_
        exact wp_zret rfl rfl (by first | rfl | exact nb2 _ | assumption) (⟨by first | rfl | grind [b2], rfl⟩)
theorem c_X1_isMast (G : Gl) (d : Nat) (v : Int32) (I : IF) (L : LF) (R : RF) : MD G d Y_X1_isMast [.ref 1, .int v] (I, L, R) (some (.int (b2 (0 ≤ v ∧ v < I 1 2)))) (I, L, R) := by
  refine MT.intro m_X1_isMast rfl (Nat.le_of_ble_eq_true rfl) ?_
  show WQ G d Y_X1_isMast _ 0 [(0, .ref 1), (1, .int v)] [] (I, L, R)
  refine wp_iload_n rfl rfl ?_
  refine wp_if_lt 8 rfl rfl (fun h1 => ?_) (fun h1 => ?_)
  · refine wp_iconst (v := 0) rfl rfl ?_
    exact wp_zret rfl rfl (by first | rfl | exact nb2 _ | assumption) (⟨by first | rfl | grind [b2], rfl⟩)
  · refine wp_iload_n rfl rfl ?_
    refine wp_aload_n rfl rfl ?_
    refine q_geti rfl rfl (by first | rfl | assumption) rfl ?_
    refine wp_icmp_ge 8 rfl rfl (fun h5 => ?_) (fun h5 => ?_)
    · refine wp_iconst (v := 0) rfl rfl ?_
      exact wp_zret rfl rfl (by first | rfl | exact nb2 _ | assumption) (⟨by first | rfl | grind [b2], rfl⟩)
    · refine wp_iconst (v := 1) rfl rfl ?_
      refine wp_goto 9 rfl rfl ?_
      exact wp_zret rfl rfl (by first | rfl | exact nb2 _ | assumption) (⟨by first | rfl | grind [b2], rfl⟩)
theorem c_X1_isArea (G : Gl) (d : Nat) (v : Int32) (I : IF) (L : LF) (R : RF) : MD G d Y_X1_isArea [.ref 1, .int v] (I, L, R) (some (.int (b2 (0 ≤ v ∧ v < I 1 4)))) (I, L, R) := by
  refine MT.intro m_X1_isArea rfl (Nat.le_of_ble_eq_true rfl) ?_
  show WQ G d Y_X1_isArea _ 0 [(0, .ref 1), (1, .int v)] [] (I, L, R)
  refine wp_iload_n rfl rfl ?_
  refine wp_if_lt 8 rfl rfl (fun h1 => ?_) (fun h1 => ?_)
  · refine wp_iconst (v := 0) rfl rfl ?_
    exact wp_zret rfl rfl (by first | rfl | exact nb2 _ | assumption) (⟨by first | rfl | grind [b2], rfl⟩)
  · refine wp_iload_n rfl rfl ?_
    refine wp_aload_n rfl rfl ?_
    refine q_geti rfl rfl (by first | rfl | assumption) rfl ?_
    refine wp_icmp_ge 8 rfl rfl (fun h5 => ?_) (fun h5 => ?_)
    · refine wp_iconst (v := 0) rfl rfl ?_
      exact wp_zret rfl rfl (by first | rfl | exact nb2 _ | assumption) (⟨by first | rfl | grind [b2], rfl⟩)
    · refine wp_iconst (v := 1) rfl rfl ?_
      refine wp_goto 9 rfl rfl ?_
      exact wp_zret rfl rfl (by first | rfl | exact nb2 _ | assumption) (⟨by first | rfl | grind [b2], rfl⟩)
theorem c_X1_isSender (G : Gl) (d : Nat) (v : Int32) (I : IF) (L : LF) (R : RF) : MD G (d + 1) Y_X1_isSender [.ref 1, .int v] (I, L, R) (some (.int (b2 ((0 ≤ v ∧ v < I 1 2) ∨ (10 ≤ v ∧ v - 10 < I 1 3))))) (I, L, R) := by
  refine MT.intro m_X1_isSender rfl (Nat.le_of_ble_eq_true rfl) ?_
  show WQ G (d + 1) Y_X1_isSender _ 0 [(0, .ref 1), (1, .int v)] [] (I, L, R)
  refine wp_aload_n rfl rfl ?_
  refine wp_iload_n rfl rfl ?_
  refine cV1 rfl l_1_35 i_X1_isMast m_X1_isMast (by first | rfl | assumption) (by decide) (c_X1_isMast G _ _ _ _ _) rfl (Nat.le_of_ble_eq_true rfl) ?_
  refine wp_if_ne 13 rfl rfl (fun h3 => ?_) (fun h3 => ?_)
  · refine wp_iconst (v := 1) rfl rfl ?_
    refine wp_goto 16 rfl rfl ?_
    exact wp_zret rfl rfl (by first | rfl | exact nb2 _ | assumption) (⟨by first | rfl | grind [b2], rfl⟩)
  · refine wp_iload_n rfl rfl ?_
    refine wp_bipush (v := 10) rfl rfl ?_
    refine wp_icmp_lt 15 rfl rfl (fun h6 => ?_) (fun h6 => ?_)
    · refine wp_iconst (v := 0) rfl rfl ?_
      exact wp_zret rfl rfl (by first | rfl | exact nb2 _ | assumption) (⟨by first | rfl | grind [b2], rfl⟩)
    · refine wp_iload_n rfl rfl ?_
      refine wp_bipush (v := 10) rfl rfl ?_
      refine wp_isub rfl ?_
      refine wp_aload_n rfl rfl ?_
      refine q_geti rfl rfl (by first | rfl | assumption) rfl ?_
      refine wp_icmp_ge 15 rfl rfl (fun h12 => ?_) (fun h12 => ?_)
      · refine wp_iconst (v := 0) rfl rfl ?_
        exact wp_zret rfl rfl (by first | rfl | exact nb2 _ | assumption) (⟨by first | rfl | grind [b2], rfl⟩)
      · refine wp_iconst (v := 1) rfl rfl ?_
        refine wp_goto 16 rfl rfl ?_
        exact wp_zret rfl rfl (by first | rfl | exact nb2 _ | assumption) (⟨by first | rfl | grind [b2], rfl⟩)
theorem c_X0_lookAt (G : Gl) (d a : Nat) (v : Int32) (I : IF) (L : LF) (R : RF) (ha : shp NN a = some (.inr 0)) : MD G d Y_X0_lookAt [.ref a, .int v] (I, L, R) (some (.int (b2 (¬ I a 6 = v)))) (if I a 6 = v then I else uI (uI I a 6 v) a 7 (I a 7 + 1), L, R) := by
  refine MT.intro m_X0_lookAt rfl (Nat.le_of_ble_eq_true rfl) ?_
  show WQ G d Y_X0_lookAt _ 0 [(0, .ref a), (1, .int v)] [] (I, L, R)
  refine wp_aload_n rfl rfl ?_
  refine q_geti rfl rfl (by first | rfl | assumption) rfl ?_
  refine wp_iload_n rfl rfl ?_
  refine wp_icmp_ne 6 rfl rfl (fun h3 => ?_) (fun h3 => ?_)
  · refine wp_aload_n rfl rfl ?_
    refine wp_iload_n rfl rfl ?_
    refine q_puti rfl rfl (by first | rfl | assumption) (Or.inl rfl) rfl ?_
    refine wp_aload_n rfl rfl ?_
    refine wp_dup rfl rfl ?_
    refine q_geti rfl rfl (by first | rfl | assumption) rfl ?_
    refine wp_iconst (v := 1) rfl rfl ?_
    refine wp_iadd rfl ?_
    refine q_puti rfl rfl (by first | rfl | assumption) (Or.inl rfl) rfl ?_
    refine wp_iconst (v := 1) rfl rfl ?_
    exact wp_zret rfl rfl (by first | rfl | exact nb2 _ | assumption) (⟨by simp_all [b2], by simp_all [uI]⟩)
  · refine wp_iconst (v := 0) rfl rfl ?_
    exact wp_zret rfl rfl (by first | rfl | exact nb2 _ | assumption) (⟨by simp_all [b2], by simp_all [uI]⟩)
def aFact (I : IF) (a : Nat) (x : Int32) : Int32 := if x = 0 then I a 2 else if x = 1 then I a 3 else if x = 2 then I a 4 else if x = 3 then I a 5 else if x = 4 then I a 6 else if x = 5 then I a 7 else -2
theorem c_X0_fact (G : Gl) (d a : Nat) (x : Int32) (I : IF) (L : LF) (R : RF) (ha : shp NN a = some (.inr 0)) : MD G d Y_X0_fact [.ref a, .int x] (I, L, R) (some (.int (aFact I a x))) (I, L, R) := by
  refine MT.intro m_X0_fact rfl (Nat.le_of_ble_eq_true rfl) ?_
  show WQ G d Y_X0_fact _ 0 [(0, .ref a), (1, .int x)] [] (I, L, R)
  refine wp_iload_n rfl rfl ?_
  by_cases e1_0 : x = 0
  · subst e1_0
    refine wp_tsIn 2 rfl (by decide) (by decide) rfl rfl ?_
    refine wp_aload_n rfl rfl ?_
    refine q_geti rfl rfl (by first | rfl | assumption) rfl ?_
    exact wp_iret rfl rfl (⟨by simp_all [aFact], rfl⟩)
  by_cases e1_1 : x = 1
  · subst e1_1
    refine wp_tsIn 5 rfl (by decide) (by decide) rfl rfl ?_
    refine wp_aload_n rfl rfl ?_
    refine q_geti rfl rfl (by first | rfl | assumption) rfl ?_
    exact wp_iret rfl rfl (⟨by simp_all [aFact], rfl⟩)
  by_cases e1_2 : x = 2
  · subst e1_2
    refine wp_tsIn 8 rfl (by decide) (by decide) rfl rfl ?_
    refine wp_aload_n rfl rfl ?_
    refine q_geti rfl rfl (by first | rfl | assumption) rfl ?_
    exact wp_iret rfl rfl (⟨by simp_all [aFact], rfl⟩)
  by_cases e1_3 : x = 3
  · subst e1_3
    refine wp_tsIn 11 rfl (by decide) (by decide) rfl rfl ?_
    refine wp_aload_n rfl rfl ?_
    refine q_geti rfl rfl (by first | rfl | assumption) rfl ?_
    exact wp_iret rfl rfl (⟨by simp_all [aFact], rfl⟩)
  by_cases e1_4 : x = 4
  · subst e1_4
    refine wp_tsIn 14 rfl (by decide) (by decide) rfl rfl ?_
    refine wp_aload_n rfl rfl ?_
    refine q_geti rfl rfl (by first | rfl | assumption) rfl ?_
    exact wp_iret rfl rfl (⟨by simp_all [aFact], rfl⟩)
  by_cases e1_5 : x = 5
  · subst e1_5
    refine wp_tsIn 17 rfl (by decide) (by decide) rfl rfl ?_
    refine wp_aload_n rfl rfl ?_
    refine q_geti rfl rfl (by first | rfl | assumption) rfl ?_
    exact wp_iret rfl rfl (⟨by simp_all [aFact], rfl⟩)
  refine wp_tsOut 20 rfl (by have a0 := lv_neT e1_0 (a := 0) rfl; have a1 := lv_neT e1_1 (a := 1) rfl; have a2 := lv_neT e1_2 (a := 2) rfl; have a3 := lv_neT e1_3 (a := 3) rfl; have a4 := lv_neT e1_4 (a := 4) rfl; have a5 := lv_neT e1_5 (a := 5) rfl; omega) rfl ?_
  refine wp_bipush (v := (-2)) rfl rfl ?_
  exact wp_iret rfl rfl (⟨by simp_all [aFact], rfl⟩)
def mFact (I : IF) (a : Nat) (x : Int32) : Int32 := if x = 0 then I a 0 else if x = 1 then I a 1 else if x = 2 then I a 2 else if x = 3 then I a 3 else if x = 4 then b2 (¬ I a 4 = 0) else if x = 5 then I a 5 else if x = 6 then b2 (¬ I a 9 = 0) else if x = 7 then b2 (¬ I a 10 = 0) else -2
theorem c_X4_fact (G : Gl) (d a : Nat) (x : Int32) (I : IF) (L : LF) (R : RF) (ha : shp NN a = some (.inr 4)) : MD G (d + 1) Y_X4_fact [.ref a, .int x] (I, L, R) (some (.int (mFact I a x))) (I, L, R) := by
  refine MT.intro m_X4_fact rfl (Nat.le_of_ble_eq_true rfl) ?_
  show WQ G (d + 1) Y_X4_fact _ 0 [(0, .ref a), (1, .int x)] [] (I, L, R)
  refine wp_iload_n rfl rfl ?_
  by_cases e1_0 : x = 0
  · subst e1_0
    refine wp_tsIn 2 rfl (by decide) (by decide) rfl rfl ?_
    refine wp_aload_n rfl rfl ?_
    refine q_geti rfl rfl (by first | rfl | assumption) rfl ?_
    exact wp_iret rfl rfl (⟨by simp_all [mFact], rfl⟩)
  by_cases e1_1 : x = 1
  · subst e1_1
    refine wp_tsIn 5 rfl (by decide) (by decide) rfl rfl ?_
    refine wp_aload_n rfl rfl ?_
    refine q_geti rfl rfl (by first | rfl | assumption) rfl ?_
    exact wp_iret rfl rfl (⟨by simp_all [mFact], rfl⟩)
  by_cases e1_2 : x = 2
  · subst e1_2
    refine wp_tsIn 8 rfl (by decide) (by decide) rfl rfl ?_
    refine wp_aload_n rfl rfl ?_
    refine q_geti rfl rfl (by first | rfl | assumption) rfl ?_
    exact wp_iret rfl rfl (⟨by simp_all [mFact], rfl⟩)
  by_cases e1_3 : x = 3
  · subst e1_3
    refine wp_tsIn 11 rfl (by decide) (by decide) rfl rfl ?_
    refine wp_aload_n rfl rfl ?_
    refine q_geti rfl rfl (by first | rfl | assumption) rfl ?_
    exact wp_iret rfl rfl (⟨by simp_all [mFact], rfl⟩)
  by_cases e1_4 : x = 4
  · subst e1_4
    refine wp_tsIn 14 rfl (by decide) (by decide) rfl rfl ?_
    refine wp_aload_n rfl rfl ?_
    refine q_geti rfl rfl (by first | rfl | assumption) rfl ?_
    refine cN1 rfl ln_4_44 s_X10_asNumber m_X10_asNumber (c_X10_asNumber G _ _ _) rfl (Nat.le_of_ble_eq_true rfl) ?_
    exact wp_iret rfl rfl (⟨by simp_all [mFact], rfl⟩)
  by_cases e1_5 : x = 5
  · subst e1_5
    refine wp_tsIn 18 rfl (by decide) (by decide) rfl rfl ?_
    refine wp_aload_n rfl rfl ?_
    refine q_geti rfl rfl (by first | rfl | assumption) rfl ?_
    exact wp_iret rfl rfl (⟨by simp_all [mFact], rfl⟩)
  by_cases e1_6 : x = 6
  · subst e1_6
    refine wp_tsIn 21 rfl (by decide) (by decide) rfl rfl ?_
    refine wp_aload_n rfl rfl ?_
    refine q_geti rfl rfl (by first | rfl | assumption) rfl ?_
    refine cN1 rfl ln_4_44 s_X10_asNumber m_X10_asNumber (c_X10_asNumber G _ _ _) rfl (Nat.le_of_ble_eq_true rfl) ?_
    exact wp_iret rfl rfl (⟨by simp_all [mFact], rfl⟩)
  by_cases e1_7 : x = 7
  · subst e1_7
    refine wp_tsIn 25 rfl (by decide) (by decide) rfl rfl ?_
    refine wp_aload_n rfl rfl ?_
    refine q_geti rfl rfl (by first | rfl | assumption) rfl ?_
    refine cN1 rfl ln_4_44 s_X10_asNumber m_X10_asNumber (c_X10_asNumber G _ _ _) rfl (Nat.le_of_ble_eq_true rfl) ?_
    exact wp_iret rfl rfl (⟨by simp_all [mFact], rfl⟩)
  refine wp_tsOut 29 rfl (by have a0 := lv_neT e1_0 (a := 0) rfl; have a1 := lv_neT e1_1 (a := 1) rfl; have a2 := lv_neT e1_2 (a := 2) rfl; have a3 := lv_neT e1_3 (a := 3) rfl; have a4 := lv_neT e1_4 (a := 4) rfl; have a5 := lv_neT e1_5 (a := 5) rfl; have a6 := lv_neT e1_6 (a := 6) rfl; have a7 := lv_neT e1_7 (a := 7) rfl; omega) rfl ?_
  refine wp_bipush (v := (-2)) rfl rfl ?_
  exact wp_iret rfl rfl (⟨by simp_all [mFact], rfl⟩)
theorem c_X4_stand (G : Gl) (d a : Nat) (x y p c : Int32) (I : IF) (L : LF) (R : RF) (ha : shp NN a = some (.inr 4)) : MD G d Y_X4_stand [.ref a, .int x, .int y, .int p, .int c] (I, L, R) none (uI (uI (uI (uI I a 0 x) a 1 y) a 2 p) a 5 c, L, R) := by
  refine MT.intro m_X4_stand rfl (Nat.le_of_ble_eq_true rfl) ?_
  show WQ G d Y_X4_stand _ 0 [(0, .ref a), (1, .int x), (2, .int y), (3, .int p), (4, .int c)] [] (I, L, R)
  refine wp_aload_n rfl rfl ?_
  refine wp_iload_n rfl rfl ?_
  refine q_puti rfl rfl (by first | rfl | assumption) (Or.inl rfl) rfl ?_
  refine wp_aload_n rfl rfl ?_
  refine wp_iload_n rfl rfl ?_
  refine q_puti rfl rfl (by first | rfl | assumption) (Or.inl rfl) rfl ?_
  refine wp_aload_n rfl rfl ?_
  refine wp_iload_n rfl rfl ?_
  refine q_puti rfl rfl (by first | rfl | assumption) (Or.inl rfl) rfl ?_
  refine wp_aload_n rfl rfl ?_
  refine wp_iload rfl rfl ?_
  refine q_puti rfl rfl (by first | rfl | assumption) (Or.inl rfl) rfl ?_
  exact wp_vret rfl rfl (⟨rfl, rfl⟩)
def chNow (I : IF) (a : Nat) : Int32 := if I a 9 = 0 then I a 5 else I a 6
theorem c_X4_channelNow (G : Gl) (d a : Nat) (I : IF) (L : LF) (R : RF) (ha : shp NN a = some (.inr 4)) : MD G d Y_X4_channelNow [.ref a] (I, L, R) (some (.int (chNow I a))) (I, L, R) := by
  refine MT.intro m_X4_channelNow rfl (Nat.le_of_ble_eq_true rfl) ?_
  show WQ G d Y_X4_channelNow _ 0 [(0, .ref a)] [] (I, L, R)
  refine wp_aload_n rfl rfl ?_
  refine q_geti rfl rfl (by first | rfl | assumption) rfl ?_
  refine wp_if_eq 6 rfl rfl (fun h2 => ?_) (fun h2 => ?_)
  · refine wp_aload_n rfl rfl ?_
    refine q_geti rfl rfl (by first | rfl | assumption) rfl ?_
    exact wp_iret rfl rfl (⟨by simp_all [chNow], rfl⟩)
  · refine wp_aload_n rfl rfl ?_
    refine q_geti rfl rfl (by first | rfl | assumption) rfl ?_
    refine wp_goto 8 rfl rfl ?_
    exact wp_iret rfl rfl (⟨by simp_all [chNow], rfl⟩)
/-- the square's sum below the line -/
def sqD (x y a b : Int32) : Int32 := 10 + (x - a) * (x - a) + (y - b) * (y - b)
def strg (p x y a b : Int32) : Int32 := 1000 * p / sqD x y a b
theorem c_X4_strengthAt (G : Gl) (d m a : Nat) (I : IF) (L : LF) (R : RF) (hm : shp NN m = some (.inr 4)) (ha : shp NN a = some (.inr 0)) (hne : ¬ sqD (I m 0) (I m 1) (I a 0) (I a 1) = 0) : MD G d Y_X4_strengthAt [.ref m, .ref a] (I, L, R) (some (.int (strg (I m 2) (I m 0) (I m 1) (I a 0) (I a 1)))) (I, L, R) := by
  refine MT.intro m_X4_strengthAt rfl (Nat.le_of_ble_eq_true rfl) ?_
  show WQ G d Y_X4_strengthAt _ 0 [(0, .ref m), (1, .ref a)] [] (I, L, R)
  refine wp_aload_n rfl rfl ?_
  refine q_geti rfl rfl (by first | rfl | assumption) rfl ?_
  refine wp_aload_n rfl rfl ?_
  refine q_geti rfl rfl (by first | rfl | assumption) rfl ?_
  refine wp_isub rfl ?_
  refine wp_istore_n (lv' := [(2, _), (0, _), (1, _)]) rfl rfl (by decide) rfl ?_
  refine wp_aload_n rfl rfl ?_
  refine q_geti rfl rfl (by first | rfl | assumption) rfl ?_
  refine wp_aload_n rfl rfl ?_
  refine q_geti rfl rfl (by first | rfl | assumption) rfl ?_
  refine wp_isub rfl ?_
  refine wp_istore_n (lv' := [(3, _), (2, _), (0, _), (1, _)]) rfl rfl (by decide) rfl ?_
  refine wp_sipush (v := 1000) rfl rfl ?_
  refine wp_aload_n rfl rfl ?_
  refine q_geti rfl rfl (by first | rfl | assumption) rfl ?_
  refine wp_imul rfl ?_
  refine wp_bipush (v := 10) rfl rfl ?_
  refine wp_iload_n rfl rfl ?_
  refine wp_iload_n rfl rfl ?_
  refine wp_imul rfl ?_
  refine wp_iadd rfl ?_
  refine wp_iload_n rfl rfl ?_
  refine wp_iload_n rfl rfl ?_
  refine wp_imul rfl ?_
  refine wp_iadd rfl ?_
  refine wp_idiv rfl hne ?_
  exact wp_iret rfl rfl (⟨by first | rfl | grind [b2], rfl⟩)
theorem c_X6_isEmpty (G : Gl) (d a : Nat) (I : IF) (L : LF) (R : RF) (ha : shp NN a = some (.inr 6)) : MD G d Y_X6_isEmpty [.ref a] (I, L, R) (some (.int (b2 (I a 2 = -1)))) (I, L, R) := by
  refine MT.intro m_X6_isEmpty rfl (Nat.le_of_ble_eq_true rfl) ?_
  show WQ G d Y_X6_isEmpty _ 0 [(0, .ref a)] [] (I, L, R)
  refine wp_aload_n rfl rfl ?_
  refine q_geti rfl rfl (by first | rfl | assumption) rfl ?_
  refine wp_iconst (v := (-1)) rfl rfl ?_
  refine wp_icmp_ne 6 rfl rfl (fun h3 => ?_) (fun h3 => ?_)
  · refine wp_iconst (v := 0) rfl rfl ?_
    exact wp_zret rfl rfl (by first | rfl | exact nb2 _ | assumption) (⟨by first | rfl | grind [b2], rfl⟩)
  · refine wp_iconst (v := 1) rfl rfl ?_
    refine wp_goto 7 rfl rfl ?_
    exact wp_zret rfl rfl (by first | rfl | exact nb2 _ | assumption) (⟨by first | rfl | grind [b2], rfl⟩)
theorem c_X6_reaches (G : Gl) (d a : Nat) (p n : Int32) (I : IF) (L : LF) (R : RF) (ha : shp NN a = some (.inr 6)) : MD G d Y_X6_reaches [.ref a, .int p, .int n] (I, L, R) (some (.int (b2 (0 ≤ p ∧ 0 ≤ n ∧ p ≤ I a 2 ∧ n ≤ I a 2 - p)))) (I, L, R) := by
  refine MT.intro m_X6_reaches rfl (Nat.le_of_ble_eq_true rfl) ?_
  show WQ G d Y_X6_reaches _ 0 [(0, .ref a), (1, .int p), (2, .int n)] [] (I, L, R)
  refine wp_iload_n rfl rfl ?_
  refine wp_if_lt 16 rfl rfl (fun h1 => ?_) (fun h1 => ?_)
  · refine wp_iconst (v := 0) rfl rfl ?_
    exact wp_zret rfl rfl (by first | rfl | exact nb2 _ | assumption) (⟨by first | rfl | grind [b2], rfl⟩)
  · refine wp_iload_n rfl rfl ?_
    refine wp_if_lt 16 rfl rfl (fun h3 => ?_) (fun h3 => ?_)
    · refine wp_iconst (v := 0) rfl rfl ?_
      exact wp_zret rfl rfl (by first | rfl | exact nb2 _ | assumption) (⟨by first | rfl | grind [b2], rfl⟩)
    · refine wp_iload_n rfl rfl ?_
      refine wp_aload_n rfl rfl ?_
      refine q_geti rfl rfl (by first | rfl | assumption) rfl ?_
      refine wp_icmp_gt 16 rfl rfl (fun h7 => ?_) (fun h7 => ?_)
      · refine wp_iconst (v := 0) rfl rfl ?_
        exact wp_zret rfl rfl (by first | rfl | exact nb2 _ | assumption) (⟨by first | rfl | grind [b2], rfl⟩)
      · refine wp_iload_n rfl rfl ?_
        refine wp_aload_n rfl rfl ?_
        refine q_geti rfl rfl (by first | rfl | assumption) rfl ?_
        refine wp_iload_n rfl rfl ?_
        refine wp_isub rfl ?_
        refine wp_icmp_gt 16 rfl rfl (fun h13 => ?_) (fun h13 => ?_)
        · refine wp_iconst (v := 0) rfl rfl ?_
          exact wp_zret rfl rfl (by first | rfl | exact nb2 _ | assumption) (⟨by first | rfl | grind [b2], rfl⟩)
        · refine wp_iconst (v := 1) rfl rfl ?_
          refine wp_goto 17 rfl rfl ?_
          exact wp_zret rfl rfl (by first | rfl | exact nb2 _ | assumption) (⟨by first | rfl | grind [b2], rfl⟩)
def cutW (x : Int32) (v : Int64) : Int64 := if x = 0 then v.toInt32.toInt8.toInt32.toInt64 else if x = 1 then v.toInt32.toInt16.toInt32.toInt64 else if x = 2 then v.toInt32.toInt64 else v
theorem c_X6_cut (G : Gl) (d a : Nat) (v : Int64) (I : IF) (L : LF) (R : RF) (ha : shp NN a = some (.inr 6)) : MD G d Y_X6_cut [.ref a, .long v] (I, L, R) (some (.long (cutW (I a 1) v))) (I, L, R) := by
  refine MT.intro m_X6_cut rfl (Nat.le_of_ble_eq_true rfl) ?_
  show WQ G d Y_X6_cut _ 0 [(0, .ref a), (1, .long v)] [] (I, L, R)
  refine wp_aload_n rfl rfl ?_
  refine q_geti rfl rfl (by first | rfl | assumption) rfl ?_
  generalize hx : I a 1 = x
  by_cases e2_0 : x = 0
  · subst e2_0
    refine wp_tsIn 3 rfl (by decide) (by decide) rfl rfl ?_
    refine wp_lload_n rfl rfl ?_
    refine wp_l2i rfl ?_
    refine wp_i2b rfl ?_
    refine wp_i2l rfl ?_
    exact wp_lret rfl rfl (⟨by simp_all [cutW], rfl⟩)
  by_cases e2_1 : x = 1
  · subst e2_1
    refine wp_tsIn 8 rfl (by decide) (by decide) rfl rfl ?_
    refine wp_lload_n rfl rfl ?_
    refine wp_l2i rfl ?_
    refine wp_i2s rfl ?_
    refine wp_i2l rfl ?_
    exact wp_lret rfl rfl (⟨by simp_all [cutW], rfl⟩)
  by_cases e2_2 : x = 2
  · subst e2_2
    refine wp_tsIn 13 rfl (by decide) (by decide) rfl rfl ?_
    refine wp_lload_n rfl rfl ?_
    refine wp_l2i rfl ?_
    refine wp_i2l rfl ?_
    exact wp_lret rfl rfl (⟨by simp_all [cutW], rfl⟩)
  refine wp_tsOut 17 rfl (by have a0 := lv_neT e2_0 (a := 0) rfl; have a1 := lv_neT e2_1 (a := 1) rfl; have a2 := lv_neT e2_2 (a := 2) rfl; omega) rfl ?_
  refine wp_lload_n rfl rfl ?_
  exact wp_lret rfl rfl (⟨by simp_all [cutW], rfl⟩)
theorem c_X7_hasRoomFor (G : Gl) (d : Nat) (n : Int32) (I : IF) (L : LF) (b : Bool) : MD G d Y_X7_hasRoomFor [.ref 44, .int n] (I, L, RR b) (some (.int (b2 (I 44 1 + 4 * n ≤ 300)))) (I, L, RR b) := by
  refine MT.intro m_X7_hasRoomFor rfl (Nat.le_of_ble_eq_true rfl) ?_
  show WQ G d Y_X7_hasRoomFor _ 0 [(0, .ref 44), (1, .int n)] [] (I, L, RR b)
  refine wp_aload_n rfl rfl ?_
  refine q_geti rfl rfl (by first | rfl | assumption) rfl ?_
  refine wp_iconst (v := 4) rfl rfl ?_
  refine wp_iload_n rfl rfl ?_
  refine wp_imul rfl ?_
  refine wp_iadd rfl ?_
  refine wp_aload_n rfl rfl ?_
  refine q_getr rfl rfl (by first | rfl | assumption) rfl rfl ?_
  refine wp_alen rfl rfl (by decide) rfl ?_
  refine wp_icmp_gt 12 rfl rfl (fun h9 => ?_) (fun h9 => ?_)
  · refine wp_iconst (v := 0) rfl rfl ?_
    exact wp_zret rfl rfl (by first | rfl | exact nb2 _ | assumption) (⟨by first | rfl | grind [b2], rfl⟩)
  · refine wp_iconst (v := 1) rfl rfl ?_
    refine wp_goto 13 rfl rfl ?_
    exact wp_zret rfl rfl (by first | rfl | exact nb2 _ | assumption) (⟨by first | rfl | grind [b2], rfl⟩)
end
section
/-! leaves of the reference -/
theorem b2_congr {p q : Prop} [Decidable p] [Decidable q] (h : p ↔ q) : b2 p = b2 q := by
  unfold b2
  by_cases hp : p
  · rw [if_pos hp, if_pos (h.mp hp)]
  · rw [if_neg hp, if_neg (fun z => hp (h.mpr z))]
theorem l64_le (x y : Int32) : x.toInt64 ≤ y.toInt64 ↔ x ≤ y := by
  simp [Int64.le_iff_toInt_le, Int32.le_iff_toInt_le]
theorem l64_lt (x y : Int32) : x.toInt64 < y.toInt64 ↔ x < y := by
  simp [Int64.lt_iff_toInt_lt, Int32.lt_iff_toInt_lt]
theorem c_in (G : Gl) (d : Nat) (v a b : Int64) (w : mW) : MD G d Y_X11_in [.long v, .long a, .long b] w (some (.int (b2 (a ≤ v ∧ v ≤ b)))) w := by
  refine MT.intro m_X11_in rfl (Nat.le_of_ble_eq_true rfl) ?_
  show WQ G d Y_X11_in _ 0 [(0, .long v), (2, .long a), (4, .long b)] [] w
  refine wp_lload_n rfl rfl ?_
  refine wp_lload_n rfl rfl ?_
  refine wp_lcmp rfl ?_
  refine wp_if_lt 10 rfl rfl (fun h3 => ?_) (fun h3 => ?_)
  · refine wp_iconst (v := 0) rfl rfl ?_
    exact wp_zret rfl rfl (by first | rfl | exact nb2 _ | assumption) (⟨by grind [b2, lg_cmp], rfl⟩)
  · refine wp_lload_n rfl rfl ?_
    refine wp_lload rfl rfl ?_
    refine wp_lcmp rfl ?_
    refine wp_if_gt 10 rfl rfl (fun h7 => ?_) (fun h7 => ?_)
    · refine wp_iconst (v := 0) rfl rfl ?_
      exact wp_zret rfl rfl (by first | rfl | exact nb2 _ | assumption) (⟨by grind [b2, lg_cmp], rfl⟩)
    · refine wp_iconst (v := 1) rfl rfl ?_
      refine wp_goto 11 rfl rfl ?_
      exact wp_zret rfl rfl (by first | rfl | exact nb2 _ | assumption) (⟨by grind [b2, lg_cmp], rfl⟩)
theorem c_inI (G : Gl) (d : Nat) (x a b : Int32) {la lb : Int64} (ha : la = a.toInt64) (hb : lb = b.toInt64) (w : mW) : MD G d Y_X11_in [.long x.toInt64, .long la, .long lb] w (some (.int (b2 (a ≤ x ∧ x ≤ b)))) w := by
  have h := c_in G d x.toInt64 la lb w
  rw [show b2 (la ≤ x.toInt64 ∧ x.toInt64 ≤ lb) = b2 (a ≤ x ∧ x ≤ b) from b2_congr (by rw [ha, hb, l64_le, l64_le])] at h
  exact h
theorem c_X11_isSlot (G : Gl) (d : Nat) (s : Int32) (w : mW) : MD G (d + 1) Y_X11_isSlot [.int s] w (some (.int (b2 (0 ≤ s ∧ s ≤ 3)))) w := by
  refine MT.intro m_X11_isSlot rfl (Nat.le_of_ble_eq_true rfl) ?_
  show WQ G (d + 1) Y_X11_isSlot _ 0 [(0, .int s)] [] w
  refine wp_iload_n rfl rfl ?_
  refine wp_i2l rfl ?_
  refine wp_lconst (v := 0) rfl rfl ?_
  refine wp_ldc2 (v := (3)) rfl cl_11_117 ?_
  refine cS1 rfl l_11_119 s_X11_in m_X11_in (c_inI G _ _ 0 3 rfl rfl _) rfl (Nat.le_of_ble_eq_true rfl) ?_
  exact wp_zret rfl rfl (by first | rfl | exact nb2 _ | assumption) (⟨by first | rfl | grind [b2], rfl⟩)
theorem c_X11_isSender (G : Gl) (d : Nat) (x y p c : Int32) (w : mW) : MD G (d + 1) Y_X11_isSender [.int x, .int y, .int p, .int c] w (some (.int (b2 (((0 ≤ x ∧ x ≤ 100) ∧ 0 ≤ y ∧ y ≤ 100) ∧ (1 ≤ p ∧ p ≤ 10000) ∧ 0 ≤ c ∧ c ≤ 11)))) w := by
  refine MT.intro m_X11_isSender rfl (Nat.le_of_ble_eq_true rfl) ?_
  show WQ G (d + 1) Y_X11_isSender _ 0 [(0, .int x), (1, .int y), (2, .int p), (3, .int c)] [] w
  refine wp_iload_n rfl rfl ?_
  refine wp_i2l rfl ?_
  refine wp_lconst (v := 0) rfl rfl ?_
  refine wp_ldc2 (v := (100)) rfl cl_11_133 ?_
  refine cS1 rfl l_11_119 s_X11_in m_X11_in (c_inI G _ _ 0 100 rfl rfl _) rfl (Nat.le_of_ble_eq_true rfl) ?_
  refine wp_if_eq 26 rfl rfl (fun h5 => ?_) (fun h5 => ?_)
  · refine wp_iconst (v := 0) rfl rfl ?_
    exact wp_zret rfl rfl (by first | rfl | exact nb2 _ | assumption) (⟨by first | rfl | grind [b2], rfl⟩)
  · refine wp_iload_n rfl rfl ?_
    refine wp_i2l rfl ?_
    refine wp_lconst (v := 0) rfl rfl ?_
    refine wp_ldc2 (v := (100)) rfl cl_11_133 ?_
    refine cS1 rfl l_11_119 s_X11_in m_X11_in (c_inI G _ _ 0 100 rfl rfl _) rfl (Nat.le_of_ble_eq_true rfl) ?_
    refine wp_if_eq 26 rfl rfl (fun h11 => ?_) (fun h11 => ?_)
    · refine wp_iconst (v := 0) rfl rfl ?_
      exact wp_zret rfl rfl (by first | rfl | exact nb2 _ | assumption) (⟨by first | rfl | grind [b2], rfl⟩)
    · refine wp_iload_n rfl rfl ?_
      refine wp_i2l rfl ?_
      refine wp_lconst (v := 1) rfl rfl ?_
      refine wp_ldc2 (v := (10000)) rfl cl_11_135 ?_
      refine cS1 rfl l_11_119 s_X11_in m_X11_in (c_inI G _ _ 1 10000 rfl rfl _) rfl (Nat.le_of_ble_eq_true rfl) ?_
      refine wp_if_eq 26 rfl rfl (fun h17 => ?_) (fun h17 => ?_)
      · refine wp_iconst (v := 0) rfl rfl ?_
        exact wp_zret rfl rfl (by first | rfl | exact nb2 _ | assumption) (⟨by first | rfl | grind [b2], rfl⟩)
      · refine wp_iload_n rfl rfl ?_
        refine wp_i2l rfl ?_
        refine wp_lconst (v := 0) rfl rfl ?_
        refine wp_ldc2 (v := (11)) rfl cl_11_137 ?_
        refine cS1 rfl l_11_119 s_X11_in m_X11_in (c_inI G _ _ 0 11 rfl rfl _) rfl (Nat.le_of_ble_eq_true rfl) ?_
        refine wp_if_eq 26 rfl rfl (fun h23 => ?_) (fun h23 => ?_)
        · refine wp_iconst (v := 0) rfl rfl ?_
          exact wp_zret rfl rfl (by first | rfl | exact nb2 _ | assumption) (⟨by first | rfl | grind [b2], rfl⟩)
        · refine wp_iconst (v := 1) rfl rfl ?_
          refine wp_goto 27 rfl rfl ?_
          exact wp_zret rfl rfl (by first | rfl | exact nb2 _ | assumption) (⟨by first | rfl | grind [b2], rfl⟩)
theorem c_X11_isMast (G : Gl) (d : Nat) (v : Int32) (I : IF) (L : LF) (R : RF) : MD G (d + 1) Y_X11_isMast [.ref 72, .int v] (I, L, R) (some (.int (b2 (0 ≤ v ∧ v ≤ I 72 5 - 1)))) (I, L, R) := by
  refine MT.intro m_X11_isMast rfl (Nat.le_of_ble_eq_true rfl) ?_
  show WQ G (d + 1) Y_X11_isMast _ 0 [(0, .ref 72), (1, .int v)] [] (I, L, R)
  refine wp_iload_n rfl rfl ?_
  refine wp_i2l rfl ?_
  refine wp_lconst (v := 0) rfl rfl ?_
  refine wp_aload_n rfl rfl ?_
  refine q_geti rfl rfl (by first | rfl | assumption) rfl ?_
  refine wp_iconst (v := 1) rfl rfl ?_
  refine wp_isub rfl ?_
  refine wp_i2l rfl ?_
  refine cS1 rfl l_11_119 s_X11_in m_X11_in (c_inI G _ _ 0 (I 72 5 - 1) rfl rfl _) rfl (Nat.le_of_ble_eq_true rfl) ?_
  exact wp_zret rfl rfl (by first | rfl | exact nb2 _ | assumption) (⟨by first | rfl | grind [b2], rfl⟩)
theorem c_X11_isArea (G : Gl) (d : Nat) (v : Int32) (I : IF) (L : LF) (R : RF) : MD G (d + 1) Y_X11_isArea [.ref 72, .int v] (I, L, R) (some (.int (b2 (0 ≤ v ∧ v ≤ I 72 7 - 1)))) (I, L, R) := by
  refine MT.intro m_X11_isArea rfl (Nat.le_of_ble_eq_true rfl) ?_
  show WQ G (d + 1) Y_X11_isArea _ 0 [(0, .ref 72), (1, .int v)] [] (I, L, R)
  refine wp_iload_n rfl rfl ?_
  refine wp_i2l rfl ?_
  refine wp_lconst (v := 0) rfl rfl ?_
  refine wp_aload_n rfl rfl ?_
  refine q_geti rfl rfl (by first | rfl | assumption) rfl ?_
  refine wp_iconst (v := 1) rfl rfl ?_
  refine wp_isub rfl ?_
  refine wp_i2l rfl ?_
  refine cS1 rfl l_11_119 s_X11_in m_X11_in (c_inI G _ _ 0 (I 72 7 - 1) rfl rfl _) rfl (Nat.le_of_ble_eq_true rfl) ?_
  exact wp_zret rfl rfl (by first | rfl | exact nb2 _ | assumption) (⟨by first | rfl | grind [b2], rfl⟩)
theorem c_X11_sender (G : Gl) (d : Nat) (m x y p c : Int32) (I : IF) (L : LF) (b : Bool) (hm : vp_in m 14) : MD G d Y_X11_sender [.ref 72, .int m, .int x, .int y, .int p, .int c] (I, L, RR b) none (uI (uI (uI (uI I 77 m.toNatClampNeg x) 78 m.toNatClampNeg y) 79 m.toNatClampNeg p) 80 m.toNatClampNeg c, L, RR b) := by
  refine MT.intro m_X11_sender rfl (Nat.le_of_ble_eq_true rfl) ?_
  show WQ G d Y_X11_sender _ 0 [(0, .ref 72), (1, .int m), (2, .int x), (3, .int y), (4, .int p), (5, .int c)] [] (I, L, RR b)
  refine wp_aload_n rfl rfl ?_
  refine q_getr rfl rfl (by first | rfl | assumption) rfl rfl ?_
  refine wp_iload_n rfl rfl ?_
  refine wp_iload_n rfl rfl ?_
  refine q_iast rfl (by first | rfl | assumption) (by assumption) ?_
  refine wp_aload_n rfl rfl ?_
  refine q_getr rfl rfl (by first | rfl | assumption) rfl rfl ?_
  refine wp_iload_n rfl rfl ?_
  refine wp_iload_n rfl rfl ?_
  refine q_iast rfl (by first | rfl | assumption) (by assumption) ?_
  refine wp_aload_n rfl rfl ?_
  refine q_getr rfl rfl (by first | rfl | assumption) rfl rfl ?_
  refine wp_iload_n rfl rfl ?_
  refine wp_iload rfl rfl ?_
  refine q_iast rfl (by first | rfl | assumption) (by assumption) ?_
  refine wp_aload_n rfl rfl ?_
  refine q_getr rfl rfl (by first | rfl | assumption) rfl rfl ?_
  refine wp_iload_n rfl rfl ?_
  refine wp_iload rfl rfl ?_
  refine q_iast rfl (by first | rfl | assumption) (by assumption) ?_
  exact wp_vret rfl rfl (⟨rfl, rfl⟩)
theorem c_X11_turned (G : Gl) (d : Nat) (a m : Int32) (I : IF) (L : LF) (b : Bool) (ha : vp_in a 16) : MD G d Y_X11_turned [.ref 72, .int a, .int m] (I, L, RR b) (some (.int (b2 (¬ I 92 a.toNatClampNeg = m)))) (if I 92 a.toNatClampNeg = m then I else uI (uI I 92 a.toNatClampNeg m) 93 a.toNatClampNeg (I 93 a.toNatClampNeg + 1), L, RR b) := by
  refine MT.intro m_X11_turned rfl (Nat.le_of_ble_eq_true rfl) ?_
  show WQ G d Y_X11_turned _ 0 [(0, .ref 72), (1, .int a), (2, .int m)] [] (I, L, RR b)
  refine wp_aload_n rfl rfl ?_
  refine q_getr rfl rfl (by first | rfl | assumption) rfl rfl ?_
  refine wp_iload_n rfl rfl ?_
  refine q_iald rfl (by first | rfl | assumption) (by assumption) ?_
  refine wp_iload_n rfl rfl ?_
  refine wp_icmp_ne 8 rfl rfl (fun h5 => ?_) (fun h5 => ?_)
  · refine wp_aload_n rfl rfl ?_
    refine q_getr rfl rfl (by first | rfl | assumption) rfl rfl ?_
    refine wp_iload_n rfl rfl ?_
    refine wp_iload_n rfl rfl ?_
    refine q_iast rfl (by first | rfl | assumption) (by assumption) ?_
    refine wp_aload_n rfl rfl ?_
    refine q_getr rfl rfl (by first | rfl | assumption) rfl rfl ?_
    refine wp_iload_n rfl rfl ?_
    refine wp_dup2 rfl rfl rfl ?_
    refine q_iald rfl (by first | rfl | assumption) (by assumption) ?_
    refine wp_iconst (v := 1) rfl rfl ?_
    refine wp_iadd rfl ?_
    refine q_iast rfl (by first | rfl | assumption) (by assumption) ?_
    refine wp_iconst (v := 1) rfl rfl ?_
    exact wp_zret rfl rfl (by first | rfl | exact nb2 _ | assumption) (⟨by simp_all [b2], by simp_all [uI]⟩)
  · refine wp_iconst (v := 0) rfl rfl ?_
    exact wp_zret rfl rfl (by first | rfl | exact nb2 _ | assumption) (⟨by simp_all [b2], by simp_all [uI]⟩)
theorem c_X11_at (G : Gl) (d : Nat) (m a : Int32) (I : IF) (L : LF) (b : Bool) (hm : vp_in m 14) (ha : vp_in a 16) (hne : ¬ sqD (I 77 m.toNatClampNeg) (I 78 m.toNatClampNeg) (I 86 a.toNatClampNeg) (I 87 a.toNatClampNeg) = 0) : MD G d Y_X11_at [.ref 72, .int m, .int a] (I, L, RR b) (some (.int (strg (I 79 m.toNatClampNeg) (I 77 m.toNatClampNeg) (I 78 m.toNatClampNeg) (I 86 a.toNatClampNeg) (I 87 a.toNatClampNeg)))) (I, L, RR b) := by
  refine MT.intro m_X11_at rfl (Nat.le_of_ble_eq_true rfl) ?_
  show WQ G d Y_X11_at _ 0 [(0, .ref 72), (1, .int m), (2, .int a)] [] (I, L, RR b)
  refine wp_aload_n rfl rfl ?_
  refine q_getr rfl rfl (by first | rfl | assumption) rfl rfl ?_
  refine wp_iload_n rfl rfl ?_
  refine q_iald rfl (by first | rfl | assumption) (by assumption) ?_
  refine wp_aload_n rfl rfl ?_
  refine q_getr rfl rfl (by first | rfl | assumption) rfl rfl ?_
  refine wp_iload_n rfl rfl ?_
  refine q_iald rfl (by first | rfl | assumption) (by assumption) ?_
  refine wp_isub rfl ?_
  refine wp_istore_n (lv' := [(3, _), (0, _), (1, _), (2, _)]) rfl rfl (by decide) rfl ?_
  refine wp_aload_n rfl rfl ?_
  refine q_getr rfl rfl (by first | rfl | assumption) rfl rfl ?_
  refine wp_iload_n rfl rfl ?_
  refine q_iald rfl (by first | rfl | assumption) (by assumption) ?_
  refine wp_aload_n rfl rfl ?_
  refine q_getr rfl rfl (by first | rfl | assumption) rfl rfl ?_
  refine wp_iload_n rfl rfl ?_
  refine q_iald rfl (by first | rfl | assumption) (by assumption) ?_
  refine wp_isub rfl ?_
  refine wp_istore (lv' := [(4, _), (3, _), (0, _), (1, _), (2, _)]) rfl (by decide) rfl ?_
  refine wp_sipush (v := 1000) rfl rfl ?_
  refine wp_aload_n rfl rfl ?_
  refine q_getr rfl rfl (by first | rfl | assumption) rfl rfl ?_
  refine wp_iload_n rfl rfl ?_
  refine q_iald rfl (by first | rfl | assumption) (by assumption) ?_
  refine wp_imul rfl ?_
  refine wp_bipush (v := 10) rfl rfl ?_
  refine wp_iload_n rfl rfl ?_
  refine wp_iload_n rfl rfl ?_
  refine wp_imul rfl ?_
  refine wp_iadd rfl ?_
  refine wp_iload rfl rfl ?_
  refine wp_iload rfl rfl ?_
  refine wp_imul rfl ?_
  refine wp_iadd rfl ?_
  refine wp_idiv rfl hne ?_
  exact wp_iret rfl rfl (⟨by first | rfl | grind [b2], rfl⟩)
theorem c_X11_terms (G : Gl) (d : Nat) (l r : Int32) (I : IF) (L : LF) (b : Bool) : MD G (d + 1) Y_X11_terms [.ref 72, .int l, .int r] (I, L, RR b) (some (.int (if (1 ≤ l ∧ l ≤ 1000000) ∧ 1 ≤ r ∧ r ≤ 100 then 0 else -2))) (if (1 ≤ l ∧ l ≤ 1000000) ∧ 1 ≤ r ∧ r ≤ 100 then uI (uI (uI I 72 0 0) 72 9 l) 72 10 r else uI I 72 0 0, L, RR b) := by
  refine MT.intro m_X11_terms rfl (Nat.le_of_ble_eq_true rfl) ?_
  show WQ G (d + 1) Y_X11_terms _ 0 [(0, .ref 72), (1, .int l), (2, .int r)] [] (I, L, RR b)
  refine wp_aload_n rfl rfl ?_
  refine wp_iconst (v := 0) rfl rfl ?_
  refine q_puti rfl rfl (by first | rfl | assumption) (Or.inl rfl) rfl ?_
  refine wp_iload_n rfl rfl ?_
  refine wp_i2l rfl ?_
  refine wp_lconst (v := 1) rfl rfl ?_
  refine wp_ldc2 (v := (1000000)) rfl cl_11_131 ?_
  refine cS1 rfl l_11_119 s_X11_in m_X11_in (c_inI G _ _ 1 1000000 rfl rfl _) rfl (Nat.le_of_ble_eq_true rfl) ?_
  refine wp_if_eq 15 rfl rfl (fun h8 => ?_) (fun h8 => ?_)
  · refine wp_bipush (v := (-2)) rfl rfl ?_
    exact wp_iret rfl rfl (⟨by grind [b2], by grind [b2]⟩)
  · refine wp_iload_n rfl rfl ?_
    refine wp_i2l rfl ?_
    refine wp_lconst (v := 1) rfl rfl ?_
    refine wp_ldc2 (v := (100)) rfl cl_11_133 ?_
    refine cS1 rfl l_11_119 s_X11_in m_X11_in (c_inI G _ _ 1 100 rfl rfl _) rfl (Nat.le_of_ble_eq_true rfl) ?_
    refine wp_if_ne 17 rfl rfl (fun h14 => ?_) (fun h14 => ?_)
    · refine wp_aload_n rfl rfl ?_
      refine wp_iload_n rfl rfl ?_
      refine q_puti rfl rfl (by first | rfl | assumption) (Or.inl rfl) rfl ?_
      refine wp_aload_n rfl rfl ?_
      refine wp_iload_n rfl rfl ?_
      refine q_puti rfl rfl (by first | rfl | assumption) (Or.inl rfl) rfl ?_
      refine wp_iconst (v := 0) rfl rfl ?_
      exact wp_iret rfl rfl (⟨by grind [b2], by grind [b2]⟩)
    · refine wp_bipush (v := (-2)) rfl rfl ?_
      exact wp_iret rfl rfl (⟨by grind [b2], by grind [b2]⟩)
theorem c_X10_terms (G : Gl) (d : Nat) (l r : Int32) (I : IF) (L : LF) (b : Bool) : MD G (d + 1) Y_X10_terms [.ref 0, .int l, .int r] (I, L, RR b) (some (.int (if (1 ≤ l ∧ l ≤ 1000000) ∧ 1 ≤ r ∧ r ≤ 100 then 0 else -2))) (if (1 ≤ l ∧ l ≤ 1000000) ∧ 1 ≤ r ∧ r ≤ 100 then uI (uI I 1 6 l) 1 7 r else I, L, RR b) := by
  refine MT.intro m_X10_terms rfl (Nat.le_of_ble_eq_true rfl) ?_
  show WQ G (d + 1) Y_X10_terms _ 0 [(0, .ref 0), (1, .int l), (2, .int r)] [] (I, L, RR b)
  refine wp_iload_n rfl rfl ?_
  refine wp_iconst (v := 1) rfl rfl ?_
  refine wp_ldc (v := (1000000)) rfl ci_10_76 ?_
  refine cS1 rfl l_10_77 s_X10_isWithin m_X10_isWithin (c_X10_isWithin G _ _ _ _ _) rfl (Nat.le_of_ble_eq_true rfl) ?_
  refine wp_if_eq 10 rfl rfl (fun h4 => ?_) (fun h4 => ?_)
  · refine wp_bipush (v := (-2)) rfl rfl ?_
    exact wp_iret rfl rfl (⟨by grind [b2], by grind [b2]⟩)
  · refine wp_iload_n rfl rfl ?_
    refine wp_iconst (v := 1) rfl rfl ?_
    refine wp_bipush (v := 100) rfl rfl ?_
    refine cS1 rfl l_10_77 s_X10_isWithin m_X10_isWithin (c_X10_isWithin G _ _ _ _ _) rfl (Nat.le_of_ble_eq_true rfl) ?_
    refine wp_if_ne 12 rfl rfl (fun h9 => ?_) (fun h9 => ?_)
    · refine wp_aload_n rfl rfl ?_
      refine q_getr rfl rfl (by first | rfl | assumption) rfl rfl ?_
      refine wp_iload_n rfl rfl ?_
      refine q_puti rfl rfl (by first | rfl | assumption) (Or.inl rfl) rfl ?_
      refine wp_aload_n rfl rfl ?_
      refine q_getr rfl rfl (by first | rfl | assumption) rfl rfl ?_
      refine wp_iload_n rfl rfl ?_
      refine q_puti rfl rfl (by first | rfl | assumption) (Or.inl rfl) rfl ?_
      refine wp_iconst (v := 0) rfl rfl ?_
      exact wp_iret rfl rfl (⟨by grind [b2], by grind [b2]⟩)
    · refine wp_bipush (v := (-2)) rfl rfl ?_
      exact wp_iret rfl rfl (⟨by grind [b2], by grind [b2]⟩)
end
section
/-! the invariant between the class and the reference -/
theorem uI_ne {I : IF} {a k a' k' : Nat} {v : Int32} (h : a' ≠ a) : uI I a k v a' k' = I a' k' := by unfold uI; rw [if_neg h]
theorem uI_nk {I : IF} {a k k' : Nat} {v : Int32} (h : k' ≠ k) : uI I a k v a k' = I a k' := by unfold uI; rw [if_pos rfl, if_neg h]
theorem uI_eq {I : IF} {a k : Nat} {v : Int32} : uI I a k v a k = v := by unfold uI; rw [if_pos rfl, if_pos rfl]
theorem uI_fn {I : IF} {a k a' : Nat} {v : Int32} (h : a' ≠ a) : uI I a k v a' = I a' := by funext k'; exact uI_ne h
theorem uL_ne {I : LF} {a k a' k' : Nat} {v : Int64} (h : a' ≠ a) : uL I a k v a' k' = I a' k' := by unfold uL; rw [if_neg h]
theorem uL_nk {I : LF} {a k k' : Nat} {v : Int64} (h : k' ≠ k) : uL I a k v a k' = I a k' := by unfold uL; rw [if_pos rfl, if_neg h]
theorem uL_eq {I : LF} {a k : Nat} {v : Int64} : uL I a k v a k = v := by unfold uL; rw [if_pos rfl, if_pos rfl]
def IVc (nm na nr : Nat) (I : IF) : Prop := (I 1 2 = nI nm ∧ I 72 5 = nI nm ∧ nm ≤ 10) ∧ (I 1 3 = nI na ∧ I 72 6 = nI na ∧ na ≤ 4) ∧ (I 1 4 = nI nr ∧ I 72 7 = nI nr ∧ nr ≤ 16)
def IVs (I : IF) : Prop := (I 72 8 = I 1 5 ∧ 0 ≤ I 1 5 ∧ I 1 5 ≤ 52) ∧ I 72 9 = I 1 6 ∧ (I 72 10 = I 1 7 ∧ 1 ≤ I 1 7 ∧ I 1 7 ≤ 100) ∧ (I 72 11 = I 0 9 ∧ 0 ≤ I 0 9 ∧ I 0 9 ≤ 10000000) ∧ (I 72 30 = I 0 10 ∧ (I 0 10 = -1 ∨ (1 ≤ I 0 10 ∧ I 0 10 ≤ 52))) ∧ (I 72 32 = I 0 11 ∧ (I 0 11 = 0 ∨ I 0 11 = 1)) ∧ I 72 37 = I 0 8 ∧ I 72 31 = I 39 4 ∧ (I 0 11 = 1 → ¬ I 0 10 = -1) ∧ (0 < I 1 5 → I 0 11 = 1)
def IVm (I : IF) : Prop := ∀ m, m < 14 → (I 77 m = I (4 + m) 0 ∧ I 78 m = I (4 + m) 1 ∧ I 79 m = I (4 + m) 2 ∧ I 80 m = I (4 + m) 5) ∧ (0 ≤ I (4 + m) 0 ∧ I (4 + m) 0 ≤ 100) ∧ (0 ≤ I (4 + m) 1 ∧ I (4 + m) 1 ≤ 100) ∧ (0 ≤ I (4 + m) 2 ∧ I (4 + m) 2 ≤ 10000) ∧ (0 ≤ I (4 + m) 5 ∧ I (4 + m) 5 ≤ 11)
def IVk (nm : Nat) (I : IF) : Prop := ∀ m, m < 10 → (I 83 m = I (4 + m) 4 ∧ (I (4 + m) 4 = 0 ∨ I (4 + m) 4 = 1)) ∧ (I 84 m = I (4 + m) 9 ∧ (I (4 + m) 9 = 0 ∨ I (4 + m) 9 = 1)) ∧ (I 85 m = I (4 + m) 10 ∧ (I (4 + m) 10 = 0 ∨ I (4 + m) 10 = 1)) ∧ (¬ I (4 + m) 9 = 0 → I 0 11 = 1) ∧ (nm ≤ m → I (4 + m) 9 = 0)
def IVf (nm : Nat) (I : IF) : Prop := ∀ m, m < nm → I 81 m = I (4 + m) 3 ∧ -1 ≤ I (4 + m) 3 ∧ I (4 + m) 3 < nI m
def IVu (I : IF) : Prop := ∀ k, k < 4 → (I 82 k = I (14 + k) 8 ∧ 0 ≤ I (14 + k) 8 ∧ I (14 + k) 8 ≤ 52) ∧ I (14 + k) 9 = 0
def IVp (nm : Nat) (I : IF) : Prop := ∀ m, m < 10 → ((¬ I 0 10 = -1 ∧ m < nm → I 94 m = I (4 + m) 7 ∧ 0 ≤ I (4 + m) 7 ∧ I (4 + m) 7 ≤ 51)) ∧ ((I 0 10 = -1 ∨ nm ≤ m) → I (4 + m) 7 = -1) ∧ ((I 0 11 = 1 ∧ m < nm) → I 95 m = I (4 + m) 6 ∧ 0 ≤ I (4 + m) 6 ∧ I (4 + m) 6 ≤ 11) ∧ ((I 0 11 = 0 ∨ nm ≤ m) → I (4 + m) 6 = -1)
def IVa (I : IF) : Prop := ∀ a, a < 16 → (I 86 a = I (18 + a) 0 ∧ I 87 a = I (18 + a) 1 ∧ I 88 a = I (18 + a) 2 ∧ I 89 a = I (18 + a) 3 ∧ I 90 a = I (18 + a) 4 ∧ I 91 a = I (18 + a) 5 ∧ I 93 a = I (18 + a) 7) ∧ (0 ≤ I (18 + a) 0 ∧ I (18 + a) 0 ≤ 100) ∧ (0 ≤ I (18 + a) 1 ∧ I (18 + a) 1 ≤ 100) ∧ (0 ≤ I (18 + a) 2 ∧ I (18 + a) 2 ≤ 100000) ∧ (0 ≤ I (18 + a) 5 ∧ I (18 + a) 5 ≤ I (18 + a) 2)
def IVl (nm nr : Nat) (I : IF) : Prop := ∀ a, a < 16 → (a < nr → I 92 a = I (18 + a) 6 ∧ -1 ≤ I (18 + a) 6 ∧ I (18 + a) 6 < nI nm) ∧ (nr ≤ a → I (18 + a) 6 = -1 ∧ I (18 + a) 5 = 0)
def IVt (I : IF) : Prop := (∃ tl, tl ≤ 300 ∧ I 44 1 = nI tl ∧ I 72 36 = nI tl) ∧ ∀ j, j < 300 → I 96 j = I 45 j
def IVr (I : IF) (L : LF) : Prop := ∀ s, s < 4 → (∀ j, j < 60 → L 75 (60 * s + j) = L (58 + 2 * s) j) ∧ ((I (57 + 2 * s) 2 = -1 ∧ I 73 s = -1) ∨ ((0 ≤ I (57 + 2 * s) 2 ∧ I (57 + 2 * s) 2 ≤ 60) ∧ I 74 s = I (57 + 2 * s) 2 ∧ (0 ≤ I 73 s ∧ I 73 s ≤ 3) ∧ I (57 + 2 * s) 1 = I 73 s))
def IV (nm na nr : Nat) (I : IF) (L : LF) : Prop := IVc nm na nr I ∧ IVs I ∧ IVm I ∧ IVk nm I ∧ IVf nm I ∧ IVu I ∧ IVp nm I ∧ IVa I ∧ IVl nm nr I ∧ IVt I ∧ IVr I L
def InvA (I : IF) (L : LF) : Prop := ∃ nm na nr, IV nm na nr I L
def LSm (I I2 : IF) : Prop := (∀ a, (50 ≤ a ∧ a ≤ 54 ∨ 66 ≤ a ∧ a ≤ 70 ∨ a = 97 ∨ a = 98) → I2 a = I a) ∧ I2 72 12 = I 72 12
def StepA (G : Gl) (d : Nat) (Yc Ym : mY) (As : List Value) (I : IF) (L : LF) (b : Bool) : Prop := ∃ (r : Int32) (I1 : IF) (L1 : LF) (I2 : IF) (L2 : LF), MD G d Yc (.ref 0 :: As) (I, L, RR b) (some (.int r)) (I1, L1, RR b) ∧ MD G d Ym (.ref 72 :: As) (I1, L1, RR b) (some (.int r)) (I2, L2, RR b) ∧ InvA I2 L2 ∧ LSm I I2
/-- the families look at these addresses alone -/
theorem IVm_fr {I J : IF} (h : IVm I) (h1 : ∀ m, m < 14 → J (4 + m) = I (4 + m)) (h2 : ∀ a, 77 ≤ a → a ≤ 80 → J a = I a) : IVm J := by
  intro m hm
  have := h m hm
  rw [h1 m hm, h2 77 (by omega) (by omega), h2 78 (by omega) (by omega), h2 79 (by omega) (by omega), h2 80 (by omega) (by omega)]
  exact this
theorem IVk_fr {nm : Nat} {I J : IF} (h : IVk nm I) (h1 : ∀ m, m < 14 → J (4 + m) = I (4 + m)) (h2 : ∀ a, 83 ≤ a → a ≤ 85 → J a = I a) (h3 : J 0 11 = I 0 11) : IVk nm J := by
  intro m hm
  have := h m hm
  rw [h1 m (by omega), h2 83 (by omega) (by omega), h2 84 (by omega) (by omega), h2 85 (by omega) (by omega), h3]
  exact this
theorem IVf_fr {nm : Nat} {I J : IF} (hn : nm ≤ 10) (h : IVf nm I) (h1 : ∀ m, m < 14 → J (4 + m) = I (4 + m)) (h2 : J 81 = I 81) : IVf nm J := by
  intro m hm
  have := h m hm
  rw [h1 m (by omega), h2]
  exact this
theorem IVu_fr {I J : IF} (h : IVu I) (h1 : ∀ m, m < 14 → J (4 + m) = I (4 + m)) (h2 : J 82 = I 82) : IVu J := by
  intro m hm
  have := h m hm
  have e := h1 (10 + m) (by omega)
  rw [show 4 + (10 + m) = 14 + m by omega] at e
  rw [e, h2]
  exact this
theorem IVp_fr {nm : Nat} {I J : IF} (h : IVp nm I) (h1 : ∀ m, m < 14 → J (4 + m) = I (4 + m)) (h2 : ∀ a, 94 ≤ a → a ≤ 95 → J a = I a) (h3 : J 0 10 = I 0 10) (h4 : J 0 11 = I 0 11) : IVp nm J := by
  intro m hm
  have := h m hm
  rw [h1 m (by omega), h2 94 (by omega) (by omega), h2 95 (by omega) (by omega), h3, h4]
  exact this
theorem IVa_fr {I J : IF} (h : IVa I) (h1 : ∀ m, m < 16 → J (18 + m) = I (18 + m)) (h2 : ∀ a, 86 ≤ a → a ≤ 93 → J a = I a) : IVa J := by
  intro m hm
  have := h m hm
  rw [h1 m hm, h2 86 (by omega) (by omega), h2 87 (by omega) (by omega), h2 88 (by omega) (by omega), h2 89 (by omega) (by omega), h2 90 (by omega) (by omega), h2 91 (by omega) (by omega), h2 93 (by omega) (by omega)]
  exact this
theorem IVl_fr {nm nr : Nat} {I J : IF} (h : IVl nm nr I) (h1 : ∀ m, m < 16 → J (18 + m) = I (18 + m)) (h2 : J 92 = I 92) : IVl nm nr J := by
  intro m hm
  have := h m hm
  rw [h1 m hm, h2]
  exact this
theorem IVt_fr {I J : IF} (h : IVt I) (h1 : J 44 1 = I 44 1) (h2 : J 72 36 = I 72 36) (h3 : J 96 = I 96) (h4 : J 45 = I 45) : IVt J := by
  unfold IVt
  rw [h1, h2, h3, h4]
  exact h
theorem IVr_fr {I J : IF} {L : LF} (h : IVr I L) (h1 : ∀ m, m < 4 → J (57 + 2 * m) = I (57 + 2 * m)) (h2 : J 73 = I 73) (h3 : J 74 = I 74) : IVr J L := by
  intro m hm
  have := h m hm
  rw [h1 m hm, h2, h3]
  exact this
/-- only scalars change: of 0, 1, 39, 44, 72 -/
theorem IV_sc {nm na nr : Nat} {I J : IF} {L : LF} (h : IV nm na nr I L) (ho : ∀ a, a ≠ 0 → a ≠ 1 → a ≠ 39 → a ≠ 44 → a ≠ 72 → J a = I a) (h10 : J 0 10 = I 0 10) (h11 : J 0 11 = I 0 11) (hc : IVc nm na nr J) (hs : IVs J) (ht : J 44 1 = I 44 1) (ht2 : J 72 36 = I 72 36) : IV nm na nr J L := by
  obtain ⟨a1, a2, a3, a4, a5, a6, a7, a8, a9, a10, a11⟩ := h
  refine ⟨hc, hs, IVm_fr a3 (fun m hm => ho _ (by omega) (by omega) (by omega) (by omega) (by omega)) (fun a _ _ => ho _ (by omega) (by omega) (by omega) (by omega) (by omega)), IVk_fr a4 (fun m hm => ho _ (by omega) (by omega) (by omega) (by omega) (by omega)) (fun a _ _ => ho _ (by omega) (by omega) (by omega) (by omega) (by omega)) h11,
    IVf_fr a1.1.2.2 a5 (fun m hm => ho _ (by omega) (by omega) (by omega) (by omega) (by omega)) (ho _ (by omega) (by omega) (by omega) (by omega) (by omega)), IVu_fr a6 (fun m hm => ho _ (by omega) (by omega) (by omega) (by omega) (by omega)) (ho _ (by omega) (by omega) (by omega) (by omega) (by omega)),
    IVp_fr a7 (fun m hm => ho _ (by omega) (by omega) (by omega) (by omega) (by omega)) (fun a _ _ => ho _ (by omega) (by omega) (by omega) (by omega) (by omega)) h10 h11, IVa_fr a8 (fun m hm => ho _ (by omega) (by omega) (by omega) (by omega) (by omega)) (fun a _ _ => ho _ (by omega) (by omega) (by omega) (by omega) (by omega)),
    IVl_fr a9 (fun m hm => ho _ (by omega) (by omega) (by omega) (by omega) (by omega)) (ho _ (by omega) (by omega) (by omega) (by omega) (by omega)), IVt_fr a10 ht ht2 (ho _ (by omega) (by omega) (by omega) (by omega) (by omega)) (ho _ (by omega) (by omega) (by omega) (by omega) (by omega)), IVr_fr a11 (fun m hm => ho _ (by omega) (by omega) (by omega) (by omega) (by omega)) (ho _ (by omega) (by omega) (by omega) (by omega) (by omega)) (ho _ (by omega) (by omega) (by omega) (by omega) (by omega))⟩
theorem LSm_sc {I J : IF} (ho : ∀ a, a ≠ 0 → a ≠ 1 → a ≠ 39 → a ≠ 44 → a ≠ 72 → J a = I a) (h : J 72 12 = I 72 12) : LSm I J := ⟨fun a ha => ho a (by omega) (by omega) (by omega) (by omega) (by omega), h⟩
theorem thr_o {I : IF} : ∀ a, a ≠ 0 → a ≠ 1 → a ≠ 39 → a ≠ 44 → a ≠ 72 → uI I 72 0 0 a = I a := fun a _ _ _ _ h => uI_fn h
theorem IV_thr {nm na nr : Nat} {I : IF} {L : LF} (h : IV nm na nr I L) : IV nm na nr (uI I 72 0 0) L := IV_sc h thr_o rfl rfl h.1 h.2.1 rfl rfl
theorem LSm_thr {I : IF} : LSm I (uI I 72 0 0) := LSm_sc thr_o rfl
theorem StepA.query {G : Gl} {d nm na nr : Nat} {Yc Ym : mY} {As : List Value} {I : IF} {L : LF} {b : Bool} {r : Int32} (h : IV nm na nr I L) (h1 : MD G d Yc (.ref 0 :: As) (I, L, RR b) (some (.int r)) (I, L, RR b)) (h2 : MD G d Ym (.ref 72 :: As) (I, L, RR b) (some (.int r)) (uI I 72 0 0, L, RR b)) : StepA G d Yc Ym As I L b :=
  ⟨r, I, L, uI I 72 0 0, L, h1, h2, ⟨nm, na, nr, IV_thr h⟩, LSm_thr⟩
end
section
/-! the plain calls, one by one: terms, fault, deliver, end, weekOf, channelOf, mastOf, areaOf, strength, fail -/
theorem s_terms {G : Gl} {d : Nat} {I : IF} {L : LF} {b : Bool} (l r : Int32) (h : InvA I L) : StepA G (d + 1) Y_X10_terms Y_X11_terms [.int l, .int r] I L b := by
  obtain ⟨nm, na, nr, h⟩ := h
  by_cases hc : (1 ≤ l ∧ l ≤ 1000000) ∧ 1 ≤ r ∧ r ≤ 100
  · have c1 := c_X10_terms G d l r I L b
    rw [if_pos hc, if_pos hc] at c1
    have c2 := c_X11_terms G d l r (uI (uI I 1 6 l) 1 7 r) L b
    rw [if_pos hc, if_pos hc] at c2
    have ho : ∀ a, a ≠ 0 → a ≠ 1 → a ≠ 39 → a ≠ 44 → a ≠ 72 → uI (uI (uI (uI (uI I 1 6 l) 1 7 r) 72 0 0) 72 9 l) 72 10 r a = I a := by
      intro a _ _ _ _ _
      rw [uI_fn, uI_fn, uI_fn, uI_fn, uI_fn] <;> assumption
    refine ⟨_, _, _, _, _, c1, c2, ⟨nm, na, nr, IV_sc h ho rfl rfl h.1 ?_ rfl rfl⟩, LSm_sc ho rfl⟩
    obtain ⟨-, ⟨b1, b2, b3, b4, b5, b6, b7, b8, b9, b10⟩, -⟩ := h
    exact ⟨b1, rfl, ⟨rfl, hc.2⟩, b4, b5, b6, b7, b8, b9, b10⟩
  · have c1 := c_X10_terms G d l r I L b
    rw [if_neg hc, if_neg hc] at c1
    have c2 := c_X11_terms G d l r I L b
    rw [if_neg hc, if_neg hc] at c2
    exact StepA.query h c1 c2
theorem c_X10_fault (G : Gl) (d : Nat) (I : IF) (L : LF) (b : Bool) : MD G d Y_X10_fault [.ref 0] (I, L, RR b) (some (.int (I 0 8))) (I, L, RR b) := by
  refine MT.intro m_X10_fault rfl (Nat.le_of_ble_eq_true rfl) ?_
  show WQ G d Y_X10_fault _ 0 [(0, .ref 0)] [] (I, L, RR b)
  refine wp_aload_n rfl rfl ?_
  refine q_geti rfl rfl (by first | rfl | assumption) rfl ?_
  exact wp_iret rfl rfl (⟨by first | rfl | grind [b2], rfl⟩)
theorem c_X11_fault (G : Gl) (d : Nat) (I : IF) (L : LF) (b : Bool) : MD G d Y_X11_fault [.ref 72] (I, L, RR b) (some (.int (I 72 37))) (uI I 72 0 0, L, RR b) := by
  refine MT.intro m_X11_fault rfl (Nat.le_of_ble_eq_true rfl) ?_
  show WQ G d Y_X11_fault _ 0 [(0, .ref 72)] [] (I, L, RR b)
  refine wp_aload_n rfl rfl ?_
  refine wp_iconst (v := 0) rfl rfl ?_
  refine q_puti rfl rfl (by first | rfl | assumption) (Or.inl rfl) rfl ?_
  refine wp_aload_n rfl rfl ?_
  refine q_geti rfl rfl (by first | rfl | assumption) rfl ?_
  exact wp_iret rfl rfl (⟨by first | rfl | grind [b2], rfl⟩)
theorem s_fault {G : Gl} {d : Nat} {I : IF} {L : LF} {b : Bool} (h : InvA I L) : StepA G d Y_X10_fault Y_X11_fault [] I L b := by
  obtain ⟨nm, na, nr, h⟩ := h
  have c2 := c_X11_fault G d I L b
  rw [h.2.1.2.2.2.2.2.2.1] at c2
  exact StepA.query h (c_X10_fault G d I L b) c2
theorem c_X10_deliver (G : Gl) (d : Nat) (n : Int32) (I : IF) (L : LF) (b : Bool) : MD G (d + 1) Y_X10_deliver [.ref 0, .int n] (I, L, RR b) (some (.int (if (0 ≤ n ∧ n ≤ 1000000) ∧ n ≤ 10000000 - I 0 9 then I 0 9 + n else -2))) (if (0 ≤ n ∧ n ≤ 1000000) ∧ n ≤ 10000000 - I 0 9 then uI I 0 9 (I 0 9 + n) else I, L, RR b) := by
  refine MT.intro m_X10_deliver rfl (Nat.le_of_ble_eq_true rfl) ?_
  show WQ G (d + 1) Y_X10_deliver _ 0 [(0, .ref 0), (1, .int n)] [] (I, L, RR b)
  refine wp_iload_n rfl rfl ?_
  refine wp_iconst (v := 0) rfl rfl ?_
  refine wp_ldc (v := (1000000)) rfl ci_10_76 ?_
  refine cS1 rfl l_10_77 s_X10_isWithin m_X10_isWithin (c_X10_isWithin G _ _ _ _ _) rfl (Nat.le_of_ble_eq_true rfl) ?_
  refine wp_if_eq 11 rfl rfl (fun h4 => ?_) (fun h4 => ?_)
  · refine wp_bipush (v := (-2)) rfl rfl ?_
    exact wp_iret rfl rfl (⟨by (try simp only [uI_eq]); grind [b2], by grind [b2]⟩)
  · refine wp_iload_n rfl rfl ?_
    refine wp_ldc (v := (10000000)) rfl ci_10_221 ?_
    refine wp_aload_n rfl rfl ?_
    refine q_geti rfl rfl (by first | rfl | assumption) rfl ?_
    refine wp_isub rfl ?_
    refine wp_icmp_le 13 rfl rfl (fun h10 => ?_) (fun h10 => ?_)
    · refine wp_aload_n rfl rfl ?_
      refine wp_dup rfl rfl ?_
      refine q_geti rfl rfl (by first | rfl | assumption) rfl ?_
      refine wp_iload_n rfl rfl ?_
      refine wp_iadd rfl ?_
      refine q_puti rfl rfl (by first | rfl | assumption) (Or.inl rfl) rfl ?_
      refine wp_aload_n rfl rfl ?_
      refine q_geti rfl rfl (by first | rfl | assumption) rfl ?_
      exact wp_iret rfl rfl (⟨by (try simp only [uI_eq]); grind [b2], by grind [b2]⟩)
    · refine wp_bipush (v := (-2)) rfl rfl ?_
      exact wp_iret rfl rfl (⟨by (try simp only [uI_eq]); grind [b2], by grind [b2]⟩)
theorem c_X11_deliver (G : Gl) (d : Nat) (n : Int32) (I : IF) (L : LF) (b : Bool) : MD G (d + 1) Y_X11_deliver [.ref 72, .int n] (I, L, RR b) (some (.int (if (0 ≤ n ∧ n ≤ 1000000) ∧ I 72 11 + n ≤ 10000000 then I 72 11 + n else -2))) (if (0 ≤ n ∧ n ≤ 1000000) ∧ I 72 11 + n ≤ 10000000 then uI (uI I 72 0 0) 72 11 (I 72 11 + n) else uI I 72 0 0, L, RR b) := by
  refine MT.intro m_X11_deliver rfl (Nat.le_of_ble_eq_true rfl) ?_
  show WQ G (d + 1) Y_X11_deliver _ 0 [(0, .ref 72), (1, .int n)] [] (I, L, RR b)
  refine wp_aload_n rfl rfl ?_
  refine wp_iconst (v := 0) rfl rfl ?_
  refine q_puti rfl rfl (by first | rfl | assumption) (Or.inl rfl) rfl ?_
  refine wp_iload_n rfl rfl ?_
  refine wp_i2l rfl ?_
  refine wp_lconst (v := 0) rfl rfl ?_
  refine wp_ldc2 (v := (1000000)) rfl cl_11_131 ?_
  refine cS1 rfl l_11_119 s_X11_in m_X11_in (c_inI G _ _ 0 1000000 rfl rfl _) rfl (Nat.le_of_ble_eq_true rfl) ?_
  refine wp_if_eq 15 rfl rfl (fun h8 => ?_) (fun h8 => ?_)
  · refine wp_bipush (v := (-2)) rfl rfl ?_
    exact wp_iret rfl rfl (⟨by (try simp only [uI_eq, uI_nk (show (11 : Nat) ≠ 0 by decide)] at *); grind [b2], by (try simp only [uI_nk (show (11 : Nat) ≠ 0 by decide)] at *); grind [b2]⟩)
  · refine wp_aload_n rfl rfl ?_
    refine q_geti rfl rfl (by first | rfl | assumption) rfl ?_
    refine wp_iload_n rfl rfl ?_
    refine wp_iadd rfl ?_
    refine wp_ldc_w (v := (10000000)) rfl ci_11_334 ?_
    refine wp_icmp_le 17 rfl rfl (fun h14 => ?_) (fun h14 => ?_)
    · refine wp_aload_n rfl rfl ?_
      refine wp_dup rfl rfl ?_
      refine q_geti rfl rfl (by first | rfl | assumption) rfl ?_
      refine wp_iload_n rfl rfl ?_
      refine wp_iadd rfl ?_
      refine q_puti rfl rfl (by first | rfl | assumption) (Or.inl rfl) rfl ?_
      refine wp_aload_n rfl rfl ?_
      refine q_geti rfl rfl (by first | rfl | assumption) rfl ?_
      exact wp_iret rfl rfl (⟨by (try simp only [uI_eq, uI_nk (show (11 : Nat) ≠ 0 by decide)] at *); grind [b2], by (try simp only [uI_nk (show (11 : Nat) ≠ 0 by decide)] at *); grind [b2]⟩)
    · refine wp_bipush (v := (-2)) rfl rfl ?_
      exact wp_iret rfl rfl (⟨by (try simp only [uI_eq, uI_nk (show (11 : Nat) ≠ 0 by decide)] at *); grind [b2], by (try simp only [uI_nk (show (11 : Nat) ≠ 0 by decide)] at *); grind [b2]⟩)
theorem s_deliver {G : Gl} {d : Nat} {I : IF} {L : LF} {b : Bool} (n : Int32) (h : InvA I L) : StepA G (d + 1) Y_X10_deliver Y_X11_deliver [.int n] I L b := by
  obtain ⟨nm, na, nr, h⟩ := h
  obtain ⟨e1, e2, e3⟩ := h.2.1.2.2.2.1
  by_cases hc : (0 ≤ n ∧ n ≤ 1000000) ∧ n ≤ 10000000 - I 0 9
  · have c1 := c_X10_deliver G d n I L b
    rw [if_pos hc, if_pos hc] at c1
    have c2 := c_X11_deliver G d n (uI I 0 9 (I 0 9 + n)) L b
    rw [show uI I 0 9 (I 0 9 + n) 72 11 = I 0 9 from e1] at c2
    have hc2 : (0 ≤ n ∧ n ≤ 1000000) ∧ I 0 9 + n ≤ 10000000 := by grind
    rw [if_pos hc2, if_pos hc2] at c2
    have ho : ∀ a, a ≠ 0 → a ≠ 1 → a ≠ 39 → a ≠ 44 → a ≠ 72 → uI (uI (uI I 0 9 (I 0 9 + n)) 72 0 0) 72 11 (I 0 9 + n) a = I a := by
      intro a _ _ _ _ _
      rw [uI_fn, uI_fn, uI_fn] <;> assumption
    refine ⟨_, _, _, _, _, c1, c2, ⟨nm, na, nr, IV_sc h ho rfl rfl h.1 ?_ rfl rfl⟩, LSm_sc ho rfl⟩
    obtain ⟨-, ⟨b1, b2, b3, b4, b5, b6, b7, b8, b9, b10⟩, -⟩ := h
    exact ⟨b1, b2, b3, ⟨rfl, by show 0 ≤ I 0 9 + n; grind, by show I 0 9 + n ≤ 10000000; grind⟩, b5, b6, b7, b8, b9, b10⟩
  · have c1 := c_X10_deliver G d n I L b
    rw [if_neg hc, if_neg hc] at c1
    have c2 := c_X11_deliver G d n I L b
    rw [e1] at c2
    have hc2 : ¬ ((0 ≤ n ∧ n ≤ 1000000) ∧ I 0 9 + n ≤ 10000000) := by grind
    rw [if_neg hc2, if_neg hc2] at c2
    exact StepA.query h c1 c2
theorem c_X10_end (G : Gl) (d : Nat) (n : Int32) (I : IF) (L : LF) (b : Bool) : MD G (d + 1) Y_X10_end [.ref 0, .int n] (I, L, RR b) (some (.int (if 0 ≤ n ∧ n ≤ I 44 1 then n else -1))) (if 0 ≤ n ∧ n ≤ I 44 1 then uI I 44 1 n else I, L, RR b) := by
  refine MT.intro m_X10_end rfl (Nat.le_of_ble_eq_true rfl) ?_
  show WQ G (d + 1) Y_X10_end _ 0 [(0, .ref 0), (1, .int n)] [] (I, L, RR b)
  refine wp_iload_n rfl rfl ?_
  refine wp_iconst (v := 0) rfl rfl ?_
  refine wp_aload_n rfl rfl ?_
  refine q_getr rfl rfl (by first | rfl | assumption) rfl rfl ?_
  refine q_geti rfl rfl (by first | rfl | assumption) rfl ?_
  refine cS1 rfl l_10_77 s_X10_isWithin m_X10_isWithin (c_X10_isWithin G _ _ _ _ _) rfl (Nat.le_of_ble_eq_true rfl) ?_
  refine wp_if_ne 9 rfl rfl (fun h6 => ?_) (fun h6 => ?_)
  · refine wp_aload_n rfl rfl ?_
    refine q_getr rfl rfl (by first | rfl | assumption) rfl rfl ?_
    refine wp_iload_n rfl rfl ?_
    refine q_puti rfl rfl (by first | rfl | assumption) (Or.inl rfl) rfl ?_
    refine wp_iload_n rfl rfl ?_
    exact wp_iret rfl rfl (⟨by grind [b2], by grind [b2]⟩)
  · refine wp_iconst (v := (-1)) rfl rfl ?_
    exact wp_iret rfl rfl (⟨by grind [b2], by grind [b2]⟩)
theorem c_X11_end (G : Gl) (d : Nat) (n : Int32) (I : IF) (L : LF) (b : Bool) : MD G (d + 1) Y_X11_end [.ref 72, .int n] (I, L, RR b) (some (.int (if 0 ≤ n ∧ n ≤ I 72 36 then n else -1))) (if 0 ≤ n ∧ n ≤ I 72 36 then uI (uI I 72 0 0) 72 36 n else uI I 72 0 0, L, RR b) := by
  refine MT.intro m_X11_end rfl (Nat.le_of_ble_eq_true rfl) ?_
  show WQ G (d + 1) Y_X11_end _ 0 [(0, .ref 72), (1, .int n)] [] (I, L, RR b)
  refine wp_aload_n rfl rfl ?_
  refine wp_iconst (v := 0) rfl rfl ?_
  refine q_puti rfl rfl (by first | rfl | assumption) (Or.inl rfl) rfl ?_
  refine wp_iload_n rfl rfl ?_
  refine wp_i2l rfl ?_
  refine wp_lconst (v := 0) rfl rfl ?_
  refine wp_aload_n rfl rfl ?_
  refine q_geti rfl rfl (by first | rfl | assumption) rfl ?_
  refine wp_i2l rfl ?_
  refine cS1 rfl l_11_119 s_X11_in m_X11_in (c_inI G _ _ 0 (I 72 36) rfl rfl _) rfl (Nat.le_of_ble_eq_true rfl) ?_
  refine wp_if_ne 13 rfl rfl (fun h10 => ?_) (fun h10 => ?_)
  · refine wp_aload_n rfl rfl ?_
    refine wp_iload_n rfl rfl ?_
    refine q_puti rfl rfl (by first | rfl | assumption) (Or.inl rfl) rfl ?_
    refine wp_iload_n rfl rfl ?_
    exact wp_iret rfl rfl (⟨by grind [b2], by grind [b2]⟩)
  · refine wp_iconst (v := (-1)) rfl rfl ?_
    exact wp_iret rfl rfl (⟨by grind [b2], by grind [b2]⟩)
theorem s_end {G : Gl} {d : Nat} {I : IF} {L : LF} {b : Bool} (n : Int32) (h : InvA I L) : StepA G (d + 1) Y_X10_end Y_X11_end [.int n] I L b := by
  obtain ⟨nm, na, nr, h⟩ := h
  obtain ⟨⟨tl, t1, t2, t3⟩, t4⟩ := h.2.2.2.2.2.2.2.2.2.1
  by_cases hc : 0 ≤ n ∧ n ≤ I 44 1
  · have c1 := c_X10_end G d n I L b
    rw [if_pos hc, if_pos hc] at c1
    have c2 := c_X11_end G d n (uI I 44 1 n) L b
    have hc2 : 0 ≤ n ∧ n ≤ uI I 44 1 n 72 36 := by
      show 0 ≤ n ∧ n ≤ I 72 36
      rw [t3, ← t2]; exact hc
    rw [if_pos hc2, if_pos hc2] at c2
    obtain ⟨tn, q1, q2⟩ : ∃ tn, tn < tl + 1 ∧ n = nI tn := by
      refine nI_get hc.1 ?_ (by omega)
      have h5 := hc.2
      rw [t2] at h5
      rw [nI_succ]
      have h6 := nI_ltI (a := tl) (b := tl + 1) (by omega) (by omega)
      rw [nI_succ] at h6
      have h7 := h6.mpr (by omega)
      grind
    obtain ⟨a1, a2, a3, a4, a5, a6, a7, a8, a9, a10, a11⟩ := h
    have ho : ∀ a, a ≠ 44 → a ≠ 72 → uI (uI (uI I 44 1 n) 72 0 0) 72 36 n a = I a := by
      intro a _ _
      rw [uI_fn, uI_fn, uI_fn] <;> assumption
    refine ⟨_, _, _, _, _, c1, c2, ⟨nm, na, nr, a1, a2, IVm_fr a3 (fun m hm => ho _ (by omega) (by omega)) (fun a _ _ => ho _ (by omega) (by omega)), IVk_fr a4 (fun m hm => ho _ (by omega) (by omega)) (fun a _ _ => ho _ (by omega) (by omega)) rfl, IVf_fr a1.1.2.2 a5 (fun m hm => ho _ (by omega) (by omega)) (ho _ (by omega) (by omega)), IVu_fr a6 (fun m hm => ho _ (by omega) (by omega)) (ho _ (by omega) (by omega)), IVp_fr a7 (fun m hm => ho _ (by omega) (by omega)) (fun a _ _ => ho _ (by omega) (by omega)) rfl rfl, IVa_fr a8 (fun m hm => ho _ (by omega) (by omega)) (fun a _ _ => ho _ (by omega) (by omega)), IVl_fr a9 (fun m hm => ho _ (by omega) (by omega)) (ho _ (by omega) (by omega)), ⟨⟨tn, by omega, q2, q2⟩, t4⟩, IVr_fr a11 (fun m hm => ho _ (by omega) (by omega)) (ho _ (by omega) (by omega)) (ho _ (by omega) (by omega))⟩, fun a ha => ho a (by omega) (by omega), rfl⟩
  · have c1 := c_X10_end G d n I L b
    rw [if_neg hc, if_neg hc] at c1
    have c2 := c_X11_end G d n I L b
    have hc2 : ¬ (0 ≤ n ∧ n ≤ I 72 36) := by rw [t3, ← t2]; exact hc
    rw [if_neg hc2, if_neg hc2] at c2
    exact StepA.query h c1 c2
/-- one of the masts, one of the areas -/
theorem isM {nm na nr : Nat} {I : IF} (h : IVc nm na nr I) (v : Int32) : (0 ≤ v ∧ v < I 1 2 → ∃ m, m < nm ∧ v = nI m ∧ v.toNatClampNeg = m) ∧ ((0 ≤ v ∧ v ≤ I 72 5 - 1) ↔ (0 ≤ v ∧ v < I 1 2)) := by
  obtain ⟨⟨h1, h2, h3⟩, -⟩ := h
  refine ⟨fun hv => ?_, ?_⟩
  · rw [h1] at hv
    obtain ⟨m, hm, rfl⟩ := nI_get hv.1 hv.2 (by omega)
    exact ⟨m, hm, rfl, nI_clamp (by omega)⟩
  · rw [h1, h2]
    have a := nI_leI (a := 0) (b := nm) (by omega) (by omega)
    have c := nI_leI (a := nm) (b := 10) (by omega) (by omega)
    have a' : (0 : Int32) ≤ nI nm := a.mpr (by omega)
    have c' : nI nm ≤ (10 : Int32) := c.mpr h3
    grind
theorem isAr {nm na nr : Nat} {I : IF} (h : IVc nm na nr I) (v : Int32) : (0 ≤ v ∧ v < I 1 4 → ∃ m, m < nr ∧ v = nI m ∧ v.toNatClampNeg = m) ∧ ((0 ≤ v ∧ v ≤ I 72 7 - 1) ↔ (0 ≤ v ∧ v < I 1 4)) := by
  obtain ⟨-, -, h1, h2, h3⟩ := h
  refine ⟨fun hv => ?_, ?_⟩
  · rw [h1] at hv
    obtain ⟨m, hm, rfl⟩ := nI_get hv.1 hv.2 (by omega)
    exact ⟨m, hm, rfl, nI_clamp (by omega)⟩
  · rw [h1, h2]
    have a := nI_leI (a := 0) (b := nr) (by omega) (by omega)
    have c := nI_leI (a := nr) (b := 16) (by omega) (by omega)
    have a' : (0 : Int32) ≤ nI nr := a.mpr (by omega)
    have c' : nI nr ≤ (16 : Int32) := c.mpr h3
    grind
theorem c_X10_weekOf (G : Gl) (d : Nat) {nm na nr : Nat} (v : Int32) (I : IF) (L : LF) (b : Bool) (h : IVc nm na nr I) : MD G (d + 1) Y_X10_weekOf [.ref 0, .int v] (I, L, RR b) (some (.int (if 0 ≤ v ∧ v < I 1 2 then I (4 + v.toNatClampNeg) 7 else -2))) (I, L, RR b) := by
  refine MT.intro m_X10_weekOf rfl (Nat.le_of_ble_eq_true rfl) ?_
  show WQ G (d + 1) Y_X10_weekOf _ 0 [(0, .ref 0), (1, .int v)] [] (I, L, RR b)
  refine wp_aload_n rfl rfl ?_
  refine q_getr rfl rfl (by first | rfl | assumption) rfl rfl ?_
  refine wp_iload_n rfl rfl ?_
  refine cV1 rfl l_10_91 i_X1_isMast m_X1_isMast (by first | rfl | assumption) (by decide) (c_X1_isMast G _ _ _ _ _) rfl (Nat.le_of_ble_eq_true rfl) ?_
  refine wp_if_eq 12 rfl rfl (fun h4 => ?_) (fun h4 => ?_)
  · refine wp_bipush (v := (-2)) rfl rfl ?_
    exact wp_iret rfl rfl (⟨by grind [b2], rfl⟩)
  · have hv := b2_ne.mp h4
    obtain ⟨m, hm, hvm, hcl⟩ := (isM h v).1 hv
    have hm14 : m < 14 := by have := h.1.2.2; omega
    have hsm := sh_mast m hm14
    refine wp_aload_n rfl rfl ?_
    refine q_getr rfl rfl (by first | rfl | assumption) rfl rfl ?_
    refine q_getr rfl rfl (by first | rfl | assumption) rfl rfl ?_
    refine wp_iload_n rfl rfl ?_
    refine q_mast rfl hvm hm14 ?_
    refine q_geti rfl rfl (by first | rfl | assumption) rfl ?_
    refine wp_goto 13 rfl rfl ?_
    exact wp_iret rfl rfl (⟨by grind [b2], rfl⟩)
theorem c_X11_weekOf (G : Gl) (d : Nat) {nm na nr : Nat} (v : Int32) (I : IF) (L : LF) (b : Bool) (h : IVc nm na nr I) : MD G (d + 2) Y_X11_weekOf [.ref 72, .int v] (I, L, RR b) (some (.int (if 0 ≤ v ∧ v < I 1 2 then (if I 72 30 = -1 then -1 else I 94 v.toNatClampNeg) else -2))) (uI I 72 0 0, L, RR b) := by
  refine MT.intro m_X11_weekOf rfl (Nat.le_of_ble_eq_true rfl) ?_
  show WQ G (d + 2) Y_X11_weekOf _ 0 [(0, .ref 72), (1, .int v)] [] (I, L, RR b)
  refine wp_aload_n rfl rfl ?_
  refine wp_iconst (v := 0) rfl rfl ?_
  refine q_puti rfl rfl (by first | rfl | assumption) (Or.inl rfl) rfl ?_
  refine wp_aload_n rfl rfl ?_
  refine wp_iload_n rfl rfl ?_
  refine cV1 rfl l_11_165 i_X11_isMast m_X11_isMast (by first | rfl | assumption) (by decide) (c_X11_isMast G _ _ _ _ _) rfl (Nat.le_of_ble_eq_true rfl) ?_
  refine wp_if_ne 9 rfl rfl (fun h6 => ?_) (fun h6 => ?_)
  · refine wp_aload_n rfl rfl ?_
    refine q_geti rfl rfl (by first | rfl | assumption) rfl ?_
    refine wp_iconst (v := (-1)) rfl rfl ?_
    refine wp_icmp_ne 15 rfl rfl (fun h12 => ?_) (fun h12 => ?_)
    · have hv := (isM h v).2.mp (b2_ne.mp h6)
      obtain ⟨m, hm, hvm, hcl⟩ := (isM h v).1 hv
      have hin : vp_in v 10 := by rw [hvm]; exact vp_in_nI (by have := h.1.2.2; omega) (by omega)
      refine wp_aload_n rfl rfl ?_
      refine q_getr rfl rfl (by first | rfl | assumption) rfl rfl ?_
      refine wp_iload_n rfl rfl ?_
      refine q_iald rfl (by first | rfl | assumption) (by assumption) ?_
      exact wp_iret rfl rfl (⟨by have e := (isM h v).2; simp only [uI_nk (show (5 : Nat) ≠ 0 by decide), uI_nk (show (30 : Nat) ≠ 0 by decide), uI_ne (show (94 : Nat) ≠ 72 by decide)] at *; grind [b2], rfl⟩)
    · refine wp_iconst (v := (-1)) rfl rfl ?_
      refine wp_goto 19 rfl rfl ?_
      exact wp_iret rfl rfl (⟨by have e := (isM h v).2; simp only [uI_nk (show (5 : Nat) ≠ 0 by decide), uI_nk (show (30 : Nat) ≠ 0 by decide), uI_ne (show (94 : Nat) ≠ 72 by decide)] at *; grind [b2], rfl⟩)
  · refine wp_bipush (v := (-2)) rfl rfl ?_
    refine wp_goto 19 rfl rfl ?_
    exact wp_iret rfl rfl (⟨by have e := (isM h v).2; simp only [uI_nk (show (5 : Nat) ≠ 0 by decide), uI_nk (show (30 : Nat) ≠ 0 by decide), uI_ne (show (94 : Nat) ≠ 72 by decide)] at *; grind [b2], rfl⟩)
theorem s_weekOf {G : Gl} {d : Nat} {I : IF} {L : LF} {b : Bool} (v : Int32) (h : InvA I L) : StepA G (d + 2) Y_X10_weekOf Y_X11_weekOf [.int v] I L b := by
  obtain ⟨nm, na, nr, h⟩ := h
  have c1 := c_X10_weekOf G (d + 1) v I L b h.1
  have c2 := c_X11_weekOf G d v I L b h.1
  refine StepA.query h c1 ?_
  have e : (if 0 ≤ v ∧ v < I 1 2 then (if I 72 30 = -1 then -1 else I 94 v.toNatClampNeg) else -2) = (if 0 ≤ v ∧ v < I 1 2 then I (4 + v.toNatClampNeg) 7 else -2) := by
    by_cases hv : 0 ≤ v ∧ v < I 1 2
    · rw [if_pos hv, if_pos hv]
      obtain ⟨m, hm, -, hcl⟩ := (isM h.1 v).1 hv
      rw [hcl, h.2.1.2.2.2.2.1.1]
      obtain ⟨p1, p2, -⟩ := h.2.2.2.2.2.2.1 m (by have := h.1.1.2.2; omega)
      split
      · next hz => rw [p2 (Or.inl hz)]
      · next hz => exact (p1 ⟨hz, hm⟩).1
    · rw [if_neg hv, if_neg hv]
  rw [e] at c2
  exact c2
end
section
/-! mast, abroad, area, aim, fail, channelOf, mastOf, areaOf -/
theorem pm1 (x : Int32) : x + 1 - 1 = x := by grind
theorem nar01 {h : Int32} (hh : h = 0 ∨ h = 1) : vp_nar .boolean h = h := by rcases hh with rfl | rfl <;> rfl
theorem nI_b {n k : Nat} (h : n ≤ k) (hk : k < 2 ^ 31) : (0 : Int32) ≤ nI n ∧ nI n ≤ nI k := ⟨nI_pos' (by omega), nI_le h hk⟩
theorem c_X10_mast_ok (G : Gl) (d : Nat) {nm na nr : Nat} (x y p f hh c : Int32) (I : IF) (L : LF) (b : Bool) (h : IVc nm na nr I) (hS : ((0 ≤ x ∧ x ≤ 100) ∧ 0 ≤ y ∧ y ≤ 100) ∧ (1 ≤ p ∧ p ≤ 10000) ∧ 0 ≤ c ∧ c ≤ 11) (hF : f = -1 ∨ (0 ≤ f ∧ f < I 1 2)) (hn : nm < 10) (hp : I 0 10 = -1) (h01 : hh = 0 ∨ hh = 1) : MD G (d + 3) Y_X10_mast [.ref 0, .int x, .int y, .int p, .int f, .int hh, .int c] (I, L, RR b) (some (.int (nI nm))) (uI (uI (uI (uI (uI (uI (uI I (4 + nm) 0 x) (4 + nm) 1 y) (4 + nm) 2 p) (4 + nm) 5 c) (4 + nm) 3 f) (4 + nm) 4 hh) 1 2 (nI (nm + 1)), L, RR b) := by
  have hI := h.1.1
  have hb := nI_lt (a := nm) (b := 10) hn (by omega)
  have hb' : nI nm < 10 := hb
  refine MT.intro m_X10_mast rfl (Nat.le_of_ble_eq_true rfl) ?_
  show WQ G (d + 3) Y_X10_mast _ 0 [(0, .ref 0), (1, .int x), (2, .int y), (3, .int p), (4, .int f), (5, .int hh), (6, .int c)] [] (I, L, RR b)
  refine wp_iload_n rfl rfl ?_
  refine wp_iload_n rfl rfl ?_
  refine wp_iload_n rfl rfl ?_
  refine wp_iload rfl rfl ?_
  refine cS1 rfl l_10_87 s_X10_isFitSender m_X10_isFitSender (c_X10_isFitSender G _ _ _ _ _ _) rfl (Nat.le_of_ble_eq_true rfl) ?_
  refine wp_if_eq 14 rfl rfl (fun h5 => ?_) (fun h5 => ?_)
  · exfalso; grind [b2]
  · refine wp_iload rfl rfl ?_
    refine wp_iconst (v := (-1)) rfl rfl ?_
    refine wp_icmp_eq 16 rfl rfl (fun h8 => ?_) (fun h8 => ?_)
    · refine wp_aload_n rfl rfl ?_
      refine q_getr rfl rfl (by first | rfl | assumption) rfl rfl ?_
      refine q_geti rfl rfl (by first | rfl | assumption) rfl ?_
      refine wp_bipush (v := 10) rfl rfl ?_
      refine wp_icmp_lt 23 rfl rfl (fun h20 => ?_) (fun h20 => ?_)
      · refine wp_aload_n rfl rfl ?_
        refine q_geti rfl rfl (by first | rfl | assumption) rfl ?_
        refine wp_iconst (v := (-1)) rfl rfl ?_
        refine wp_icmp_eq 29 rfl rfl (fun h26 => ?_) (fun h26 => ?_)
        · have hsm := sh_mast nm (by omega)
          refine wp_aload_n rfl rfl ?_
          refine q_getr rfl rfl (by first | rfl | assumption) rfl rfl ?_
          refine q_getr rfl rfl (by first | rfl | assumption) rfl rfl ?_
          refine wp_aload_n rfl rfl ?_
          refine q_getr rfl rfl (by first | rfl | assumption) rfl rfl ?_
          refine q_geti rfl rfl (by first | rfl | assumption) rfl ?_
          refine q_mast rfl hI (by omega) ?_
          refine wp_astore (lv' := [(7, _), (0, _), (1, _), (2, _), (3, _), (4, _), (5, _), (6, _)]) rfl (by decide) rfl ?_
          refine wp_aload rfl rfl ?_
          refine wp_iload_n rfl rfl ?_
          refine wp_iload_n rfl rfl ?_
          refine wp_iload_n rfl rfl ?_
          refine wp_iload rfl rfl ?_
          refine cV0 rfl l_10_102 i_X4_stand m_X4_stand (by first | rfl | assumption) (by decide) (c_X4_stand G _ _ _ _ _ _ _ _ _ hsm) rfl (Nat.le_of_ble_eq_true rfl) ?_
          refine wp_aload rfl rfl ?_
          refine wp_iload rfl rfl ?_
          refine q_puti rfl rfl (by first | rfl | assumption) (Or.inl rfl) rfl ?_
          refine wp_aload rfl rfl ?_
          refine wp_iload rfl rfl ?_
          refine q_putz rfl rfl (by first | rfl | assumption) (Or.inl rfl) rfl (by assumption) ?_
          refine wp_aload_n rfl rfl ?_
          refine q_getr rfl rfl (by first | rfl | assumption) rfl rfl ?_
          refine wp_dup rfl rfl ?_
          refine q_geti rfl rfl (by first | rfl | assumption) rfl ?_
          refine wp_iconst (v := 1) rfl rfl ?_
          refine wp_iadd rfl ?_
          refine q_puti rfl rfl (by first | rfl | assumption) (Or.inl rfl) rfl ?_
          refine wp_aload_n rfl rfl ?_
          refine q_getr rfl rfl (by first | rfl | assumption) rfl rfl ?_
          refine q_geti rfl rfl (by first | rfl | assumption) rfl ?_
          refine wp_iconst (v := 1) rfl rfl ?_
          refine wp_isub rfl ?_
          exact wp_iret rfl rfl (⟨by simp (disch := omega) only [uI_ne, uI_eq]; rw [hI, pm1], by simp (disch := omega) only [uI_ne]; rw [hI, nI_1]⟩)
        · exfalso; grind [b2]
      · exfalso; grind [b2]
    · refine wp_aload_n rfl rfl ?_
      refine q_getr rfl rfl (by first | rfl | assumption) rfl rfl ?_
      refine wp_iload rfl rfl ?_
      refine cV1 rfl l_10_91 i_X1_isMast m_X1_isMast (by first | rfl | assumption) (by decide) (c_X1_isMast G _ _ _ _ _) rfl (Nat.le_of_ble_eq_true rfl) ?_
      refine wp_if_ne 16 rfl rfl (fun h13 => ?_) (fun h13 => ?_)
      · refine wp_aload_n rfl rfl ?_
        refine q_getr rfl rfl (by first | rfl | assumption) rfl rfl ?_
        refine q_geti rfl rfl (by first | rfl | assumption) rfl ?_
        refine wp_bipush (v := 10) rfl rfl ?_
        refine wp_icmp_lt 23 rfl rfl (fun h20 => ?_) (fun h20 => ?_)
        · refine wp_aload_n rfl rfl ?_
          refine q_geti rfl rfl (by first | rfl | assumption) rfl ?_
          refine wp_iconst (v := (-1)) rfl rfl ?_
          refine wp_icmp_eq 29 rfl rfl (fun h26 => ?_) (fun h26 => ?_)
          · have hsm := sh_mast nm (by omega)
            refine wp_aload_n rfl rfl ?_
            refine q_getr rfl rfl (by first | rfl | assumption) rfl rfl ?_
            refine q_getr rfl rfl (by first | rfl | assumption) rfl rfl ?_
            refine wp_aload_n rfl rfl ?_
            refine q_getr rfl rfl (by first | rfl | assumption) rfl rfl ?_
            refine q_geti rfl rfl (by first | rfl | assumption) rfl ?_
            refine q_mast rfl hI (by omega) ?_
            refine wp_astore (lv' := [(7, _), (0, _), (1, _), (2, _), (3, _), (4, _), (5, _), (6, _)]) rfl (by decide) rfl ?_
            refine wp_aload rfl rfl ?_
            refine wp_iload_n rfl rfl ?_
            refine wp_iload_n rfl rfl ?_
            refine wp_iload_n rfl rfl ?_
            refine wp_iload rfl rfl ?_
            refine cV0 rfl l_10_102 i_X4_stand m_X4_stand (by first | rfl | assumption) (by decide) (c_X4_stand G _ _ _ _ _ _ _ _ _ hsm) rfl (Nat.le_of_ble_eq_true rfl) ?_
            refine wp_aload rfl rfl ?_
            refine wp_iload rfl rfl ?_
            refine q_puti rfl rfl (by first | rfl | assumption) (Or.inl rfl) rfl ?_
            refine wp_aload rfl rfl ?_
            refine wp_iload rfl rfl ?_
            refine q_putz rfl rfl (by first | rfl | assumption) (Or.inl rfl) rfl (by assumption) ?_
            refine wp_aload_n rfl rfl ?_
            refine q_getr rfl rfl (by first | rfl | assumption) rfl rfl ?_
            refine wp_dup rfl rfl ?_
            refine q_geti rfl rfl (by first | rfl | assumption) rfl ?_
            refine wp_iconst (v := 1) rfl rfl ?_
            refine wp_iadd rfl ?_
            refine q_puti rfl rfl (by first | rfl | assumption) (Or.inl rfl) rfl ?_
            refine wp_aload_n rfl rfl ?_
            refine q_getr rfl rfl (by first | rfl | assumption) rfl rfl ?_
            refine q_geti rfl rfl (by first | rfl | assumption) rfl ?_
            refine wp_iconst (v := 1) rfl rfl ?_
            refine wp_isub rfl ?_
            exact wp_iret rfl rfl (⟨by simp (disch := omega) only [uI_ne, uI_eq]; rw [hI, pm1], by simp (disch := omega) only [uI_ne]; rw [hI, nI_1]⟩)
          · exfalso; grind [b2]
        · exfalso; grind [b2]
      · exfalso; grind [b2]
theorem c_X10_mast_no (G : Gl) (d : Nat) {nm na nr : Nat} (x y p f hh c : Int32) (I : IF) (L : LF) (b : Bool) (h : IVc nm na nr I) (hno : ¬ ((((0 ≤ x ∧ x ≤ 100) ∧ 0 ≤ y ∧ y ≤ 100) ∧ (1 ≤ p ∧ p ≤ 10000) ∧ 0 ≤ c ∧ c ≤ 11) ∧ (f = -1 ∨ (0 ≤ f ∧ f < I 1 2)) ∧ I 1 2 < 10 ∧ I 0 10 = -1)) : MD G (d + 3) Y_X10_mast [.ref 0, .int x, .int y, .int p, .int f, .int hh, .int c] (I, L, RR b) (some (.int (if (((0 ≤ x ∧ x ≤ 100) ∧ 0 ≤ y ∧ y ≤ 100) ∧ (1 ≤ p ∧ p ≤ 10000) ∧ 0 ≤ c ∧ c ≤ 11) ∧ (f = -1 ∨ (0 ≤ f ∧ f < I 1 2)) then (if I 1 2 < 10 then -9 else -3) else -2))) (I, L, RR b) := by
  refine MT.intro m_X10_mast rfl (Nat.le_of_ble_eq_true rfl) ?_
  show WQ G (d + 3) Y_X10_mast _ 0 [(0, .ref 0), (1, .int x), (2, .int y), (3, .int p), (4, .int f), (5, .int hh), (6, .int c)] [] (I, L, RR b)
  refine wp_iload_n rfl rfl ?_
  refine wp_iload_n rfl rfl ?_
  refine wp_iload_n rfl rfl ?_
  refine wp_iload rfl rfl ?_
  refine cS1 rfl l_10_87 s_X10_isFitSender m_X10_isFitSender (c_X10_isFitSender G _ _ _ _ _ _) rfl (Nat.le_of_ble_eq_true rfl) ?_
  refine wp_if_eq 14 rfl rfl (fun h5 => ?_) (fun h5 => ?_)
  · refine wp_bipush (v := (-2)) rfl rfl ?_
    exact wp_iret rfl rfl (⟨by grind (splits := 30) [b2], rfl⟩)
  · refine wp_iload rfl rfl ?_
    refine wp_iconst (v := (-1)) rfl rfl ?_
    refine wp_icmp_eq 16 rfl rfl (fun h8 => ?_) (fun h8 => ?_)
    · refine wp_aload_n rfl rfl ?_
      refine q_getr rfl rfl (by first | rfl | assumption) rfl rfl ?_
      refine q_geti rfl rfl (by first | rfl | assumption) rfl ?_
      refine wp_bipush (v := 10) rfl rfl ?_
      refine wp_icmp_lt 23 rfl rfl (fun h20 => ?_) (fun h20 => ?_)
      · refine wp_aload_n rfl rfl ?_
        refine q_geti rfl rfl (by first | rfl | assumption) rfl ?_
        refine wp_iconst (v := (-1)) rfl rfl ?_
        refine wp_icmp_eq 29 rfl rfl (fun h26 => ?_) (fun h26 => ?_)
        · exfalso; grind [b2]
        · refine wp_bipush (v := (-9)) rfl rfl ?_
          exact wp_iret rfl rfl (⟨by grind (splits := 30) [b2], rfl⟩)
      · refine wp_bipush (v := (-3)) rfl rfl ?_
        exact wp_iret rfl rfl (⟨by grind (splits := 30) [b2], rfl⟩)
    · refine wp_aload_n rfl rfl ?_
      refine q_getr rfl rfl (by first | rfl | assumption) rfl rfl ?_
      refine wp_iload rfl rfl ?_
      refine cV1 rfl l_10_91 i_X1_isMast m_X1_isMast (by first | rfl | assumption) (by decide) (c_X1_isMast G _ _ _ _ _) rfl (Nat.le_of_ble_eq_true rfl) ?_
      refine wp_if_ne 16 rfl rfl (fun h13 => ?_) (fun h13 => ?_)
      · refine wp_aload_n rfl rfl ?_
        refine q_getr rfl rfl (by first | rfl | assumption) rfl rfl ?_
        refine q_geti rfl rfl (by first | rfl | assumption) rfl ?_
        refine wp_bipush (v := 10) rfl rfl ?_
        refine wp_icmp_lt 23 rfl rfl (fun h20 => ?_) (fun h20 => ?_)
        · refine wp_aload_n rfl rfl ?_
          refine q_geti rfl rfl (by first | rfl | assumption) rfl ?_
          refine wp_iconst (v := (-1)) rfl rfl ?_
          refine wp_icmp_eq 29 rfl rfl (fun h26 => ?_) (fun h26 => ?_)
          · exfalso; grind [b2]
          · refine wp_bipush (v := (-9)) rfl rfl ?_
            exact wp_iret rfl rfl (⟨by grind (splits := 30) [b2], rfl⟩)
        · refine wp_bipush (v := (-3)) rfl rfl ?_
          exact wp_iret rfl rfl (⟨by grind (splits := 30) [b2], rfl⟩)
      · refine wp_bipush (v := (-2)) rfl rfl ?_
        exact wp_iret rfl rfl (⟨by grind (splits := 30) [b2], rfl⟩)
theorem c_X11_mast_ok (G : Gl) (d : Nat) {nm : Nat} (x y p f hh c : Int32) (I : IF) (L : LF) (b : Bool) (h5 : I 72 5 = nI nm) (hS : ((0 ≤ x ∧ x ≤ 100) ∧ 0 ≤ y ∧ y ≤ 100) ∧ (1 ≤ p ∧ p ≤ 10000) ∧ 0 ≤ c ∧ c ≤ 11) (hF : -1 ≤ f ∧ f ≤ I 72 5 - 1) (hn : nm < 10) (hp : I 72 30 = -1) (h01 : hh = 0 ∨ hh = 1) : MD G (d + 2) Y_X11_mast [.ref 72, .int x, .int y, .int p, .int f, .int hh, .int c] (I, L, RR b) (some (.int (nI nm))) (uI (uI (uI (uI (uI (uI (uI (uI I 72 0 0) 77 nm x) 78 nm y) 79 nm p) 80 nm c) 81 nm f) 83 nm hh) 72 5 (nI (nm + 1)), L, RR b) := by
  have hb' : nI nm < 10 := nI_lt (a := nm) (b := 10) hn (by omega)
  have hcl : (nI nm).toNatClampNeg = nm := nI_clamp (by omega)
  refine MT.intro m_X11_mast rfl (Nat.le_of_ble_eq_true rfl) ?_
  show WQ G (d + 2) Y_X11_mast _ 0 [(0, .ref 72), (1, .int x), (2, .int y), (3, .int p), (4, .int f), (5, .int hh), (6, .int c)] [] (I, L, RR b)
  refine wp_aload_n rfl rfl ?_
  refine wp_iconst (v := 0) rfl rfl ?_
  refine q_puti rfl rfl (by first | rfl | assumption) (Or.inl rfl) rfl ?_
  refine wp_iload_n rfl rfl ?_
  refine wp_iload_n rfl rfl ?_
  refine wp_iload_n rfl rfl ?_
  refine wp_iload rfl rfl ?_
  refine cS1 rfl l_11_139 s_X11_isSender m_X11_isSender (c_X11_isSender G _ _ _ _ _ _) rfl (Nat.le_of_ble_eq_true rfl) ?_
  refine wp_if_eq 19 rfl rfl (fun h8 => ?_) (fun h8 => ?_)
  · exfalso; grind [b2]
  · refine wp_iload rfl rfl ?_
    refine wp_i2l rfl ?_
    refine wp_ldc2 (v := (-1)) rfl cl_11_143 ?_
    refine wp_aload_n rfl rfl ?_
    refine q_geti rfl rfl (by first | rfl | assumption) rfl ?_
    refine wp_iconst (v := 1) rfl rfl ?_
    refine wp_isub rfl ?_
    refine wp_i2l rfl ?_
    refine cS1 rfl l_11_119 s_X11_in m_X11_in (c_inI G _ _ (-1) (I 72 5 - 1) rfl rfl _) rfl (Nat.le_of_ble_eq_true rfl) ?_
    refine wp_if_ne 21 rfl rfl (fun h18 => ?_) (fun h18 => ?_)
    · refine wp_aload_n rfl rfl ?_
      refine q_geti rfl rfl (by first | rfl | assumption) rfl ?_
      refine wp_bipush (v := 10) rfl rfl ?_
      refine wp_icmp_ne 27 rfl rfl (fun h24 => ?_) (fun h24 => ?_)
      · refine wp_aload_n rfl rfl ?_
        refine q_geti rfl rfl (by first | rfl | assumption) rfl ?_
        refine wp_iconst (v := (-1)) rfl rfl ?_
        refine wp_icmp_eq 33 rfl rfl (fun h30 => ?_) (fun h30 => ?_)
        · refine wp_aload_n rfl rfl ?_
          refine wp_aload_n rfl rfl ?_
          refine q_geti rfl rfl (by first | rfl | assumption) rfl ?_
          refine wp_iload_n rfl rfl ?_
          refine wp_iload_n rfl rfl ?_
          refine wp_iload_n rfl rfl ?_
          refine wp_iload rfl rfl ?_
          refine cV0 rfl l_11_148 i_X11_sender m_X11_sender (by first | rfl | assumption) (by decide) (c_X11_sender G _ _ _ _ _ _ _ _ _ (by show vp_in (I 72 5) 14; rw [h5]; exact vp_in_nI (by omega) (by omega))) rfl (Nat.le_of_ble_eq_true rfl) ?_
          refine wp_aload_n rfl rfl ?_
          refine q_getr rfl rfl (by first | rfl | assumption) rfl rfl ?_
          refine wp_aload_n rfl rfl ?_
          refine q_geti rfl rfl (by first | rfl | assumption) rfl ?_
          refine wp_iload rfl rfl ?_
          refine q_iast rfl (by first | rfl | assumption) (by show vp_in (I 72 5) 10; rw [h5]; exact vp_in_nI (by omega) (by omega)) ?_
          refine wp_aload_n rfl rfl ?_
          refine q_getr rfl rfl (by first | rfl | assumption) rfl rfl ?_
          refine wp_aload_n rfl rfl ?_
          refine q_geti rfl rfl (by first | rfl | assumption) rfl ?_
          refine wp_iload rfl rfl ?_
          refine q_zast rfl (by first | rfl | assumption) (by show vp_in (I 72 5) 10; rw [h5]; exact vp_in_nI (by omega) (by omega)) ?_
          refine wp_aload_n rfl rfl ?_
          refine wp_dup rfl rfl ?_
          refine q_geti rfl rfl (by first | rfl | assumption) rfl ?_
          refine wp_iconst (v := 1) rfl rfl ?_
          refine wp_iadd rfl ?_
          refine q_puti rfl rfl (by first | rfl | assumption) (Or.inl rfl) rfl ?_
          refine wp_aload_n rfl rfl ?_
          refine q_geti rfl rfl (by first | rfl | assumption) rfl ?_
          refine wp_iconst (v := 1) rfl rfl ?_
          refine wp_isub rfl ?_
          exact wp_iret rfl rfl (⟨by simp (disch := omega) only [uI_ne, uI_nk, uI_eq]; rw [h5, pm1], by simp (disch := omega) only [uI_ne, uI_nk]; rw [h5, nI_1, hcl, nar01 h01]⟩)
        · exfalso; change ¬ I 72 30 = -1 at h30; grind [b2]
      · exfalso; change I 72 5 = 10 at h24; grind [b2]
    · exfalso; grind [b2]
theorem c_X11_mast_no (G : Gl) (d : Nat) (x y p f hh c : Int32) (I : IF) (L : LF) (b : Bool) (hno : ¬ ((((0 ≤ x ∧ x ≤ 100) ∧ 0 ≤ y ∧ y ≤ 100) ∧ (1 ≤ p ∧ p ≤ 10000) ∧ 0 ≤ c ∧ c ≤ 11) ∧ (-1 ≤ f ∧ f ≤ I 72 5 - 1) ∧ ¬ I 72 5 = 10 ∧ I 72 30 = -1)) : MD G (d + 2) Y_X11_mast [.ref 72, .int x, .int y, .int p, .int f, .int hh, .int c] (I, L, RR b) (some (.int (if (((0 ≤ x ∧ x ≤ 100) ∧ 0 ≤ y ∧ y ≤ 100) ∧ (1 ≤ p ∧ p ≤ 10000) ∧ 0 ≤ c ∧ c ≤ 11) ∧ (-1 ≤ f ∧ f ≤ I 72 5 - 1) then (if ¬ I 72 5 = 10 then -9 else -3) else -2))) (uI I 72 0 0, L, RR b) := by
  refine MT.intro m_X11_mast rfl (Nat.le_of_ble_eq_true rfl) ?_
  show WQ G (d + 2) Y_X11_mast _ 0 [(0, .ref 72), (1, .int x), (2, .int y), (3, .int p), (4, .int f), (5, .int hh), (6, .int c)] [] (I, L, RR b)
  refine wp_aload_n rfl rfl ?_
  refine wp_iconst (v := 0) rfl rfl ?_
  refine q_puti rfl rfl (by first | rfl | assumption) (Or.inl rfl) rfl ?_
  refine wp_iload_n rfl rfl ?_
  refine wp_iload_n rfl rfl ?_
  refine wp_iload_n rfl rfl ?_
  refine wp_iload rfl rfl ?_
  refine cS1 rfl l_11_139 s_X11_isSender m_X11_isSender (c_X11_isSender G _ _ _ _ _ _) rfl (Nat.le_of_ble_eq_true rfl) ?_
  refine wp_if_eq 19 rfl rfl (fun h8 => ?_) (fun h8 => ?_)
  · refine wp_bipush (v := (-2)) rfl rfl ?_
    exact wp_iret rfl rfl (⟨by (try simp (disch := omega) only [uI_nk] at *); grind (splits := 30) [b2], rfl⟩)
  · refine wp_iload rfl rfl ?_
    refine wp_i2l rfl ?_
    refine wp_ldc2 (v := (-1)) rfl cl_11_143 ?_
    refine wp_aload_n rfl rfl ?_
    refine q_geti rfl rfl (by first | rfl | assumption) rfl ?_
    refine wp_iconst (v := 1) rfl rfl ?_
    refine wp_isub rfl ?_
    refine wp_i2l rfl ?_
    refine cS1 rfl l_11_119 s_X11_in m_X11_in (c_inI G _ _ (-1) (I 72 5 - 1) rfl rfl _) rfl (Nat.le_of_ble_eq_true rfl) ?_
    refine wp_if_ne 21 rfl rfl (fun h18 => ?_) (fun h18 => ?_)
    · refine wp_aload_n rfl rfl ?_
      refine q_geti rfl rfl (by first | rfl | assumption) rfl ?_
      refine wp_bipush (v := 10) rfl rfl ?_
      refine wp_icmp_ne 27 rfl rfl (fun h24 => ?_) (fun h24 => ?_)
      · refine wp_aload_n rfl rfl ?_
        refine q_geti rfl rfl (by first | rfl | assumption) rfl ?_
        refine wp_iconst (v := (-1)) rfl rfl ?_
        refine wp_icmp_eq 33 rfl rfl (fun h30 => ?_) (fun h30 => ?_)
        · exfalso; (try simp (disch := omega) only [uI_nk] at *); grind (splits := 30) [b2]
        · refine wp_bipush (v := (-9)) rfl rfl ?_
          exact wp_iret rfl rfl (⟨by (try simp (disch := omega) only [uI_nk] at *); grind (splits := 30) [b2], rfl⟩)
      · refine wp_bipush (v := (-3)) rfl rfl ?_
        exact wp_iret rfl rfl (⟨by (try simp (disch := omega) only [uI_nk] at *); grind (splits := 30) [b2], rfl⟩)
    · refine wp_bipush (v := (-2)) rfl rfl ?_
      exact wp_iret rfl rfl (⟨by (try simp (disch := omega) only [uI_nk] at *); grind (splits := 30) [b2], rfl⟩)
theorem s_mast {G : Gl} {d : Nat} {I : IF} {L : LF} {b : Bool} (x y p f hh c : Int32) (h01 : hh = 0 ∨ hh = 1) (h : InvA I L) : StepA G (d + 3) Y_X10_mast Y_X11_mast [.int x, .int y, .int p, .int f, .int hh, .int c] I L b := by
  obtain ⟨nm, na, nr, h⟩ := h
  obtain ⟨a1, a2, a3, a4, a5, a6, a7, a8, a9, a10, a11⟩ := id h
  obtain ⟨⟨q1, q2, q3⟩, q4, q5⟩ := a1
  have hb0 := (nI_b (n := nm) (k := 10) q3 (by omega)).1
  have hb1 : nI nm ≤ 10 := (nI_b (n := nm) (k := 10) q3 (by omega)).2
  have hpl : I 72 30 = I 0 10 := a2.2.2.2.2.1.1
  have hF2 : (-1 ≤ f ∧ f ≤ I 72 5 - 1) ↔ (f = -1 ∨ (0 ≤ f ∧ f < I 1 2)) := by rw [q1, q2]; grind
  have hn2 : ¬ I 72 5 = 10 ↔ I 1 2 < 10 := by rw [q1, q2]; grind
  by_cases hok : ((((0 ≤ x ∧ x ≤ 100) ∧ 0 ≤ y ∧ y ≤ 100) ∧ (1 ≤ p ∧ p ≤ 10000) ∧ 0 ≤ c ∧ c ≤ 11) ∧ (f = -1 ∨ (0 ≤ f ∧ f < I 1 2)) ∧ I 1 2 < 10 ∧ I 0 10 = -1)
  · obtain ⟨hS, hF, hn, hp⟩ := hok
    have hnm : nm < 10 := (nI_ltI (a := nm) (b := 10) (by omega) (by omega)).mp (by rw [← q1]; exact hn)
    have c1 := c_X10_mast_ok G d x y p f hh c I L b h.1 hS hF hnm hp h01
    generalize hJ : uI (uI (uI (uI (uI (uI (uI I (4 + nm) 0 x) (4 + nm) 1 y) (4 + nm) 2 p) (4 + nm) 5 c) (4 + nm) 3 f) (4 + nm) 4 hh) 1 2 (nI (nm + 1)) = J at c1
    have j1 : ∀ k, J 72 k = I 72 k := by intro k; rw [← hJ]; simp (disch := omega) only [uI_ne]
    have c2 := c_X11_mast_ok G (d + 1) x y p f hh c J L b (by rw [j1, q2]) hS (by rw [j1]; exact hF2.mpr hF) hnm (by rw [j1, hpl]; exact hp) h01
    have hF3 : -1 ≤ f ∧ f < nI nm := by rw [← q1]; grind
    have ht0 : I 0 11 = 0 := by
      rcases a2.2.2.2.2.2.1.2 with z | z
      · exact z
      · exact absurd hp (a2.2.2.2.2.2.2.2.2.1 z)
    have hnn : nI nm < nI (nm + 1) := nI_lt (by omega) (by omega)
    subst hJ
    refine ⟨_, _, _, _, _, c1, c2, ⟨nm + 1, na, nr, ⟨⟨?_, ?_, by omega⟩, ⟨?_, ?_, q4.2.2⟩, ?_, ?_, q5.2.2⟩, ?_, ?_, ?_, ?_, ?_, ?_, ?_, ?_, ?_, ?_⟩, ?_, ?_⟩
    · simp (disch := omega) only [uI_ne, uI_nk, uI_eq]
    · simp (disch := omega) only [uI_ne, uI_nk, uI_eq]
    · simp (disch := omega) only [uI_ne, uI_nk, uI_eq]; exact q4.1
    · simp (disch := omega) only [uI_ne, uI_nk, uI_eq]; exact q4.2.1
    · simp (disch := omega) only [uI_ne, uI_nk, uI_eq]; exact q5.1
    · simp (disch := omega) only [uI_ne, uI_nk, uI_eq]; exact q5.2.1
    · unfold IVs at a2 ⊢; simp (disch := omega) only [uI_ne, uI_nk, uI_eq]; exact a2
    · intro m hm
      by_cases e : m = nm
      · subst e; simp (disch := omega) only [uI_ne, uI_nk, uI_eq]; grind
      · simp (disch := omega) only [uI_ne, uI_nk, uI_eq]; exact a3 m hm
    · intro m hm
      have z := a4 m hm
      by_cases e : m = nm
      · subst e; simp (disch := omega) only [uI_ne, uI_nk, uI_eq]; grind
      · simp (disch := omega) only [uI_ne, uI_nk, uI_eq]; grind
    · intro m hm
      by_cases e : m = nm
      · subst e; simp (disch := omega) only [uI_ne, uI_nk, uI_eq]; grind
      · simp (disch := omega) only [uI_ne, uI_nk, uI_eq]; exact a5 m (by omega)
    · intro m hm; simp (disch := omega) only [uI_ne, uI_nk, uI_eq]; exact a6 m hm
    · intro m hm
      have z := a7 m hm
      by_cases e : m = nm
      · subst e; simp (disch := omega) only [uI_ne, uI_nk, uI_eq]; grind
      · simp (disch := omega) only [uI_ne, uI_nk, uI_eq]; grind
    · intro m hm; simp (disch := omega) only [uI_ne, uI_nk, uI_eq]; exact a8 m hm
    · intro m hm; have z := a9 m hm; simp (disch := omega) only [uI_ne, uI_nk, uI_eq]; grind
    · unfold IVt at a10 ⊢; simp (disch := omega) only [uI_ne, uI_nk, uI_eq]; exact a10
    · intro m hm; simp (disch := omega) only [uI_ne, uI_nk, uI_eq]; exact a11 m hm
    · intro a ha; funext k; simp (disch := omega) only [uI_ne, uI_nk, uI_eq]
    · simp (disch := omega) only [uI_ne, uI_nk, uI_eq]
  · have c1 := c_X10_mast_no G d x y p f hh c I L b h.1 hok
    have c2 := c_X11_mast_no G (d + 1) x y p f hh c I L b (by rw [hF2, hn2, hpl]; exact hok)
    simp only [hF2, hn2] at c2
    exact StepA.query h c1 c2
end
section
/-! abroad, area, fail, channelOf, mastOf, areaOf, aim -/
theorem c_X10_abroad_ok (G : Gl) (d : Nat) {nm na nr : Nat} (x y p c u : Int32) (I : IF) (L : LF) (b : Bool) (h : IVc nm na nr I) (hS : ((0 ≤ x ∧ x ≤ 100) ∧ 0 ≤ y ∧ y ≤ 100) ∧ (1 ≤ p ∧ p ≤ 10000) ∧ 0 ≤ c ∧ c ≤ 11) (hF : 0 ≤ u ∧ u ≤ 52) (hn : na < 4) : MD G (d + 3) Y_X10_abroad [.ref 0, .int x, .int y, .int p, .int c, .int u] (I, L, RR b) (some (.int (nI na))) (uI (uI (uI (uI (uI (uI I (14 + na) 0 x) (14 + na) 1 y) (14 + na) 2 p) (14 + na) 5 c) (14 + na) 8 u) 1 3 (nI (na + 1)), L, RR b) := by
  have hI := h.2.1.1
  have hb' : nI na < 4 := nI_lt (a := na) (b := 4) hn (by omega)
  refine MT.intro m_X10_abroad rfl (Nat.le_of_ble_eq_true rfl) ?_
  show WQ G (d + 3) Y_X10_abroad _ 0 [(0, .ref 0), (1, .int x), (2, .int y), (3, .int p), (4, .int c), (5, .int u)] [] (I, L, RR b)
  refine wp_iload_n rfl rfl ?_
  refine wp_iload_n rfl rfl ?_
  refine wp_iload_n rfl rfl ?_
  refine wp_iload rfl rfl ?_
  refine cS1 rfl l_10_87 s_X10_isFitSender m_X10_isFitSender (c_X10_isFitSender G _ _ _ _ _ _) rfl (Nat.le_of_ble_eq_true rfl) ?_
  refine wp_if_eq 11 rfl rfl (fun h5 => ?_) (fun h5 => ?_)
  · exfalso; grind [b2]
  · refine wp_iload rfl rfl ?_
    refine wp_iconst (v := 0) rfl rfl ?_
    refine wp_bipush (v := 52) rfl rfl ?_
    refine cS1 rfl l_10_77 s_X10_isWithin m_X10_isWithin (c_X10_isWithin G _ _ _ _ _) rfl (Nat.le_of_ble_eq_true rfl) ?_
    refine wp_if_ne 13 rfl rfl (fun h10 => ?_) (fun h10 => ?_)
    · refine wp_aload_n rfl rfl ?_
      refine q_getr rfl rfl (by first | rfl | assumption) rfl rfl ?_
      refine q_geti rfl rfl (by first | rfl | assumption) rfl ?_
      refine wp_iconst (v := 4) rfl rfl ?_
      refine wp_icmp_lt 20 rfl rfl (fun h17 => ?_) (fun h17 => ?_)
      · have hsm := sh_mast (10 + na) (by omega)
        have hix : (10 : Int32) + I 1 3 = nI (10 + na) := by rw [hI]; exact nI_add 10 na
        refine wp_aload_n rfl rfl ?_
        refine q_getr rfl rfl (by first | rfl | assumption) rfl rfl ?_
        refine q_getr rfl rfl (by first | rfl | assumption) rfl rfl ?_
        refine wp_bipush (v := 10) rfl rfl ?_
        refine wp_aload_n rfl rfl ?_
        refine q_getr rfl rfl (by first | rfl | assumption) rfl rfl ?_
        refine q_geti rfl rfl (by first | rfl | assumption) rfl ?_
        refine wp_iadd rfl ?_
        refine q_mast rfl hix (by omega) ?_
        refine wp_astore (lv' := [(6, _), (0, _), (1, _), (2, _), (3, _), (4, _), (5, _)]) rfl (by decide) rfl ?_
        refine wp_aload rfl rfl ?_
        refine wp_iload_n rfl rfl ?_
        refine wp_iload_n rfl rfl ?_
        refine wp_iload_n rfl rfl ?_
        refine wp_iload rfl rfl ?_
        refine cV0 rfl l_10_102 i_X4_stand m_X4_stand (by first | rfl | assumption) (by decide) (c_X4_stand G _ _ _ _ _ _ _ _ _ hsm) rfl (Nat.le_of_ble_eq_true rfl) ?_
        refine wp_aload rfl rfl ?_
        refine wp_iload rfl rfl ?_
        refine q_puti rfl rfl (by first | rfl | assumption) (Or.inl rfl) rfl ?_
        refine wp_aload_n rfl rfl ?_
        refine q_getr rfl rfl (by first | rfl | assumption) rfl rfl ?_
        refine wp_dup rfl rfl ?_
        refine q_geti rfl rfl (by first | rfl | assumption) rfl ?_
        refine wp_iconst (v := 1) rfl rfl ?_
        refine wp_iadd rfl ?_
        refine q_puti rfl rfl (by first | rfl | assumption) (Or.inl rfl) rfl ?_
        refine wp_aload_n rfl rfl ?_
        refine q_getr rfl rfl (by first | rfl | assumption) rfl rfl ?_
        refine q_geti rfl rfl (by first | rfl | assumption) rfl ?_
        refine wp_iconst (v := 1) rfl rfl ?_
        refine wp_isub rfl ?_
        exact wp_iret rfl rfl (⟨by simp (disch := omega) only [uI_ne, uI_eq]; rw [hI, pm1], by rw [show 4 + (10 + na) = 14 + na by omega]; simp (disch := omega) only [uI_ne]; rw [hI, nI_1]⟩)
      · exfalso; grind [b2]
    · exfalso; grind [b2]
theorem c_X10_abroad_no (G : Gl) (d : Nat) (x y p c u : Int32) (I : IF) (L : LF) (b : Bool) (hno : ¬ ((((0 ≤ x ∧ x ≤ 100) ∧ 0 ≤ y ∧ y ≤ 100) ∧ (1 ≤ p ∧ p ≤ 10000) ∧ 0 ≤ c ∧ c ≤ 11) ∧ (0 ≤ u ∧ u ≤ 52) ∧ I 1 3 < 4)) : MD G (d + 3) Y_X10_abroad [.ref 0, .int x, .int y, .int p, .int c, .int u] (I, L, RR b) (some (.int (if (((0 ≤ x ∧ x ≤ 100) ∧ 0 ≤ y ∧ y ≤ 100) ∧ (1 ≤ p ∧ p ≤ 10000) ∧ 0 ≤ c ∧ c ≤ 11) ∧ (0 ≤ u ∧ u ≤ 52) then -3 else -2))) (I, L, RR b) := by
  refine MT.intro m_X10_abroad rfl (Nat.le_of_ble_eq_true rfl) ?_
  show WQ G (d + 3) Y_X10_abroad _ 0 [(0, .ref 0), (1, .int x), (2, .int y), (3, .int p), (4, .int c), (5, .int u)] [] (I, L, RR b)
  refine wp_iload_n rfl rfl ?_
  refine wp_iload_n rfl rfl ?_
  refine wp_iload_n rfl rfl ?_
  refine wp_iload rfl rfl ?_
  refine cS1 rfl l_10_87 s_X10_isFitSender m_X10_isFitSender (c_X10_isFitSender G _ _ _ _ _ _) rfl (Nat.le_of_ble_eq_true rfl) ?_
  refine wp_if_eq 11 rfl rfl (fun h5 => ?_) (fun h5 => ?_)
  · refine wp_bipush (v := (-2)) rfl rfl ?_
    exact wp_iret rfl rfl (⟨by grind (splits := 30) [b2], rfl⟩)
  · refine wp_iload rfl rfl ?_
    refine wp_iconst (v := 0) rfl rfl ?_
    refine wp_bipush (v := 52) rfl rfl ?_
    refine cS1 rfl l_10_77 s_X10_isWithin m_X10_isWithin (c_X10_isWithin G _ _ _ _ _) rfl (Nat.le_of_ble_eq_true rfl) ?_
    refine wp_if_ne 13 rfl rfl (fun h10 => ?_) (fun h10 => ?_)
    · refine wp_aload_n rfl rfl ?_
      refine q_getr rfl rfl (by first | rfl | assumption) rfl rfl ?_
      refine q_geti rfl rfl (by first | rfl | assumption) rfl ?_
      refine wp_iconst (v := 4) rfl rfl ?_
      refine wp_icmp_lt 20 rfl rfl (fun h17 => ?_) (fun h17 => ?_)
      · exfalso; grind (splits := 30) [b2]
      · refine wp_bipush (v := (-3)) rfl rfl ?_
        exact wp_iret rfl rfl (⟨by grind (splits := 30) [b2], rfl⟩)
    · refine wp_bipush (v := (-2)) rfl rfl ?_
      exact wp_iret rfl rfl (⟨by grind (splits := 30) [b2], rfl⟩)
theorem c_X11_abroad_ok (G : Gl) (d : Nat) {na : Nat} (x y p c u : Int32) (I : IF) (L : LF) (b : Bool) (h6 : I 72 6 = nI na) (hS : ((0 ≤ x ∧ x ≤ 100) ∧ 0 ≤ y ∧ y ≤ 100) ∧ (1 ≤ p ∧ p ≤ 10000) ∧ 0 ≤ c ∧ c ≤ 11) (hF : 0 ≤ u ∧ u ≤ 52) (hn : na < 4) : MD G (d + 2) Y_X11_abroad [.ref 72, .int x, .int y, .int p, .int c, .int u] (I, L, RR b) (some (.int (nI na))) (uI (uI (uI (uI (uI (uI (uI I 72 0 0) 77 (10 + na) x) 78 (10 + na) y) 79 (10 + na) p) 80 (10 + na) c) 82 na u) 72 6 (nI (na + 1)), L, RR b) := by
  have hb' : nI na < 4 := nI_lt (a := na) (b := 4) hn (by omega)
  have hcl : (nI na).toNatClampNeg = na := nI_clamp (by omega)
  have hcl2 : (nI (10 + na)).toNatClampNeg = 10 + na := nI_clamp (by omega)
  have hix : (10 : Int32) + I 72 6 = nI (10 + na) := by rw [h6]; exact nI_add 10 na
  refine MT.intro m_X11_abroad rfl (Nat.le_of_ble_eq_true rfl) ?_
  show WQ G (d + 2) Y_X11_abroad _ 0 [(0, .ref 72), (1, .int x), (2, .int y), (3, .int p), (4, .int c), (5, .int u)] [] (I, L, RR b)
  refine wp_aload_n rfl rfl ?_
  refine wp_iconst (v := 0) rfl rfl ?_
  refine q_puti rfl rfl (by first | rfl | assumption) (Or.inl rfl) rfl ?_
  refine wp_iload_n rfl rfl ?_
  refine wp_iload_n rfl rfl ?_
  refine wp_iload_n rfl rfl ?_
  refine wp_iload rfl rfl ?_
  refine cS1 rfl l_11_139 s_X11_isSender m_X11_isSender (c_X11_isSender G _ _ _ _ _ _) rfl (Nat.le_of_ble_eq_true rfl) ?_
  refine wp_if_eq 15 rfl rfl (fun h8 => ?_) (fun h8 => ?_)
  · exfalso; grind [b2]
  · refine wp_iload rfl rfl ?_
    refine wp_i2l rfl ?_
    refine wp_lconst (v := 0) rfl rfl ?_
    refine wp_ldc2 (v := (52)) rfl cl_11_152 ?_
    refine cS1 rfl l_11_119 s_X11_in m_X11_in (c_inI G _ _ 0 52 rfl rfl _) rfl (Nat.le_of_ble_eq_true rfl) ?_
    refine wp_if_ne 17 rfl rfl (fun h14 => ?_) (fun h14 => ?_)
    · refine wp_aload_n rfl rfl ?_
      refine q_geti rfl rfl (by first | rfl | assumption) rfl ?_
      refine wp_iconst (v := 4) rfl rfl ?_
      refine wp_icmp_ne 23 rfl rfl (fun h20 => ?_) (fun h20 => ?_)
      · refine wp_aload_n rfl rfl ?_
        refine wp_bipush (v := 10) rfl rfl ?_
        refine wp_aload_n rfl rfl ?_
        refine q_geti rfl rfl (by first | rfl | assumption) rfl ?_
        refine wp_iadd rfl ?_
        refine wp_iload_n rfl rfl ?_
        refine wp_iload_n rfl rfl ?_
        refine wp_iload_n rfl rfl ?_
        refine wp_iload rfl rfl ?_
        refine cV0 rfl l_11_148 i_X11_sender m_X11_sender (by first | rfl | assumption) (by decide) (c_X11_sender G _ _ _ _ _ _ _ _ _ (by show vp_in ((10 : Int32) + I 72 6) 14; rw [hix]; exact vp_in_nI (by omega) (by omega))) rfl (Nat.le_of_ble_eq_true rfl) ?_
        refine wp_aload_n rfl rfl ?_
        refine q_getr rfl rfl (by first | rfl | assumption) rfl rfl ?_
        refine wp_aload_n rfl rfl ?_
        refine q_geti rfl rfl (by first | rfl | assumption) rfl ?_
        refine wp_iload rfl rfl ?_
        refine q_iast rfl (by first | rfl | assumption) (by show vp_in (I 72 6) 4; rw [h6]; exact vp_in_nI (by omega) (by omega)) ?_
        refine wp_aload_n rfl rfl ?_
        refine wp_dup rfl rfl ?_
        refine q_geti rfl rfl (by first | rfl | assumption) rfl ?_
        refine wp_iconst (v := 1) rfl rfl ?_
        refine wp_iadd rfl ?_
        refine q_puti rfl rfl (by first | rfl | assumption) (Or.inl rfl) rfl ?_
        refine wp_aload_n rfl rfl ?_
        refine q_geti rfl rfl (by first | rfl | assumption) rfl ?_
        refine wp_iconst (v := 1) rfl rfl ?_
        refine wp_isub rfl ?_
        exact wp_iret rfl rfl (⟨by simp (disch := omega) only [uI_ne, uI_nk, uI_eq]; rw [h6, pm1], by simp (disch := omega) only [uI_ne, uI_nk]; rw [hix, hcl2, h6, nI_1, hcl]⟩)
      · exfalso; change I 72 6 = 4 at h20; grind [b2]
    · exfalso; grind [b2]
theorem c_X11_abroad_no (G : Gl) (d : Nat) (x y p c u : Int32) (I : IF) (L : LF) (b : Bool) (hno : ¬ ((((0 ≤ x ∧ x ≤ 100) ∧ 0 ≤ y ∧ y ≤ 100) ∧ (1 ≤ p ∧ p ≤ 10000) ∧ 0 ≤ c ∧ c ≤ 11) ∧ (0 ≤ u ∧ u ≤ 52) ∧ ¬ I 72 6 = 4)) : MD G (d + 2) Y_X11_abroad [.ref 72, .int x, .int y, .int p, .int c, .int u] (I, L, RR b) (some (.int (if (((0 ≤ x ∧ x ≤ 100) ∧ 0 ≤ y ∧ y ≤ 100) ∧ (1 ≤ p ∧ p ≤ 10000) ∧ 0 ≤ c ∧ c ≤ 11) ∧ (0 ≤ u ∧ u ≤ 52) then -3 else -2))) (uI I 72 0 0, L, RR b) := by
  refine MT.intro m_X11_abroad rfl (Nat.le_of_ble_eq_true rfl) ?_
  show WQ G (d + 2) Y_X11_abroad _ 0 [(0, .ref 72), (1, .int x), (2, .int y), (3, .int p), (4, .int c), (5, .int u)] [] (I, L, RR b)
  refine wp_aload_n rfl rfl ?_
  refine wp_iconst (v := 0) rfl rfl ?_
  refine q_puti rfl rfl (by first | rfl | assumption) (Or.inl rfl) rfl ?_
  refine wp_iload_n rfl rfl ?_
  refine wp_iload_n rfl rfl ?_
  refine wp_iload_n rfl rfl ?_
  refine wp_iload rfl rfl ?_
  refine cS1 rfl l_11_139 s_X11_isSender m_X11_isSender (c_X11_isSender G _ _ _ _ _ _) rfl (Nat.le_of_ble_eq_true rfl) ?_
  refine wp_if_eq 15 rfl rfl (fun h8 => ?_) (fun h8 => ?_)
  · refine wp_bipush (v := (-2)) rfl rfl ?_
    exact wp_iret rfl rfl (⟨by (try simp (disch := omega) only [uI_nk] at *); grind (splits := 30) [b2], rfl⟩)
  · refine wp_iload rfl rfl ?_
    refine wp_i2l rfl ?_
    refine wp_lconst (v := 0) rfl rfl ?_
    refine wp_ldc2 (v := (52)) rfl cl_11_152 ?_
    refine cS1 rfl l_11_119 s_X11_in m_X11_in (c_inI G _ _ 0 52 rfl rfl _) rfl (Nat.le_of_ble_eq_true rfl) ?_
    refine wp_if_ne 17 rfl rfl (fun h14 => ?_) (fun h14 => ?_)
    · refine wp_aload_n rfl rfl ?_
      refine q_geti rfl rfl (by first | rfl | assumption) rfl ?_
      refine wp_iconst (v := 4) rfl rfl ?_
      refine wp_icmp_ne 23 rfl rfl (fun h20 => ?_) (fun h20 => ?_)
      · exfalso; (try simp (disch := omega) only [uI_nk] at *); grind (splits := 30) [b2]
      · refine wp_bipush (v := (-3)) rfl rfl ?_
        exact wp_iret rfl rfl (⟨by (try simp (disch := omega) only [uI_nk] at *); grind (splits := 30) [b2], rfl⟩)
    · refine wp_bipush (v := (-2)) rfl rfl ?_
      exact wp_iret rfl rfl (⟨by (try simp (disch := omega) only [uI_nk] at *); grind (splits := 30) [b2], rfl⟩)
theorem s_abroad {G : Gl} {d : Nat} {I : IF} {L : LF} {b : Bool} (x y p c u : Int32) (h : InvA I L) : StepA G (d + 3) Y_X10_abroad Y_X11_abroad [.int x, .int y, .int p, .int c, .int u] I L b := by
  obtain ⟨nm, na, nr, h⟩ := h
  obtain ⟨a1, a2, a3, a4, a5, a6, a7, a8, a9, a10, a11⟩ := id h
  obtain ⟨q4, ⟨q1, q2, q3⟩, q5⟩ := a1
  have hb0 := (nI_b (n := na) (k := 4) q3 (by omega)).1
  have hb1 : nI na ≤ 4 := (nI_b (n := na) (k := 4) q3 (by omega)).2
  have hn2 : ¬ I 72 6 = 4 ↔ I 1 3 < 4 := by rw [q1, q2]; grind
  by_cases hok : ((((0 ≤ x ∧ x ≤ 100) ∧ 0 ≤ y ∧ y ≤ 100) ∧ (1 ≤ p ∧ p ≤ 10000) ∧ 0 ≤ c ∧ c ≤ 11) ∧ (0 ≤ u ∧ u ≤ 52) ∧ I 1 3 < 4)
  · obtain ⟨hS, hF, hn⟩ := hok
    have hna : na < 4 := (nI_ltI (a := na) (b := 4) (by omega) (by omega)).mp (by rw [← q1]; exact hn)
    have c1 := c_X10_abroad_ok G d x y p c u I L b h.1 hS hF hna
    generalize hJ : uI (uI (uI (uI (uI (uI I (14 + na) 0 x) (14 + na) 1 y) (14 + na) 2 p) (14 + na) 5 c) (14 + na) 8 u) 1 3 (nI (na + 1)) = J at c1
    have j1 : ∀ k, J 72 k = I 72 k := by intro k; rw [← hJ]; simp (disch := omega) only [uI_ne]
    have c2 := c_X11_abroad_ok G (d + 1) x y p c u J L b (by rw [j1, q2]) hS hF hna
    subst hJ
    refine ⟨_, _, _, _, _, c1, c2, ⟨nm, na + 1, nr, ⟨⟨?_, ?_, q4.2.2⟩, ⟨?_, ?_, by omega⟩, ?_, ?_, q5.2.2⟩, ?_, ?_, ?_, ?_, ?_, ?_, ?_, ?_, ?_, ?_⟩, ?_, ?_⟩
    · simp (disch := omega) only [uI_ne, uI_nk, uI_eq]; exact q4.1
    · simp (disch := omega) only [uI_ne, uI_nk, uI_eq]; exact q4.2.1
    · simp (disch := omega) only [uI_ne, uI_nk, uI_eq]
    · simp (disch := omega) only [uI_ne, uI_nk, uI_eq]
    · simp (disch := omega) only [uI_ne, uI_nk, uI_eq]; exact q5.1
    · simp (disch := omega) only [uI_ne, uI_nk, uI_eq]; exact q5.2.1
    · unfold IVs at a2 ⊢; simp (disch := omega) only [uI_ne, uI_nk, uI_eq]; exact a2
    · intro m hm
      by_cases e : m = 10 + na
      · subst e; rw [show 4 + (10 + na) = 14 + na by omega]; simp (disch := omega) only [uI_ne, uI_nk, uI_eq]; grind
      · simp (disch := omega) only [uI_ne, uI_nk, uI_eq]; exact a3 m hm
    · intro m hm; simp (disch := omega) only [uI_ne, uI_nk, uI_eq]; exact a4 m hm
    · intro m hm; have := q4.2.2; simp (disch := omega) only [uI_ne, uI_nk, uI_eq]; exact a5 m hm
    · intro m hm
      have z := a6 m hm
      by_cases e : m = na
      · subst e; simp (disch := omega) only [uI_ne, uI_nk, uI_eq]; grind
      · simp (disch := omega) only [uI_ne, uI_nk, uI_eq]; exact z
    · intro m hm; simp (disch := omega) only [uI_ne, uI_nk, uI_eq]; exact a7 m hm
    · intro m hm; simp (disch := omega) only [uI_ne, uI_nk, uI_eq]; exact a8 m hm
    · intro m hm; simp (disch := omega) only [uI_ne, uI_nk, uI_eq]; exact a9 m hm
    · unfold IVt at a10 ⊢; simp (disch := omega) only [uI_ne, uI_nk, uI_eq]; exact a10
    · intro m hm; simp (disch := omega) only [uI_ne, uI_nk, uI_eq]; exact a11 m hm
    · intro a ha; funext k; simp (disch := omega) only [uI_ne, uI_nk, uI_eq]
    · simp (disch := omega) only [uI_ne, uI_nk, uI_eq]
  · have c1 := c_X10_abroad_no G d x y p c u I L b hok
    have c2 := c_X11_abroad_no G (d + 1) x y p c u I L b (by rw [hn2]; exact hok)
    exact StepA.query h c1 c2
theorem c_X10_area_ok (G : Gl) (d : Nat) {nm na nr : Nat} (x y p c u : Int32) (I : IF) (L : LF) (b : Bool) (h : IVc nm na nr I) (hS : ((0 ≤ x ∧ x ≤ 100) ∧ 0 ≤ y ∧ y ≤ 100) ∧ (0 ≤ p ∧ p ≤ 100000) ∧ (0 ≤ c ∧ c ≤ p) ∧ 0 ≤ u ∧ u ≤ p) (hn : nr < 16) : MD G (d + 2) Y_X10_area [.ref 0, .int x, .int y, .int p, .int c, .int u] (I, L, RR b) (some (.int (nI nr))) (uI (uI (uI (uI (uI (uI I (18 + nr) 0 x) (18 + nr) 1 y) (18 + nr) 2 p) (18 + nr) 3 c) (18 + nr) 4 u) 1 4 (nI (nr + 1)), L, RR b) := by
  have hI := h.2.2.1
  have hb' : nI nr < 16 := nI_lt (a := nr) (b := 16) hn (by omega)
  refine MT.intro m_X10_area rfl (Nat.le_of_ble_eq_true rfl) ?_
  show WQ G (d + 2) Y_X10_area _ 0 [(0, .ref 0), (1, .int x), (2, .int y), (3, .int p), (4, .int c), (5, .int u)] [] (I, L, RR b)
  refine wp_iload_n rfl rfl ?_
  refine wp_iload_n rfl rfl ?_
  refine cS1 rfl l_10_120 s_X10_isPlace m_X10_isPlace (c_X10_isPlace G _ _ _ _) rfl (Nat.le_of_ble_eq_true rfl) ?_
  refine wp_if_eq 9 rfl rfl (fun h3 => ?_) (fun h3 => ?_)
  · exfalso; grind [b2]
  · refine wp_iload_n rfl rfl ?_
    refine wp_iconst (v := 0) rfl rfl ?_
    refine wp_ldc (v := (100000)) rfl ci_10_124 ?_
    refine cS1 rfl l_10_77 s_X10_isWithin m_X10_isWithin (c_X10_isWithin G _ _ _ _ _) rfl (Nat.le_of_ble_eq_true rfl) ?_
    refine wp_if_ne 11 rfl rfl (fun h8 => ?_) (fun h8 => ?_)
    · refine wp_iload rfl rfl ?_
      refine wp_iconst (v := 0) rfl rfl ?_
      refine wp_iload_n rfl rfl ?_
      refine cS1 rfl l_10_77 s_X10_isWithin m_X10_isWithin (c_X10_isWithin G _ _ _ _ _) rfl (Nat.le_of_ble_eq_true rfl) ?_
      refine wp_if_eq 21 rfl rfl (fun h15 => ?_) (fun h15 => ?_)
      · exfalso; grind [b2]
      · refine wp_iload rfl rfl ?_
        refine wp_iconst (v := 0) rfl rfl ?_
        refine wp_iload_n rfl rfl ?_
        refine cS1 rfl l_10_77 s_X10_isWithin m_X10_isWithin (c_X10_isWithin G _ _ _ _ _) rfl (Nat.le_of_ble_eq_true rfl) ?_
        refine wp_if_ne 23 rfl rfl (fun h20 => ?_) (fun h20 => ?_)
        · refine wp_aload_n rfl rfl ?_
          refine q_getr rfl rfl (by first | rfl | assumption) rfl rfl ?_
          refine q_geti rfl rfl (by first | rfl | assumption) rfl ?_
          refine wp_bipush (v := 16) rfl rfl ?_
          refine wp_icmp_lt 30 rfl rfl (fun h27 => ?_) (fun h27 => ?_)
          · have hsm := sh_area nr (by omega)
            refine wp_aload_n rfl rfl ?_
            refine q_getr rfl rfl (by first | rfl | assumption) rfl rfl ?_
            refine q_getr rfl rfl (by first | rfl | assumption) rfl rfl ?_
            refine wp_aload_n rfl rfl ?_
            refine q_getr rfl rfl (by first | rfl | assumption) rfl rfl ?_
            refine q_geti rfl rfl (by first | rfl | assumption) rfl ?_
            refine q_area rfl hI (by omega) ?_
            refine wp_astore (lv' := [(6, _), (0, _), (1, _), (2, _), (3, _), (4, _), (5, _)]) rfl (by decide) rfl ?_
            refine wp_aload rfl rfl ?_
            refine wp_iload_n rfl rfl ?_
            refine q_puti rfl rfl (by first | rfl | assumption) (Or.inl rfl) rfl ?_
            refine wp_aload rfl rfl ?_
            refine wp_iload_n rfl rfl ?_
            refine q_puti rfl rfl (by first | rfl | assumption) (Or.inl rfl) rfl ?_
            refine wp_aload rfl rfl ?_
            refine wp_iload_n rfl rfl ?_
            refine q_puti rfl rfl (by first | rfl | assumption) (Or.inl rfl) rfl ?_
            refine wp_aload rfl rfl ?_
            refine wp_iload rfl rfl ?_
            refine q_puti rfl rfl (by first | rfl | assumption) (Or.inl rfl) rfl ?_
            refine wp_aload rfl rfl ?_
            refine wp_iload rfl rfl ?_
            refine q_puti rfl rfl (by first | rfl | assumption) (Or.inl rfl) rfl ?_
            refine wp_aload_n rfl rfl ?_
            refine q_getr rfl rfl (by first | rfl | assumption) rfl rfl ?_
            refine wp_dup rfl rfl ?_
            refine q_geti rfl rfl (by first | rfl | assumption) rfl ?_
            refine wp_iconst (v := 1) rfl rfl ?_
            refine wp_iadd rfl ?_
            refine q_puti rfl rfl (by first | rfl | assumption) (Or.inl rfl) rfl ?_
            refine wp_aload_n rfl rfl ?_
            refine q_getr rfl rfl (by first | rfl | assumption) rfl rfl ?_
            refine q_geti rfl rfl (by first | rfl | assumption) rfl ?_
            refine wp_iconst (v := 1) rfl rfl ?_
            refine wp_isub rfl ?_
            exact wp_iret rfl rfl (⟨by simp (disch := omega) only [uI_ne, uI_eq]; rw [hI, pm1], by simp (disch := omega) only [uI_ne]; rw [hI, nI_1]⟩)
          · exfalso; grind [b2]
        · exfalso; grind [b2]
    · exfalso; grind [b2]
theorem c_X10_area_no (G : Gl) (d : Nat) (x y p c u : Int32) (I : IF) (L : LF) (b : Bool) (hno : ¬ ((((0 ≤ x ∧ x ≤ 100) ∧ 0 ≤ y ∧ y ≤ 100) ∧ (0 ≤ p ∧ p ≤ 100000) ∧ (0 ≤ c ∧ c ≤ p) ∧ 0 ≤ u ∧ u ≤ p) ∧ I 1 4 < 16)) : MD G (d + 2) Y_X10_area [.ref 0, .int x, .int y, .int p, .int c, .int u] (I, L, RR b) (some (.int (if (((0 ≤ x ∧ x ≤ 100) ∧ 0 ≤ y ∧ y ≤ 100) ∧ (0 ≤ p ∧ p ≤ 100000) ∧ (0 ≤ c ∧ c ≤ p) ∧ 0 ≤ u ∧ u ≤ p) then -3 else -2))) (I, L, RR b) := by
  refine MT.intro m_X10_area rfl (Nat.le_of_ble_eq_true rfl) ?_
  show WQ G (d + 2) Y_X10_area _ 0 [(0, .ref 0), (1, .int x), (2, .int y), (3, .int p), (4, .int c), (5, .int u)] [] (I, L, RR b)
  refine wp_iload_n rfl rfl ?_
  refine wp_iload_n rfl rfl ?_
  refine cS1 rfl l_10_120 s_X10_isPlace m_X10_isPlace (c_X10_isPlace G _ _ _ _) rfl (Nat.le_of_ble_eq_true rfl) ?_
  refine wp_if_eq 9 rfl rfl (fun h3 => ?_) (fun h3 => ?_)
  · refine wp_bipush (v := (-2)) rfl rfl ?_
    exact wp_iret rfl rfl (⟨by grind (splits := 30) [b2], rfl⟩)
  · refine wp_iload_n rfl rfl ?_
    refine wp_iconst (v := 0) rfl rfl ?_
    refine wp_ldc (v := (100000)) rfl ci_10_124 ?_
    refine cS1 rfl l_10_77 s_X10_isWithin m_X10_isWithin (c_X10_isWithin G _ _ _ _ _) rfl (Nat.le_of_ble_eq_true rfl) ?_
    refine wp_if_ne 11 rfl rfl (fun h8 => ?_) (fun h8 => ?_)
    · refine wp_iload rfl rfl ?_
      refine wp_iconst (v := 0) rfl rfl ?_
      refine wp_iload_n rfl rfl ?_
      refine cS1 rfl l_10_77 s_X10_isWithin m_X10_isWithin (c_X10_isWithin G _ _ _ _ _) rfl (Nat.le_of_ble_eq_true rfl) ?_
      refine wp_if_eq 21 rfl rfl (fun h15 => ?_) (fun h15 => ?_)
      · refine wp_bipush (v := (-2)) rfl rfl ?_
        exact wp_iret rfl rfl (⟨by grind (splits := 30) [b2], rfl⟩)
      · refine wp_iload rfl rfl ?_
        refine wp_iconst (v := 0) rfl rfl ?_
        refine wp_iload_n rfl rfl ?_
        refine cS1 rfl l_10_77 s_X10_isWithin m_X10_isWithin (c_X10_isWithin G _ _ _ _ _) rfl (Nat.le_of_ble_eq_true rfl) ?_
        refine wp_if_ne 23 rfl rfl (fun h20 => ?_) (fun h20 => ?_)
        · refine wp_aload_n rfl rfl ?_
          refine q_getr rfl rfl (by first | rfl | assumption) rfl rfl ?_
          refine q_geti rfl rfl (by first | rfl | assumption) rfl ?_
          refine wp_bipush (v := 16) rfl rfl ?_
          refine wp_icmp_lt 30 rfl rfl (fun h27 => ?_) (fun h27 => ?_)
          · exfalso; grind (splits := 30) [b2]
          · refine wp_bipush (v := (-3)) rfl rfl ?_
            exact wp_iret rfl rfl (⟨by grind (splits := 30) [b2], rfl⟩)
        · refine wp_bipush (v := (-2)) rfl rfl ?_
          exact wp_iret rfl rfl (⟨by grind (splits := 30) [b2], rfl⟩)
    · refine wp_bipush (v := (-2)) rfl rfl ?_
      exact wp_iret rfl rfl (⟨by grind (splits := 30) [b2], rfl⟩)
theorem c_X11_area_ok (G : Gl) (d : Nat) {nr : Nat} (x y p c u : Int32) (I : IF) (L : LF) (b : Bool) (h7 : I 72 7 = nI nr) (hS : ((0 ≤ x ∧ x ≤ 100) ∧ 0 ≤ y ∧ y ≤ 100) ∧ (0 ≤ p ∧ p ≤ 100000) ∧ (0 ≤ c ∧ c ≤ p) ∧ 0 ≤ u ∧ u ≤ p) (hn : nr < 16) : MD G (d + 1) Y_X11_area [.ref 72, .int x, .int y, .int p, .int c, .int u] (I, L, RR b) (some (.int (nI nr))) (uI (uI (uI (uI (uI (uI (uI (uI I 72 0 0) 86 nr x) 87 nr y) 88 nr p) 89 nr c) 90 nr u) 92 nr (-1)) 72 7 (nI (nr + 1)), L, RR b) := by
  have hb' : nI nr < 16 := nI_lt (a := nr) (b := 16) hn (by omega)
  have hcl : (nI nr).toNatClampNeg = nr := nI_clamp (by omega)
  have hin : vp_in (I 72 7) 16 := by rw [h7]; exact vp_in_nI (by omega) (by omega)
  refine MT.intro m_X11_area rfl (Nat.le_of_ble_eq_true rfl) ?_
  show WQ G (d + 1) Y_X11_area _ 0 [(0, .ref 72), (1, .int x), (2, .int y), (3, .int p), (4, .int c), (5, .int u)] [] (I, L, RR b)
  refine wp_aload_n rfl rfl ?_
  refine wp_iconst (v := 0) rfl rfl ?_
  refine q_puti rfl rfl (by first | rfl | assumption) (Or.inl rfl) rfl ?_
  refine wp_iload_n rfl rfl ?_
  refine wp_i2l rfl ?_
  refine wp_lconst (v := 0) rfl rfl ?_
  refine wp_ldc2 (v := (100)) rfl cl_11_133 ?_
  refine cS1 rfl l_11_119 s_X11_in m_X11_in (c_inI G _ _ 0 100 rfl rfl _) rfl (Nat.le_of_ble_eq_true rfl) ?_
  refine wp_if_eq 35 rfl rfl (fun h8 => ?_) (fun h8 => ?_)
  · exfalso; grind [b2]
  · refine wp_iload_n rfl rfl ?_
    refine wp_i2l rfl ?_
    refine wp_lconst (v := 0) rfl rfl ?_
    refine wp_ldc2 (v := (100)) rfl cl_11_133 ?_
    refine cS1 rfl l_11_119 s_X11_in m_X11_in (c_inI G _ _ 0 100 rfl rfl _) rfl (Nat.le_of_ble_eq_true rfl) ?_
    refine wp_if_eq 35 rfl rfl (fun h14 => ?_) (fun h14 => ?_)
    · exfalso; grind [b2]
    · refine wp_iload_n rfl rfl ?_
      refine wp_i2l rfl ?_
      refine wp_lconst (v := 0) rfl rfl ?_
      refine wp_ldc2 (v := (100000)) rfl cl_11_157 ?_
      refine cS1 rfl l_11_119 s_X11_in m_X11_in (c_inI G _ _ 0 100000 rfl rfl _) rfl (Nat.le_of_ble_eq_true rfl) ?_
      refine wp_if_eq 35 rfl rfl (fun h20 => ?_) (fun h20 => ?_)
      · exfalso; grind [b2]
      · refine wp_iload rfl rfl ?_
        refine wp_i2l rfl ?_
        refine wp_lconst (v := 0) rfl rfl ?_
        refine wp_iload_n rfl rfl ?_
        refine wp_i2l rfl ?_
        refine cS1 rfl l_11_119 s_X11_in m_X11_in (c_inI G _ _ 0 p rfl rfl _) rfl (Nat.le_of_ble_eq_true rfl) ?_
        refine wp_if_eq 35 rfl rfl (fun h27 => ?_) (fun h27 => ?_)
        · exfalso; grind [b2]
        · refine wp_iload rfl rfl ?_
          refine wp_i2l rfl ?_
          refine wp_lconst (v := 0) rfl rfl ?_
          refine wp_iload_n rfl rfl ?_
          refine wp_i2l rfl ?_
          refine cS1 rfl l_11_119 s_X11_in m_X11_in (c_inI G _ _ 0 p rfl rfl _) rfl (Nat.le_of_ble_eq_true rfl) ?_
          refine wp_if_ne 37 rfl rfl (fun h34 => ?_) (fun h34 => ?_)
          · refine wp_aload_n rfl rfl ?_
            refine q_geti rfl rfl (by first | rfl | assumption) rfl ?_
            refine wp_bipush (v := 16) rfl rfl ?_
            refine wp_icmp_ne 43 rfl rfl (fun h40 => ?_) (fun h40 => ?_)
            · refine wp_aload_n rfl rfl ?_
              refine q_getr rfl rfl (by first | rfl | assumption) rfl rfl ?_
              refine wp_aload_n rfl rfl ?_
              refine q_geti rfl rfl (by first | rfl | assumption) rfl ?_
              refine wp_iload_n rfl rfl ?_
              refine q_iast rfl (by first | rfl | assumption) (by exact hin) ?_
              refine wp_aload_n rfl rfl ?_
              refine q_getr rfl rfl (by first | rfl | assumption) rfl rfl ?_
              refine wp_aload_n rfl rfl ?_
              refine q_geti rfl rfl (by first | rfl | assumption) rfl ?_
              refine wp_iload_n rfl rfl ?_
              refine q_iast rfl (by first | rfl | assumption) (by exact hin) ?_
              refine wp_aload_n rfl rfl ?_
              refine q_getr rfl rfl (by first | rfl | assumption) rfl rfl ?_
              refine wp_aload_n rfl rfl ?_
              refine q_geti rfl rfl (by first | rfl | assumption) rfl ?_
              refine wp_iload_n rfl rfl ?_
              refine q_iast rfl (by first | rfl | assumption) (by exact hin) ?_
              refine wp_aload_n rfl rfl ?_
              refine q_getr rfl rfl (by first | rfl | assumption) rfl rfl ?_
              refine wp_aload_n rfl rfl ?_
              refine q_geti rfl rfl (by first | rfl | assumption) rfl ?_
              refine wp_iload rfl rfl ?_
              refine q_iast rfl (by first | rfl | assumption) (by exact hin) ?_
              refine wp_aload_n rfl rfl ?_
              refine q_getr rfl rfl (by first | rfl | assumption) rfl rfl ?_
              refine wp_aload_n rfl rfl ?_
              refine q_geti rfl rfl (by first | rfl | assumption) rfl ?_
              refine wp_iload rfl rfl ?_
              refine q_iast rfl (by first | rfl | assumption) (by exact hin) ?_
              refine wp_aload_n rfl rfl ?_
              refine q_getr rfl rfl (by first | rfl | assumption) rfl rfl ?_
              refine wp_aload_n rfl rfl ?_
              refine q_geti rfl rfl (by first | rfl | assumption) rfl ?_
              refine wp_iconst (v := (-1)) rfl rfl ?_
              refine q_iast rfl (by first | rfl | assumption) (by exact hin) ?_
              refine wp_aload_n rfl rfl ?_
              refine wp_dup rfl rfl ?_
              refine q_geti rfl rfl (by first | rfl | assumption) rfl ?_
              refine wp_iconst (v := 1) rfl rfl ?_
              refine wp_iadd rfl ?_
              refine q_puti rfl rfl (by first | rfl | assumption) (Or.inl rfl) rfl ?_
              refine wp_aload_n rfl rfl ?_
              refine q_geti rfl rfl (by first | rfl | assumption) rfl ?_
              refine wp_iconst (v := 1) rfl rfl ?_
              refine wp_isub rfl ?_
              exact wp_iret rfl rfl (⟨by simp (disch := omega) only [uI_ne, uI_nk, uI_eq]; rw [h7, pm1], by simp (disch := omega) only [uI_ne, uI_nk]; rw [h7, nI_1, hcl]⟩)
            · exfalso; change I 72 7 = 16 at h40; grind [b2]
          · exfalso; grind [b2]
theorem c_X11_area_no (G : Gl) (d : Nat) (x y p c u : Int32) (I : IF) (L : LF) (b : Bool) (hno : ¬ ((((0 ≤ x ∧ x ≤ 100) ∧ 0 ≤ y ∧ y ≤ 100) ∧ (0 ≤ p ∧ p ≤ 100000) ∧ (0 ≤ c ∧ c ≤ p) ∧ 0 ≤ u ∧ u ≤ p) ∧ ¬ I 72 7 = 16)) : MD G (d + 1) Y_X11_area [.ref 72, .int x, .int y, .int p, .int c, .int u] (I, L, RR b) (some (.int (if (((0 ≤ x ∧ x ≤ 100) ∧ 0 ≤ y ∧ y ≤ 100) ∧ (0 ≤ p ∧ p ≤ 100000) ∧ (0 ≤ c ∧ c ≤ p) ∧ 0 ≤ u ∧ u ≤ p) then -3 else -2))) (uI I 72 0 0, L, RR b) := by
  refine MT.intro m_X11_area rfl (Nat.le_of_ble_eq_true rfl) ?_
  show WQ G (d + 1) Y_X11_area _ 0 [(0, .ref 72), (1, .int x), (2, .int y), (3, .int p), (4, .int c), (5, .int u)] [] (I, L, RR b)
  refine wp_aload_n rfl rfl ?_
  refine wp_iconst (v := 0) rfl rfl ?_
  refine q_puti rfl rfl (by first | rfl | assumption) (Or.inl rfl) rfl ?_
  refine wp_iload_n rfl rfl ?_
  refine wp_i2l rfl ?_
  refine wp_lconst (v := 0) rfl rfl ?_
  refine wp_ldc2 (v := (100)) rfl cl_11_133 ?_
  refine cS1 rfl l_11_119 s_X11_in m_X11_in (c_inI G _ _ 0 100 rfl rfl _) rfl (Nat.le_of_ble_eq_true rfl) ?_
  refine wp_if_eq 35 rfl rfl (fun h8 => ?_) (fun h8 => ?_)
  · refine wp_bipush (v := (-2)) rfl rfl ?_
    exact wp_iret rfl rfl (⟨by (try simp (disch := omega) only [uI_nk] at *); grind (splits := 30) [b2], rfl⟩)
  · refine wp_iload_n rfl rfl ?_
    refine wp_i2l rfl ?_
    refine wp_lconst (v := 0) rfl rfl ?_
    refine wp_ldc2 (v := (100)) rfl cl_11_133 ?_
    refine cS1 rfl l_11_119 s_X11_in m_X11_in (c_inI G _ _ 0 100 rfl rfl _) rfl (Nat.le_of_ble_eq_true rfl) ?_
    refine wp_if_eq 35 rfl rfl (fun h14 => ?_) (fun h14 => ?_)
    · refine wp_bipush (v := (-2)) rfl rfl ?_
      exact wp_iret rfl rfl (⟨by (try simp (disch := omega) only [uI_nk] at *); grind (splits := 30) [b2], rfl⟩)
    · refine wp_iload_n rfl rfl ?_
      refine wp_i2l rfl ?_
      refine wp_lconst (v := 0) rfl rfl ?_
      refine wp_ldc2 (v := (100000)) rfl cl_11_157 ?_
      refine cS1 rfl l_11_119 s_X11_in m_X11_in (c_inI G _ _ 0 100000 rfl rfl _) rfl (Nat.le_of_ble_eq_true rfl) ?_
      refine wp_if_eq 35 rfl rfl (fun h20 => ?_) (fun h20 => ?_)
      · refine wp_bipush (v := (-2)) rfl rfl ?_
        exact wp_iret rfl rfl (⟨by (try simp (disch := omega) only [uI_nk] at *); grind (splits := 30) [b2], rfl⟩)
      · refine wp_iload rfl rfl ?_
        refine wp_i2l rfl ?_
        refine wp_lconst (v := 0) rfl rfl ?_
        refine wp_iload_n rfl rfl ?_
        refine wp_i2l rfl ?_
        refine cS1 rfl l_11_119 s_X11_in m_X11_in (c_inI G _ _ 0 p rfl rfl _) rfl (Nat.le_of_ble_eq_true rfl) ?_
        refine wp_if_eq 35 rfl rfl (fun h27 => ?_) (fun h27 => ?_)
        · refine wp_bipush (v := (-2)) rfl rfl ?_
          exact wp_iret rfl rfl (⟨by (try simp (disch := omega) only [uI_nk] at *); grind (splits := 30) [b2], rfl⟩)
        · refine wp_iload rfl rfl ?_
          refine wp_i2l rfl ?_
          refine wp_lconst (v := 0) rfl rfl ?_
          refine wp_iload_n rfl rfl ?_
          refine wp_i2l rfl ?_
          refine cS1 rfl l_11_119 s_X11_in m_X11_in (c_inI G _ _ 0 p rfl rfl _) rfl (Nat.le_of_ble_eq_true rfl) ?_
          refine wp_if_ne 37 rfl rfl (fun h34 => ?_) (fun h34 => ?_)
          · refine wp_aload_n rfl rfl ?_
            refine q_geti rfl rfl (by first | rfl | assumption) rfl ?_
            refine wp_bipush (v := 16) rfl rfl ?_
            refine wp_icmp_ne 43 rfl rfl (fun h40 => ?_) (fun h40 => ?_)
            · exfalso; (try simp (disch := omega) only [uI_nk] at *); grind (splits := 30) [b2]
            · refine wp_bipush (v := (-3)) rfl rfl ?_
              exact wp_iret rfl rfl (⟨by (try simp (disch := omega) only [uI_nk] at *); grind (splits := 30) [b2], rfl⟩)
          · refine wp_bipush (v := (-2)) rfl rfl ?_
            exact wp_iret rfl rfl (⟨by (try simp (disch := omega) only [uI_nk] at *); grind (splits := 30) [b2], rfl⟩)
theorem s_area {G : Gl} {d : Nat} {I : IF} {L : LF} {b : Bool} (x y p c u : Int32) (h : InvA I L) : StepA G (d + 2) Y_X10_area Y_X11_area [.int x, .int y, .int p, .int c, .int u] I L b := by
  obtain ⟨nm, na, nr, h⟩ := h
  obtain ⟨a1, a2, a3, a4, a5, a6, a7, a8, a9, a10, a11⟩ := id h
  obtain ⟨q4, q5, ⟨q1, q2, q3⟩⟩ := a1
  have hb0 := (nI_b (n := nr) (k := 16) q3 (by omega)).1
  have hb1 : nI nr ≤ 16 := (nI_b (n := nr) (k := 16) q3 (by omega)).2
  have hn2 : ¬ I 72 7 = 16 ↔ I 1 4 < 16 := by rw [q1, q2]; grind
  by_cases hok : ((((0 ≤ x ∧ x ≤ 100) ∧ 0 ≤ y ∧ y ≤ 100) ∧ (0 ≤ p ∧ p ≤ 100000) ∧ (0 ≤ c ∧ c ≤ p) ∧ 0 ≤ u ∧ u ≤ p) ∧ I 1 4 < 16)
  · obtain ⟨hS, hn⟩ := hok
    have hna : nr < 16 := (nI_ltI (a := nr) (b := 16) (by omega) (by omega)).mp (by rw [← q1]; exact hn)
    have c1 := c_X10_area_ok G d x y p c u I L b h.1 hS hna
    generalize hJ : uI (uI (uI (uI (uI (uI I (18 + nr) 0 x) (18 + nr) 1 y) (18 + nr) 2 p) (18 + nr) 3 c) (18 + nr) 4 u) 1 4 (nI (nr + 1)) = J at c1
    have j1 : ∀ k, J 72 k = I 72 k := by intro k; rw [← hJ]; simp (disch := omega) only [uI_ne]
    have c2 := c_X11_area_ok G (d + 1) x y p c u J L b (by rw [j1, q2]) hS hna
    subst hJ
    have hz := a8 nr hna
    have hy := (a9 nr hna).2 (Nat.le_refl _)
    have hm0 := (nI_b (n := nm) (k := 10) q4.2.2 (by omega)).1
    refine ⟨_, _, _, _, _, c1, c2, ⟨nm, na, nr + 1, ⟨⟨?_, ?_, q4.2.2⟩, ⟨?_, ?_, q5.2.2⟩, ?_, ?_, by omega⟩, ?_, ?_, ?_, ?_, ?_, ?_, ?_, ?_, ?_, ?_⟩, ?_, ?_⟩
    · simp (disch := omega) only [uI_ne, uI_nk, uI_eq]; exact q4.1
    · simp (disch := omega) only [uI_ne, uI_nk, uI_eq]; exact q4.2.1
    · simp (disch := omega) only [uI_ne, uI_nk, uI_eq]; exact q5.1
    · simp (disch := omega) only [uI_ne, uI_nk, uI_eq]; exact q5.2.1
    · simp (disch := omega) only [uI_ne, uI_nk, uI_eq]
    · simp (disch := omega) only [uI_ne, uI_nk, uI_eq]
    · unfold IVs at a2 ⊢; simp (disch := omega) only [uI_ne, uI_nk, uI_eq]; exact a2
    · intro m hm; simp (disch := omega) only [uI_ne, uI_nk, uI_eq]; exact a3 m hm
    · intro m hm; simp (disch := omega) only [uI_ne, uI_nk, uI_eq]; exact a4 m hm
    · intro m hm; have := q4.2.2; simp (disch := omega) only [uI_ne, uI_nk, uI_eq]; exact a5 m hm
    · intro m hm; simp (disch := omega) only [uI_ne, uI_nk, uI_eq]; exact a6 m hm
    · intro m hm; simp (disch := omega) only [uI_ne, uI_nk, uI_eq]; exact a7 m hm
    · intro m hm
      by_cases e : m = nr
      · subst e; simp (disch := omega) only [uI_ne, uI_nk, uI_eq]; grind
      · simp (disch := omega) only [uI_ne, uI_nk, uI_eq]; exact a8 m hm
    · intro m hm
      have z := a9 m hm
      by_cases e : m = nr
      · subst e; simp (disch := omega) only [uI_ne, uI_nk, uI_eq]; grind
      · simp (disch := omega) only [uI_ne, uI_nk, uI_eq]; grind
    · unfold IVt at a10 ⊢; simp (disch := omega) only [uI_ne, uI_nk, uI_eq]; exact a10
    · intro m hm; simp (disch := omega) only [uI_ne, uI_nk, uI_eq]; exact a11 m hm
    · intro a ha; funext k; simp (disch := omega) only [uI_ne, uI_nk, uI_eq]
    · simp (disch := omega) only [uI_ne, uI_nk, uI_eq]
  · have c1 := c_X10_area_no G d x y p c u I L b hok
    have c2 := c_X11_area_no G (d + 1) x y p c u I L b (by rw [hn2]; exact hok)
    exact StepA.query h c1 c2
theorem c_X10_channelOf (G : Gl) (d : Nat) {nm na nr : Nat} (v : Int32) (I : IF) (L : LF) (b : Bool) (h : IVc nm na nr I) : MD G (d + 1) Y_X10_channelOf [.ref 0, .int v] (I, L, RR b) (some (.int (if 0 ≤ v ∧ v < I 1 2 then I (4 + v.toNatClampNeg) 6 else -2))) (I, L, RR b) := by
  refine MT.intro m_X10_channelOf rfl (Nat.le_of_ble_eq_true rfl) ?_
  show WQ G (d + 1) Y_X10_channelOf _ 0 [(0, .ref 0), (1, .int v)] [] (I, L, RR b)
  refine wp_aload_n rfl rfl ?_
  refine q_getr rfl rfl (by first | rfl | assumption) rfl rfl ?_
  refine wp_iload_n rfl rfl ?_
  refine cV1 rfl l_10_91 i_X1_isMast m_X1_isMast (by first | rfl | assumption) (by decide) (c_X1_isMast G _ _ _ _ _) rfl (Nat.le_of_ble_eq_true rfl) ?_
  refine wp_if_eq 12 rfl rfl (fun h4 => ?_) (fun h4 => ?_)
  · refine wp_bipush (v := (-2)) rfl rfl ?_
    exact wp_iret rfl rfl (⟨by grind [b2], rfl⟩)
  · have hv := b2_ne.mp h4
    obtain ⟨m, hm, hvm, hcl⟩ := (isM h v).1 hv
    have hm14 : m < 14 := by have := h.1.2.2; omega
    have hsm := sh_mast m hm14
    refine wp_aload_n rfl rfl ?_
    refine q_getr rfl rfl (by first | rfl | assumption) rfl rfl ?_
    refine q_getr rfl rfl (by first | rfl | assumption) rfl rfl ?_
    refine wp_iload_n rfl rfl ?_
    refine q_mast rfl hvm hm14 ?_
    refine q_geti rfl rfl (by first | rfl | assumption) rfl ?_
    refine wp_goto 13 rfl rfl ?_
    exact wp_iret rfl rfl (⟨by grind [b2], rfl⟩)
theorem c_X11_channelOf (G : Gl) (d : Nat) {nm na nr : Nat} (v : Int32) (I : IF) (L : LF) (b : Bool) (h : IVc nm na nr I) : MD G (d + 2) Y_X11_channelOf [.ref 72, .int v] (I, L, RR b) (some (.int (if 0 ≤ v ∧ v < I 1 2 then (if I 72 32 = 0 then -1 else I 95 v.toNatClampNeg) else -2))) (uI I 72 0 0, L, RR b) := by
  refine MT.intro m_X11_channelOf rfl (Nat.le_of_ble_eq_true rfl) ?_
  show WQ G (d + 2) Y_X11_channelOf _ 0 [(0, .ref 72), (1, .int v)] [] (I, L, RR b)
  refine wp_aload_n rfl rfl ?_
  refine wp_iconst (v := 0) rfl rfl ?_
  refine q_puti rfl rfl (by first | rfl | assumption) (Or.inl rfl) rfl ?_
  refine wp_aload_n rfl rfl ?_
  refine wp_iload_n rfl rfl ?_
  refine cV1 rfl l_11_165 i_X11_isMast m_X11_isMast (by first | rfl | assumption) (by decide) (c_X11_isMast G _ _ _ _ _) rfl (Nat.le_of_ble_eq_true rfl) ?_
  refine wp_if_ne 9 rfl rfl (fun h6 => ?_) (fun h6 => ?_)
  · refine wp_aload_n rfl rfl ?_
    refine q_geti rfl rfl (by first | rfl | assumption) rfl ?_
    refine wp_if_eq 17 rfl rfl (fun h11 => ?_) (fun h11 => ?_)
    · refine wp_iconst (v := (-1)) rfl rfl ?_
      exact wp_iret rfl rfl (⟨by have e := (isM h v).2; simp (disch := omega) only [uI_nk, uI_ne] at *; grind [b2], rfl⟩)
    · have hv := (isM h v).2.mp (b2_ne.mp h6)
      obtain ⟨m, hm, hvm, hcl⟩ := (isM h v).1 hv
      have hin : vp_in v 10 := by rw [hvm]; exact vp_in_nI (by have := h.1.2.2; omega) (by omega)
      refine wp_aload_n rfl rfl ?_
      refine q_getr rfl rfl (by first | rfl | assumption) rfl rfl ?_
      refine wp_iload_n rfl rfl ?_
      refine q_iald rfl (by first | rfl | assumption) (by assumption) ?_
      refine wp_goto 18 rfl rfl ?_
      exact wp_iret rfl rfl (⟨by have e := (isM h v).2; simp (disch := omega) only [uI_nk, uI_ne] at *; grind [b2], rfl⟩)
  · refine wp_bipush (v := (-2)) rfl rfl ?_
    refine wp_goto 18 rfl rfl ?_
    exact wp_iret rfl rfl (⟨by have e := (isM h v).2; simp (disch := omega) only [uI_nk, uI_ne] at *; grind [b2], rfl⟩)
theorem s_channelOf {G : Gl} {d : Nat} {I : IF} {L : LF} {b : Bool} (v : Int32) (h : InvA I L) : StepA G (d + 2) Y_X10_channelOf Y_X11_channelOf [.int v] I L b := by
  obtain ⟨nm, na, nr, h⟩ := h
  have c1 := c_X10_channelOf G (d + 1) v I L b h.1
  have c2 := c_X11_channelOf G d v I L b h.1
  refine StepA.query h c1 ?_
  have e : (if 0 ≤ v ∧ v < I 1 2 then (if I 72 32 = 0 then -1 else I 95 v.toNatClampNeg) else -2) = (if 0 ≤ v ∧ v < I 1 2 then I (4 + v.toNatClampNeg) 6 else -2) := by
    by_cases hv : 0 ≤ v ∧ v < I 1 2
    · rw [if_pos hv, if_pos hv]
      obtain ⟨m, hm, -, hcl⟩ := (isM h.1 v).1 hv
      obtain ⟨t1, t2⟩ := h.2.1.2.2.2.2.2.1
      rw [hcl, t1]
      obtain ⟨-, -, p1, p2⟩ := h.2.2.2.2.2.2.1 m (by have := h.1.1.2.2; omega)
      split
      · next hz => rw [p2 (Or.inl hz)]
      · next hz => exact (p1 ⟨t2.resolve_left hz, hm⟩).1
    · rw [if_neg hv, if_neg hv]
  rw [e] at c2
  exact c2
end
section
/-! mastOf, areaOf, strength, fail, aim -/
theorem c_X10_mastOf (G : Gl) (d : Nat) {nm na nr : Nat} (v x : Int32) (I : IF) (L : LF) (b : Bool) (h : IVc nm na nr I) : MD G (d + 2) Y_X10_mastOf [.ref 0, .int v, .int x] (I, L, RR b) (some (.int (if 0 ≤ v ∧ v < I 1 2 then mFact I (4 + v.toNatClampNeg) x else -2))) (I, L, RR b) := by
  refine MT.intro m_X10_mastOf rfl (Nat.le_of_ble_eq_true rfl) ?_
  show WQ G (d + 2) Y_X10_mastOf _ 0 [(0, .ref 0), (1, .int v), (2, .int x)] [] (I, L, RR b)
  refine wp_aload_n rfl rfl ?_
  refine q_getr rfl rfl (by first | rfl | assumption) rfl rfl ?_
  refine wp_iload_n rfl rfl ?_
  refine cV1 rfl l_10_91 i_X1_isMast m_X1_isMast (by first | rfl | assumption) (by decide) (c_X1_isMast G _ _ _ _ _) rfl (Nat.le_of_ble_eq_true rfl) ?_
  refine wp_if_eq 13 rfl rfl (fun h4 => ?_) (fun h4 => ?_)
  · refine wp_bipush (v := (-2)) rfl rfl ?_
    exact wp_iret rfl rfl (⟨by grind [b2], rfl⟩)
  · have hv := b2_ne.mp h4
    obtain ⟨m, hm, hvm, hcl⟩ := (isM h v).1 hv
    have hm14 : m < 14 := by have := h.1.2.2; omega
    have hsm := sh_mast m hm14
    refine wp_aload_n rfl rfl ?_
    refine q_getr rfl rfl (by first | rfl | assumption) rfl rfl ?_
    refine q_getr rfl rfl (by first | rfl | assumption) rfl rfl ?_
    refine wp_iload_n rfl rfl ?_
    refine q_mast rfl hvm hm14 ?_
    refine wp_iload_n rfl rfl ?_
    refine cV1 rfl l_10_250 i_X4_fact m_X4_fact (by first | rfl | assumption) (by decide) (c_X4_fact G _ _ _ _ _ _ hsm) rfl (Nat.le_of_ble_eq_true rfl) ?_
    refine wp_goto 14 rfl rfl ?_
    exact wp_iret rfl rfl (⟨by grind [b2], rfl⟩)
theorem c_X11_mastOf (G : Gl) (d : Nat) {nm na nr : Nat} (v x : Int32) (I : IF) (L : LF) (b : Bool) (h : IV nm na nr I L) : MD G (d + 2) Y_X11_mastOf [.ref 72, .int v, .int x] (I, L, RR b) (some (.int (if 0 ≤ v ∧ v < I 1 2 then mFact I (4 + v.toNatClampNeg) x else -2))) (uI I 72 0 0, L, RR b) := by
  have e0 : uI I 72 0 0 72 5 = I 72 5 := rfl
  refine MT.intro m_X11_mastOf rfl (Nat.le_of_ble_eq_true rfl) ?_
  show WQ G (d + 2) Y_X11_mastOf _ 0 [(0, .ref 72), (1, .int v), (2, .int x)] [] (I, L, RR b)
  refine wp_aload_n rfl rfl ?_
  refine wp_iconst (v := 0) rfl rfl ?_
  refine q_puti rfl rfl (by first | rfl | assumption) (Or.inl rfl) rfl ?_
  refine wp_aload_n rfl rfl ?_
  refine wp_iload_n rfl rfl ?_
  refine cV1 rfl l_11_165 i_X11_isMast m_X11_isMast (by first | rfl | assumption) (by decide) (c_X11_isMast G _ _ _ _ _) rfl (Nat.le_of_ble_eq_true rfl) ?_
  refine wp_if_ne 9 rfl rfl (fun h6 => ?_) (fun h6 => ?_)
  · have hv := (isM h.1 v).2.mp (b2_ne.mp h6)
    obtain ⟨m, hm, hvm, hcl⟩ := (isM h.1 v).1 hv
    have hm10 : m < 10 := by have := h.1.1.2.2; omega
    have hin10 : vp_in v 10 := by rw [hvm]; exact vp_in_nI hm10 (by omega)
    have hin14 : vp_in v 14 := by rw [hvm]; exact vp_in_nI (by omega) (by omega)
    have z3 := h.2.2.1 m (by omega)
    have z4 := h.2.2.2.1 m hm10
    have z5 := h.2.2.2.2.1 m hm
    refine wp_iload_n rfl rfl ?_
    by_cases e10_0 : x = 0
    · subst e10_0
      refine wp_tsIn 11 rfl (by decide) (by decide) rfl rfl ?_
      refine wp_aload_n rfl rfl ?_
      refine q_getr rfl rfl (by first | rfl | assumption) rfl rfl ?_
      refine wp_iload_n rfl rfl ?_
      refine q_iald rfl (by first | rfl | assumption) (by assumption) ?_
      exact wp_iret rfl rfl (⟨by rw [if_pos hv, hcl] at *; simp (disch := omega) only [uI_ne, hcl] at *; simp only [mFact]; grind [b2], rfl⟩)
    by_cases e10_1 : x = 1
    · subst e10_1
      refine wp_tsIn 16 rfl (by decide) (by decide) rfl rfl ?_
      refine wp_aload_n rfl rfl ?_
      refine q_getr rfl rfl (by first | rfl | assumption) rfl rfl ?_
      refine wp_iload_n rfl rfl ?_
      refine q_iald rfl (by first | rfl | assumption) (by assumption) ?_
      exact wp_iret rfl rfl (⟨by rw [if_pos hv, hcl] at *; simp (disch := omega) only [uI_ne, hcl] at *; simp only [mFact]; grind [b2], rfl⟩)
    by_cases e10_2 : x = 2
    · subst e10_2
      refine wp_tsIn 21 rfl (by decide) (by decide) rfl rfl ?_
      refine wp_aload_n rfl rfl ?_
      refine q_getr rfl rfl (by first | rfl | assumption) rfl rfl ?_
      refine wp_iload_n rfl rfl ?_
      refine q_iald rfl (by first | rfl | assumption) (by assumption) ?_
      exact wp_iret rfl rfl (⟨by rw [if_pos hv, hcl] at *; simp (disch := omega) only [uI_ne, hcl] at *; simp only [mFact]; grind [b2], rfl⟩)
    by_cases e10_3 : x = 3
    · subst e10_3
      refine wp_tsIn 26 rfl (by decide) (by decide) rfl rfl ?_
      refine wp_aload_n rfl rfl ?_
      refine q_getr rfl rfl (by first | rfl | assumption) rfl rfl ?_
      refine wp_iload_n rfl rfl ?_
      refine q_iald rfl (by first | rfl | assumption) (by assumption) ?_
      exact wp_iret rfl rfl (⟨by rw [if_pos hv, hcl] at *; simp (disch := omega) only [uI_ne, hcl] at *; simp only [mFact]; grind [b2], rfl⟩)
    by_cases e10_4 : x = 4
    · subst e10_4
      refine wp_tsIn 31 rfl (by decide) (by decide) rfl rfl ?_
      refine wp_aload_n rfl rfl ?_
      refine q_getr rfl rfl (by first | rfl | assumption) rfl rfl ?_
      refine wp_iload_n rfl rfl ?_
      refine q_zald rfl (by first | rfl | assumption) (by assumption) ?_
      refine wp_if_eq 38 rfl rfl (fun h35 => ?_) (fun h35 => ?_)
      · refine wp_iconst (v := 0) rfl rfl ?_
        exact wp_iret rfl rfl (⟨by rw [if_pos hv, hcl] at *; simp (disch := omega) only [uI_ne, hcl] at *; simp only [mFact]; grind [b2], rfl⟩)
      · refine wp_iconst (v := 1) rfl rfl ?_
        refine wp_goto 39 rfl rfl ?_
        exact wp_iret rfl rfl (⟨by rw [if_pos hv, hcl] at *; simp (disch := omega) only [uI_ne, hcl] at *; simp only [mFact]; grind [b2], rfl⟩)
    by_cases e10_5 : x = 5
    · subst e10_5
      refine wp_tsIn 40 rfl (by decide) (by decide) rfl rfl ?_
      refine wp_aload_n rfl rfl ?_
      refine q_getr rfl rfl (by first | rfl | assumption) rfl rfl ?_
      refine wp_iload_n rfl rfl ?_
      refine q_iald rfl (by first | rfl | assumption) (by assumption) ?_
      exact wp_iret rfl rfl (⟨by rw [if_pos hv, hcl] at *; simp (disch := omega) only [uI_ne, hcl] at *; simp only [mFact]; grind [b2], rfl⟩)
    by_cases e10_6 : x = 6
    · subst e10_6
      refine wp_tsIn 45 rfl (by decide) (by decide) rfl rfl ?_
      refine wp_aload_n rfl rfl ?_
      refine q_getr rfl rfl (by first | rfl | assumption) rfl rfl ?_
      refine wp_iload_n rfl rfl ?_
      refine q_zald rfl (by first | rfl | assumption) (by assumption) ?_
      refine wp_if_eq 52 rfl rfl (fun h49 => ?_) (fun h49 => ?_)
      · refine wp_iconst (v := 0) rfl rfl ?_
        exact wp_iret rfl rfl (⟨by rw [if_pos hv, hcl] at *; simp (disch := omega) only [uI_ne, hcl] at *; simp only [mFact]; grind [b2], rfl⟩)
      · refine wp_iconst (v := 1) rfl rfl ?_
        refine wp_goto 53 rfl rfl ?_
        exact wp_iret rfl rfl (⟨by rw [if_pos hv, hcl] at *; simp (disch := omega) only [uI_ne, hcl] at *; simp only [mFact]; grind [b2], rfl⟩)
    by_cases e10_7 : x = 7
    · subst e10_7
      refine wp_tsIn 54 rfl (by decide) (by decide) rfl rfl ?_
      refine wp_aload_n rfl rfl ?_
      refine q_getr rfl rfl (by first | rfl | assumption) rfl rfl ?_
      refine wp_iload_n rfl rfl ?_
      refine q_zald rfl (by first | rfl | assumption) (by assumption) ?_
      refine wp_if_eq 61 rfl rfl (fun h58 => ?_) (fun h58 => ?_)
      · refine wp_iconst (v := 0) rfl rfl ?_
        exact wp_iret rfl rfl (⟨by rw [if_pos hv, hcl] at *; simp (disch := omega) only [uI_ne, hcl] at *; simp only [mFact]; grind [b2], rfl⟩)
      · refine wp_iconst (v := 1) rfl rfl ?_
        refine wp_goto 62 rfl rfl ?_
        exact wp_iret rfl rfl (⟨by rw [if_pos hv, hcl] at *; simp (disch := omega) only [uI_ne, hcl] at *; simp only [mFact]; grind [b2], rfl⟩)
    refine wp_tsOut 63 rfl (by have a0 := lv_neT e10_0 (a := 0) rfl; have a1 := lv_neT e10_1 (a := 1) rfl; have a2 := lv_neT e10_2 (a := 2) rfl; have a3 := lv_neT e10_3 (a := 3) rfl; have a4 := lv_neT e10_4 (a := 4) rfl; have a5 := lv_neT e10_5 (a := 5) rfl; have a6 := lv_neT e10_6 (a := 6) rfl; have a7 := lv_neT e10_7 (a := 7) rfl; omega) rfl ?_
    refine wp_bipush (v := (-2)) rfl rfl ?_
    exact wp_iret rfl rfl (⟨by rw [if_pos hv, hcl] at *; simp (disch := omega) only [uI_ne, hcl] at *; simp only [mFact]; grind [b2], rfl⟩)
  · refine wp_bipush (v := (-2)) rfl rfl ?_
    exact wp_iret rfl rfl (⟨by have e := (isM h.1 v).2; rw [e0] at h6; grind [b2], rfl⟩)
theorem s_mastOf {G : Gl} {d : Nat} {I : IF} {L : LF} {b : Bool} (v x : Int32) (h : InvA I L) : StepA G (d + 2) Y_X10_mastOf Y_X11_mastOf [.int v, .int x] I L b := by
  obtain ⟨nm, na, nr, h⟩ := h
  exact StepA.query h (c_X10_mastOf G d v x I L b h.1) (c_X11_mastOf G d v x I L b h)
theorem c_X10_areaOf (G : Gl) (d : Nat) {nm na nr : Nat} (v x : Int32) (I : IF) (L : LF) (b : Bool) (h : IVc nm na nr I) : MD G (d + 2) Y_X10_areaOf [.ref 0, .int v, .int x] (I, L, RR b) (some (.int (if 0 ≤ v ∧ v < I 1 4 then aFact I (18 + v.toNatClampNeg) x else -2))) (I, L, RR b) := by
  refine MT.intro m_X10_areaOf rfl (Nat.le_of_ble_eq_true rfl) ?_
  show WQ G (d + 2) Y_X10_areaOf _ 0 [(0, .ref 0), (1, .int v), (2, .int x)] [] (I, L, RR b)
  refine wp_aload_n rfl rfl ?_
  refine q_getr rfl rfl (by first | rfl | assumption) rfl rfl ?_
  refine wp_iload_n rfl rfl ?_
  refine cV1 rfl l_10_163 i_X1_isArea m_X1_isArea (by first | rfl | assumption) (by decide) (c_X1_isArea G _ _ _ _ _) rfl (Nat.le_of_ble_eq_true rfl) ?_
  refine wp_if_eq 13 rfl rfl (fun h4 => ?_) (fun h4 => ?_)
  · refine wp_bipush (v := (-2)) rfl rfl ?_
    exact wp_iret rfl rfl (⟨by grind [b2], rfl⟩)
  · have hv := b2_ne.mp h4
    obtain ⟨m, hm, hvm, hcl⟩ := (isAr h v).1 hv
    have hm14 : m < 16 := by have := h.2.2.2.2; omega
    have hsm := sh_area m hm14
    refine wp_aload_n rfl rfl ?_
    refine q_getr rfl rfl (by first | rfl | assumption) rfl rfl ?_
    refine q_getr rfl rfl (by first | rfl | assumption) rfl rfl ?_
    refine wp_iload_n rfl rfl ?_
    refine q_area rfl hvm hm14 ?_
    refine wp_iload_n rfl rfl ?_
    refine cV1 rfl l_10_254 i_X0_fact m_X0_fact (by first | rfl | assumption) (by decide) (c_X0_fact G _ _ _ _ _ _ hsm) rfl (Nat.le_of_ble_eq_true rfl) ?_
    refine wp_goto 14 rfl rfl ?_
    exact wp_iret rfl rfl (⟨by grind [b2], rfl⟩)
theorem c_X11_areaOf (G : Gl) (d : Nat) {nm na nr : Nat} (v x : Int32) (I : IF) (L : LF) (b : Bool) (h : IV nm na nr I L) : MD G (d + 2) Y_X11_areaOf [.ref 72, .int v, .int x] (I, L, RR b) (some (.int (if 0 ≤ v ∧ v < I 1 4 then aFact I (18 + v.toNatClampNeg) x else -2))) (uI I 72 0 0, L, RR b) := by
  have e0 : uI I 72 0 0 72 7 = I 72 7 := rfl
  refine MT.intro m_X11_areaOf rfl (Nat.le_of_ble_eq_true rfl) ?_
  show WQ G (d + 2) Y_X11_areaOf _ 0 [(0, .ref 72), (1, .int v), (2, .int x)] [] (I, L, RR b)
  refine wp_aload_n rfl rfl ?_
  refine wp_iconst (v := 0) rfl rfl ?_
  refine q_puti rfl rfl (by first | rfl | assumption) (Or.inl rfl) rfl ?_
  refine wp_aload_n rfl rfl ?_
  refine wp_iload_n rfl rfl ?_
  refine cV1 rfl l_11_162 i_X11_isArea m_X11_isArea (by first | rfl | assumption) (by decide) (c_X11_isArea G _ _ _ _ _) rfl (Nat.le_of_ble_eq_true rfl) ?_
  refine wp_if_ne 9 rfl rfl (fun h6 => ?_) (fun h6 => ?_)
  · have hv := (isAr h.1 v).2.mp (b2_ne.mp h6)
    obtain ⟨m, hm, hvm, hcl⟩ := (isAr h.1 v).1 hv
    have hm16 : m < 16 := by have := h.1.2.2.2.2; omega
    have hin16 : vp_in v 16 := by rw [hvm]; exact vp_in_nI (by omega) (by omega)
    have z3 := h.2.2.2.2.2.2.2.1 m hm16
    have z4 := (h.2.2.2.2.2.2.2.2.1 m hm16).1 hm
    refine wp_iload_n rfl rfl ?_
    by_cases e10_0 : x = 0
    · subst e10_0
      refine wp_tsIn 11 rfl (by decide) (by decide) rfl rfl ?_
      refine wp_aload_n rfl rfl ?_
      refine q_getr rfl rfl (by first | rfl | assumption) rfl rfl ?_
      refine wp_iload_n rfl rfl ?_
      refine q_iald rfl (by first | rfl | assumption) (by assumption) ?_
      exact wp_iret rfl rfl (⟨by rw [if_pos hv, hcl] at *; simp (disch := omega) only [uI_ne, hcl] at *; simp only [aFact]; grind [b2], rfl⟩)
    by_cases e10_1 : x = 1
    · subst e10_1
      refine wp_tsIn 16 rfl (by decide) (by decide) rfl rfl ?_
      refine wp_aload_n rfl rfl ?_
      refine q_getr rfl rfl (by first | rfl | assumption) rfl rfl ?_
      refine wp_iload_n rfl rfl ?_
      refine q_iald rfl (by first | rfl | assumption) (by assumption) ?_
      exact wp_iret rfl rfl (⟨by rw [if_pos hv, hcl] at *; simp (disch := omega) only [uI_ne, hcl] at *; simp only [aFact]; grind [b2], rfl⟩)
    by_cases e10_2 : x = 2
    · subst e10_2
      refine wp_tsIn 21 rfl (by decide) (by decide) rfl rfl ?_
      refine wp_aload_n rfl rfl ?_
      refine q_getr rfl rfl (by first | rfl | assumption) rfl rfl ?_
      refine wp_iload_n rfl rfl ?_
      refine q_iald rfl (by first | rfl | assumption) (by assumption) ?_
      exact wp_iret rfl rfl (⟨by rw [if_pos hv, hcl] at *; simp (disch := omega) only [uI_ne, hcl] at *; simp only [aFact]; grind [b2], rfl⟩)
    by_cases e10_3 : x = 3
    · subst e10_3
      refine wp_tsIn 26 rfl (by decide) (by decide) rfl rfl ?_
      refine wp_aload_n rfl rfl ?_
      refine q_getr rfl rfl (by first | rfl | assumption) rfl rfl ?_
      refine wp_iload_n rfl rfl ?_
      refine q_iald rfl (by first | rfl | assumption) (by assumption) ?_
      exact wp_iret rfl rfl (⟨by rw [if_pos hv, hcl] at *; simp (disch := omega) only [uI_ne, hcl] at *; simp only [aFact]; grind [b2], rfl⟩)
    by_cases e10_4 : x = 4
    · subst e10_4
      refine wp_tsIn 31 rfl (by decide) (by decide) rfl rfl ?_
      refine wp_aload_n rfl rfl ?_
      refine q_getr rfl rfl (by first | rfl | assumption) rfl rfl ?_
      refine wp_iload_n rfl rfl ?_
      refine q_iald rfl (by first | rfl | assumption) (by assumption) ?_
      exact wp_iret rfl rfl (⟨by rw [if_pos hv, hcl] at *; simp (disch := omega) only [uI_ne, hcl] at *; simp only [aFact]; grind [b2], rfl⟩)
    by_cases e10_5 : x = 5
    · subst e10_5
      refine wp_tsIn 36 rfl (by decide) (by decide) rfl rfl ?_
      refine wp_aload_n rfl rfl ?_
      refine q_getr rfl rfl (by first | rfl | assumption) rfl rfl ?_
      refine wp_iload_n rfl rfl ?_
      refine q_iald rfl (by first | rfl | assumption) (by assumption) ?_
      exact wp_iret rfl rfl (⟨by rw [if_pos hv, hcl] at *; simp (disch := omega) only [uI_ne, hcl] at *; simp only [aFact]; grind [b2], rfl⟩)
    refine wp_tsOut 41 rfl (by have a0 := lv_neT e10_0 (a := 0) rfl; have a1 := lv_neT e10_1 (a := 1) rfl; have a2 := lv_neT e10_2 (a := 2) rfl; have a3 := lv_neT e10_3 (a := 3) rfl; have a4 := lv_neT e10_4 (a := 4) rfl; have a5 := lv_neT e10_5 (a := 5) rfl; omega) rfl ?_
    refine wp_bipush (v := (-2)) rfl rfl ?_
    exact wp_iret rfl rfl (⟨by rw [if_pos hv, hcl] at *; simp (disch := omega) only [uI_ne, hcl] at *; simp only [aFact]; grind [b2], rfl⟩)
  · refine wp_bipush (v := (-2)) rfl rfl ?_
    exact wp_iret rfl rfl (⟨by have e := (isAr h.1 v).2; rw [e0] at h6; grind [b2], rfl⟩)
theorem s_areaOf {G : Gl} {d : Nat} {I : IF} {L : LF} {b : Bool} (v x : Int32) (h : InvA I L) : StepA G (d + 2) Y_X10_areaOf Y_X11_areaOf [.int v, .int x] I L b := by
  obtain ⟨nm, na, nr, h⟩ := h
  exact StepA.query h (c_X10_areaOf G d v x I L b h.1) (c_X11_areaOf G d v x I L b h)
/-- the sum below the line is above 0 -/
theorem sqD_pos {x y a b : Int32} (hx : 0 ≤ x ∧ x ≤ 100) (hy : 0 ≤ y ∧ y ≤ 100) (ha : 0 ≤ a ∧ a ≤ 100) (hb : 0 ≤ b ∧ b ≤ 100) : 10 ≤ sqD x y a b ∧ sqD x y a b ≤ 20010 := by
  obtain ⟨i, i1, rfl⟩ := nI_of2 (M := 100) (n := 100) rfl (by grind) hx.2
  obtain ⟨j, j1, rfl⟩ := nI_of2 (M := 100) (n := 100) rfl (by grind) hy.2
  obtain ⟨k, k1, rfl⟩ := nI_of2 (M := 100) (n := 100) rfl (by grind) ha.2
  obtain ⟨l, l1, rfl⟩ := nI_of2 (M := 100) (n := 100) rfl (by grind) hb.2
  have key : ∀ i j : Nat, i ≤ 100 → j ≤ 100 → ∃ q : Nat, q ≤ 10000 ∧ (nI i - nI j) * (nI i - nI j) = nI q := by
    intro i j hi hj
    rcases Nat.le_total j i with z | z
    · refine ⟨(i - j) * (i - j), Nat.mul_le_mul (show i - j ≤ 100 by omega) (show i - j ≤ 100 by omega), ?_⟩
      rw [pk_sub z, pk_mul]
    · refine ⟨(j - i) * (j - i), Nat.mul_le_mul (show j - i ≤ 100 by omega) (show j - i ≤ 100 by omega), ?_⟩
      rw [← pk_mul, ← pk_sub z]
      grind
  obtain ⟨q1, h1, e1⟩ := key i k i1 k1
  obtain ⟨q2, h2, e2⟩ := key j l j1 l1
  unfold sqD
  rw [e1, e2, show (10 : Int32) = nI 10 from rfl, nI_add, nI_add]
  exact ⟨nI_le (by omega) (by omega), nI_le (b := 20010) (by omega) (by omega)⟩
theorem sq_ne {nm na nr : Nat} {I : IF} {L : LF} (h : IV nm na nr I L) {m a : Nat} (hm : m < 14) (ha : a < 16) : ¬ sqD (I (4 + m) 0) (I (4 + m) 1) (I (18 + a) 0) (I (18 + a) 1) = 0 := by
  have z := h.2.2.1 m hm
  have y := h.2.2.2.2.2.2.2.1 a ha
  have := sqD_pos z.2.1 z.2.2.1 y.2.1 y.2.2.1
  grind
/-- STRENGTH of sender m at area a -/
def stg (I : IF) (m a : Nat) : Int32 := strg (I (4 + m) 2) (I (4 + m) 0) (I (4 + m) 1) (I (18 + a) 0) (I (18 + a) 1)
theorem stg_m {nm na nr : Nat} {I : IF} {L : LF} (h : IV nm na nr I L) {m a : Nat} (hm : m < 14) (ha : a < 16) : strg (I 79 m) (I 77 m) (I 78 m) (I 86 a) (I 87 a) = stg I m a ∧ sqD (I 77 m) (I 78 m) (I 86 a) (I 87 a) = sqD (I (4 + m) 0) (I (4 + m) 1) (I (18 + a) 0) (I (18 + a) 1) := by
  have z := h.2.2.1 m hm
  have y := h.2.2.2.2.2.2.2.1 a ha
  unfold stg
  rw [z.1.1, z.1.2.1, z.1.2.2.1, y.1.1, y.1.2.1]
  exact ⟨rfl, rfl⟩
/-- the contracts of strengthAt and at, by numbers -/
theorem d_strengthAt (G : Gl) (d : Nat) {nm na nr m a : Nat} {I : IF} {L : LF} (R : RF) (h : IV nm na nr I L) (hm : m < 14) (ha : a < 16) : MD G d Y_X4_strengthAt [.ref (4 + m), .ref (18 + a)] (I, L, R) (some (.int (stg I m a))) (I, L, R) :=
  c_X4_strengthAt G d (4 + m) (18 + a) I L R (sh_mast m hm) (sh_area a ha) (sq_ne h hm ha)
theorem d_at (G : Gl) (d : Nat) {nm na nr m a : Nat} {I : IF} {L : LF} (b : Bool) (h : IV nm na nr I L) (hm : m < 14) (ha : a < 16) {x y : Int32} (hx : x = nI m) (hy : y = nI a) : MD G d Y_X11_at [.ref 72, .int x, .int y] (I, L, RR b) (some (.int (stg I m a))) (I, L, RR b) := by
  subst hx
  subst hy
  have c1 : (nI m).toNatClampNeg = m := nI_clamp (by omega)
  have c2 : (nI a).toNatClampNeg = a := nI_clamp (by omega)
  have k := c_X11_at G d (nI m) (nI a) I L b (vp_in_nI hm (by omega)) (vp_in_nI ha (by omega)) (by rw [c1, c2, (stg_m h hm ha).2]; exact sq_ne h hm ha)
  rw [c1, c2, (stg_m h hm ha).1] at k
  exact k
theorem isSd {nm na nr : Nat} {I : IF} (h : IVc nm na nr I) (v : Int32) : ((0 ≤ v ∧ v < I 1 2) ∨ (10 ≤ v ∧ v - 10 < I 1 3) → ∃ m, m < 14 ∧ v = nI m ∧ v.toNatClampNeg = m ∧ (m < nm ∨ (10 ≤ m ∧ m < 10 + na))) ∧ ((10 ≤ v ∧ v ≤ 10 + I 72 6 - 1) ↔ (10 ≤ v ∧ v - 10 < I 1 3)) := by
  have hM := isM h v
  obtain ⟨⟨-, -, h0⟩, ⟨h1, h2, h3⟩, -⟩ := h
  have a' : (0 : Int32) ≤ nI na := (nI_b (n := na) (k := 4) h3 (by omega)).1
  have c' : nI na ≤ (4 : Int32) := (nI_b (n := na) (k := 4) h3 (by omega)).2
  refine ⟨fun hv => ?_, ?_⟩
  · rcases hv with hv | hv
    · obtain ⟨m, e1, e2, e3⟩ := hM.1 hv
      exact ⟨m, by omega, e2, e3, Or.inl e1⟩
    · rw [h1] at hv
      have e4 : v < nI (10 + na) := by rw [← nI_add, show nI 10 = (10 : Int32) from rfl]; grind
      obtain ⟨m, hm, rfl⟩ := nI_get (x := v) (n := 10 + na) (by grind) e4 (by omega)
      have e5 : 10 ≤ m := (nI_leI (a := 10) (b := m) (by omega) (by omega)).mp hv.1
      exact ⟨m, by omega, rfl, nI_clamp (by omega), Or.inr ⟨e5, hm⟩⟩
  · rw [h1, h2]
    grind
theorem c_X10_strength (G : Gl) (d : Nat) {nm na nr : Nat} (v x : Int32) (I : IF) (L : LF) (b : Bool) (h : IV nm na nr I L) : MD G (d + 2) Y_X10_strength [.ref 0, .int v, .int x] (I, L, RR b) (some (.int (if ((0 ≤ v ∧ v < I 1 2) ∨ (10 ≤ v ∧ v - 10 < I 1 3)) ∧ 0 ≤ x ∧ x < I 1 4 then stg I v.toNatClampNeg x.toNatClampNeg else -2))) (I, L, RR b) := by
  refine MT.intro m_X10_strength rfl (Nat.le_of_ble_eq_true rfl) ?_
  show WQ G (d + 2) Y_X10_strength _ 0 [(0, .ref 0), (1, .int v), (2, .int x)] [] (I, L, RR b)
  refine wp_aload_n rfl rfl ?_
  refine q_getr rfl rfl (by first | rfl | assumption) rfl rfl ?_
  refine wp_iload_n rfl rfl ?_
  refine cV1 rfl l_10_176 i_X1_isSender m_X1_isSender (by first | rfl | assumption) (by decide) (c_X1_isSender G _ _ _ _ _) rfl (Nat.le_of_ble_eq_true rfl) ?_
  refine wp_if_eq 10 rfl rfl (fun h4 => ?_) (fun h4 => ?_)
  · refine wp_bipush (v := (-2)) rfl rfl ?_
    exact wp_iret rfl rfl (⟨by grind [b2], rfl⟩)
  · refine wp_aload_n rfl rfl ?_
    refine q_getr rfl rfl (by first | rfl | assumption) rfl rfl ?_
    refine wp_iload_n rfl rfl ?_
    refine cV1 rfl l_10_163 i_X1_isArea m_X1_isArea (by first | rfl | assumption) (by decide) (c_X1_isArea G _ _ _ _ _) rfl (Nat.le_of_ble_eq_true rfl) ?_
    refine wp_if_ne 12 rfl rfl (fun h9 => ?_) (fun h9 => ?_)
    · have hv := b2_ne.mp h4
      have hx := b2_ne.mp h9
      obtain ⟨m, hm, hvm, hcl, -⟩ := (isSd h.1 v).1 hv
      obtain ⟨a, ha, hxa, hca⟩ := (isAr h.1 x).1 hx
      have ha16 : a < 16 := by have := h.1.2.2.2.2; omega
      have hsm := sh_mast m hm
      refine wp_aload_n rfl rfl ?_
      refine q_getr rfl rfl (by first | rfl | assumption) rfl rfl ?_
      refine q_getr rfl rfl (by first | rfl | assumption) rfl rfl ?_
      refine wp_iload_n rfl rfl ?_
      refine q_mast rfl hvm hm ?_
      refine wp_aload_n rfl rfl ?_
      refine q_getr rfl rfl (by first | rfl | assumption) rfl rfl ?_
      refine q_getr rfl rfl (by first | rfl | assumption) rfl rfl ?_
      refine wp_iload_n rfl rfl ?_
      refine q_area rfl hxa ha16 ?_
      refine cV1 rfl l_10_179 i_X4_strengthAt m_X4_strengthAt (by first | rfl | assumption) (by decide) (d_strengthAt G _ _ h hm ha16) rfl (Nat.le_of_ble_eq_true rfl) ?_
      exact wp_iret rfl rfl (⟨by grind [b2], rfl⟩)
    · refine wp_bipush (v := (-2)) rfl rfl ?_
      exact wp_iret rfl rfl (⟨by grind [b2], rfl⟩)
theorem c_X11_strength (G : Gl) (d : Nat) {nm na nr : Nat} (v x : Int32) (I : IF) (L : LF) (b : Bool) (h : IV nm na nr I L) : MD G (d + 2) Y_X11_strength [.ref 72, .int v, .int x] (I, L, RR b) (some (.int (if ((0 ≤ v ∧ v < I 1 2) ∨ (10 ≤ v ∧ v - 10 < I 1 3)) ∧ 0 ≤ x ∧ x < I 1 4 then stg I v.toNatClampNeg x.toNatClampNeg else -2))) (uI I 72 0 0, L, RR b) := by
  have h' := IV_thr h
  have iA := (isAr h'.1 x)
  have iM := (isM h'.1 v)
  have iS := (isSd h'.1 v)
  have es : ∀ m a, m < 14 → a < 16 → stg (uI I 72 0 0) m a = stg I m a := by intro m a hm ha; unfold stg; simp (disch := omega) only [uI_ne]
  have e1 : uI I 72 0 0 1 2 = I 1 2 := rfl
  have e2 : uI I 72 0 0 1 3 = I 1 3 := rfl
  have e3 : uI I 72 0 0 1 4 = I 1 4 := rfl
  refine MT.intro m_X11_strength rfl (Nat.le_of_ble_eq_true rfl) ?_
  show WQ G (d + 2) Y_X11_strength _ 0 [(0, .ref 72), (1, .int v), (2, .int x)] [] (I, L, RR b)
  refine wp_aload_n rfl rfl ?_
  refine wp_iconst (v := 0) rfl rfl ?_
  refine q_puti rfl rfl (by first | rfl | assumption) (Or.inl rfl) rfl ?_
  refine wp_aload_n rfl rfl ?_
  refine wp_iload_n rfl rfl ?_
  refine cV1 rfl l_11_162 i_X11_isArea m_X11_isArea (by first | rfl | assumption) (by decide) (c_X11_isArea G _ _ _ _ _) rfl (Nat.le_of_ble_eq_true rfl) ?_
  refine wp_if_eq 28 rfl rfl (fun h6 => ?_) (fun h6 => ?_)
  · refine wp_bipush (v := (-2)) rfl rfl ?_
    exact wp_iret rfl rfl (⟨by first | (rw [es _ _ hm ha16]; grind [b2]) | grind [b2], rfl⟩)
  · refine wp_aload_n rfl rfl ?_
    refine wp_iload_n rfl rfl ?_
    refine cV1 rfl l_11_165 i_X11_isMast m_X11_isMast (by first | rfl | assumption) (by decide) (c_X11_isMast G _ _ _ _ _) rfl (Nat.le_of_ble_eq_true rfl) ?_
    refine wp_if_ne 23 rfl rfl (fun h10 => ?_) (fun h10 => ?_)
    · have hx := iA.2.mp (b2_ne.mp h6)
      have hv : (0 ≤ v ∧ v < uI I 72 0 0 1 2) ∨ (10 ≤ v ∧ v - 10 < uI I 72 0 0 1 3) := by first | exact Or.inl (iM.2.mp (b2_ne.mp h10)) | exact Or.inr (iS.2.mp (b2_ne.mp h22))
      obtain ⟨m, hm, hvm, hcl, -⟩ := iS.1 hv
      obtain ⟨a, ha, hxa, hca⟩ := iA.1 hx
      have ha16 : a < 16 := by have := h.1.2.2.2.2; omega
      refine wp_aload_n rfl rfl ?_
      refine wp_iload_n rfl rfl ?_
      refine wp_iload_n rfl rfl ?_
      refine cV1 rfl l_11_172 i_X11_at m_X11_at (by first | rfl | assumption) (by decide) (d_at G _ _ h' hm ha16 hvm hxa) rfl (Nat.le_of_ble_eq_true rfl) ?_
      refine wp_goto 29 rfl rfl ?_
      exact wp_iret rfl rfl (⟨by first | (rw [es _ _ hm ha16]; grind [b2]) | grind [b2], rfl⟩)
    · refine wp_iload_n rfl rfl ?_
      refine wp_i2l rfl ?_
      refine wp_ldc2 (v := (10)) rfl cl_11_176 ?_
      refine wp_bipush (v := 10) rfl rfl ?_
      refine wp_aload_n rfl rfl ?_
      refine q_geti rfl rfl (by first | rfl | assumption) rfl ?_
      refine wp_iadd rfl ?_
      refine wp_iconst (v := 1) rfl rfl ?_
      refine wp_isub rfl ?_
      refine wp_i2l rfl ?_
      refine cS1 rfl l_11_119 s_X11_in m_X11_in (c_inI G _ _ 10 (10 + uI I 72 0 0 72 6 - 1) rfl rfl _) rfl (Nat.le_of_ble_eq_true rfl) ?_
      refine wp_if_eq 28 rfl rfl (fun h22 => ?_) (fun h22 => ?_)
      · refine wp_bipush (v := (-2)) rfl rfl ?_
        exact wp_iret rfl rfl (⟨by first | (rw [es _ _ hm ha16]; grind [b2]) | grind [b2], rfl⟩)
      · have hx := iA.2.mp (b2_ne.mp h6)
        have hv : (0 ≤ v ∧ v < uI I 72 0 0 1 2) ∨ (10 ≤ v ∧ v - 10 < uI I 72 0 0 1 3) := by first | exact Or.inl (iM.2.mp (b2_ne.mp h10)) | exact Or.inr (iS.2.mp (b2_ne.mp h22))
        obtain ⟨m, hm, hvm, hcl, -⟩ := iS.1 hv
        obtain ⟨a, ha, hxa, hca⟩ := iA.1 hx
        have ha16 : a < 16 := by have := h.1.2.2.2.2; omega
        refine wp_aload_n rfl rfl ?_
        refine wp_iload_n rfl rfl ?_
        refine wp_iload_n rfl rfl ?_
        refine cV1 rfl l_11_172 i_X11_at m_X11_at (by first | rfl | assumption) (by decide) (d_at G _ _ h' hm ha16 hvm hxa) rfl (Nat.le_of_ble_eq_true rfl) ?_
        refine wp_goto 29 rfl rfl ?_
        exact wp_iret rfl rfl (⟨by first | (rw [es _ _ hm ha16]; grind [b2]) | grind [b2], rfl⟩)
end
section
/-! fail, aim, on -/
theorem s_strength {G : Gl} {d : Nat} {I : IF} {L : LF} {b : Bool} (v x : Int32) (h : InvA I L) : StepA G (d + 2) Y_X10_strength Y_X11_strength [.int v, .int x] I L b := by
  obtain ⟨nm, na, nr, h⟩ := h
  exact StepA.query h (c_X10_strength G d v x I L b h) (c_X11_strength G d v x I L b h)
theorem c_X10_fail_ok (G : Gl) (d : Nat) {nm na nr m : Nat} (z : Int32) (I : IF) (L : LF) (b : Bool) (h : IVc nm na nr I) (hm : m < nm) (hz : z = 0 ∨ z = 1) (hne : ¬ I (4 + m) 10 = z) : MD G (d + 1) Y_X10_fail [.ref 0, .int (nI m), .int z] (I, L, RR b) (some (.int 1)) (uI I (4 + m) 10 z, L, RR b) := by
  have hm10 : m < 10 := by have := h.1.2.2; omega
  have hsm := sh_mast m (by omega)
  have hlt : (0 : Int32) ≤ nI m ∧ nI m < I 1 2 := ⟨nI_pos' (by omega), by rw [h.1.1]; exact nI_lt hm (by have := h.1.2.2; omega)⟩
  refine MT.intro m_X10_fail rfl (Nat.le_of_ble_eq_true rfl) ?_
  show WQ G (d + 1) Y_X10_fail _ 0 [(0, .ref 0), (1, .int (nI m)), (2, .int z)] [] (I, L, RR b)
  refine wp_aload_n rfl rfl ?_
  refine q_getr rfl rfl (by first | rfl | assumption) rfl rfl ?_
  refine wp_iload_n rfl rfl ?_
  refine cV1 rfl l_10_91 i_X1_isMast m_X1_isMast (by first | rfl | assumption) (by decide) (c_X1_isMast G _ _ _ _ _) rfl (Nat.le_of_ble_eq_true rfl) ?_
  refine wp_if_eq 13 rfl rfl (fun h4 => ?_) (fun h4 => ?_)
  · exfalso; grind [b2]
  · refine wp_aload_n rfl rfl ?_
    refine q_getr rfl rfl (by first | rfl | assumption) rfl rfl ?_
    refine q_getr rfl rfl (by first | rfl | assumption) rfl rfl ?_
    refine wp_iload_n rfl rfl ?_
    refine q_mast rfl rfl (by omega) ?_
    refine q_geti rfl rfl (by first | rfl | assumption) rfl ?_
    refine wp_iload_n rfl rfl ?_
    refine wp_icmp_ne 15 rfl rfl (fun h12 => ?_) (fun h12 => ?_)
    · refine wp_aload_n rfl rfl ?_
      refine q_getr rfl rfl (by first | rfl | assumption) rfl rfl ?_
      refine q_getr rfl rfl (by first | rfl | assumption) rfl rfl ?_
      refine wp_iload_n rfl rfl ?_
      refine q_mast rfl rfl (by omega) ?_
      refine wp_iload_n rfl rfl ?_
      refine q_putz rfl rfl (by first | rfl | assumption) (Or.inl rfl) rfl (by assumption) ?_
      refine wp_iconst (v := 1) rfl rfl ?_
      exact wp_zret rfl rfl (by first | rfl | exact nb2 _ | assumption) (⟨rfl, rfl⟩)
    · exfalso; grind [b2]
theorem c_X10_fail_no (G : Gl) (d : Nat) {nm na nr : Nat} (v z : Int32) (I : IF) (L : LF) (b : Bool) (h : IVc nm na nr I) (hno : (0 ≤ v ∧ v < I 1 2) → I (4 + v.toNatClampNeg) 10 = z) : MD G (d + 1) Y_X10_fail [.ref 0, .int v, .int z] (I, L, RR b) (some (.int 0)) (I, L, RR b) := by
  refine MT.intro m_X10_fail rfl (Nat.le_of_ble_eq_true rfl) ?_
  show WQ G (d + 1) Y_X10_fail _ 0 [(0, .ref 0), (1, .int v), (2, .int z)] [] (I, L, RR b)
  refine wp_aload_n rfl rfl ?_
  refine q_getr rfl rfl (by first | rfl | assumption) rfl rfl ?_
  refine wp_iload_n rfl rfl ?_
  refine cV1 rfl l_10_91 i_X1_isMast m_X1_isMast (by first | rfl | assumption) (by decide) (c_X1_isMast G _ _ _ _ _) rfl (Nat.le_of_ble_eq_true rfl) ?_
  refine wp_if_eq 13 rfl rfl (fun h4 => ?_) (fun h4 => ?_)
  · refine wp_iconst (v := 0) rfl rfl ?_
    exact wp_zret rfl rfl (by first | rfl | exact nb2 _ | assumption) (⟨rfl, rfl⟩)
  · have hv := b2_ne.mp h4
    obtain ⟨m, hm, hvm, hcl⟩ := (isM h v).1 hv
    have hm14 : m < 14 := by have := h.1.2.2; omega
    have hsm := sh_mast m hm14
    refine wp_aload_n rfl rfl ?_
    refine q_getr rfl rfl (by first | rfl | assumption) rfl rfl ?_
    refine q_getr rfl rfl (by first | rfl | assumption) rfl rfl ?_
    refine wp_iload_n rfl rfl ?_
    refine q_mast rfl hvm hm14 ?_
    refine q_geti rfl rfl (by first | rfl | assumption) rfl ?_
    refine wp_iload_n rfl rfl ?_
    refine wp_icmp_ne 15 rfl rfl (fun h12 => ?_) (fun h12 => ?_)
    · exfalso; grind [b2]
    · refine wp_iconst (v := 0) rfl rfl ?_
      exact wp_zret rfl rfl (by first | rfl | exact nb2 _ | assumption) (⟨rfl, rfl⟩)
theorem c_X11_fail_ok (G : Gl) (d : Nat) {nm na nr m : Nat} (z : Int32) (I : IF) (L : LF) (b : Bool) (h : IVc nm na nr I) (hm : m < nm) (hz : z = 0 ∨ z = 1) (hne : ¬ I 85 m = z) : MD G (d + 2) Y_X11_fail [.ref 72, .int (nI m), .int z] (I, L, RR b) (some (.int 1)) (uI (uI I 72 0 0) 85 m z, L, RR b) := by
  have hm10 : m < 10 := by have := h.1.2.2; omega
  have hlt := (isM h (nI m)).2.mpr ⟨nI_pos' (by omega), by rw [h.1.1]; exact nI_lt hm (by have := h.1.2.2; omega)⟩
  have hin : vp_in (nI m) 10 := vp_in_nI hm10 (by omega)
  have hcl : (nI m).toNatClampNeg = m := nI_clamp (by omega)
  refine MT.intro m_X11_fail rfl (Nat.le_of_ble_eq_true rfl) ?_
  show WQ G (d + 2) Y_X11_fail _ 0 [(0, .ref 72), (1, .int (nI m)), (2, .int z)] [] (I, L, RR b)
  refine wp_aload_n rfl rfl ?_
  refine wp_iconst (v := 0) rfl rfl ?_
  refine q_puti rfl rfl (by first | rfl | assumption) (Or.inl rfl) rfl ?_
  refine wp_aload_n rfl rfl ?_
  refine wp_iload_n rfl rfl ?_
  refine cV1 rfl l_11_165 i_X11_isMast m_X11_isMast (by first | rfl | assumption) (by decide) (c_X11_isMast G _ _ _ _ _) rfl (Nat.le_of_ble_eq_true rfl) ?_
  refine wp_if_eq 13 rfl rfl (fun h6 => ?_) (fun h6 => ?_)
  · exfalso; simp (disch := omega) only [uI_ne, uI_nk, hcl] at *; grind [b2]
  · refine wp_aload_n rfl rfl ?_
    refine q_getr rfl rfl (by first | rfl | assumption) rfl rfl ?_
    refine wp_iload_n rfl rfl ?_
    refine q_zald rfl (by first | rfl | assumption) (by assumption) ?_
    refine wp_iload_n rfl rfl ?_
    refine wp_icmp_ne 15 rfl rfl (fun h12 => ?_) (fun h12 => ?_)
    · refine wp_aload_n rfl rfl ?_
      refine q_getr rfl rfl (by first | rfl | assumption) rfl rfl ?_
      refine wp_iload_n rfl rfl ?_
      refine wp_iload_n rfl rfl ?_
      refine q_zast rfl (by first | rfl | assumption) (by assumption) ?_
      refine wp_iconst (v := 1) rfl rfl ?_
      exact wp_zret rfl rfl (by first | rfl | exact nb2 _ | assumption) (⟨rfl, by rw [hcl, nar01 hz]⟩)
    · exfalso; simp (disch := omega) only [uI_ne, uI_nk, hcl] at *; grind [b2]
theorem c_X11_fail_no (G : Gl) (d : Nat) {nm na nr : Nat} (v z : Int32) (I : IF) (L : LF) (b : Bool) (h : IVc nm na nr I) (hno : (0 ≤ v ∧ v < I 1 2) → I 85 v.toNatClampNeg = z) : MD G (d + 2) Y_X11_fail [.ref 72, .int v, .int z] (I, L, RR b) (some (.int 0)) (uI I 72 0 0, L, RR b) := by
  refine MT.intro m_X11_fail rfl (Nat.le_of_ble_eq_true rfl) ?_
  show WQ G (d + 2) Y_X11_fail _ 0 [(0, .ref 72), (1, .int v), (2, .int z)] [] (I, L, RR b)
  refine wp_aload_n rfl rfl ?_
  refine wp_iconst (v := 0) rfl rfl ?_
  refine q_puti rfl rfl (by first | rfl | assumption) (Or.inl rfl) rfl ?_
  refine wp_aload_n rfl rfl ?_
  refine wp_iload_n rfl rfl ?_
  refine cV1 rfl l_11_165 i_X11_isMast m_X11_isMast (by first | rfl | assumption) (by decide) (c_X11_isMast G _ _ _ _ _) rfl (Nat.le_of_ble_eq_true rfl) ?_
  refine wp_if_eq 13 rfl rfl (fun h6 => ?_) (fun h6 => ?_)
  · refine wp_iconst (v := 0) rfl rfl ?_
    exact wp_zret rfl rfl (by first | rfl | exact nb2 _ | assumption) (⟨rfl, rfl⟩)
  · have hv := (isM h v).2.mp (b2_ne.mp h6)
    obtain ⟨m, hm, hvm, hcl⟩ := (isM h v).1 hv
    have hin : vp_in v 10 := by rw [hvm]; exact vp_in_nI (by have := h.1.2.2; omega) (by omega)
    refine wp_aload_n rfl rfl ?_
    refine q_getr rfl rfl (by first | rfl | assumption) rfl rfl ?_
    refine wp_iload_n rfl rfl ?_
    refine q_zald rfl (by first | rfl | assumption) (by assumption) ?_
    refine wp_iload_n rfl rfl ?_
    refine wp_icmp_ne 15 rfl rfl (fun h12 => ?_) (fun h12 => ?_)
    · exfalso; simp (disch := omega) only [uI_ne] at *; grind [b2]
    · refine wp_iconst (v := 0) rfl rfl ?_
      exact wp_zret rfl rfl (by first | rfl | exact nb2 _ | assumption) (⟨rfl, rfl⟩)
theorem s_fail {G : Gl} {d : Nat} {I : IF} {L : LF} {b : Bool} (v z : Int32) (hz : z = 0 ∨ z = 1) (h : InvA I L) : StepA G (d + 2) Y_X10_fail Y_X11_fail [.int v, .int z] I L b := by
  obtain ⟨nm, na, nr, h⟩ := h
  by_cases hok : (0 ≤ v ∧ v < I 1 2) ∧ ¬ I (4 + v.toNatClampNeg) 10 = z
  · obtain ⟨hv, hne⟩ := hok
    obtain ⟨m, hm, rfl, hcl⟩ := (isM h.1 v).1 hv
    rw [hcl] at hne
    have hm10 : m < 10 := by have := h.1.1.2.2; omega
    obtain ⟨a1, a2, a3, a4, a5, a6, a7, a8, a9, a10, a11⟩ := id h
    have c1 := c_X10_fail_ok G (d + 1) z I L b h.1 hm hz hne
    have c2 := c_X11_fail_ok G d (nm := nm) (na := na) (nr := nr) (m := m) z (uI I (4 + m) 10 z) L b (by
      obtain ⟨⟨u1, u2, u3⟩, ⟨v1, v2, v3⟩, w1, w2, w3⟩ := a1
      refine ⟨⟨?_, ?_, u3⟩, ⟨?_, ?_, v3⟩, ?_, ?_, w3⟩ <;> simp (disch := omega) only [uI_ne] <;> assumption) hm hz (by simp (disch := omega) only [uI_ne]; rw [(a4 m hm10).2.2.1.1]; exact hne)
    refine ⟨_, _, _, _, _, c1, c2, ⟨nm, na, nr, ?_, ?_, ?_, ?_, ?_, ?_, ?_, ?_, ?_, ?_, ?_⟩, ?_, ?_⟩
    · unfold IVc at a1 ⊢; simp (disch := omega) only [uI_ne, uI_nk, uI_eq]; exact a1
    · unfold IVs at a2 ⊢; simp (disch := omega) only [uI_ne, uI_nk, uI_eq]; exact a2
    · intro k hk
      have z3 := a3 k hk
      by_cases e : k = m
      · subst e; simp (disch := omega) only [uI_ne, uI_nk, uI_eq]; exact z3
      · simp (disch := omega) only [uI_ne, uI_nk, uI_eq]; exact z3
    · intro k hk
      have z3 := a4 k hk
      by_cases e : k = m
      · subst e; simp (disch := omega) only [uI_ne, uI_nk, uI_eq]; grind
      · simp (disch := omega) only [uI_ne, uI_nk, uI_eq]; exact z3
    · intro k hk
      have z3 := a5 k hk
      have := a1.1.2.2
      by_cases e : k = m
      · subst e; simp (disch := omega) only [uI_ne, uI_nk, uI_eq]; exact z3
      · simp (disch := omega) only [uI_ne, uI_nk, uI_eq]; exact z3
    · intro k hk; simp (disch := omega) only [uI_ne, uI_nk, uI_eq]; exact a6 k hk
    · intro k hk
      have z3 := a7 k hk
      by_cases e : k = m
      · subst e; simp (disch := omega) only [uI_ne, uI_nk, uI_eq]; exact z3
      · simp (disch := omega) only [uI_ne, uI_nk, uI_eq]; exact z3
    · intro k hk; simp (disch := omega) only [uI_ne, uI_nk, uI_eq]; exact a8 k hk
    · intro k hk; simp (disch := omega) only [uI_ne, uI_nk, uI_eq]; exact a9 k hk
    · unfold IVt at a10 ⊢; simp (disch := omega) only [uI_ne, uI_nk, uI_eq]; exact a10
    · intro k hk; simp (disch := omega) only [uI_ne, uI_nk, uI_eq]; exact a11 k hk
    · intro a ha; funext k; simp (disch := omega) only [uI_ne, uI_nk, uI_eq]
    · simp (disch := omega) only [uI_ne, uI_nk, uI_eq]
  · have hno : (0 ≤ v ∧ v < I 1 2) → I (4 + v.toNatClampNeg) 10 = z := by
      intro hv
      by_cases e : I (4 + v.toNatClampNeg) 10 = z
      · exact e
      · exact absurd ⟨hv, e⟩ hok
    refine StepA.query h (c_X10_fail_no G (d + 1) v z I L b h.1 hno) (c_X11_fail_no G d v z I L b h.1 (fun hv => ?_))
    obtain ⟨m, hm, -, hcl⟩ := (isM h.1 v).1 hv
    rw [← hno hv, hcl]
    exact (h.2.2.2.1 m (by have := h.1.1.2.2; omega)).2.2.1.1
theorem c_X10_aim_ok (G : Gl) (d : Nat) {nm na nr a : Nat} (v : Int32) (I : IF) (L : LF) (b : Bool) (h : IVc nm na nr I) (ha : a < nr) (hv : v = -1 ∨ (0 ≤ v ∧ v < I 1 2)) : MD G (d + 1) Y_X10_aim [.ref 0, .int (nI a), .int v] (I, L, RR b) (some (.int (I (18 + a) 6))) (if I (18 + a) 6 = v then I else uI (uI I (18 + a) 6 v) (18 + a) 7 (I (18 + a) 7 + 1), L, RR b) := by
  have ha16 : a < 16 := by have := h.2.2.2.2; omega
  have hsm := sh_area a (by omega)
  have hlt : (0 : Int32) ≤ nI a ∧ nI a < I 1 4 := ⟨nI_pos' (by omega), by rw [h.2.2.1]; exact nI_lt ha (by have := h.2.2.2.2; omega)⟩
  refine MT.intro m_X10_aim rfl (Nat.le_of_ble_eq_true rfl) ?_
  show WQ G (d + 1) Y_X10_aim _ 0 [(0, .ref 0), (1, .int (nI a)), (2, .int v)] [] (I, L, RR b)
  refine wp_aload_n rfl rfl ?_
  refine q_getr rfl rfl (by first | rfl | assumption) rfl rfl ?_
  refine wp_iload_n rfl rfl ?_
  refine cV1 rfl l_10_163 i_X1_isArea m_X1_isArea (by first | rfl | assumption) (by decide) (c_X1_isArea G _ _ _ _ _) rfl (Nat.le_of_ble_eq_true rfl) ?_
  refine wp_if_eq 13 rfl rfl (fun h4 => ?_) (fun h4 => ?_)
  · exfalso; grind [b2]
  · refine wp_iload_n rfl rfl ?_
    refine wp_iconst (v := (-1)) rfl rfl ?_
    refine wp_icmp_eq 15 rfl rfl (fun h7 => ?_) (fun h7 => ?_)
    · refine wp_aload_n rfl rfl ?_
      refine q_getr rfl rfl (by first | rfl | assumption) rfl rfl ?_
      refine q_getr rfl rfl (by first | rfl | assumption) rfl rfl ?_
      refine wp_iload_n rfl rfl ?_
      refine q_area rfl rfl (by omega) ?_
      refine q_geti rfl rfl (by first | rfl | assumption) rfl ?_
      refine wp_istore_n (lv' := [(3, _), (0, _), (1, _), (2, _)]) rfl rfl (by decide) rfl ?_
      refine wp_aload_n rfl rfl ?_
      refine q_getr rfl rfl (by first | rfl | assumption) rfl rfl ?_
      refine q_getr rfl rfl (by first | rfl | assumption) rfl rfl ?_
      refine wp_iload_n rfl rfl ?_
      refine q_area rfl rfl (by omega) ?_
      refine wp_iload_n rfl rfl ?_
      refine cV1 rfl l_10_169 i_X0_lookAt m_X0_lookAt (by first | rfl | assumption) (by decide) (c_X0_lookAt G _ _ _ _ _ _ hsm) rfl (Nat.le_of_ble_eq_true rfl) ?_
      refine wp_pop rfl rfl ?_
      refine wp_iload_n rfl rfl ?_
      exact wp_iret rfl rfl (⟨rfl, rfl⟩)
    · refine wp_aload_n rfl rfl ?_
      refine q_getr rfl rfl (by first | rfl | assumption) rfl rfl ?_
      refine wp_iload_n rfl rfl ?_
      refine cV1 rfl l_10_91 i_X1_isMast m_X1_isMast (by first | rfl | assumption) (by decide) (c_X1_isMast G _ _ _ _ _) rfl (Nat.le_of_ble_eq_true rfl) ?_
      refine wp_if_ne 15 rfl rfl (fun h12 => ?_) (fun h12 => ?_)
      · refine wp_aload_n rfl rfl ?_
        refine q_getr rfl rfl (by first | rfl | assumption) rfl rfl ?_
        refine q_getr rfl rfl (by first | rfl | assumption) rfl rfl ?_
        refine wp_iload_n rfl rfl ?_
        refine q_area rfl rfl (by omega) ?_
        refine q_geti rfl rfl (by first | rfl | assumption) rfl ?_
        refine wp_istore_n (lv' := [(3, _), (0, _), (1, _), (2, _)]) rfl rfl (by decide) rfl ?_
        refine wp_aload_n rfl rfl ?_
        refine q_getr rfl rfl (by first | rfl | assumption) rfl rfl ?_
        refine q_getr rfl rfl (by first | rfl | assumption) rfl rfl ?_
        refine wp_iload_n rfl rfl ?_
        refine q_area rfl rfl (by omega) ?_
        refine wp_iload_n rfl rfl ?_
        refine cV1 rfl l_10_169 i_X0_lookAt m_X0_lookAt (by first | rfl | assumption) (by decide) (c_X0_lookAt G _ _ _ _ _ _ hsm) rfl (Nat.le_of_ble_eq_true rfl) ?_
        refine wp_pop rfl rfl ?_
        refine wp_iload_n rfl rfl ?_
        exact wp_iret rfl rfl (⟨rfl, rfl⟩)
      · exfalso; grind [b2]
theorem c_X10_aim_no (G : Gl) (d : Nat) (x v : Int32) (I : IF) (L : LF) (b : Bool) (hno : ¬ ((0 ≤ x ∧ x < I 1 4) ∧ (v = -1 ∨ (0 ≤ v ∧ v < I 1 2)))) : MD G (d + 1) Y_X10_aim [.ref 0, .int x, .int v] (I, L, RR b) (some (.int (-2))) (I, L, RR b) := by
  refine MT.intro m_X10_aim rfl (Nat.le_of_ble_eq_true rfl) ?_
  show WQ G (d + 1) Y_X10_aim _ 0 [(0, .ref 0), (1, .int x), (2, .int v)] [] (I, L, RR b)
  refine wp_aload_n rfl rfl ?_
  refine q_getr rfl rfl (by first | rfl | assumption) rfl rfl ?_
  refine wp_iload_n rfl rfl ?_
  refine cV1 rfl l_10_163 i_X1_isArea m_X1_isArea (by first | rfl | assumption) (by decide) (c_X1_isArea G _ _ _ _ _) rfl (Nat.le_of_ble_eq_true rfl) ?_
  refine wp_if_eq 13 rfl rfl (fun h4 => ?_) (fun h4 => ?_)
  · refine wp_bipush (v := (-2)) rfl rfl ?_
    exact wp_iret rfl rfl (⟨rfl, rfl⟩)
  · refine wp_iload_n rfl rfl ?_
    refine wp_iconst (v := (-1)) rfl rfl ?_
    refine wp_icmp_eq 15 rfl rfl (fun h7 => ?_) (fun h7 => ?_)
    · exfalso; grind [b2]
    · refine wp_aload_n rfl rfl ?_
      refine q_getr rfl rfl (by first | rfl | assumption) rfl rfl ?_
      refine wp_iload_n rfl rfl ?_
      refine cV1 rfl l_10_91 i_X1_isMast m_X1_isMast (by first | rfl | assumption) (by decide) (c_X1_isMast G _ _ _ _ _) rfl (Nat.le_of_ble_eq_true rfl) ?_
      refine wp_if_ne 15 rfl rfl (fun h12 => ?_) (fun h12 => ?_)
      · exfalso; grind [b2]
      · refine wp_bipush (v := (-2)) rfl rfl ?_
        exact wp_iret rfl rfl (⟨rfl, rfl⟩)
theorem c_X11_aim_ok (G : Gl) (d : Nat) {nm na nr a : Nat} (v : Int32) (I : IF) (L : LF) (b : Bool) (h : IVc nm na nr I) (ha : a < nr) (hv : v = -1 ∨ (0 ≤ v ∧ v < I 1 2)) : MD G (d + 2) Y_X11_aim [.ref 72, .int (nI a), .int v] (I, L, RR b) (some (.int (I 92 a))) (if I 92 a = v then uI I 72 0 0 else uI (uI (uI I 72 0 0) 92 a v) 93 a (I 93 a + 1), L, RR b) := by
  have ha16 : a < 16 := by have := h.2.2.2.2; omega
  have hlt := (isAr h (nI a)).2.mpr ⟨nI_pos' (by omega), by rw [h.2.2.1]; exact nI_lt ha (by have := h.2.2.2.2; omega)⟩
  have hin : vp_in (nI a) 16 := vp_in_nI ha16 (by omega)
  have hcl : (nI a).toNatClampNeg = a := nI_clamp (by omega)
  have hM := (isM h v).2
  have k1 := c_X11_turned G (d + 1) (nI a) v (uI I 72 0 0) L b hin
  rw [hcl] at k1
  simp (disch := omega) only [uI_ne] at k1
  refine MT.intro m_X11_aim rfl (Nat.le_of_ble_eq_true rfl) ?_
  show WQ G (d + 2) Y_X11_aim _ 0 [(0, .ref 72), (1, .int (nI a)), (2, .int v)] [] (I, L, RR b)
  refine wp_aload_n rfl rfl ?_
  refine wp_iconst (v := 0) rfl rfl ?_
  refine q_puti rfl rfl (by first | rfl | assumption) (Or.inl rfl) rfl ?_
  refine wp_aload_n rfl rfl ?_
  refine wp_iload_n rfl rfl ?_
  refine cV1 rfl l_11_162 i_X11_isArea m_X11_isArea (by first | rfl | assumption) (by decide) (c_X11_isArea G _ _ _ _ _) rfl (Nat.le_of_ble_eq_true rfl) ?_
  refine wp_if_eq 14 rfl rfl (fun h6 => ?_) (fun h6 => ?_)
  · exfalso; simp (disch := omega) only [uI_nk] at *; grind [b2]
  · refine wp_iload_n rfl rfl ?_
    refine wp_iconst (v := (-1)) rfl rfl ?_
    refine wp_icmp_eq 16 rfl rfl (fun h9 => ?_) (fun h9 => ?_)
    · refine wp_aload_n rfl rfl ?_
      refine q_getr rfl rfl (by first | rfl | assumption) rfl rfl ?_
      refine wp_iload_n rfl rfl ?_
      refine q_iald rfl (by first | rfl | assumption) (by assumption) ?_
      refine wp_istore_n (lv' := [(3, _), (0, _), (1, _), (2, _)]) rfl rfl (by decide) rfl ?_
      refine wp_aload_n rfl rfl ?_
      refine wp_iload_n rfl rfl ?_
      refine wp_iload_n rfl rfl ?_
      refine cV1 rfl l_11_168 i_X11_turned m_X11_turned (by first | rfl | assumption) (by decide) (k1) rfl (Nat.le_of_ble_eq_true rfl) ?_
      refine wp_istore (lv' := [(4, _), (3, _), (0, _), (1, _), (2, _)]) rfl (by decide) rfl ?_
      refine wp_iload_n rfl rfl ?_
      exact wp_iret rfl rfl (⟨by rw [hcl]; rfl, rfl⟩)
    · refine wp_aload_n rfl rfl ?_
      refine wp_iload_n rfl rfl ?_
      refine cV1 rfl l_11_165 i_X11_isMast m_X11_isMast (by first | rfl | assumption) (by decide) (c_X11_isMast G _ _ _ _ _) rfl (Nat.le_of_ble_eq_true rfl) ?_
      refine wp_if_ne 16 rfl rfl (fun h13 => ?_) (fun h13 => ?_)
      · refine wp_aload_n rfl rfl ?_
        refine q_getr rfl rfl (by first | rfl | assumption) rfl rfl ?_
        refine wp_iload_n rfl rfl ?_
        refine q_iald rfl (by first | rfl | assumption) (by assumption) ?_
        refine wp_istore_n (lv' := [(3, _), (0, _), (1, _), (2, _)]) rfl rfl (by decide) rfl ?_
        refine wp_aload_n rfl rfl ?_
        refine wp_iload_n rfl rfl ?_
        refine wp_iload_n rfl rfl ?_
        refine cV1 rfl l_11_168 i_X11_turned m_X11_turned (by first | rfl | assumption) (by decide) (k1) rfl (Nat.le_of_ble_eq_true rfl) ?_
        refine wp_istore (lv' := [(4, _), (3, _), (0, _), (1, _), (2, _)]) rfl (by decide) rfl ?_
        refine wp_iload_n rfl rfl ?_
        exact wp_iret rfl rfl (⟨by rw [hcl]; rfl, rfl⟩)
      · exfalso; simp (disch := omega) only [uI_nk] at *; grind [b2]
theorem c_X11_aim_no (G : Gl) (d : Nat) {nm na nr : Nat} (x v : Int32) (I : IF) (L : LF) (b : Bool) (h : IVc nm na nr I) (hno : ¬ ((0 ≤ x ∧ x < I 1 4) ∧ (v = -1 ∨ (0 ≤ v ∧ v < I 1 2)))) : MD G (d + 2) Y_X11_aim [.ref 72, .int x, .int v] (I, L, RR b) (some (.int (-2))) (uI I 72 0 0, L, RR b) := by
  have hM := (isM h v).2
  have hA := (isAr h x).2
  refine MT.intro m_X11_aim rfl (Nat.le_of_ble_eq_true rfl) ?_
  show WQ G (d + 2) Y_X11_aim _ 0 [(0, .ref 72), (1, .int x), (2, .int v)] [] (I, L, RR b)
  refine wp_aload_n rfl rfl ?_
  refine wp_iconst (v := 0) rfl rfl ?_
  refine q_puti rfl rfl (by first | rfl | assumption) (Or.inl rfl) rfl ?_
  refine wp_aload_n rfl rfl ?_
  refine wp_iload_n rfl rfl ?_
  refine cV1 rfl l_11_162 i_X11_isArea m_X11_isArea (by first | rfl | assumption) (by decide) (c_X11_isArea G _ _ _ _ _) rfl (Nat.le_of_ble_eq_true rfl) ?_
  refine wp_if_eq 14 rfl rfl (fun h6 => ?_) (fun h6 => ?_)
  · refine wp_bipush (v := (-2)) rfl rfl ?_
    exact wp_iret rfl rfl (⟨rfl, rfl⟩)
  · refine wp_iload_n rfl rfl ?_
    refine wp_iconst (v := (-1)) rfl rfl ?_
    refine wp_icmp_eq 16 rfl rfl (fun h9 => ?_) (fun h9 => ?_)
    · exfalso; simp (disch := omega) only [uI_nk] at *; grind [b2]
    · refine wp_aload_n rfl rfl ?_
      refine wp_iload_n rfl rfl ?_
      refine cV1 rfl l_11_165 i_X11_isMast m_X11_isMast (by first | rfl | assumption) (by decide) (c_X11_isMast G _ _ _ _ _) rfl (Nat.le_of_ble_eq_true rfl) ?_
      refine wp_if_ne 16 rfl rfl (fun h13 => ?_) (fun h13 => ?_)
      · exfalso; simp (disch := omega) only [uI_nk] at *; grind [b2]
      · refine wp_bipush (v := (-2)) rfl rfl ?_
        exact wp_iret rfl rfl (⟨rfl, rfl⟩)
/-- the aerials of area a turn to v, on both sides -/
theorem IV_look {nm na nr a : Nat} {I J : IF} {L : LF} {v : Int32} (h : IV nm na nr I L) (ha : a < nr) (hv : v = -1 ∨ (0 ≤ v ∧ v < I 1 2)) (hJ : ∀ q k, J q k = if q = 18 + a ∧ k = 6 then v else if q = 18 + a ∧ k = 7 then I (18 + a) 7 + 1 else if q = 92 ∧ k = a then v else if q = 93 ∧ k = a then I 93 a + 1 else if q = 72 ∧ k = 0 then 0 else I q k) : IV nm na nr J L ∧ LSm I J := by
  obtain ⟨a1, a2, a3, a4, a5, a6, a7, a8, a9, a10, a11⟩ := id h
  have ha16 : a < 16 := by have := a1.2.2.2.2; omega
  have hm0 := (nI_b (n := nm) (k := 10) a1.1.2.2 (by omega)).1
  have J0 : ∀ q k, q ≠ 18 + a → q ≠ 92 → q ≠ 93 → ¬ (q = 72 ∧ k = 0) → J q k = I q k := by
    intro q k _ _ _ _
    rw [hJ, if_neg (by omega), if_neg (by omega), if_neg (by omega), if_neg (by omega), if_neg (by omega)]
  have J1 : ∀ j, j ≠ 6 → j ≠ 7 → J (18 + a) j = I (18 + a) j := by
    intro j _ _
    rw [hJ, if_neg (by omega), if_neg (by omega), if_neg (by omega), if_neg (by omega), if_neg (by omega)]
  have J6 : J (18 + a) 6 = v := by rw [hJ, if_pos ⟨rfl, rfl⟩]
  have J7 : J (18 + a) 7 = I (18 + a) 7 + 1 := by rw [hJ, if_neg (by omega), if_pos ⟨rfl, rfl⟩]
  have J92 : J 92 a = v := by rw [hJ, if_neg (by omega), if_neg (by omega), if_pos ⟨rfl, rfl⟩]
  have J93 : J 93 a = I 93 a + 1 := by rw [hJ, if_neg (by omega), if_neg (by omega), if_neg (by omega), if_pos ⟨rfl, rfl⟩]
  refine ⟨⟨?_, ?_, ?_, ?_, ?_, ?_, ?_, ?_, ?_, ?_, ?_⟩, ?_, ?_⟩
  · unfold IVc at a1 ⊢; simp (disch := omega) only [J0]; exact a1
  · unfold IVs at a2 ⊢; simp (disch := omega) only [J0]; exact a2
  · intro k hk; simp (disch := omega) only [J0]; exact a3 k hk
  · intro k hk; simp (disch := omega) only [J0]; exact a4 k hk
  · intro k hk; have := a1.1.2.2; simp (disch := omega) only [J0]; exact a5 k hk
  · intro k hk; simp (disch := omega) only [J0]; exact a6 k hk
  · intro k hk; simp (disch := omega) only [J0]; exact a7 k hk
  · intro k hk
    have z := a8 k hk
    by_cases e : k = a
    · subst e; simp (disch := omega) only [J0, J1, J6, J7, J93]; rw [z.1.2.2.2.2.2.2]; exact ⟨⟨z.1.1, z.1.2.1, z.1.2.2.1, z.1.2.2.2.1, z.1.2.2.2.2.1, z.1.2.2.2.2.2.1, rfl⟩, z.2⟩
    · simp (disch := omega) only [J0]
      rw [hJ 93 k, if_neg (by omega), if_neg (by omega), if_neg (by omega), if_neg (by omega), if_neg (by omega)]
      exact z
  · intro k hk
    have z := a9 k hk
    by_cases e : k = a
    · subst e; simp (disch := omega) only [J1, J6, J92]; rw [a1.1.1] at hv; grind
    · simp (disch := omega) only [J0]
      rw [hJ 92 k, if_neg (by omega), if_neg (by omega), if_neg (by omega), if_neg (by omega), if_neg (by omega)]
      exact z
  · unfold IVt at a10 ⊢; simp (disch := omega) only [J0]; exact a10
  · intro k hk; simp (disch := omega) only [J0]; exact a11 k hk
  · intro q hq; funext k; exact J0 q k (by omega) (by omega) (by omega) (by omega)
  · exact J0 72 12 (by omega) (by omega) (by omega) (by omega)
theorem s_aim {G : Gl} {d : Nat} {I : IF} {L : LF} {b : Bool} (x v : Int32) (h : InvA I L) : StepA G (d + 2) Y_X10_aim Y_X11_aim [.int x, .int v] I L b := by
  obtain ⟨nm, na, nr, h⟩ := h
  by_cases hok : (0 ≤ x ∧ x < I 1 4) ∧ (v = -1 ∨ (0 ≤ v ∧ v < I 1 2))
  · obtain ⟨hx, hv⟩ := hok
    obtain ⟨a, ha, rfl, hcl⟩ := (isAr h.1 x).1 hx
    have ha16 : a < 16 := by have := h.1.2.2.2.2; omega
    have z := (h.2.2.2.2.2.2.2.2.1 a ha16).1 ha
    have c1 := c_X10_aim_ok G (d + 1) v I L b h.1 ha hv
    by_cases e : I (18 + a) 6 = v
    · rw [if_pos e] at c1
      have c2 := c_X11_aim_ok G d v I L b h.1 ha hv
      rw [if_pos (z.1.trans e), z.1] at c2
      exact StepA.query h c1 c2
    · rw [if_neg e] at c1
      generalize hJ : uI (uI I (18 + a) 6 v) (18 + a) 7 (I (18 + a) 7 + 1) = J at c1
      have j0 : ∀ q k, q ≠ 18 + a → J q k = I q k := by intro q k _; rw [← hJ]; simp (disch := omega) only [uI_ne]
      have c2 := c_X11_aim_ok G d (nm := nm) (na := na) (nr := nr) (a := a) v J L b (by have a1 := h.1; unfold IVc at a1 ⊢; simp (disch := omega) only [j0]; exact a1) ha (by rw [j0 1 2 (by omega)]; exact hv)
      rw [j0 92 a (by omega), z.1, if_neg e, j0 93 a (by omega)] at c2
      refine ⟨_, _, _, _, _, c1, c2, ⟨nm, na, nr, (IV_look h ha hv ?_).1⟩, (IV_look (L := L) h ha hv ?_).2⟩
      all_goals
        intro q k
        rw [← hJ]
        unfold uI
        grind
  · exact StepA.query h (c_X10_aim_no G (d + 1) x v I L b hok) (c_X11_aim_no G d x v I L b h.1 hok)
end
section
/-! who is on, who hurts whom, the picture -/
/-- a mast is on: its chain of feeds, at most n long -/
def onC (I : IF) : Nat → Int32 → Bool
  | 0, _ => true
  | n + 1, v => if 0 ≤ v ∧ v < I 1 2 then (if I (4 + v.toNatClampNeg) 10 = 0 then onC I n (I (4 + v.toNatClampNeg) 3) else false) else true
theorem c_X1_isOn (G : Gl) (d : Nat) {nm na nr : Nat} (v : Int32) (I : IF) (L : LF) (b : Bool) (h : IVc nm na nr I) : MD G (d + 1) Y_X1_isOn [.ref 1, .int v] (I, L, RR b) (some (.int (b2 (onC I 10 v = true)))) (I, L, RR b) := by
  have hloop : ∀ (t : Bool) (n i : Nat) (u : Int32), i + n = 10 → onC I n u = t → WQ G (d + 1) Y_X1_isOn (fun r' w'' => r' = some (.int (b2 (t = true))) ∧ w'' = (I, L, RR b)) 4 [(0, .ref 1), (1, .int v), (2, .int u), (3, .int (nI i))] [] (I, L, RR b) := by
    intro t n
    induction n with
    | zero =>
      intro i u hi hu
      have hi10 : i = 10 := by omega
      subst hi10
      simp only [onC] at hu
      refine wp_iload_n rfl rfl ?_
      refine wp_bipush (v := 10) rfl rfl ?_
      refine wp_icmp_ge 27 rfl rfl (fun _ => ?_) (fun h6 => absurd (show (10 : Int32) ≤ nI 10 by decide) h6)
      refine wp_iconst (v := 1) rfl rfl ?_
      exact wp_zret rfl rfl (by first | rfl | exact nb2 _ | assumption) (⟨by rw [← hu]; rfl, rfl⟩)
    | succ n ih =>
      intro i u hi hu
      simp only [onC] at hu
      have hlt : ¬ (10 : Int32) ≤ nI i := nI_ge (a := i) (b := 10) (by omega) (by omega)
      refine wp_iload_n rfl rfl ?_
      refine wp_bipush (v := 10) rfl rfl ?_
      refine wp_icmp_ge 27 rfl rfl (fun h6 => absurd h6 hlt) (fun _ => ?_)
      refine wp_aload_n rfl rfl ?_
      refine wp_iload_n rfl rfl ?_
      refine cV1 rfl l_1_35 i_X1_isMast m_X1_isMast (by first | rfl | assumption) (by decide) (c_X1_isMast G _ _ _ _ _) rfl (Nat.le_of_ble_eq_true rfl) ?_
      refine wp_if_eq 27 rfl rfl (fun h10 => ?_) (fun h10 => ?_)
      · refine wp_iconst (v := 1) rfl rfl ?_
        exact wp_zret rfl rfl (by first | rfl | exact nb2 _ | assumption) (⟨by rw [← hu, if_neg (b2_eq.mp h10)]; rfl, rfl⟩)
      · have hv := b2_ne.mp h10
        obtain ⟨m, hm, hvm, hcl⟩ := (isM h u).1 hv
        have hm14 : m < 14 := by have := h.1.2.2; omega
        have hsm := sh_mast m hm14
        refine wp_aload_n rfl rfl ?_
        refine q_getr rfl rfl (by first | rfl | assumption) rfl rfl ?_
        refine wp_iload_n rfl rfl ?_
        refine q_mast rfl hvm hm14 ?_
        refine q_geti rfl rfl (by first | rfl | assumption) rfl ?_
        refine wp_if_eq 19 rfl rfl (fun h16 => ?_) (fun h16 => ?_)
        · refine wp_aload_n rfl rfl ?_
          refine q_getr rfl rfl (by first | rfl | assumption) rfl rfl ?_
          refine wp_iload_n rfl rfl ?_
          refine q_mast rfl hvm hm14 ?_
          refine q_geti rfl rfl (by first | rfl | assumption) rfl ?_
          refine wp_istore_n (lv' := [(2, _), (0, _), (1, _), (3, _)]) rfl rfl (by decide) rfl ?_
          refine wp_iinc (v := nI (i + 1)) (lv' := [(3, _), (2, _), (0, _), (1, _)]) rfl rfl (nI_1 i) (by decide) rfl ?_
          refine wp_goto 4 rfl rfl ?_
          refine wp_loc (lv' := [(0, _), (1, _), (2, _), (3, _)]) [2, 3, 1, 0] rfl ?_
          exact ih (i + 1) _ (by omega) (by rw [← hu, if_pos hv, hcl, if_pos h16])
        · refine wp_iconst (v := 0) rfl rfl ?_
          exact wp_zret rfl rfl (by first | rfl | exact nb2 _ | assumption) (⟨by rw [← hu, if_pos hv, hcl, if_neg h16]; rfl, rfl⟩)
  refine MT.intro m_X1_isOn rfl (Nat.le_of_ble_eq_true rfl) ?_
  show WQ G (d + 1) Y_X1_isOn _ 0 [(0, .ref 1), (1, .int v)] [] (I, L, RR b)
  refine wp_iload_n rfl rfl ?_
  refine wp_istore_n (lv' := [(2, _), (0, _), (1, _)]) rfl rfl (by decide) rfl ?_
  refine wp_iconst (v := 0) rfl rfl ?_
  refine wp_istore_n (lv' := [(3, _), (2, _), (0, _), (1, _)]) rfl rfl (by decide) rfl ?_
  refine wp_loc (lv' := [(0, _), (1, _), (2, _), (3, _)]) [2, 3, 1, 0] rfl ?_
  exact hloop _ 10 0 v rfl rfl
theorem c_X11_isOn (G : Gl) (d : Nat) {nm na nr : Nat} (v : Int32) (I : IF) (L : LF) (b : Bool) (h : IV nm na nr I L) (hv : v = -1 ∨ ∃ m, m < nm ∧ v = nI m) : MD G d Y_X11_isOn [.ref 72, .int v] (I, L, RR b) (some (.int (b2 (onC I 10 v = true)))) (I, L, RR b) := by
  have hnm : nm ≤ 10 := h.1.1.2.2
  have hloop : ∀ (t : Bool) (n : Nat) (u : Int32), (u = -1 ∨ ∃ m, m < nm ∧ u = nI m ∧ m < n) → onC I n u = t → WQ G d Y_X11_isOn (fun r' w'' => r' = some (.int (b2 (t = true))) ∧ w'' = (I, L, RR b)) 2 [(0, .ref 72), (1, .int v), (2, .int u)] [] (I, L, RR b) := by
    intro t n
    induction n with
    | zero =>
      intro u hu hc
      simp only [onC] at hc
      have hu1 : u = -1 := by
        rcases hu with e | ⟨m, -, -, hm⟩
        · exact e
        · omega
      refine wp_iload_n rfl rfl ?_
      refine wp_iconst (v := (-1)) rfl rfl ?_
      refine wp_icmp_eq 16 rfl rfl (fun h4 => ?_) (fun h4 => ?_)
      · refine wp_iload_n rfl rfl ?_
        refine wp_iconst (v := (-1)) rfl rfl ?_
        refine wp_icmp_ne 21 rfl rfl (fun h18 => ?_) (fun h18 => ?_)
        · exact absurd hu1 h18
        · refine wp_iconst (v := 1) rfl rfl ?_
          refine wp_goto 22 rfl rfl ?_
          exact wp_zret rfl rfl (by first | rfl | exact nb2 _ | assumption) (⟨by rw [← hc]; rfl, rfl⟩)
      · exact absurd hu1 h4
    | succ n ih =>
      intro u hu hc
      simp only [onC] at hc
      rcases hu with hu1 | ⟨m, hm, hum, hmn⟩
      · rw [if_neg (by grind)] at hc
        refine wp_iload_n rfl rfl ?_
        refine wp_iconst (v := (-1)) rfl rfl ?_
        refine wp_icmp_eq 16 rfl rfl (fun h4 => ?_) (fun h4 => ?_)
        · refine wp_iload_n rfl rfl ?_
          refine wp_iconst (v := (-1)) rfl rfl ?_
          refine wp_icmp_ne 21 rfl rfl (fun h18 => ?_) (fun h18 => ?_)
          · exact absurd hu1 h18
          · refine wp_iconst (v := 1) rfl rfl ?_
            refine wp_goto 22 rfl rfl ?_
            exact wp_zret rfl rfl (by first | rfl | exact nb2 _ | assumption) (⟨by rw [← hc]; rfl, rfl⟩)
        · exact absurd hu1 h4
      · have hcl : (nI m).toNatClampNeg = m := nI_clamp (by omega)
        have hpos : (0 : Int32) ≤ nI m := nI_pos' (by omega)
        have hin : vp_in u 10 := by rw [hum]; exact vp_in_nI (by omega) (by omega)
        have z4 := (h.2.2.2.1 m (by omega)).2.2.1
        have z5 := h.2.2.2.2.1 m hm
        have hclu : u.toNatClampNeg = m := by rw [hum]; exact hcl
        have hne : ¬ u = -1 := by rw [hum]; grind
        have hisM : 0 ≤ u ∧ u < I 1 2 := by rw [hum, h.1.1.1]; exact ⟨hpos, nI_lt hm (by omega)⟩
        rw [if_pos hisM, hclu] at hc
        refine wp_iload_n rfl rfl ?_
        refine wp_iconst (v := (-1)) rfl rfl ?_
        refine wp_icmp_eq 16 rfl rfl (fun h4 => absurd h4 hne) (fun _ => ?_)
        refine wp_aload_n rfl rfl ?_
        refine q_getr rfl rfl (by first | rfl | assumption) rfl rfl ?_
        refine wp_iload_n rfl rfl ?_
        refine q_zald rfl (by first | rfl | assumption) (by assumption) ?_
        refine wp_if_ne 16 rfl rfl (fun h9 => ?_) (fun h9 => ?_)
        · rw [hclu, z4.1] at h9
          rw [if_neg h9] at hc
          refine wp_iload_n rfl rfl ?_
          refine wp_iconst (v := (-1)) rfl rfl ?_
          refine wp_icmp_ne 21 rfl rfl (fun _ => ?_) (fun h18 => absurd h18 hne)
          refine wp_iconst (v := 0) rfl rfl ?_
          exact wp_zret rfl rfl (by first | rfl | exact nb2 _ | assumption) (⟨by rw [← hc]; rfl, rfl⟩)
        · rw [hclu, z4.1] at h9
          rw [if_pos h9] at hc
          refine wp_aload_n rfl rfl ?_
          refine q_getr rfl rfl (by first | rfl | assumption) rfl rfl ?_
          refine wp_iload_n rfl rfl ?_
          refine q_iald rfl (by first | rfl | assumption) (by assumption) ?_
          refine wp_istore_n (lv' := [(2, _), (0, _), (1, _)]) rfl rfl (by decide) rfl ?_
          refine wp_goto 2 rfl rfl ?_
          refine wp_loc (lv' := [(0, _), (1, _), (2, _)]) [1, 2, 0] rfl ?_
          rw [hclu, z5.1]
          refine ih _ ?_ hc
          by_cases e : I (4 + m) 3 = -1
          · exact Or.inl e
          · obtain ⟨q, q1, q2⟩ := nI_get (x := I (4 + m) 3) (n := m) (by grind) z5.2.2 (by omega)
            exact Or.inr ⟨q, by omega, q2, by omega⟩
  refine MT.intro m_X11_isOn rfl (Nat.le_of_ble_eq_true rfl) ?_
  show WQ G d Y_X11_isOn _ 0 [(0, .ref 72), (1, .int v)] [] (I, L, RR b)
  refine wp_iload_n rfl rfl ?_
  refine wp_istore_n (lv' := [(2, _), (0, _), (1, _)]) rfl rfl (by decide) rfl ?_
  refine wp_loc (lv' := [(0, _), (1, _), (2, _)]) [1, 2, 0] rfl ?_
  refine hloop _ 10 v ?_ rfl
  rcases hv with e | ⟨m, hm, hvm⟩
  · exact Or.inl e
  · exact Or.inr ⟨m, hm, hvm, by omega⟩
/-- these look at cells below 72 alone -/
theorem onC_cg {I J : IF} (h : ∀ a, a < 72 → J a = I a) : ∀ (n : Nat) (v : Int32), v < I 1 2 → I 1 2 ≤ 10 → (∀ m, m < 10 → nI m < I 1 2 → I (4 + m) 3 < I 1 2) → onC J n v = onC I n v
  | 0, _, _, _, _ => rfl
  | n + 1, v, hv, h10, hf => by
    simp only [onC]
    rw [h 1 (by omega)]
    by_cases hc : 0 ≤ v ∧ v < I 1 2
    · rw [if_pos hc, if_pos hc]
      obtain ⟨m, hm, rfl⟩ := nI_get (x := v) (n := 10) hc.1 (by show v < 10; grind) (by omega)
      rw [nI_clamp (by omega), h (4 + m) (by omega)]
      by_cases hz : I (4 + m) 10 = 0
      · rw [if_pos hz, if_pos hz]
        exact onC_cg h n _ (hf m hm hc.2) h10 hf
      · rw [if_neg hz, if_neg hz]
    · rw [if_neg hc, if_neg hc]
theorem onC_thr {nm na nr : Nat} {I : IF} {L : LF} (h : IV nm na nr I L) (v : Int32) (hv : v < I 1 2) : onC (uI I 72 0 0) 10 v = onC I 10 v := by
  have h10 : I 1 2 ≤ 10 := by rw [h.1.1.1]; exact nI_le (b := 10) h.1.1.2.2 (by omega)
  refine onC_cg (fun a ha => uI_fn (by omega)) 10 v hv h10 (fun m hm hl => ?_)
  have hmn : m < nm := (nI_ltI (by omega) (by have := h.1.1.2.2; omega)).mp (by rw [← h.1.1.1]; exact hl)
  have := h.2.2.2.2.1 m hmn
  grind
theorem c_X10_on (G : Gl) (d : Nat) {nm na nr : Nat} (v : Int32) (I : IF) (L : LF) (b : Bool) (h : IVc nm na nr I) : MD G (d + 2) Y_X10_on [.ref 0, .int v] (I, L, RR b) (some (.int (if 0 ≤ v ∧ v < I 1 2 then b2 (onC I 10 v = true) else -2))) (I, L, RR b) := by
  refine MT.intro m_X10_on rfl (Nat.le_of_ble_eq_true rfl) ?_
  show WQ G (d + 2) Y_X10_on _ 0 [(0, .ref 0), (1, .int v)] [] (I, L, RR b)
  refine wp_aload_n rfl rfl ?_
  refine q_getr rfl rfl (by first | rfl | assumption) rfl rfl ?_
  refine wp_iload_n rfl rfl ?_
  refine cV1 rfl l_10_91 i_X1_isMast m_X1_isMast (by first | rfl | assumption) (by decide) (c_X1_isMast G _ _ _ _ _) rfl (Nat.le_of_ble_eq_true rfl) ?_
  refine wp_if_eq 11 rfl rfl (fun h4 => ?_) (fun h4 => ?_)
  · refine wp_bipush (v := (-2)) rfl rfl ?_
    exact wp_iret rfl rfl (⟨by grind [b2], rfl⟩)
  · refine wp_aload_n rfl rfl ?_
    refine q_getr rfl rfl (by first | rfl | assumption) rfl rfl ?_
    refine wp_iload_n rfl rfl ?_
    refine cV1 rfl l_10_231 i_X1_isOn m_X1_isOn (by first | rfl | assumption) (by decide) (c_X1_isOn G _ _ _ _ _ h) rfl (Nat.le_of_ble_eq_true rfl) ?_
    refine cS1 rfl l_10_234 s_X10_asNumber m_X10_asNumber (c_X10_asNumber G _ _ _) rfl (Nat.le_of_ble_eq_true rfl) ?_
    refine wp_goto 12 rfl rfl ?_
    exact wp_iret rfl rfl (⟨by grind [b2], rfl⟩)
theorem c_X11_on (G : Gl) (d : Nat) {nm na nr : Nat} (v : Int32) (I : IF) (L : LF) (b : Bool) (h : IV nm na nr I L) : MD G (d + 2) Y_X11_on [.ref 72, .int v] (I, L, RR b) (some (.int (if 0 ≤ v ∧ v < I 1 2 then b2 (onC I 10 v = true) else -2))) (uI I 72 0 0, L, RR b) := by
  have e0 : uI I 72 0 0 72 5 = I 72 5 := rfl
  have e := (isM h.1 v).2
  refine MT.intro m_X11_on rfl (Nat.le_of_ble_eq_true rfl) ?_
  show WQ G (d + 2) Y_X11_on _ 0 [(0, .ref 72), (1, .int v)] [] (I, L, RR b)
  refine wp_aload_n rfl rfl ?_
  refine wp_iconst (v := 0) rfl rfl ?_
  refine q_puti rfl rfl (by first | rfl | assumption) (Or.inl rfl) rfl ?_
  refine wp_aload_n rfl rfl ?_
  refine wp_iload_n rfl rfl ?_
  refine cV1 rfl l_11_165 i_X11_isMast m_X11_isMast (by first | rfl | assumption) (by decide) (c_X11_isMast G _ _ _ _ _) rfl (Nat.le_of_ble_eq_true rfl) ?_
  refine wp_if_eq 15 rfl rfl (fun h6 => ?_) (fun h6 => ?_)
  · refine wp_bipush (v := (-2)) rfl rfl ?_
    exact wp_iret rfl rfl (⟨by rw [e0] at h6; grind [b2], rfl⟩)
  · have hv := e.mp (b2_ne.mp h6)
    obtain ⟨m, hm, hvm, hcl⟩ := (isM h.1 v).1 hv
    have hth := onC_thr h v hv.2
    refine wp_aload_n rfl rfl ?_
    refine wp_iload_n rfl rfl ?_
    refine cV1 rfl l_11_341 i_X11_isOn m_X11_isOn (by first | rfl | assumption) (by decide) (c_X11_isOn G _ _ _ _ _ (IV_thr h) (Or.inr ⟨m, hm, hvm⟩)) rfl (Nat.le_of_ble_eq_true rfl) ?_
    refine wp_if_eq 13 rfl rfl (fun h10 => ?_) (fun h10 => ?_)
    · refine wp_iconst (v := 0) rfl rfl ?_
      refine wp_goto 16 rfl rfl ?_
      exact wp_iret rfl rfl (⟨by rw [e0] at h6; grind [b2], rfl⟩)
    · refine wp_iconst (v := 1) rfl rfl ?_
      refine wp_goto 16 rfl rfl ?_
      exact wp_iret rfl rfl (⟨by rw [e0] at h6; grind [b2], rfl⟩)
theorem s_on {G : Gl} {d : Nat} {I : IF} {L : LF} {b : Bool} (v : Int32) (h : InvA I L) : StepA G (d + 2) Y_X10_on Y_X11_on [.int v] I L b := by
  obtain ⟨nm, na, nr, h⟩ := h
  exact StepA.query h (c_X10_on G d v I L b h.1) (c_X11_on G d v I L b h)
end
section
/-! who hurts whom -/
/-- STRENGTH is 0 .. 1000000 -/
theorem stg_b {nm na nr : Nat} {I : IF} {L : LF} (h : IV nm na nr I L) {m a : Nat} (hm : m < 14) (ha : a < 16) : ∃ q : Nat, q ≤ 1000000 ∧ stg I m a = nI q := by
  have z := h.2.2.1 m hm
  have y := h.2.2.2.2.2.2.2.1 a ha
  have hq := sqD_pos z.2.1 z.2.2.1 y.2.1 y.2.2.1
  obtain ⟨p, p1, p2⟩ := nI_of2 (M := 10000) (n := 10000) rfl (by grind) z.2.2.2.1.2
  obtain ⟨q, q1, q2⟩ := nI_of2 (M := 20010) (n := 20010) rfl (by grind) hq.2
  have q3 : 10 ≤ q := (nI_leI (a := 10) (b := q) (by omega) (by omega)).mp (by rw [← q2]; exact hq.1)
  unfold stg strg
  rw [p2, q2, show (1000 : Int32) = nI 1000 from rfl, pk_mul, pk_div (by omega) (by omega) (by omega)]
  refine ⟨1000 * p / q, ?_, rfl⟩
  exact Nat.le_trans (Nat.div_le_div_left q3 (by omega)) (by omega)
/-- own: the mast that the area looks at -/
abbrev ow (I : IF) (a : Nat) : Nat := (I (18 + a) 6).toNatClampNeg
def cldB (I : IF) (a s : Nat) : Bool := decide (((0 ≤ nI s ∧ nI s < I 1 2) ∨ (10 ≤ nI s ∧ nI s - 10 < I 1 3)) ∧ (0 ≤ I (18 + a) 6 ∧ I (18 + a) 6 < I 1 2) ∧ ¬ nI s = I (18 + a) 6 ∧ stg I (ow I a) a < I 1 7 * stg I s a)
theorem c_X1_couldHurt (G : Gl) (d : Nat) {nm na nr s a : Nat} (I : IF) (L : LF) (b : Bool) (h : IV nm na nr I L) (hs : s < 14) (ha : a < 16) : MD G (d + 2) Y_X1_couldHurt [.ref 1, .int (nI s), .ref (18 + a)] (I, L, RR b) (some (.int (b2 (cldB I a s = true)))) (I, L, RR b) := by
  have hsa := sh_area a ha
  have hss := sh_mast s hs
  refine MT.intro m_X1_couldHurt rfl (Nat.le_of_ble_eq_true rfl) ?_
  show WQ G (d + 2) Y_X1_couldHurt _ 0 [(0, .ref 1), (1, .int (nI s)), (2, .ref (18 + a))] [] (I, L, RR b)
  refine wp_aload_n rfl rfl ?_
  refine wp_iload_n rfl rfl ?_
  refine cV1 rfl l_1_65 i_X1_isSender m_X1_isSender (by first | rfl | assumption) (by decide) (c_X1_isSender G _ _ _ _ _) rfl (Nat.le_of_ble_eq_true rfl) ?_
  refine wp_if_eq 13 rfl rfl (fun h3 => ?_) (fun h3 => ?_)
  · refine wp_iconst (v := 0) rfl rfl ?_
    exact wp_zret rfl rfl (by first | rfl | exact nb2 _ | assumption) (⟨by simp only [cldB, ow]; grind [b2], rfl⟩)
  · refine wp_aload_n rfl rfl ?_
    refine wp_aload_n rfl rfl ?_
    refine q_geti rfl rfl (by first | rfl | assumption) rfl ?_
    refine cV1 rfl l_1_35 i_X1_isMast m_X1_isMast (by first | rfl | assumption) (by decide) (c_X1_isMast G _ _ _ _ _) rfl (Nat.le_of_ble_eq_true rfl) ?_
    refine wp_if_eq 13 rfl rfl (fun h8 => ?_) (fun h8 => ?_)
    · refine wp_iconst (v := 0) rfl rfl ?_
      exact wp_zret rfl rfl (by first | rfl | exact nb2 _ | assumption) (⟨by simp only [cldB, ow]; grind [b2], rfl⟩)
    · refine wp_iload_n rfl rfl ?_
      refine wp_aload_n rfl rfl ?_
      refine q_geti rfl rfl (by first | rfl | assumption) rfl ?_
      refine wp_icmp_ne 15 rfl rfl (fun h12 => ?_) (fun h12 => ?_)
      · have hv := b2_ne.mp h8
        obtain ⟨m, hm, hvm, hcl⟩ := (isM h.1 _).1 hv
        have hm14 : m < 14 := by have := h.1.1.2.2; omega
        have hsm := sh_mast m hm14
        refine wp_aload_n rfl rfl ?_
        refine q_geti rfl rfl (by first | rfl | assumption) rfl ?_
        refine wp_aload_n rfl rfl ?_
        refine q_getr rfl rfl (by first | rfl | assumption) rfl rfl ?_
        refine wp_iload_n rfl rfl ?_
        refine q_mast rfl rfl hs ?_
        refine wp_aload_n rfl rfl ?_
        refine cV1 rfl l_1_61 i_X4_strengthAt m_X4_strengthAt (by first | rfl | assumption) (by decide) (d_strengthAt G _ _ h hs ha) rfl (Nat.le_of_ble_eq_true rfl) ?_
        refine wp_imul rfl ?_
        refine wp_aload_n rfl rfl ?_
        refine q_getr rfl rfl (by first | rfl | assumption) rfl rfl ?_
        refine wp_aload_n rfl rfl ?_
        refine q_geti rfl rfl (by first | rfl | assumption) rfl ?_
        refine q_mast rfl hvm hm14 ?_
        refine wp_aload_n rfl rfl ?_
        refine cV1 rfl l_1_61 i_X4_strengthAt m_X4_strengthAt (by first | rfl | assumption) (by decide) (d_strengthAt G _ _ h hm14 ha) rfl (Nat.le_of_ble_eq_true rfl) ?_
        refine wp_icmp_le 34 rfl rfl (fun h31 => ?_) (fun h31 => ?_)
        · refine wp_iconst (v := 0) rfl rfl ?_
          exact wp_zret rfl rfl (by first | rfl | exact nb2 _ | assumption) (⟨by simp only [cldB, ow]; grind [b2], rfl⟩)
        · refine wp_iconst (v := 1) rfl rfl ?_
          refine wp_goto 35 rfl rfl ?_
          exact wp_zret rfl rfl (by first | rfl | exact nb2 _ | assumption) (⟨by simp only [cldB, ow]; grind [b2], rfl⟩)
      · refine wp_iconst (v := 0) rfl rfl ?_
        exact wp_zret rfl rfl (by first | rfl | exact nb2 _ | assumption) (⟨by simp only [cldB, ow]; grind [b2], rfl⟩)
def sndB (I : IF) (s : Nat) : Bool := if s < 10 then onC I 10 (nI s) else decide (I 1 5 < I (4 + s) 8)
theorem c_X1_isSending (G : Gl) (d : Nat) {nm na nr s : Nat} (I : IF) (L : LF) (b : Bool) (h : IV nm na nr I L) (hs : s < 14) : MD G (d + 2) Y_X1_isSending [.ref 1, .int (nI s)] (I, L, RR b) (some (.int (b2 (sndB I s = true)))) (I, L, RR b) := by
  have hss := sh_mast s hs
  refine MT.intro m_X1_isSending rfl (Nat.le_of_ble_eq_true rfl) ?_
  show WQ G (d + 2) Y_X1_isSending _ 0 [(0, .ref 1), (1, .int (nI s))] [] (I, L, RR b)
  refine wp_iload_n rfl rfl ?_
  refine wp_bipush (v := 10) rfl rfl ?_
  refine wp_icmp_ge 7 rfl rfl (fun h2 => ?_) (fun h2 => ?_)
  · have hs10 : ¬ s < 10 := fun z => (nI_ge (a := s) (b := 10) z (by omega)) h2
    refine wp_aload_n rfl rfl ?_
    refine q_geti rfl rfl (by first | rfl | assumption) rfl ?_
    refine wp_aload_n rfl rfl ?_
    refine q_getr rfl rfl (by first | rfl | assumption) rfl rfl ?_
    refine wp_iload_n rfl rfl ?_
    refine q_mast rfl rfl hs ?_
    refine q_geti rfl rfl (by first | rfl | assumption) rfl ?_
    refine wp_icmp_ge 17 rfl rfl (fun h14 => ?_) (fun h14 => ?_)
    · refine wp_iconst (v := 0) rfl rfl ?_
      exact wp_zret rfl rfl (by first | rfl | exact nb2 _ | assumption) (⟨by simp only [sndB]; grind [b2], rfl⟩)
    · refine wp_iconst (v := 1) rfl rfl ?_
      refine wp_goto 18 rfl rfl ?_
      exact wp_zret rfl rfl (by first | rfl | exact nb2 _ | assumption) (⟨by simp only [sndB]; grind [b2], rfl⟩)
  · have hs10 : s < 10 := by rcases Nat.lt_or_ge s 10 with z | z; exact z; exact absurd (nI_le (a := 10) (b := s) z (by omega)) h2
    refine wp_aload_n rfl rfl ?_
    refine wp_iload_n rfl rfl ?_
    refine cV1 rfl l_1_52 i_X1_isOn m_X1_isOn (by first | rfl | assumption) (by decide) (c_X1_isOn G _ _ _ _ _ h.1) rfl (Nat.le_of_ble_eq_true rfl) ?_
    refine wp_goto 18 rfl rfl ?_
    exact wp_zret rfl rfl (by first | rfl | exact nb2 _ | assumption) (⟨by simp only [sndB]; grind [b2], rfl⟩)
def hrtB (I : IF) (a s : Nat) : Bool := cldB I a s && decide (chNow I (4 + s) = chNow I (4 + ow I a)) && sndB I s
/-- the first from i on, of n -/
def fst1 (P : Nat → Bool) : Nat → Nat → Int32
  | 0, _ => -1
  | n + 1, i => if P i = true then nI i else fst1 P n (i + 1)
def hurtF (I : IF) (a : Nat) : Int32 := if 0 ≤ I (18 + a) 6 ∧ I (18 + a) 6 < I 1 2 then fst1 (hrtB I a) 14 0 else -1
theorem c_X1_hurterOf (G : Gl) (d : Nat) {nm na nr a : Nat} (I : IF) (L : LF) (b : Bool) (h : IV nm na nr I L) (ha : a < 16) : MD G (d + 3) Y_X1_hurterOf [.ref 1, .ref (18 + a)] (I, L, RR b) (some (.int (hurtF I a))) (I, L, RR b) := by
  have hsa := sh_area a ha
  have hloop : ∀ (t : Int32) (n i : Nat), i + n = 14 → fst1 (hrtB I a) n i = t → WQ G (d + 3) Y_X1_hurterOf (fun r' w'' => r' = some (.int t) ∧ w'' = (I, L, RR b)) 16 [(0, .ref 1), (1, .ref (18 + a)), (2, .int (chNow I (4 + ow I a))), (3, .int (nI i))] [] (I, L, RR b) := by
    intro t n
    induction n with
    | zero =>
      intro i hi ht
      have hi14 : i = 14 := by omega
      subst hi14
      refine wp_iload_n rfl rfl ?_
      refine wp_bipush (v := 14) rfl rfl ?_
      refine wp_icmp_ge 39 rfl rfl (fun _ => ?_) (fun h18 => absurd (show (14 : Int32) ≤ nI 14 by decide) h18)
      refine wp_iconst (v := (-1)) rfl rfl ?_
      exact wp_iret rfl rfl (⟨by rw [← ht]; rfl, rfl⟩)
    | succ n ih =>
      intro i hi ht
      have hlt : ¬ (14 : Int32) ≤ nI i := nI_ge (a := i) (b := 14) (by omega) (by omega)
      have hss := sh_mast i (by omega)
      simp only [fst1] at ht
      refine wp_iload_n rfl rfl ?_
      refine wp_bipush (v := 14) rfl rfl ?_
      refine wp_icmp_ge 39 rfl rfl (fun h18 => absurd h18 hlt) (fun _ => ?_)
      refine wp_aload_n rfl rfl ?_
      refine wp_iload_n rfl rfl ?_
      refine wp_aload_n rfl rfl ?_
      refine cV1 rfl l_1_75 i_X1_couldHurt m_X1_couldHurt (by first | rfl | assumption) (by decide) (c_X1_couldHurt G _ _ _ _ h (by omega) ha) rfl (Nat.le_of_ble_eq_true rfl) ?_
      refine wp_if_eq 37 rfl rfl (fun h23 => ?_) (fun h23 => ?_)
      · refine wp_iinc (v := nI (i + 1)) (lv' := [(3, _), (0, _), (1, _), (2, _)]) rfl rfl (nI_1 i) (by decide) rfl ?_
        refine wp_goto 16 rfl rfl ?_
        refine wp_loc (lv' := [(0, _), (1, _), (2, _), (3, _)]) [1, 2, 3, 0] rfl ?_
        refine ih (i + 1) (by omega) ?_
        rw [← ht, if_neg]
        simp only [hrtB]
        grind [b2]
      · refine wp_aload_n rfl rfl ?_
        refine q_getr rfl rfl (by first | rfl | assumption) rfl rfl ?_
        refine wp_iload_n rfl rfl ?_
        refine q_mast rfl rfl (by omega) ?_
        refine cV1 rfl l_1_71 i_X4_channelNow m_X4_channelNow (by first | rfl | assumption) (by decide) (c_X4_channelNow G _ _ _ _ _ hss) rfl (Nat.le_of_ble_eq_true rfl) ?_
        refine wp_iload_n rfl rfl ?_
        refine wp_icmp_ne 37 rfl rfl (fun h30 => ?_) (fun h30 => ?_)
        · refine wp_iinc (v := nI (i + 1)) (lv' := [(3, _), (0, _), (1, _), (2, _)]) rfl rfl (nI_1 i) (by decide) rfl ?_
          refine wp_goto 16 rfl rfl ?_
          refine wp_loc (lv' := [(0, _), (1, _), (2, _), (3, _)]) [1, 2, 3, 0] rfl ?_
          refine ih (i + 1) (by omega) ?_
          rw [← ht, if_neg]
          simp only [hrtB]
          grind [b2]
        · refine wp_aload_n rfl rfl ?_
          refine wp_iload_n rfl rfl ?_
          refine cV1 rfl l_1_79 i_X1_isSending m_X1_isSending (by first | rfl | assumption) (by decide) (c_X1_isSending G _ _ _ _ h (by omega)) rfl (Nat.le_of_ble_eq_true rfl) ?_
          refine wp_if_eq 37 rfl rfl (fun h34 => ?_) (fun h34 => ?_)
          · refine wp_iinc (v := nI (i + 1)) (lv' := [(3, _), (0, _), (1, _), (2, _)]) rfl rfl (nI_1 i) (by decide) rfl ?_
            refine wp_goto 16 rfl rfl ?_
            refine wp_loc (lv' := [(0, _), (1, _), (2, _), (3, _)]) [1, 2, 3, 0] rfl ?_
            refine ih (i + 1) (by omega) ?_
            rw [← ht, if_neg]
            simp only [hrtB]
            grind [b2]
          · refine wp_iload_n rfl rfl ?_
            exact wp_iret rfl rfl (⟨by rw [← ht, if_pos]; simp only [hrtB]; grind [b2], rfl⟩)
  refine MT.intro m_X1_hurterOf rfl (Nat.le_of_ble_eq_true rfl) ?_
  show WQ G (d + 3) Y_X1_hurterOf _ 0 [(0, .ref 1), (1, .ref (18 + a))] [] (I, L, RR b)
  refine wp_aload_n rfl rfl ?_
  refine wp_aload_n rfl rfl ?_
  refine q_geti rfl rfl (by first | rfl | assumption) rfl ?_
  refine cV1 rfl l_1_35 i_X1_isMast m_X1_isMast (by first | rfl | assumption) (by decide) (c_X1_isMast G _ _ _ _ _) rfl (Nat.le_of_ble_eq_true rfl) ?_
  refine wp_if_ne 7 rfl rfl (fun h4 => ?_) (fun h4 => ?_)
  · have hv := b2_ne.mp h4
    obtain ⟨m, hm, hvm, hcl⟩ := (isM h.1 _).1 hv
    have hm14 : m < 14 := by have := h.1.1.2.2; omega
    have hsm := sh_mast m hm14
    refine wp_aload_n rfl rfl ?_
    refine q_getr rfl rfl (by first | rfl | assumption) rfl rfl ?_
    refine wp_aload_n rfl rfl ?_
    refine q_geti rfl rfl (by first | rfl | assumption) rfl ?_
    refine q_mast rfl hvm hm14 ?_
    refine cV1 rfl l_1_71 i_X4_channelNow m_X4_channelNow (by first | rfl | assumption) (by decide) (c_X4_channelNow G _ _ _ _ _ hsm) rfl (Nat.le_of_ble_eq_true rfl) ?_
    refine wp_istore_n (lv' := [(2, _), (0, _), (1, _)]) rfl rfl (by decide) rfl ?_
    refine wp_iconst (v := 0) rfl rfl ?_
    refine wp_istore_n (lv' := [(3, _), (2, _), (0, _), (1, _)]) rfl rfl (by decide) rfl ?_
    refine wp_loc (lv' := [(0, _), (1, _), (2, _), (3, _)]) [2, 3, 1, 0] rfl ?_
    rw [← hcl]
    exact hloop _ 14 0 rfl (by unfold hurtF; rw [if_pos hv])
  · refine wp_iconst (v := (-1)) rfl rfl ?_
    exact wp_iret rfl rfl (⟨by unfold hurtF; rw [if_neg (by grind [b2])], rfl⟩)
theorem c_X11_now (G : Gl) (d : Nat) {nm na nr m : Nat} (v : Int32) (I : IF) (L : LF) (b : Bool) (h : IV nm na nr I L) (hm : m < nm) (hv : v = nI m) : MD G d Y_X11_now [.ref 72, .int v] (I, L, RR b) (some (.int (chNow I (4 + m)))) (I, L, RR b) := by
  subst hv
  have hnm : nm ≤ 10 := h.1.1.2.2
  have hcl : (nI m).toNatClampNeg = m := nI_clamp (by omega)
  have hin : vp_in (nI m) 10 := vp_in_nI (by omega) (by omega)
  have hin14 : vp_in (nI m) 14 := vp_in_nI (by omega) (by omega)
  have z3 := h.2.2.1 m (by omega)
  have z4 := h.2.2.2.1 m (by omega)
  have z7 := h.2.2.2.2.2.2.1 m (by omega)
  refine MT.intro m_X11_now rfl (Nat.le_of_ble_eq_true rfl) ?_
  show WQ G d Y_X11_now _ 0 [(0, .ref 72), (1, .int (nI m))] [] (I, L, RR b)
  refine wp_aload_n rfl rfl ?_
  refine q_getr rfl rfl (by first | rfl | assumption) rfl rfl ?_
  refine wp_iload_n rfl rfl ?_
  refine q_zald rfl (by first | rfl | assumption) (by assumption) ?_
  refine wp_if_eq 10 rfl rfl (fun h4 => ?_) (fun h4 => ?_)
  · refine wp_aload_n rfl rfl ?_
    refine q_getr rfl rfl (by first | rfl | assumption) rfl rfl ?_
    refine wp_iload_n rfl rfl ?_
    refine q_iald rfl (by first | rfl | assumption) (by assumption) ?_
    exact wp_iret rfl rfl (⟨by rw [hcl] at *; unfold chNow; grind, rfl⟩)
  · refine wp_aload_n rfl rfl ?_
    refine q_getr rfl rfl (by first | rfl | assumption) rfl rfl ?_
    refine wp_iload_n rfl rfl ?_
    refine q_iald rfl (by first | rfl | assumption) (by assumption) ?_
    refine wp_goto 14 rfl rfl ?_
    exact wp_iret rfl rfl (⟨by rw [hcl] at *; unfold chNow; grind, rfl⟩)
theorem c_X11_hurts (G : Gl) (d : Nat) {nm na nr s a o : Nat} (x y : Int32) (I : IF) (L : LF) (b : Bool) (h : IV nm na nr I L) (hs : s < 14) (ha : a < nr) (hx : x = nI s) (hy : y = nI a) (ho : I (18 + a) 6 = nI o) (hom : o < nm) : MD G (d + 1) Y_X11_hurts [.ref 72, .int x, .int y] (I, L, RR b) (some (.int (b2 (stg I o a < I 1 7 * stg I s a)))) (I, L, RR b) := by
  subst hx
  subst hy
  have hnm : nm ≤ 10 := h.1.1.2.2
  have hnr : nr ≤ 16 := h.1.2.2.2.2
  have hcl : (nI a).toNatClampNeg = a := nI_clamp (by omega)
  have hin : vp_in (nI a) 16 := vp_in_nI (by omega) (by omega)
  have z9 := (h.2.2.2.2.2.2.2.2.1 a (by omega)).1 ha
  have h92 : I 92 a = nI o := z9.1.trans ho
  have hne : ¬ nI o = (-1 : Int32) := by have := nI_pos' (n := o) (by omega); grind
  obtain ⟨q1, e1, e2⟩ := stg_b h hs (show a < 16 by omega)
  obtain ⟨q2, e3, e4⟩ := stg_b h (m := o) (by omega) (show a < 16 by omega)
  obtain ⟨r1, r2, r3⟩ := h.2.1.2.2.1
  obtain ⟨rn, rn1, rn2⟩ := nI_of2 (M := 100) (n := 100) rfl (by grind) r3
  have hprod : rn * q1 ≤ 100000000 := Nat.le_trans (Nat.mul_le_mul rn1 e1) (by omega)
  have hcmp : stg I o a < I 1 7 * stg I s a ↔ q2 < rn * q1 := by
    rw [e2, e4, rn2, pk_mul]
    exact nI_ltI (by omega) (by omega)
  have hlng : ((I 72 10).toInt64 * (stg I s a).toInt64) = lN (rn * q1) ∧ (stg I o a).toInt64 = lN q2 := by
    rw [r1, rn2, e2, e4, nI_l (by omega), nI_l (by omega), nI_l (by omega), lN_mul]
    exact ⟨rfl, rfl⟩
  refine MT.intro m_X11_hurts rfl (Nat.le_of_ble_eq_true rfl) ?_
  show WQ G (d + 1) Y_X11_hurts _ 0 [(0, .ref 72), (1, .int (nI s)), (2, .int (nI a))] [] (I, L, RR b)
  refine wp_aload_n rfl rfl ?_
  refine q_getr rfl rfl (by first | rfl | assumption) rfl rfl ?_
  refine wp_iload_n rfl rfl ?_
  refine q_iald rfl (by first | rfl | assumption) (by assumption) ?_
  refine wp_iconst (v := (-1)) rfl rfl ?_
  refine wp_icmp_eq 27 rfl rfl (fun h5 => ?_) (fun h5 => ?_)
  · rw [hcl, h92] at h5; exact absurd h5 hne
  · refine wp_aload_n rfl rfl ?_
    refine q_geti rfl rfl (by first | rfl | assumption) rfl ?_
    refine wp_i2l rfl ?_
    refine wp_aload_n rfl rfl ?_
    refine wp_iload_n rfl rfl ?_
    refine wp_iload_n rfl rfl ?_
    refine cV1 rfl l_11_172 i_X11_at m_X11_at (by first | rfl | assumption) (by decide) (d_at G _ _ h hs (by omega) rfl rfl) rfl (Nat.le_of_ble_eq_true rfl) ?_
    refine wp_i2l rfl ?_
    refine wp_lmul rfl ?_
    refine wp_aload_n rfl rfl ?_
    refine wp_aload_n rfl rfl ?_
    refine q_getr rfl rfl (by first | rfl | assumption) rfl rfl ?_
    refine wp_iload_n rfl rfl ?_
    refine q_iald rfl (by first | rfl | assumption) (by assumption) ?_
    refine wp_iload_n rfl rfl ?_
    refine cV1 rfl l_11_172 i_X11_at m_X11_at (by first | rfl | assumption) (by decide) (d_at G _ _ h (m := o) (by omega) (by omega) (by rw [hcl]; exact h92) rfl) rfl (Nat.le_of_ble_eq_true rfl) ?_
    refine wp_i2l rfl ?_
    rw [hlng.1, hlng.2]
    refine wp_lcmp rfl ?_
    refine wp_if_le 27 rfl rfl (fun h24 => ?_) (fun h24 => ?_)
    · refine wp_iconst (v := 0) rfl rfl ?_
      exact wp_zret rfl rfl (by first | rfl | exact nb2 _ | assumption) (⟨by have := lN_lt (a := q2) (b := rn * q1) (by omega) (by omega); have := lN_eq (a := q2) (b := rn * q1) (by omega) (by omega); simp only [lg_cmp] at *; grind [b2], rfl⟩)
    · refine wp_iconst (v := 1) rfl rfl ?_
      refine wp_goto 28 rfl rfl ?_
      exact wp_zret rfl rfl (by first | rfl | exact nb2 _ | assumption) (⟨by have := lN_lt (a := q2) (b := rn * q1) (by omega) (by omega); have := lN_eq (a := q2) (b := rn * q1) (by omega) (by omega); simp only [lg_cmp] at *; grind [b2], rfl⟩)
/-- skipping those that don't -/
theorem fst1_skip {P : Nat → Bool} : ∀ (j n i : Nat), (∀ q, i ≤ q → q < i + j → P q = false) → fst1 P (j + n) i = fst1 P n (i + j)
  | 0, n, i, _ => by rw [Nat.zero_add, Nat.add_zero]
  | j + 1, n, i, h => by
    rw [show j + 1 + n = (j + n) + 1 by omega]
    simp only [fst1]
    rw [if_neg (by rw [h i (by omega) (by omega)]; decide), fst1_skip j n (i + 1) (fun q h1 h2 => h q (by omega) (by omega)), show i + 1 + j = i + (j + 1) by omega]
theorem fst1_none {P : Nat → Bool} : ∀ (n i : Nat), (∀ q, i ≤ q → q < i + n → P q = false) → fst1 P n i = -1
  | 0, _, _ => rfl
  | n + 1, i, h => by
    simp only [fst1]
    rw [if_neg (by rw [h i (by omega) (by omega)]; decide), fst1_none n (i + 1) (fun q h1 h2 => h q (by omega) (by omega))]
theorem c_X11_hurtBy (G : Gl) (d : Nat) {nm na nr a : Nat} (y : Int32) (I : IF) (L : LF) (b : Bool) (h : IV nm na nr I L) (ha : a < nr) (hy : y = nI a) : MD G (d + 2) Y_X11_hurtBy [.ref 72, .int y] (I, L, RR b) (some (.int (hurtF I a))) (I, L, RR b) := by
  subst hy
  have hnm : nm ≤ 10 := h.1.1.2.2
  have hna : na ≤ 4 := h.1.2.1.2.2
  have hnr : nr ≤ 16 := h.1.2.2.2.2
  have hcl : (nI a).toNatClampNeg = a := nI_clamp (by omega)
  have hin : vp_in (nI a) 16 := vp_in_nI (by omega) (by omega)
  have z9 := (h.2.2.2.2.2.2.2.2.1 a (by omega)).1 ha
  by_cases hno : I (18 + a) 6 = -1
  · have hF : hurtF I a = -1 := by unfold hurtF; rw [if_neg (by rw [hno]; exact fun z => absurd z.1 (by decide))]
    refine MT.intro m_X11_hurtBy rfl (Nat.le_of_ble_eq_true rfl) ?_
    show WQ G (d + 2) Y_X11_hurtBy _ 0 [(0, .ref 72), (1, .int (nI a))] [] (I, L, RR b)
    refine wp_aload_n rfl rfl ?_
    refine q_getr rfl rfl (by first | rfl | assumption) rfl rfl ?_
    refine wp_iload_n rfl rfl ?_
    refine q_iald rfl (by first | rfl | assumption) (by assumption) ?_
    refine wp_istore_n (lv' := [(2, _), (0, _), (1, _)]) rfl rfl (by decide) rfl ?_
    refine wp_iload_n rfl rfl ?_
    refine wp_iconst (v := (-1)) rfl rfl ?_
    refine wp_icmp_ne 10 rfl rfl (fun h7 => ?_) (fun h7 => ?_)
    · refine wp_loc (lv' := [(0, _), (1, _), (2, _)]) [1, 2, 0] rfl ?_
      rw [hcl, z9.1] at h7; exact absurd hno h7
    · refine wp_iconst (v := (-1)) rfl rfl ?_
      exact wp_iret rfl rfl (⟨by rw [hF], rfl⟩)
  · obtain ⟨o, ho, hoe⟩ := nI_get (x := I (18 + a) 6) (n := nm) (by grind) z9.2.2 (by omega)
    have how : ow I a = o := by show (I (18 + a) 6).toNatClampNeg = o; rw [hoe]; exact nI_clamp (by omega)
    have hisM : 0 ≤ I (18 + a) 6 ∧ I (18 + a) 6 < I 1 2 := by rw [h.1.1.1]; exact ⟨by grind, z9.2.2⟩
    have hF : hurtF I a = fst1 (hrtB I a) 14 0 := by unfold hurtF; rw [if_pos hisM]
    have hcld : ∀ s, s < 14 → (cldB I a s = true ↔ (s < nm ∨ (10 ≤ s ∧ s < 10 + na)) ∧ ¬ s = o ∧ stg I o a < I 1 7 * stg I s a) := by
      intro s hs
      have e1 : (0 ≤ nI s ∧ nI s < I 1 2) ↔ s < nm := by rw [h.1.1.1, nI_ltI (by omega) (by omega)]; exact ⟨fun z => z.2, fun z => ⟨nI_pos' (by omega), z⟩⟩
      have e2 : (10 ≤ nI s ∧ nI s - 10 < I 1 3) ↔ (10 ≤ s ∧ s < 10 + na) := by
        rw [h.1.2.1.1, show (10 : Int32) = nI 10 from rfl, nI_leI (by omega) (by omega)]
        constructor
        · intro ⟨z1, z2⟩
          rw [pk_sub z1, nI_ltI (by omega) (by omega)] at z2
          exact ⟨z1, by omega⟩
        · intro ⟨z1, z2⟩
          rw [pk_sub z1, nI_ltI (by omega) (by omega)]
          exact ⟨z1, by omega⟩
      simp only [cldB, decide_eq_true_eq]
      rw [e1, e2, how, hoe, nI_eq (by omega) (by omega)]
      have := hisM
      rw [hoe] at this
      grind
    have hloop2 : ∀ (t : Int32) (n i : Nat), i + n = na → fst1 (hrtB I a) (n + (4 - na)) (10 + i) = t → WQ G (d + 2) Y_X11_hurtBy (fun r' w'' => r' = some (.int t) ∧ w'' = (I, L, RR b)) 41 [(0, .ref 72), (1, .int (nI a)), (2, .int (nI o)), (3, .int (nI i))] [] (I, L, RR b) := by
      intro t n
      induction n with
      | zero =>
        intro i hi ht
        have hge : I 72 6 ≤ nI i := by rw [h.1.2.1.2.1]; exact nI_le (by omega) (by omega)
        rw [fst1_none _ _ (fun q q1 q2 => ?_)] at ht
        · refine wp_iload_n rfl rfl ?_
          refine wp_aload_n rfl rfl ?_
          refine q_geti rfl rfl (by first | rfl | assumption) rfl ?_
          refine wp_icmp_ge 75 rfl rfl (fun _ => ?_) (fun h44 => absurd hge h44)
          refine wp_iconst (v := (-1)) rfl rfl ?_
          exact wp_iret rfl rfl (⟨by rw [← ht], rfl⟩)
        · simp only [hrtB]
          have := hcld q (by omega)
          grind
      | succ n ih =>
        intro i hi ht
        rw [show n + 1 + (4 - na) = (n + (4 - na)) + 1 by omega] at ht
        simp only [fst1] at ht
        have hlt : ¬ I 72 6 ≤ nI i := by rw [h.1.2.1.2.1]; exact nI_ge (by omega) (by omega)
        have hcli : (nI i).toNatClampNeg = i := nI_clamp (by omega)
        have hin4 : vp_in (nI i) 4 := vp_in_nI (by omega) (by omega)
        have e10 : (10 : Int32) + nI i = nI (10 + i) := nI_add 10 i
        have hcl10 : (nI (10 + i)).toNatClampNeg = 10 + i := nI_clamp (by omega)
        have hin14 : vp_in (10 + nI i) 14 := by rw [e10]; exact vp_in_nI (by omega) (by omega)
        have z6 := h.2.2.2.2.2.1 i (by omega)
        have z3 := h.2.2.1 (10 + i) (by omega)
        have hc := hcld (10 + i) (by omega)
        have hch : chNow I (4 + (10 + i)) = I 80 (10 + i) := by unfold chNow; rw [show 4 + (10 + i) = 14 + i by omega, if_pos z6.2, z3.1.2.2.2, show 4 + (10 + i) = 14 + i by omega]
        have hsn : sndB I (10 + i) = decide (I 72 8 < I 82 i) := by unfold sndB; rw [if_neg (by omega), h.2.1.1.1, z6.1.1, show 4 + (10 + i) = 14 + i by omega]
        refine wp_iload_n rfl rfl ?_
        refine wp_aload_n rfl rfl ?_
        refine q_geti rfl rfl (by first | rfl | assumption) rfl ?_
        refine wp_icmp_ge 75 rfl rfl (fun h44 => absurd h44 hlt) (fun _ => ?_)
        refine wp_aload_n rfl rfl ?_
        refine q_geti rfl rfl (by first | rfl | assumption) rfl ?_
        refine wp_aload_n rfl rfl ?_
        refine q_getr rfl rfl (by first | rfl | assumption) rfl rfl ?_
        refine wp_iload_n rfl rfl ?_
        refine q_iald rfl (by first | rfl | assumption) (by assumption) ?_
        refine wp_icmp_ge 73 rfl rfl (fun h51 => ?_) (fun h51 => ?_)
        · refine wp_iinc (v := nI (i + 1)) (lv' := [(3, _), (0, _), (1, _), (2, _)]) rfl rfl (nI_1 i) (by decide) rfl ?_
          refine wp_goto 41 rfl rfl ?_
          refine wp_loc (lv' := [(0, _), (1, _), (2, _), (3, _)]) [1, 2, 3, 0] rfl ?_
          refine ih (i + 1) (by omega) ?_
          rw [← ht, if_neg, show 10 + (i + 1) = 10 + i + 1 by omega]
          simp only [hrtB, hch, hsn, how]
          rw [hcli] at *
          try rw [e10, hcl10] at *
          grind [b2]
        · refine wp_aload_n rfl rfl ?_
          refine q_getr rfl rfl (by first | rfl | assumption) rfl rfl ?_
          refine wp_bipush (v := 10) rfl rfl ?_
          refine wp_iload_n rfl rfl ?_
          refine wp_iadd rfl ?_
          refine q_iald rfl (by first | rfl | assumption) (by assumption) ?_
          refine wp_aload_n rfl rfl ?_
          refine wp_iload_n rfl rfl ?_
          refine cV1 rfl l_11_344 i_X11_now m_X11_now (by first | rfl | assumption) (by decide) (c_X11_now G _ _ _ _ _ h ho rfl) rfl (Nat.le_of_ble_eq_true rfl) ?_
          refine wp_icmp_ne 73 rfl rfl (fun h61 => ?_) (fun h61 => ?_)
          · refine wp_iinc (v := nI (i + 1)) (lv' := [(3, _), (0, _), (1, _), (2, _)]) rfl rfl (nI_1 i) (by decide) rfl ?_
            refine wp_goto 41 rfl rfl ?_
            refine wp_loc (lv' := [(0, _), (1, _), (2, _), (3, _)]) [1, 2, 3, 0] rfl ?_
            refine ih (i + 1) (by omega) ?_
            rw [← ht, if_neg, show 10 + (i + 1) = 10 + i + 1 by omega]
            simp only [hrtB, hch, hsn, how]
            rw [hcli] at *
            try rw [e10, hcl10] at *
            grind [b2]
          · refine wp_aload_n rfl rfl ?_
            refine wp_bipush (v := 10) rfl rfl ?_
            refine wp_iload_n rfl rfl ?_
            refine wp_iadd rfl ?_
            refine wp_iload_n rfl rfl ?_
            refine cV1 rfl l_11_178 i_X11_hurts m_X11_hurts (by first | rfl | assumption) (by decide) (c_X11_hurts G _ _ _ _ _ _ h (show 10 + i < 14 by omega) ha e10 rfl hoe ho) rfl (Nat.le_of_ble_eq_true rfl) ?_
            refine wp_if_eq 73 rfl rfl (fun h68 => ?_) (fun h68 => ?_)
            · refine wp_iinc (v := nI (i + 1)) (lv' := [(3, _), (0, _), (1, _), (2, _)]) rfl rfl (nI_1 i) (by decide) rfl ?_
              refine wp_goto 41 rfl rfl ?_
              refine wp_loc (lv' := [(0, _), (1, _), (2, _), (3, _)]) [1, 2, 3, 0] rfl ?_
              refine ih (i + 1) (by omega) ?_
              rw [← ht, if_neg, show 10 + (i + 1) = 10 + i + 1 by omega]
              simp only [hrtB, hch, hsn, how]
              rw [hcli] at *
              try rw [e10, hcl10] at *
              grind [b2]
            · refine wp_bipush (v := 10) rfl rfl ?_
              refine wp_iload_n rfl rfl ?_
              refine wp_iadd rfl ?_
              exact wp_iret rfl rfl (⟨by rw [← ht, if_pos, e10]; simp only [hrtB, hch, hsn, how]; rw [hcli] at *; (try rw [e10, hcl10] at *); grind [b2], rfl⟩)
    have hloop1 : ∀ (t : Int32) (n i : Nat), i + n = nm → fst1 (hrtB I a) (n + (14 - nm)) i = t → WQ G (d + 2) Y_X11_hurtBy (fun r' w'' => r' = some (.int t) ∧ w'' = (I, L, RR b)) 12 [(0, .ref 72), (1, .int (nI a)), (2, .int (nI o)), (3, .int (nI i))] [] (I, L, RR b) := by
      intro t n
      induction n with
      | zero =>
        intro i hi ht
        have hge : I 72 5 ≤ nI i := by rw [h.1.1.2.1]; exact nI_le (by omega) (by omega)
        rw [Nat.zero_add, show 14 - nm = (10 - nm) + 4 by omega, fst1_skip (10 - nm) 4 i (fun q q1 q2 => ?_), show i + (10 - nm) = 10 by omega] at ht
        · refine wp_iload_n rfl rfl ?_
          refine wp_aload_n rfl rfl ?_
          refine q_geti rfl rfl (by first | rfl | assumption) rfl ?_
          refine wp_icmp_ge 39 rfl rfl (fun _ => ?_) (fun h15 => absurd hge h15)
          refine wp_iconst (v := 0) rfl rfl ?_
          refine wp_istore_n (lv' := [(3, _), (0, _), (1, _), (2, _)]) rfl rfl (by decide) rfl ?_
          refine wp_loc (lv' := [(0, _), (1, _), (2, _), (3, _)]) [1, 2, 3, 0] rfl ?_
          exact hloop2 t na 0 (by omega) (by rw [show na + (4 - na) = 4 by omega]; exact ht)
        · simp only [hrtB]
          have := hcld q (by omega)
          grind
      | succ n ih =>
        intro i hi ht
        rw [show n + 1 + (14 - nm) = (n + (14 - nm)) + 1 by omega] at ht
        simp only [fst1] at ht
        have hlt : ¬ I 72 5 ≤ nI i := by rw [h.1.1.2.1]; exact nI_ge (by omega) (by omega)
        have hc := hcld i (by omega)
        have hio : nI i = nI o ↔ i = o := nI_eq (by omega) (by omega)
        have hsn : sndB I i = onC I 10 (nI i) := by unfold sndB; rw [if_pos (by omega)]
        refine wp_iload_n rfl rfl ?_
        refine wp_aload_n rfl rfl ?_
        refine q_geti rfl rfl (by first | rfl | assumption) rfl ?_
        refine wp_icmp_ge 39 rfl rfl (fun h15 => absurd h15 hlt) (fun _ => ?_)
        refine wp_iload_n rfl rfl ?_
        refine wp_iload_n rfl rfl ?_
        refine wp_icmp_eq 37 rfl rfl (fun h18 => ?_) (fun h18 => ?_)
        · refine wp_iinc (v := nI (i + 1)) (lv' := [(3, _), (0, _), (1, _), (2, _)]) rfl rfl (nI_1 i) (by decide) rfl ?_
          refine wp_goto 12 rfl rfl ?_
          refine wp_loc (lv' := [(0, _), (1, _), (2, _), (3, _)]) [1, 2, 3, 0] rfl ?_
          refine ih (i + 1) (by omega) ?_
          rw [← ht, if_neg]
          simp only [hrtB, hsn, how]
          grind [b2]
        · refine wp_aload_n rfl rfl ?_
          refine wp_iload_n rfl rfl ?_
          refine cV1 rfl l_11_341 i_X11_isOn m_X11_isOn (by first | rfl | assumption) (by decide) (c_X11_isOn G _ _ _ _ _ h (Or.inr ⟨i, by omega, rfl⟩)) rfl (Nat.le_of_ble_eq_true rfl) ?_
          refine wp_if_eq 37 rfl rfl (fun h22 => ?_) (fun h22 => ?_)
          · refine wp_iinc (v := nI (i + 1)) (lv' := [(3, _), (0, _), (1, _), (2, _)]) rfl rfl (nI_1 i) (by decide) rfl ?_
            refine wp_goto 12 rfl rfl ?_
            refine wp_loc (lv' := [(0, _), (1, _), (2, _), (3, _)]) [1, 2, 3, 0] rfl ?_
            refine ih (i + 1) (by omega) ?_
            rw [← ht, if_neg]
            simp only [hrtB, hsn, how]
            grind [b2]
          · refine wp_aload_n rfl rfl ?_
            refine wp_iload_n rfl rfl ?_
            refine cV1 rfl l_11_344 i_X11_now m_X11_now (by first | rfl | assumption) (by decide) (c_X11_now G _ _ _ _ _ h (show i < nm by omega) rfl) rfl (Nat.le_of_ble_eq_true rfl) ?_
            refine wp_aload_n rfl rfl ?_
            refine wp_iload_n rfl rfl ?_
            refine cV1 rfl l_11_344 i_X11_now m_X11_now (by first | rfl | assumption) (by decide) (c_X11_now G _ _ _ _ _ h ho rfl) rfl (Nat.le_of_ble_eq_true rfl) ?_
            refine wp_icmp_ne 37 rfl rfl (fun h29 => ?_) (fun h29 => ?_)
            · refine wp_iinc (v := nI (i + 1)) (lv' := [(3, _), (0, _), (1, _), (2, _)]) rfl rfl (nI_1 i) (by decide) rfl ?_
              refine wp_goto 12 rfl rfl ?_
              refine wp_loc (lv' := [(0, _), (1, _), (2, _), (3, _)]) [1, 2, 3, 0] rfl ?_
              refine ih (i + 1) (by omega) ?_
              rw [← ht, if_neg]
              simp only [hrtB, hsn, how]
              grind [b2]
            · refine wp_aload_n rfl rfl ?_
              refine wp_iload_n rfl rfl ?_
              refine wp_iload_n rfl rfl ?_
              refine cV1 rfl l_11_178 i_X11_hurts m_X11_hurts (by first | rfl | assumption) (by decide) (c_X11_hurts G _ _ _ _ _ _ h (show i < 14 by omega) ha rfl rfl hoe ho) rfl (Nat.le_of_ble_eq_true rfl) ?_
              refine wp_if_eq 37 rfl rfl (fun h34 => ?_) (fun h34 => ?_)
              · refine wp_iinc (v := nI (i + 1)) (lv' := [(3, _), (0, _), (1, _), (2, _)]) rfl rfl (nI_1 i) (by decide) rfl ?_
                refine wp_goto 12 rfl rfl ?_
                refine wp_loc (lv' := [(0, _), (1, _), (2, _), (3, _)]) [1, 2, 3, 0] rfl ?_
                refine ih (i + 1) (by omega) ?_
                rw [← ht, if_neg]
                simp only [hrtB, hsn, how]
                grind [b2]
              · refine wp_iload_n rfl rfl ?_
                exact wp_iret rfl rfl (⟨by rw [← ht, if_pos]; simp only [hrtB, hsn, how]; grind [b2], rfl⟩)
    refine MT.intro m_X11_hurtBy rfl (Nat.le_of_ble_eq_true rfl) ?_
    show WQ G (d + 2) Y_X11_hurtBy _ 0 [(0, .ref 72), (1, .int (nI a))] [] (I, L, RR b)
    refine wp_aload_n rfl rfl ?_
    refine q_getr rfl rfl (by first | rfl | assumption) rfl rfl ?_
    refine wp_iload_n rfl rfl ?_
    refine q_iald rfl (by first | rfl | assumption) (by assumption) ?_
    refine wp_istore_n (lv' := [(2, _), (0, _), (1, _)]) rfl rfl (by decide) rfl ?_
    refine wp_iload_n rfl rfl ?_
    refine wp_iconst (v := (-1)) rfl rfl ?_
    refine wp_icmp_ne 10 rfl rfl (fun h7 => ?_) (fun h7 => ?_)
    · refine wp_iconst (v := 0) rfl rfl ?_
      refine wp_istore_n (lv' := [(3, _), (2, _), (0, _), (1, _)]) rfl rfl (by decide) rfl ?_
      refine wp_loc (lv' := [(0, _), (1, _), (2, _), (3, _)]) [2, 3, 1, 0] rfl ?_
      rw [hcl, z9.1, hoe]
      exact hloop1 _ nm 0 (by omega) (by rw [show nm + (14 - nm) = 14 by omega, hF])
    · rw [hcl, z9.1] at h7; exact absurd h7 hno
end
section
/-! the picture, snow, hurt, turn -/
def picF (I : IF) (a : Nat) : Int32 := if (0 ≤ I (18 + a) 6 ∧ I (18 + a) 6 < I 1 2) ∧ ¬ stg I (ow I a) a < I 1 6 then (if onC I 10 (I (18 + a) 6) = true then (if hurtF I a = -1 then (if ¬ I (4 + ow I a) 9 = 0 ∧ I (18 + a) 5 < I (18 + a) 2 then 4 else 0) else 3) else 2) else 1
theorem c_X1_pictureOf (G : Gl) (d : Nat) {nm na nr a : Nat} (I : IF) (L : LF) (b : Bool) (h : IV nm na nr I L) (ha : a < 16) : MD G (d + 4) Y_X1_pictureOf [.ref 1, .ref (18 + a)] (I, L, RR b) (some (.int (picF I a))) (I, L, RR b) := by
  have hsa := sh_area a ha
  refine MT.intro m_X1_pictureOf rfl (Nat.le_of_ble_eq_true rfl) ?_
  show WQ G (d + 4) Y_X1_pictureOf _ 0 [(0, .ref 1), (1, .ref (18 + a))] [] (I, L, RR b)
  refine wp_aload_n rfl rfl ?_
  refine wp_aload_n rfl rfl ?_
  refine q_geti rfl rfl (by first | rfl | assumption) rfl ?_
  refine cV1 rfl l_1_35 i_X1_isMast m_X1_isMast (by first | rfl | assumption) (by decide) (c_X1_isMast G _ _ _ _ _) rfl (Nat.le_of_ble_eq_true rfl) ?_
  refine wp_if_eq 15 rfl rfl (fun h4 => ?_) (fun h4 => ?_)
  · refine wp_iconst (v := 1) rfl rfl ?_
    exact wp_iret rfl rfl (⟨by simp only [picF, ow]; grind [b2], rfl⟩)
  · have hv := b2_ne.mp h4
    obtain ⟨m, hm, hvm, hcl⟩ := (isM h.1 _).1 hv
    have hm14 : m < 14 := by have := h.1.1.2.2; omega
    have hsm := sh_mast m hm14
    refine wp_aload_n rfl rfl ?_
    refine q_getr rfl rfl (by first | rfl | assumption) rfl rfl ?_
    refine wp_aload_n rfl rfl ?_
    refine q_geti rfl rfl (by first | rfl | assumption) rfl ?_
    refine q_mast rfl hvm hm14 ?_
    refine wp_aload_n rfl rfl ?_
    refine cV1 rfl l_1_61 i_X4_strengthAt m_X4_strengthAt (by first | rfl | assumption) (by decide) (d_strengthAt G _ _ h hm14 ha) rfl (Nat.le_of_ble_eq_true rfl) ?_
    refine wp_aload_n rfl rfl ?_
    refine q_geti rfl rfl (by first | rfl | assumption) rfl ?_
    refine wp_icmp_ge 17 rfl rfl (fun h14 => ?_) (fun h14 => ?_)
    · refine wp_aload_n rfl rfl ?_
      refine wp_aload_n rfl rfl ?_
      refine q_geti rfl rfl (by first | rfl | assumption) rfl ?_
      refine cV1 rfl l_1_52 i_X1_isOn m_X1_isOn (by first | rfl | assumption) (by decide) (c_X1_isOn G _ _ _ _ _ h.1) rfl (Nat.le_of_ble_eq_true rfl) ?_
      refine wp_if_ne 24 rfl rfl (fun h21 => ?_) (fun h21 => ?_)
      · refine wp_aload_n rfl rfl ?_
        refine wp_aload_n rfl rfl ?_
        refine cV1 rfl l_1_82 i_X1_hurterOf m_X1_hurterOf (by first | rfl | assumption) (by decide) (c_X1_hurterOf G _ _ _ _ h ha) rfl (Nat.le_of_ble_eq_true rfl) ?_
        refine wp_iconst (v := (-1)) rfl rfl ?_
        refine wp_icmp_eq 31 rfl rfl (fun h28 => ?_) (fun h28 => ?_)
        · refine wp_aload_n rfl rfl ?_
          refine q_getr rfl rfl (by first | rfl | assumption) rfl rfl ?_
          refine wp_aload_n rfl rfl ?_
          refine q_geti rfl rfl (by first | rfl | assumption) rfl ?_
          refine q_mast rfl hvm hm14 ?_
          refine q_geti rfl rfl (by first | rfl | assumption) rfl ?_
          refine wp_if_eq 45 rfl rfl (fun h37 => ?_) (fun h37 => ?_)
          · refine wp_iconst (v := 0) rfl rfl ?_
            exact wp_iret rfl rfl (⟨by simp only [picF, ow]; grind [b2], rfl⟩)
          · refine wp_aload_n rfl rfl ?_
            refine q_geti rfl rfl (by first | rfl | assumption) rfl ?_
            refine wp_aload_n rfl rfl ?_
            refine q_geti rfl rfl (by first | rfl | assumption) rfl ?_
            refine wp_icmp_ge 45 rfl rfl (fun h42 => ?_) (fun h42 => ?_)
            · refine wp_iconst (v := 0) rfl rfl ?_
              exact wp_iret rfl rfl (⟨by simp only [picF, ow]; grind [b2], rfl⟩)
            · refine wp_iconst (v := 4) rfl rfl ?_
              refine wp_goto 46 rfl rfl ?_
              exact wp_iret rfl rfl (⟨by simp only [picF, ow]; grind [b2], rfl⟩)
        · refine wp_iconst (v := 3) rfl rfl ?_
          exact wp_iret rfl rfl (⟨by simp only [picF, ow]; grind [b2], rfl⟩)
      · refine wp_iconst (v := 2) rfl rfl ?_
        exact wp_iret rfl rfl (⟨by simp only [picF, ow]; grind [b2], rfl⟩)
    · refine wp_iconst (v := 1) rfl rfl ?_
      exact wp_iret rfl rfl (⟨by simp only [picF, ow]; grind [b2], rfl⟩)
theorem c_X11_pictureOf (G : Gl) (d : Nat) {nm na nr a : Nat} (y : Int32) (I : IF) (L : LF) (b : Bool) (h : IV nm na nr I L) (ha : a < nr) (hy : y = nI a) : MD G (d + 3) Y_X11_pictureOf [.ref 72, .int y] (I, L, RR b) (some (.int (picF I a))) (I, L, RR b) := by
  subst hy
  have hnm : nm ≤ 10 := h.1.1.2.2
  have hnr : nr ≤ 16 := h.1.2.2.2.2
  have hcl : (nI a).toNatClampNeg = a := nI_clamp (by omega)
  have hin : vp_in (nI a) 16 := vp_in_nI (by omega) (by omega)
  have z9 := (h.2.2.2.2.2.2.2.2.1 a (by omega)).1 ha
  have z8 := h.2.2.2.2.2.2.2.1 a (by omega)
  by_cases hno : I (18 + a) 6 = -1
  · have hF : picF I a = 1 := by unfold picF; rw [if_neg (by rw [hno]; exact fun z => absurd z.1.1 (by decide))]
    refine MT.intro m_X11_pictureOf rfl (Nat.le_of_ble_eq_true rfl) ?_
    show WQ G (d + 3) Y_X11_pictureOf _ 0 [(0, .ref 72), (1, .int (nI a))] [] (I, L, RR b)
    refine wp_aload_n rfl rfl ?_
    refine q_getr rfl rfl (by first | rfl | assumption) rfl rfl ?_
    refine wp_iload_n rfl rfl ?_
    refine q_iald rfl (by first | rfl | assumption) (by assumption) ?_
    refine wp_istore_n (lv' := [(2, _), (0, _), (1, _)]) rfl rfl (by decide) rfl ?_
    refine wp_iload_n rfl rfl ?_
    refine wp_iconst (v := (-1)) rfl rfl ?_
    refine wp_icmp_eq 15 rfl rfl (fun h7 => ?_) (fun h7 => ?_)
    · refine wp_iconst (v := 1) rfl rfl ?_
      exact wp_iret rfl rfl (⟨by rw [hF], rfl⟩)
    · refine wp_loc (lv' := [(0, _), (1, _), (2, _)]) [1, 2, 0] rfl ?_
      rw [hcl, z9.1] at h7; exact absurd hno h7
  · obtain ⟨o, ho, hoe⟩ := nI_get (x := I (18 + a) 6) (n := nm) (by grind) z9.2.2 (by omega)
    have how : ow I a = o := by show (I (18 + a) 6).toNatClampNeg = o; rw [hoe]; exact nI_clamp (by omega)
    have hisM : 0 ≤ I (18 + a) 6 ∧ I (18 + a) 6 < I 1 2 := by rw [h.1.1.1]; exact ⟨by grind, z9.2.2⟩
    have hclo : (nI o).toNatClampNeg = o := nI_clamp (by omega)
    have hino : vp_in (nI o) 10 := vp_in_nI (by omega) (by omega)
    have z4 := h.2.2.2.1 o (by omega)
    have hst := h.2.1.2.1
    refine MT.intro m_X11_pictureOf rfl (Nat.le_of_ble_eq_true rfl) ?_
    show WQ G (d + 3) Y_X11_pictureOf _ 0 [(0, .ref 72), (1, .int (nI a))] [] (I, L, RR b)
    refine wp_aload_n rfl rfl ?_
    refine q_getr rfl rfl (by first | rfl | assumption) rfl rfl ?_
    refine wp_iload_n rfl rfl ?_
    refine q_iald rfl (by first | rfl | assumption) (by assumption) ?_
    rw [hcl, z9.1, hoe]
    refine wp_istore_n (lv' := [(2, _), (0, _), (1, _)]) rfl rfl (by decide) rfl ?_
    refine wp_iload_n rfl rfl ?_
    refine wp_iconst (v := (-1)) rfl rfl ?_
    refine wp_icmp_eq 15 rfl rfl (fun h7 => ?_) (fun h7 => ?_)
    · exact absurd h7 (by rw [← hoe]; exact hno)
    · refine wp_aload_n rfl rfl ?_
      refine wp_iload_n rfl rfl ?_
      refine wp_iload_n rfl rfl ?_
      refine cV1 rfl l_11_172 i_X11_at m_X11_at (by first | rfl | assumption) (by decide) (d_at G _ _ h (show o < 14 by omega) (show a < 16 by omega) rfl rfl) rfl (Nat.le_of_ble_eq_true rfl) ?_
      refine wp_aload_n rfl rfl ?_
      refine q_geti rfl rfl (by first | rfl | assumption) rfl ?_
      refine wp_icmp_ge 17 rfl rfl (fun h14 => ?_) (fun h14 => ?_)
      · refine wp_aload_n rfl rfl ?_
        refine wp_iload_n rfl rfl ?_
        refine cV1 rfl l_11_341 i_X11_isOn m_X11_isOn (by first | rfl | assumption) (by decide) (c_X11_isOn G _ _ _ _ _ h (Or.inr ⟨o, ho, rfl⟩)) rfl (Nat.le_of_ble_eq_true rfl) ?_
        refine wp_if_ne 23 rfl rfl (fun h20 => ?_) (fun h20 => ?_)
        · refine wp_aload_n rfl rfl ?_
          refine wp_iload_n rfl rfl ?_
          refine cV1 rfl l_11_347 i_X11_hurtBy m_X11_hurtBy (by first | rfl | assumption) (by decide) (c_X11_hurtBy G _ _ _ _ _ h ha rfl) rfl (Nat.le_of_ble_eq_true rfl) ?_
          refine wp_iconst (v := (-1)) rfl rfl ?_
          refine wp_icmp_eq 30 rfl rfl (fun h27 => ?_) (fun h27 => ?_)
          · refine wp_aload_n rfl rfl ?_
            refine q_getr rfl rfl (by first | rfl | assumption) rfl rfl ?_
            refine wp_iload_n rfl rfl ?_
            refine q_zald rfl (by first | rfl | assumption) (by assumption) ?_
            refine wp_if_eq 46 rfl rfl (fun h34 => ?_) (fun h34 => ?_)
            · refine wp_iconst (v := 0) rfl rfl ?_
              exact wp_iret rfl rfl (⟨by simp only [picF, how]; rw [hoe] at *; (try rw [hclo] at *); (try rw [hcl] at *); grind [b2], rfl⟩)
            · refine wp_aload_n rfl rfl ?_
              refine q_getr rfl rfl (by first | rfl | assumption) rfl rfl ?_
              refine wp_iload_n rfl rfl ?_
              refine q_iald rfl (by first | rfl | assumption) (by assumption) ?_
              refine wp_aload_n rfl rfl ?_
              refine q_getr rfl rfl (by first | rfl | assumption) rfl rfl ?_
              refine wp_iload_n rfl rfl ?_
              refine q_iald rfl (by first | rfl | assumption) (by assumption) ?_
              refine wp_icmp_ge 46 rfl rfl (fun h43 => ?_) (fun h43 => ?_)
              · refine wp_iconst (v := 0) rfl rfl ?_
                exact wp_iret rfl rfl (⟨by simp only [picF, how]; rw [hoe] at *; (try rw [hclo] at *); (try rw [hcl] at *); grind [b2], rfl⟩)
              · refine wp_iconst (v := 4) rfl rfl ?_
                refine wp_goto 47 rfl rfl ?_
                exact wp_iret rfl rfl (⟨by simp only [picF, how]; rw [hoe] at *; (try rw [hclo] at *); (try rw [hcl] at *); grind [b2], rfl⟩)
          · refine wp_iconst (v := 3) rfl rfl ?_
            exact wp_iret rfl rfl (⟨by simp only [picF, how]; rw [hoe] at *; (try rw [hclo] at *); (try rw [hcl] at *); grind [b2], rfl⟩)
        · refine wp_iconst (v := 2) rfl rfl ?_
          exact wp_iret rfl rfl (⟨by simp only [picF, how]; rw [hoe] at *; (try rw [hclo] at *); (try rw [hcl] at *); grind [b2], rfl⟩)
      · refine wp_iconst (v := 1) rfl rfl ?_
        exact wp_iret rfl rfl (⟨by simp only [picF, how]; rw [hoe] at *; (try rw [hclo] at *); (try rw [hcl] at *); grind [b2], rfl⟩)
def snwF (I : IF) (a : Nat) : Int32 := if picF I a = 0 then 0 else if picF I a = 4 then I (18 + a) 2 - I (18 + a) 5 else I (18 + a) 2
theorem c_X1_snowOf (G : Gl) (d : Nat) {nm na nr a : Nat} (I : IF) (L : LF) (b : Bool) (h : IV nm na nr I L) (ha : a < 16) : MD G (d + 5) Y_X1_snowOf [.ref 1, .ref (18 + a)] (I, L, RR b) (some (.int (snwF I a))) (I, L, RR b) := by
  have hsa := sh_area a ha
  refine MT.intro m_X1_snowOf rfl (Nat.le_of_ble_eq_true rfl) ?_
  show WQ G (d + 5) Y_X1_snowOf _ 0 [(0, .ref 1), (1, .ref (18 + a))] [] (I, L, RR b)
  refine wp_aload_n rfl rfl ?_
  refine wp_aload_n rfl rfl ?_
  refine cV1 rfl l_1_94 i_X1_pictureOf m_X1_pictureOf (by first | rfl | assumption) (by decide) (c_X1_pictureOf G _ _ _ _ h ha) rfl (Nat.le_of_ble_eq_true rfl) ?_
  refine wp_istore_n (lv' := [(2, _), (0, _), (1, _)]) rfl rfl (by decide) rfl ?_
  refine wp_iload_n rfl rfl ?_
  refine wp_if_ne 8 rfl rfl (fun h5 => ?_) (fun h5 => ?_)
  · refine wp_iload_n rfl rfl ?_
    refine wp_iconst (v := 4) rfl rfl ?_
    refine wp_icmp_ne 17 rfl rfl (fun h10 => ?_) (fun h10 => ?_)
    · refine wp_aload_n rfl rfl ?_
      refine q_geti rfl rfl (by first | rfl | assumption) rfl ?_
      exact wp_iret rfl rfl (⟨by simp only [snwF]; grind, rfl⟩)
    · refine wp_aload_n rfl rfl ?_
      refine q_geti rfl rfl (by first | rfl | assumption) rfl ?_
      refine wp_aload_n rfl rfl ?_
      refine q_geti rfl rfl (by first | rfl | assumption) rfl ?_
      refine wp_isub rfl ?_
      refine wp_goto 19 rfl rfl ?_
      exact wp_iret rfl rfl (⟨by simp only [snwF]; grind, rfl⟩)
  · refine wp_iconst (v := 0) rfl rfl ?_
    exact wp_iret rfl rfl (⟨by simp only [snwF]; grind, rfl⟩)
theorem c_X11_snowOf (G : Gl) (d : Nat) {nm na nr a : Nat} (y : Int32) (I : IF) (L : LF) (b : Bool) (h : IV nm na nr I L) (ha : a < nr) (hy : y = nI a) : MD G (d + 4) Y_X11_snowOf [.ref 72, .int y] (I, L, RR b) (some (.int (snwF I a))) (I, L, RR b) := by
  subst hy
  have hnr : nr ≤ 16 := h.1.2.2.2.2
  have hcl : (nI a).toNatClampNeg = a := nI_clamp (by omega)
  have hin : vp_in (nI a) 16 := vp_in_nI (by omega) (by omega)
  have z8 := h.2.2.2.2.2.2.2.1 a (by omega)
  refine MT.intro m_X11_snowOf rfl (Nat.le_of_ble_eq_true rfl) ?_
  show WQ G (d + 4) Y_X11_snowOf _ 0 [(0, .ref 72), (1, .int (nI a))] [] (I, L, RR b)
  refine wp_aload_n rfl rfl ?_
  refine wp_iload_n rfl rfl ?_
  refine cV1 rfl l_11_350 i_X11_pictureOf m_X11_pictureOf (by first | rfl | assumption) (by decide) (c_X11_pictureOf G _ _ _ _ _ h ha rfl) rfl (Nat.le_of_ble_eq_true rfl) ?_
  refine wp_istore_n (lv' := [(2, _), (0, _), (1, _)]) rfl rfl (by decide) rfl ?_
  refine wp_iload_n rfl rfl ?_
  refine wp_if_ne 8 rfl rfl (fun h5 => ?_) (fun h5 => ?_)
  · refine wp_iload_n rfl rfl ?_
    refine wp_iconst (v := 4) rfl rfl ?_
    refine wp_icmp_ne 21 rfl rfl (fun h10 => ?_) (fun h10 => ?_)
    · refine wp_aload_n rfl rfl ?_
      refine q_getr rfl rfl (by first | rfl | assumption) rfl rfl ?_
      refine wp_iload_n rfl rfl ?_
      refine q_iald rfl (by first | rfl | assumption) (by assumption) ?_
      exact wp_iret rfl rfl (⟨by simp only [snwF]; (try rw [hcl] at *); grind, rfl⟩)
    · refine wp_aload_n rfl rfl ?_
      refine q_getr rfl rfl (by first | rfl | assumption) rfl rfl ?_
      refine wp_iload_n rfl rfl ?_
      refine q_iald rfl (by first | rfl | assumption) (by assumption) ?_
      refine wp_aload_n rfl rfl ?_
      refine q_getr rfl rfl (by first | rfl | assumption) rfl rfl ?_
      refine wp_iload_n rfl rfl ?_
      refine q_iald rfl (by first | rfl | assumption) (by assumption) ?_
      refine wp_isub rfl ?_
      refine wp_goto 25 rfl rfl ?_
      exact wp_iret rfl rfl (⟨by simp only [snwF]; (try rw [hcl] at *); grind, rfl⟩)
  · refine wp_iconst (v := 0) rfl rfl ?_
    refine wp_goto 25 rfl rfl ?_
    exact wp_iret rfl rfl (⟨by simp only [snwF]; (try rw [hcl] at *); grind, rfl⟩)
/-- these look at cells below 72 alone -/
theorem onC_cg2 {nm na nr : Nat} {I J : IF} {L : LF} (h : IV nm na nr I L) (hJ : ∀ a, a < 72 → J a = I a) (v : Int32) (hv : v < I 1 2) : onC J 10 v = onC I 10 v := by
  have h10 : I 1 2 ≤ 10 := by rw [h.1.1.1]; exact nI_le (b := 10) h.1.1.2.2 (by omega)
  refine onC_cg hJ 10 v hv h10 (fun m hm hl => ?_)
  have hmn : m < nm := (nI_ltI (by omega) (by have := h.1.1.2.2; omega)).mp (by rw [← h.1.1.1]; exact hl)
  have := h.2.2.2.2.1 m hmn
  grind
theorem ow_lt {nm na nr a : Nat} {I : IF} {L : LF} (h : IV nm na nr I L) (ha : a < nr) : ow I a < 14 := by
  have hnr : nr ≤ 16 := h.1.2.2.2.2
  have hnm : nm ≤ 10 := h.1.1.2.2
  have z9 := (h.2.2.2.2.2.2.2.2.1 a (by omega)).1 ha
  show (I (18 + a) 6).toNatClampNeg < 14
  by_cases e : I (18 + a) 6 = -1
  · rw [e, show (-1 : Int32).toNatClampNeg = 0 from rfl]; omega
  · obtain ⟨o, ho, hoe⟩ := nI_get (x := I (18 + a) 6) (n := nm) (by grind) z9.2.2 (by omega)
    rw [hoe, nI_clamp (by omega)]; omega
theorem hrtB_cg {nm na nr a s : Nat} {I J : IF} {L : LF} (h : IV nm na nr I L) (ha : a < nr) (hJ : ∀ a, a < 72 → J a = I a) (hs : s < 14) : hrtB J a s = hrtB I a s := by
  have hnr : nr ≤ 16 := h.1.2.2.2.2
  have how := ow_lt h ha
  have ea : J (18 + a) = I (18 + a) := hJ _ (by omega)
  have e1 : J 1 = I 1 := hJ _ (by omega)
  have hst : ∀ m, m < 14 → stg J m a = stg I m a := by intro m hm; unfold stg; rw [ea, hJ (4 + m) (by omega)]
  have hoo : ow J a = ow I a := by unfold ow; rw [ea]
  have hcl : cldB J a s = cldB I a s := by
    unfold cldB
    rw [hoo, ea, e1, hst s hs, hst _ how]
  unfold hrtB
  rw [hcl]
  by_cases hc : cldB I a s = true
  · have hsd : ((0 ≤ nI s ∧ nI s < I 1 2) ∨ (10 ≤ nI s ∧ nI s - 10 < I 1 3)) := by
      simp only [cldB, decide_eq_true_eq] at hc
      exact hc.1
    have e2 : chNow J (4 + s) = chNow I (4 + s) := by unfold chNow; rw [hJ (4 + s) (by omega)]
    have e3 : chNow J (4 + ow J a) = chNow I (4 + ow I a) := by
      rw [hoo]
      unfold chNow
      rw [hJ (4 + ow I a) (by omega)]
    have e4 : sndB J s = sndB I s := by
      unfold sndB
      rw [e1, hJ (4 + s) (by omega)]
      by_cases h10 : s < 10
      · rw [if_pos h10, if_pos h10]
        refine onC_cg2 h hJ _ ?_
        rcases hsd with z | z
        · exact z.2
        · have : nI s < 10 := nI_lt (b := 10) h10 (by omega)
          grind
      · rw [if_neg h10, if_neg h10]
    rw [e2, e3, e4]
  · rw [show cldB I a s = false by simpa using hc]
    simp
theorem fst1_cg {P P' : Nat → Bool} (hb : ∀ s, s < 14 → P' s = P s) : ∀ n i, i + n ≤ 14 → fst1 P' n i = fst1 P n i := by
  intro n
  induction n with
  | zero => intro i _; rfl
  | succ n ih => intro i hi; simp only [fst1]; rw [hb i (by omega), ih (i + 1) (by omega)]
theorem hurtF_cg {nm na nr a : Nat} {I J : IF} {L : LF} (h : IV nm na nr I L) (ha : a < nr) (hJ : ∀ a, a < 72 → J a = I a) : hurtF J a = hurtF I a := by
  have hnr : nr ≤ 16 := h.1.2.2.2.2
  have ea : J (18 + a) = I (18 + a) := hJ _ (by omega)
  have e1 : J 1 = I 1 := hJ _ (by omega)
  unfold hurtF
  rw [ea, e1]
  by_cases hc : 0 ≤ I (18 + a) 6 ∧ I (18 + a) 6 < I 1 2
  · rw [if_pos hc, if_pos hc]
    exact fst1_cg (fun s hs => hrtB_cg h ha hJ hs) 14 0 (by omega)
  · rw [if_neg hc, if_neg hc]
theorem picF_cg {nm na nr a : Nat} {I J : IF} {L : LF} (h : IV nm na nr I L) (ha : a < nr) (hJ : ∀ a, a < 72 → J a = I a) : picF J a = picF I a := by
  have hnr : nr ≤ 16 := h.1.2.2.2.2
  have how := ow_lt h ha
  have ea : J (18 + a) = I (18 + a) := hJ _ (by omega)
  have e1 : J 1 = I 1 := hJ _ (by omega)
  have hoo : ow J a = ow I a := by unfold ow; rw [ea]
  have hst : ∀ m, m < 14 → stg J m a = stg I m a := by intro m hm; unfold stg; rw [ea, hJ (4 + m) (by omega)]
  have z9 := (h.2.2.2.2.2.2.2.2.1 a (by omega)).1 ha
  have h1 := hurtF_cg h ha hJ
  have h2 := onC_cg2 h hJ (I (18 + a) 6) (by rw [h.1.1.1]; exact z9.2.2)
  unfold picF
  rw [hoo, ea, e1, h1, h2, hst _ how, hJ (4 + ow I a) (by omega)]
theorem snwF_cg {nm na nr a : Nat} {I J : IF} {L : LF} (h : IV nm na nr I L) (ha : a < nr) (hJ : ∀ a, a < 72 → J a = I a) : snwF J a = snwF I a := by
  have hnr : nr ≤ 16 := h.1.2.2.2.2
  have ea : J (18 + a) = I (18 + a) := hJ _ (by omega)
  have h1 := picF_cg h ha hJ
  unfold snwF
  rw [ea, h1]
theorem hurtF_thr {nm na nr a : Nat} {I : IF} {L : LF} (h : IV nm na nr I L) (ha : a < nr) : hurtF (uI I 72 0 0) a = hurtF I a ∧ picF (uI I 72 0 0) a = picF I a ∧ snwF (uI I 72 0 0) a = snwF I a := by
  have hJ : ∀ a, a < 72 → uI I 72 0 0 a = I a := fun a ha => uI_fn (by omega)
  exact ⟨hurtF_cg h ha hJ, picF_cg h ha hJ, snwF_cg h ha hJ⟩
theorem c_X10_hurt (G : Gl) (d : Nat) {nm na nr : Nat} (v : Int32) (I : IF) (L : LF) (b : Bool) (h : IV nm na nr I L) : MD G (d + 4) Y_X10_hurt [.ref 0, .int v] (I, L, RR b) (some (.int (if 0 ≤ v ∧ v < I 1 4 then hurtF I v.toNatClampNeg else -1))) (I, L, RR b) := by
  refine MT.intro m_X10_hurt rfl (Nat.le_of_ble_eq_true rfl) ?_
  show WQ G (d + 4) Y_X10_hurt _ 0 [(0, .ref 0), (1, .int v)] [] (I, L, RR b)
  refine wp_aload_n rfl rfl ?_
  refine q_getr rfl rfl (by first | rfl | assumption) rfl rfl ?_
  refine wp_iload_n rfl rfl ?_
  refine cV1 rfl l_10_163 i_X1_isArea m_X1_isArea (by first | rfl | assumption) (by decide) (c_X1_isArea G _ _ _ _ _) rfl (Nat.le_of_ble_eq_true rfl) ?_
  refine wp_if_eq 14 rfl rfl (fun h4 => ?_) (fun h4 => ?_)
  · refine wp_iconst (v := (-1)) rfl rfl ?_
    exact wp_iret rfl rfl (⟨by grind [b2], rfl⟩)
  · have hv := b2_ne.mp h4
    obtain ⟨a, ha, hva, hcl⟩ := (isAr h.1 v).1 hv
    have ha16 : a < 16 := by have := h.1.2.2.2.2; omega
    refine wp_aload_n rfl rfl ?_
    refine q_getr rfl rfl (by first | rfl | assumption) rfl rfl ?_
    refine wp_aload_n rfl rfl ?_
    refine q_getr rfl rfl (by first | rfl | assumption) rfl rfl ?_
    refine q_getr rfl rfl (by first | rfl | assumption) rfl rfl ?_
    refine wp_iload_n rfl rfl ?_
    refine q_area rfl hva ha16 ?_
    refine cV1 rfl l_10_244 i_X1_hurterOf m_X1_hurterOf (by first | rfl | assumption) (by decide) (c_X1_hurterOf G _ _ _ _ h ha16) rfl (Nat.le_of_ble_eq_true rfl) ?_
    refine wp_goto 15 rfl rfl ?_
    exact wp_iret rfl rfl (⟨by grind [b2], rfl⟩)
theorem c_X11_hurt (G : Gl) (d : Nat) {nm na nr : Nat} (v : Int32) (I : IF) (L : LF) (b : Bool) (h : IV nm na nr I L) : MD G (d + 4) Y_X11_hurt [.ref 72, .int v] (I, L, RR b) (some (.int (if 0 ≤ v ∧ v < I 1 4 then hurtF I v.toNatClampNeg else -1))) (uI I 72 0 0, L, RR b) := by
  have e0 : uI I 72 0 0 72 7 = I 72 7 := rfl
  have e := (isAr h.1 v).2
  refine MT.intro m_X11_hurt rfl (Nat.le_of_ble_eq_true rfl) ?_
  show WQ G (d + 4) Y_X11_hurt _ 0 [(0, .ref 72), (1, .int v)] [] (I, L, RR b)
  refine wp_aload_n rfl rfl ?_
  refine wp_iconst (v := 0) rfl rfl ?_
  refine q_puti rfl rfl (by first | rfl | assumption) (Or.inl rfl) rfl ?_
  refine wp_aload_n rfl rfl ?_
  refine wp_iload_n rfl rfl ?_
  refine cV1 rfl l_11_162 i_X11_isArea m_X11_isArea (by first | rfl | assumption) (by decide) (c_X11_isArea G _ _ _ _ _) rfl (Nat.le_of_ble_eq_true rfl) ?_
  refine wp_if_eq 11 rfl rfl (fun h6 => ?_) (fun h6 => ?_)
  · refine wp_iconst (v := (-1)) rfl rfl ?_
    exact wp_iret rfl rfl (⟨by rw [e0] at h6; grind [b2], rfl⟩)
  · have hv := e.mp (b2_ne.mp h6)
    obtain ⟨a, ha, hva, hcl⟩ := (isAr h.1 v).1 hv
    have hth := hurtF_thr h ha
    refine wp_aload_n rfl rfl ?_
    refine wp_iload_n rfl rfl ?_
    refine cV1 rfl l_11_347 i_X11_hurtBy m_X11_hurtBy (by first | rfl | assumption) (by decide) (c_X11_hurtBy G _ _ _ _ _ (IV_thr h) ha hva) rfl (Nat.le_of_ble_eq_true rfl) ?_
    refine wp_goto 12 rfl rfl ?_
    exact wp_iret rfl rfl (⟨by rw [e0] at h6; grind [b2], rfl⟩)
theorem s_hurt {G : Gl} {d : Nat} {I : IF} {L : LF} {b : Bool} (v : Int32) (h : InvA I L) : StepA G (d + 4) Y_X10_hurt Y_X11_hurt [.int v] I L b := by
  obtain ⟨nm, na, nr, h⟩ := h
  exact StepA.query h (c_X10_hurt G d v I L b h) (c_X11_hurt G d v I L b h)
theorem c_X10_picture (G : Gl) (d : Nat) {nm na nr : Nat} (v : Int32) (I : IF) (L : LF) (b : Bool) (h : IV nm na nr I L) : MD G (d + 5) Y_X10_picture [.ref 0, .int v] (I, L, RR b) (some (.int (if 0 ≤ v ∧ v < I 1 4 then picF I v.toNatClampNeg else -2))) (I, L, RR b) := by
  refine MT.intro m_X10_picture rfl (Nat.le_of_ble_eq_true rfl) ?_
  show WQ G (d + 5) Y_X10_picture _ 0 [(0, .ref 0), (1, .int v)] [] (I, L, RR b)
  refine wp_aload_n rfl rfl ?_
  refine q_getr rfl rfl (by first | rfl | assumption) rfl rfl ?_
  refine wp_iload_n rfl rfl ?_
  refine cV1 rfl l_10_163 i_X1_isArea m_X1_isArea (by first | rfl | assumption) (by decide) (c_X1_isArea G _ _ _ _ _) rfl (Nat.le_of_ble_eq_true rfl) ?_
  refine wp_if_eq 14 rfl rfl (fun h4 => ?_) (fun h4 => ?_)
  · refine wp_bipush (v := (-2)) rfl rfl ?_
    exact wp_iret rfl rfl (⟨by grind [b2], rfl⟩)
  · have hv := b2_ne.mp h4
    obtain ⟨a, ha, hva, hcl⟩ := (isAr h.1 v).1 hv
    have ha16 : a < 16 := by have := h.1.2.2.2.2; omega
    refine wp_aload_n rfl rfl ?_
    refine q_getr rfl rfl (by first | rfl | assumption) rfl rfl ?_
    refine wp_aload_n rfl rfl ?_
    refine q_getr rfl rfl (by first | rfl | assumption) rfl rfl ?_
    refine q_getr rfl rfl (by first | rfl | assumption) rfl rfl ?_
    refine wp_iload_n rfl rfl ?_
    refine q_area rfl hva ha16 ?_
    refine cV1 rfl l_10_238 i_X1_pictureOf m_X1_pictureOf (by first | rfl | assumption) (by decide) (c_X1_pictureOf G _ _ _ _ h ha16) rfl (Nat.le_of_ble_eq_true rfl) ?_
    refine wp_goto 15 rfl rfl ?_
    exact wp_iret rfl rfl (⟨by grind [b2], rfl⟩)
theorem c_X11_picture (G : Gl) (d : Nat) {nm na nr : Nat} (v : Int32) (I : IF) (L : LF) (b : Bool) (h : IV nm na nr I L) : MD G (d + 5) Y_X11_picture [.ref 72, .int v] (I, L, RR b) (some (.int (if 0 ≤ v ∧ v < I 1 4 then picF I v.toNatClampNeg else -2))) (uI I 72 0 0, L, RR b) := by
  have e0 : uI I 72 0 0 72 7 = I 72 7 := rfl
  have e := (isAr h.1 v).2
  refine MT.intro m_X11_picture rfl (Nat.le_of_ble_eq_true rfl) ?_
  show WQ G (d + 5) Y_X11_picture _ 0 [(0, .ref 72), (1, .int v)] [] (I, L, RR b)
  refine wp_aload_n rfl rfl ?_
  refine wp_iconst (v := 0) rfl rfl ?_
  refine q_puti rfl rfl (by first | rfl | assumption) (Or.inl rfl) rfl ?_
  refine wp_aload_n rfl rfl ?_
  refine wp_iload_n rfl rfl ?_
  refine cV1 rfl l_11_162 i_X11_isArea m_X11_isArea (by first | rfl | assumption) (by decide) (c_X11_isArea G _ _ _ _ _) rfl (Nat.le_of_ble_eq_true rfl) ?_
  refine wp_if_eq 11 rfl rfl (fun h6 => ?_) (fun h6 => ?_)
  · refine wp_bipush (v := (-2)) rfl rfl ?_
    exact wp_iret rfl rfl (⟨by rw [e0] at h6; grind [b2], rfl⟩)
  · have hv := e.mp (b2_ne.mp h6)
    obtain ⟨a, ha, hva, hcl⟩ := (isAr h.1 v).1 hv
    have hth := hurtF_thr h ha
    refine wp_aload_n rfl rfl ?_
    refine wp_iload_n rfl rfl ?_
    refine cV1 rfl l_11_350 i_X11_pictureOf m_X11_pictureOf (by first | rfl | assumption) (by decide) (c_X11_pictureOf G _ _ _ _ _ (IV_thr h) ha hva) rfl (Nat.le_of_ble_eq_true rfl) ?_
    refine wp_goto 12 rfl rfl ?_
    exact wp_iret rfl rfl (⟨by rw [e0] at h6; grind [b2], rfl⟩)
theorem s_picture {G : Gl} {d : Nat} {I : IF} {L : LF} {b : Bool} (v : Int32) (h : InvA I L) : StepA G (d + 5) Y_X10_picture Y_X11_picture [.int v] I L b := by
  obtain ⟨nm, na, nr, h⟩ := h
  exact StepA.query h (c_X10_picture G d v I L b h) (c_X11_picture G d v I L b h)
theorem c_X10_snow (G : Gl) (d : Nat) {nm na nr : Nat} (v : Int32) (I : IF) (L : LF) (b : Bool) (h : IV nm na nr I L) : MD G (d + 6) Y_X10_snow [.ref 0, .int v] (I, L, RR b) (some (.int (if 0 ≤ v ∧ v < I 1 4 then snwF I v.toNatClampNeg else -2))) (I, L, RR b) := by
  refine MT.intro m_X10_snow rfl (Nat.le_of_ble_eq_true rfl) ?_
  show WQ G (d + 6) Y_X10_snow _ 0 [(0, .ref 0), (1, .int v)] [] (I, L, RR b)
  refine wp_aload_n rfl rfl ?_
  refine q_getr rfl rfl (by first | rfl | assumption) rfl rfl ?_
  refine wp_iload_n rfl rfl ?_
  refine cV1 rfl l_10_163 i_X1_isArea m_X1_isArea (by first | rfl | assumption) (by decide) (c_X1_isArea G _ _ _ _ _) rfl (Nat.le_of_ble_eq_true rfl) ?_
  refine wp_if_eq 14 rfl rfl (fun h4 => ?_) (fun h4 => ?_)
  · refine wp_bipush (v := (-2)) rfl rfl ?_
    exact wp_iret rfl rfl (⟨by grind [b2], rfl⟩)
  · have hv := b2_ne.mp h4
    obtain ⟨a, ha, hva, hcl⟩ := (isAr h.1 v).1 hv
    have ha16 : a < 16 := by have := h.1.2.2.2.2; omega
    refine wp_aload_n rfl rfl ?_
    refine q_getr rfl rfl (by first | rfl | assumption) rfl rfl ?_
    refine wp_aload_n rfl rfl ?_
    refine q_getr rfl rfl (by first | rfl | assumption) rfl rfl ?_
    refine q_getr rfl rfl (by first | rfl | assumption) rfl rfl ?_
    refine wp_iload_n rfl rfl ?_
    refine q_area rfl hva ha16 ?_
    refine cV1 rfl l_10_241 i_X1_snowOf m_X1_snowOf (by first | rfl | assumption) (by decide) (c_X1_snowOf G _ _ _ _ h ha16) rfl (Nat.le_of_ble_eq_true rfl) ?_
    refine wp_goto 15 rfl rfl ?_
    exact wp_iret rfl rfl (⟨by grind [b2], rfl⟩)
theorem c_X11_snow (G : Gl) (d : Nat) {nm na nr : Nat} (v : Int32) (I : IF) (L : LF) (b : Bool) (h : IV nm na nr I L) : MD G (d + 6) Y_X11_snow [.ref 72, .int v] (I, L, RR b) (some (.int (if 0 ≤ v ∧ v < I 1 4 then snwF I v.toNatClampNeg else -2))) (uI I 72 0 0, L, RR b) := by
  have e0 : uI I 72 0 0 72 7 = I 72 7 := rfl
  have e := (isAr h.1 v).2
  refine MT.intro m_X11_snow rfl (Nat.le_of_ble_eq_true rfl) ?_
  show WQ G (d + 6) Y_X11_snow _ 0 [(0, .ref 72), (1, .int v)] [] (I, L, RR b)
  refine wp_aload_n rfl rfl ?_
  refine wp_iconst (v := 0) rfl rfl ?_
  refine q_puti rfl rfl (by first | rfl | assumption) (Or.inl rfl) rfl ?_
  refine wp_aload_n rfl rfl ?_
  refine wp_iload_n rfl rfl ?_
  refine cV1 rfl l_11_162 i_X11_isArea m_X11_isArea (by first | rfl | assumption) (by decide) (c_X11_isArea G _ _ _ _ _) rfl (Nat.le_of_ble_eq_true rfl) ?_
  refine wp_if_eq 11 rfl rfl (fun h6 => ?_) (fun h6 => ?_)
  · refine wp_bipush (v := (-2)) rfl rfl ?_
    exact wp_iret rfl rfl (⟨by rw [e0] at h6; grind [b2], rfl⟩)
  · have hv := e.mp (b2_ne.mp h6)
    obtain ⟨a, ha, hva, hcl⟩ := (isAr h.1 v).1 hv
    have hth := hurtF_thr h ha
    refine wp_aload_n rfl rfl ?_
    refine wp_iload_n rfl rfl ?_
    refine cV1 rfl l_11_353 i_X11_snowOf m_X11_snowOf (by first | rfl | assumption) (by decide) (c_X11_snowOf G _ _ _ _ _ (IV_thr h) ha hva) rfl (Nat.le_of_ble_eq_true rfl) ?_
    refine wp_goto 12 rfl rfl ?_
    exact wp_iret rfl rfl (⟨by rw [e0] at h6; grind [b2], rfl⟩)
theorem s_snow {G : Gl} {d : Nat} {I : IF} {L : LF} {b : Bool} (v : Int32) (h : InvA I L) : StepA G (d + 6) Y_X10_snow Y_X11_snow [.int v] I L b := by
  obtain ⟨nm, na, nr, h⟩ := h
  exact StepA.query h (c_X10_snow G d v I L b h) (c_X11_snow G d v I L b h)
end
section
/-! turn -/
def bstG (f : Nat → Nat → Int32) (a : Nat) : Nat → Nat → Int32 → Int32
  | 0, _, u => u
  | n + 1, i, u => bstG f a n (i + 1) (if u = -1 ∨ f u.toNatClampNeg a < f i a then nI i else u)
theorem bstG_cg {f g : Nat → Nat → Int32} {a : Nat} (h : ∀ m, m < 14 → f m a = g m a) : ∀ (n i : Nat) (u : Int32), i + n ≤ 10 → (u = -1 ∨ ∃ j, j < i ∧ u = nI j) → bstG f a n i u = bstG g a n i u
  | 0, _, _, _, _ => rfl
  | n + 1, i, u, hi, hu => by
    simp only [bstG]
    have e : (if u = -1 ∨ f u.toNatClampNeg a < f i a then nI i else u) = (if u = -1 ∨ g u.toNatClampNeg a < g i a then nI i else u) := by
      rcases hu with rfl | ⟨j, hj, rfl⟩
      · rw [if_pos (Or.inl rfl), if_pos (Or.inl rfl)]
      · rw [nI_clamp (by omega), h j (by omega), h i (by omega)]
    rw [e]
    refine bstG_cg h n (i + 1) _ (by omega) ?_
    split
    · exact Or.inr ⟨i, by omega, rfl⟩
    · rcases hu with e | ⟨j, hj, e⟩
      · exact Or.inl e
      · exact Or.inr ⟨j, by omega, e⟩
theorem bstG_b {f : Nat → Nat → Int32} {a : Nat} : ∀ (n i : Nat) (u : Int32), (u = -1 ∨ ∃ j, j < i ∧ u = nI j) → (bstG f a n i u = -1 ∨ ∃ j, j < i + n ∧ bstG f a n i u = nI j)
  | 0, _, _, hu => hu
  | n + 1, i, u, hu => by
    simp only [bstG]
    have := bstG_b (f := f) (a := a) n (i + 1) (if u = -1 ∨ f u.toNatClampNeg a < f i a then nI i else u) (by
      split
      · exact Or.inr ⟨i, by omega, rfl⟩
      · rcases hu with e | ⟨j, hj, e⟩
        · exact Or.inl e
        · exact Or.inr ⟨j, by omega, e⟩)
    rwa [show i + 1 + n = i + (n + 1) by omega] at this
theorem c_X1_strongestAt (G : Gl) (d : Nat) {nm a : Nat} (I : IF) (L : LF) (b : Bool) (h1 : I 1 2 = nI nm) (hnm : nm ≤ 10) (ha : a < 16) (hsq : ∀ m, m < 14 → ¬ sqD (I (4 + m) 0) (I (4 + m) 1) (I (18 + a) 0) (I (18 + a) 1) = 0) (hst : ∀ m, m < 14 → 0 ≤ stg I m a) : MD G (d + 1) Y_X1_strongestAt [.ref 1, .ref (18 + a)] (I, L, RR b) (some (.int (bstG (stg I) a nm 0 (-1)))) (I, L, RR b) := by
  have hsa := sh_area a ha
  have hloop : ∀ (t : Int32) (n i : Nat) (u s : Int32), i + n = nm → ((u = -1 ∧ s = -1) ∨ ∃ j, j < i ∧ u = nI j ∧ s = stg I j a) → bstG (stg I) a n i u = t → WQ G (d + 1) Y_X1_strongestAt (fun r' w'' => r' = some (.int t) ∧ w'' = (I, L, RR b)) 6 [(0, .ref 1), (1, .ref (18 + a)), (2, .int u), (3, .int s), (4, .int (nI i))] [] (I, L, RR b) := by
    intro t n
    induction n with
    | zero =>
      intro i u s hi hu ht
      have hge : I 1 2 ≤ nI i := by rw [h1]; exact nI_le (by omega) (by omega)
      simp only [bstG] at ht
      refine wp_iload rfl rfl ?_
      refine wp_aload_n rfl rfl ?_
      refine q_geti rfl rfl (by first | rfl | assumption) rfl ?_
      refine wp_icmp_ge 26 rfl rfl (fun _ => ?_) (fun h9 => absurd hge h9)
      refine wp_iload_n rfl rfl ?_
      exact wp_iret rfl rfl (⟨by rw [← ht], rfl⟩)
    | succ n ih =>
      intro i u s hi hu ht
      have hlt : ¬ I 1 2 ≤ nI i := by rw [h1]; exact nI_ge (by omega) (by omega)
      have hss := sh_mast i (by omega)
      simp only [bstG] at ht
      have hcond : (u = -1 ∨ stg I u.toNatClampNeg a < stg I i a) ↔ s < stg I i a := by
        rcases hu with ⟨rfl, rfl⟩ | ⟨j, hj, rfl, rfl⟩
        · have := hst i (by omega); grind
        · rw [nI_clamp (by omega)]
          have : ¬ nI j = (-1 : Int32) := by have := nI_pos' (n := j) (by omega); grind
          grind
      refine wp_iload rfl rfl ?_
      refine wp_aload_n rfl rfl ?_
      refine q_geti rfl rfl (by first | rfl | assumption) rfl ?_
      refine wp_icmp_ge 26 rfl rfl (fun h9 => absurd h9 hlt) (fun _ => ?_)
      refine wp_aload_n rfl rfl ?_
      refine q_getr rfl rfl (by first | rfl | assumption) rfl rfl ?_
      refine wp_iload rfl rfl ?_
      refine q_mast rfl rfl (by omega) ?_
      refine wp_aload_n rfl rfl ?_
      refine cV1 rfl l_1_61 i_X4_strengthAt m_X4_strengthAt (by first | rfl | assumption) (by decide) (c_X4_strengthAt G _ _ _ _ _ _ hss hsa (hsq i (by omega))) rfl (Nat.le_of_ble_eq_true rfl) ?_
      refine wp_istore (lv' := [(5, _), (0, _), (1, _), (2, _), (3, _), (4, _)]) rfl (by decide) rfl ?_
      refine wp_iload rfl rfl ?_
      refine wp_iload_n rfl rfl ?_
      refine wp_icmp_le 24 rfl rfl (fun h19 => ?_) (fun h19 => ?_)
      · refine wp_loc (lv' := [(0, _), (1, _), (2, _), (3, _), (4, _)]) [1, 2, 3, 4, 5] rfl ?_
        first
        | (have hc : s < stg I i a := by (first | exact h19 | (show s < strg (I (4 + i) 2) (I (4 + i) 0) (I (4 + i) 1) (I (18 + a) 0) (I (18 + a) 1); grind))
           rw [if_pos (hcond.mpr hc)] at ht
           refine wp_iinc (v := nI (i + 1)) (lv' := [(4, _), (0, _), (1, _), (2, _), (3, _)]) rfl rfl (nI_1 i) (by decide) rfl ?_
           refine wp_goto 6 rfl rfl ?_
           refine wp_loc (lv' := [(0, _), (1, _), (2, _), (3, _), (4, _)]) [1, 2, 3, 4, 0] rfl ?_
           exact ih (i + 1) _ _ (by omega) (Or.inr ⟨i, by omega, rfl, rfl⟩) ht)
        | (have hc : ¬ s < stg I i a := by (show ¬ s < strg (I (4 + i) 2) (I (4 + i) 0) (I (4 + i) 1) (I (18 + a) 0) (I (18 + a) 1); grind)
           rw [if_neg (fun z => hc (hcond.mp z))] at ht
           refine wp_iinc (v := nI (i + 1)) (lv' := [(4, _), (0, _), (1, _), (2, _), (3, _)]) rfl rfl (nI_1 i) (by decide) rfl ?_
           refine wp_goto 6 rfl rfl ?_
           refine wp_loc (lv' := [(0, _), (1, _), (2, _), (3, _), (4, _)]) [1, 2, 3, 4, 0] rfl ?_
           exact ih (i + 1) _ _ (by omega) (hu.imp id (fun ⟨j, e1, e2, e3⟩ => ⟨j, by omega, e2, e3⟩)) ht)
      · refine wp_iload rfl rfl ?_
        refine wp_istore_n (lv' := [(2, _), (5, _), (0, _), (1, _), (3, _), (4, _)]) rfl rfl (by decide) rfl ?_
        refine wp_iload rfl rfl ?_
        refine wp_istore_n (lv' := [(3, _), (2, _), (5, _), (0, _), (1, _), (4, _)]) rfl rfl (by decide) rfl ?_
        refine wp_loc (lv' := [(0, _), (1, _), (2, _), (3, _), (4, _)]) [3, 4, 1, 0, 5] rfl ?_
        first
        | (have hc : s < stg I i a := by (first | exact h19 | (show s < strg (I (4 + i) 2) (I (4 + i) 0) (I (4 + i) 1) (I (18 + a) 0) (I (18 + a) 1); grind))
           rw [if_pos (hcond.mpr hc)] at ht
           refine wp_iinc (v := nI (i + 1)) (lv' := [(4, _), (0, _), (1, _), (2, _), (3, _)]) rfl rfl (nI_1 i) (by decide) rfl ?_
           refine wp_goto 6 rfl rfl ?_
           refine wp_loc (lv' := [(0, _), (1, _), (2, _), (3, _), (4, _)]) [1, 2, 3, 4, 0] rfl ?_
           exact ih (i + 1) _ _ (by omega) (Or.inr ⟨i, by omega, rfl, rfl⟩) ht)
        | (have hc : ¬ s < stg I i a := by (show ¬ s < strg (I (4 + i) 2) (I (4 + i) 0) (I (4 + i) 1) (I (18 + a) 0) (I (18 + a) 1); grind)
           rw [if_neg (fun z => hc (hcond.mp z))] at ht
           refine wp_iinc (v := nI (i + 1)) (lv' := [(4, _), (0, _), (1, _), (2, _), (3, _)]) rfl rfl (nI_1 i) (by decide) rfl ?_
           refine wp_goto 6 rfl rfl ?_
           refine wp_loc (lv' := [(0, _), (1, _), (2, _), (3, _), (4, _)]) [1, 2, 3, 4, 0] rfl ?_
           exact ih (i + 1) _ _ (by omega) (hu.imp id (fun ⟨j, e1, e2, e3⟩ => ⟨j, by omega, e2, e3⟩)) ht)
  refine MT.intro m_X1_strongestAt rfl (Nat.le_of_ble_eq_true rfl) ?_
  show WQ G (d + 1) Y_X1_strongestAt _ 0 [(0, .ref 1), (1, .ref (18 + a))] [] (I, L, RR b)
  refine wp_iconst (v := (-1)) rfl rfl ?_
  refine wp_istore_n (lv' := [(2, _), (0, _), (1, _)]) rfl rfl (by decide) rfl ?_
  refine wp_iconst (v := (-1)) rfl rfl ?_
  refine wp_istore_n (lv' := [(3, _), (2, _), (0, _), (1, _)]) rfl rfl (by decide) rfl ?_
  refine wp_iconst (v := 0) rfl rfl ?_
  refine wp_istore (lv' := [(4, _), (3, _), (2, _), (0, _), (1, _)]) rfl (by decide) rfl ?_
  refine wp_loc (lv' := [(0, _), (1, _), (2, _), (3, _), (4, _)]) [3, 4, 2, 1, 0] rfl ?_
  exact hloop _ nm 0 (-1) (-1) (by omega) (Or.inl ⟨rfl, rfl⟩) rfl
/-- the aerials turn, area by area -/
def lk1 (v : Nat → Int32) (J : IF) (i : Nat) : IF := if J (18 + i) 6 = v i then J else uI (uI J (18 + i) 6 (v i)) (18 + i) 7 (J (18 + i) 7 + 1)
def tW (v : Nat → Int32) (I : IF) : Nat → IF
  | 0 => I
  | i + 1 => lk1 v (tW v I i) i
def tN (f v : Nat → Int32) : Nat → Int32
  | 0 => 0
  | i + 1 => tN f v i + b2 (¬ f i = v i)
theorem tW_o {v : Nat → Int32} {I : IF} : ∀ (n q : Nat), (q < 18 ∨ 18 + n ≤ q) → tW v I n q = I q
  | 0, _, _ => rfl
  | n + 1, q, h => by
    simp only [tW, lk1]
    split
    · exact tW_o n q (by omega)
    · rw [uI_fn (by omega), uI_fn (by omega)]
      exact tW_o n q (by omega)
theorem tW_k {v : Nat → Int32} {I : IF} : ∀ (n q k : Nat), k ≠ 6 → k ≠ 7 → tW v I n q k = I q k
  | 0, _, _, _, _ => rfl
  | n + 1, q, k, h6, h7 => by
    simp only [tW, lk1]
    split
    · exact tW_k n q k h6 h7
    · by_cases e : q = 18 + n
      · subst e
        rw [uI_nk h7, uI_nk h6]
        exact tW_k n _ k h6 h7
      · rw [uI_ne e, uI_ne e]
        exact tW_k n q k h6 h7
theorem tW_a {v : Nat → Int32} {I : IF} : ∀ (n a : Nat), a < n → tW v I n (18 + a) 6 = v a ∧ tW v I n (18 + a) 7 = I (18 + a) 7 + b2 (¬ I (18 + a) 6 = v a)
  | n + 1, a, h => by
    simp only [tW, lk1]
    by_cases e : a = n
    · subst e
      rw [tW_o (v := v) (I := I) a (18 + a) (by omega)]
      split
      · next hz =>
        rw [tW_o (v := v) (I := I) a (18 + a) (by omega)]
        exact ⟨hz, by rw [b2_f (by grind)]; grind⟩
      · next hz =>
        rw [uI_nk (by decide), uI_eq, uI_eq]
        exact ⟨rfl, by rw [b2_t hz]⟩
    · have := tW_a (v := v) (I := I) n a (by omega)
      split
      · exact this
      · rw [uI_ne (by omega), uI_ne (by omega), uI_ne (by omega), uI_ne (by omega)]
        exact this
theorem c_X10_turn (G : Gl) (d : Nat) {nm na nr : Nat} (I : IF) (L : LF) (b : Bool) (h : IV nm na nr I L) : MD G (d + 2) Y_X10_turn [.ref 0] (I, L, RR b) (some (.int (tN (fun a => I (18 + a) 6) (fun a => bstG (stg I) a nm 0 (-1)) nr))) (tW (fun a => bstG (stg I) a nm 0 (-1)) I nr, L, RR b) := by
  have hnm : nm ≤ 10 := h.1.1.2.2
  have hnr : nr ≤ 16 := h.1.2.2.2.2
  generalize hv : (fun a => bstG (stg I) a nm 0 (-1)) = v
  have hva : ∀ a, bstG (stg I) a nm 0 (-1) = v a := fun a => by rw [← hv]
  have hloop : ∀ (n i : Nat), i + n = nr → WQ G (d + 2) Y_X10_turn (fun r' w'' => r' = some (.int (tN (fun a => I (18 + a) 6) v nr)) ∧ w'' = (tW v I nr, L, RR b)) 4 [(0, .ref 0), (1, .int (tN (fun a => I (18 + a) 6) v i)), (2, .int (nI i))] [] (tW v I i, L, RR b) := by
    intro n
    induction n with
    | zero =>
      intro i hi
      have hin : i = nr := by omega
      subst hin
      have hge : tW v I i 1 4 ≤ nI i := by rw [tW_o i 1 (by omega), h.1.2.2.1]; exact nI_le (by omega) (by omega)
      refine wp_iload_n rfl rfl ?_
      refine wp_aload_n rfl rfl ?_
      refine q_getr rfl rfl (by first | rfl | assumption) rfl rfl ?_
      refine q_geti rfl rfl (by first | rfl | assumption) rfl ?_
      refine wp_icmp_ge 27 rfl rfl (fun _ => ?_) (fun h8 => absurd hge h8)
      refine wp_iload_n rfl rfl ?_
      exact wp_iret rfl rfl (⟨rfl, rfl⟩)
    | succ n ih =>
      intro i hi
      have hlt : ¬ tW v I i 1 4 ≤ nI i := by rw [tW_o i 1 (by omega), h.1.2.2.1]; exact nI_ge (by omega) (by omega)
      have hsa := sh_area i (by omega)
      have hJ4 : ∀ m, m < 14 → tW v I i (4 + m) = I (4 + m) := fun m hm => tW_o i _ (by omega)
      have hst : ∀ m, m < 14 → stg (tW v I i) m i = stg I m i := by intro m hm; unfold stg; rw [hJ4 m hm, tW_o i (18 + i) (by omega)]
      have cs := c_X1_strongestAt G d (a := i) (nm := nm) (tW v I i) L b (by rw [tW_o i 1 (by omega)]; exact h.1.1.1) hnm (by omega) (fun m hm => by rw [hJ4 m hm, tW_o i (18 + i) (by omega)]; exact sq_ne h hm (by omega)) (fun m hm => by rw [hst m hm]; obtain ⟨q, q1, q2⟩ := stg_b h hm (show i < 16 by omega); rw [q2]; exact nI_pos' (by omega))
      rw [bstG_cg hst nm 0 (-1) (by omega) (Or.inl rfl), hva i] at cs
      have hstep : tW v I (i + 1) = (if tW v I i (18 + i) 6 = v i then tW v I i else uI (uI (tW v I i) (18 + i) 6 (v i)) (18 + i) 7 (tW v I i (18 + i) 7 + 1)) := rfl
      have hcnt : tN (fun a => I (18 + a) 6) v (i + 1) = tN (fun a => I (18 + a) 6) v i + b2 (¬ I (18 + i) 6 = v i) := rfl
      have e6 : tW v I i (18 + i) 6 = I (18 + i) 6 := by rw [tW_o i (18 + i) (by omega)]
      refine wp_iload_n rfl rfl ?_
      refine wp_aload_n rfl rfl ?_
      refine q_getr rfl rfl (by first | rfl | assumption) rfl rfl ?_
      refine q_geti rfl rfl (by first | rfl | assumption) rfl ?_
      refine wp_icmp_ge 27 rfl rfl (fun h8 => absurd h8 hlt) (fun _ => ?_)
      refine wp_aload_n rfl rfl ?_
      refine q_getr rfl rfl (by first | rfl | assumption) rfl rfl ?_
      refine q_getr rfl rfl (by first | rfl | assumption) rfl rfl ?_
      refine wp_iload_n rfl rfl ?_
      refine q_area rfl rfl (by omega) ?_
      refine wp_aload_n rfl rfl ?_
      refine q_getr rfl rfl (by first | rfl | assumption) rfl rfl ?_
      refine wp_aload_n rfl rfl ?_
      refine q_getr rfl rfl (by first | rfl | assumption) rfl rfl ?_
      refine q_getr rfl rfl (by first | rfl | assumption) rfl rfl ?_
      refine wp_iload_n rfl rfl ?_
      refine q_area rfl rfl (by omega) ?_
      refine cV1 rfl l_10_172 i_X1_strongestAt m_X1_strongestAt (by first | rfl | assumption) (by decide) (cs) rfl (Nat.le_of_ble_eq_true rfl) ?_
      refine cV1 rfl l_10_169 i_X0_lookAt m_X0_lookAt (by first | rfl | assumption) (by decide) (c_X0_lookAt G _ _ _ _ _ _ hsa) rfl (Nat.le_of_ble_eq_true rfl) ?_
      rw [← hstep, e6]
      refine wp_if_eq 25 rfl rfl (fun h23 => ?_) (fun h23 => ?_)
      · refine wp_iinc (v := nI (i + 1)) (lv' := [(2, _), (0, _), (1, _)]) rfl rfl (nI_1 i) (by decide) rfl ?_
        skip
        refine wp_goto 4 rfl rfl ?_
        refine wp_loc (lv' := [(0, _), (1, _), (2, _)]) [1, 2, 0] rfl ?_
        first
        | exact ih (i + 1) (by omega)
        | (have hz := b2_eq.mp h23
           have e9 : tN (fun a => I (18 + a) 6) v (i + 1) = tN (fun a => I (18 + a) 6) v i := by rw [hcnt, b2_f hz]; grind
           rw [← e9]
           exact ih (i + 1) (by omega))
      · refine wp_iinc (v := tN (fun a => I (18 + a) 6) v (i + 1)) (lv' := [(1, _), (0, _), (2, _)]) rfl rfl ((by rw [hcnt, b2_t (b2_ne.mp h23)]; rfl)) (by decide) rfl ?_
        refine wp_iinc (v := nI (i + 1)) (lv' := [(2, _), (1, _), (0, _)]) rfl rfl (nI_1 i) (by decide) rfl ?_
        skip
        refine wp_goto 4 rfl rfl ?_
        refine wp_loc (lv' := [(0, _), (1, _), (2, _)]) [2, 1, 0] rfl ?_
        first
        | exact ih (i + 1) (by omega)
        | (have hz := b2_eq.mp h23
           have e9 : tN (fun a => I (18 + a) 6) v (i + 1) = tN (fun a => I (18 + a) 6) v i := by rw [hcnt, b2_f hz]; grind
           rw [← e9]
           exact ih (i + 1) (by omega))
  refine MT.intro m_X10_turn rfl (Nat.le_of_ble_eq_true rfl) ?_
  show WQ G (d + 2) Y_X10_turn _ 0 [(0, .ref 0)] [] (I, L, RR b)
  refine wp_iconst (v := 0) rfl rfl ?_
  refine wp_istore_n (lv' := [(1, _), (0, _)]) rfl rfl (by decide) rfl ?_
  refine wp_iconst (v := 0) rfl rfl ?_
  refine wp_istore_n (lv' := [(2, _), (1, _), (0, _)]) rfl rfl (by decide) rfl ?_
  refine wp_loc (lv' := [(0, _), (1, _), (2, _)]) [2, 1, 0] rfl ?_
  exact hloop nr 0 (by omega)
end
section
/-! turn, the reference's -/
def stgM (I : IF) (m a : Nat) : Int32 := strg (I 79 m) (I 77 m) (I 78 m) (I 86 a) (I 87 a)
def lk2 (v : Nat → Int32) (J : IF) (i : Nat) : IF := if J 92 i = v i then J else uI (uI J 92 i (v i)) 93 i (J 93 i + 1)
def tW2 (v : Nat → Int32) (I : IF) : Nat → IF
  | 0 => I
  | i + 1 => lk2 v (tW2 v I i) i
theorem tW2_o {v : Nat → Int32} {I : IF} : ∀ (n q : Nat), q ≠ 92 → q ≠ 93 → tW2 v I n q = I q
  | 0, _, _, _ => rfl
  | n + 1, q, h2, h3 => by
    simp only [tW2, lk2]
    split
    · exact tW2_o n q h2 h3
    · rw [uI_fn h3, uI_fn h2]
      exact tW2_o n q h2 h3
theorem tW2_k {v : Nat → Int32} {I : IF} : ∀ (n k : Nat), n ≤ k → tW2 v I n 92 k = I 92 k ∧ tW2 v I n 93 k = I 93 k
  | 0, _, _ => ⟨rfl, rfl⟩
  | n + 1, k, h => by
    simp only [tW2, lk2]
    split
    · exact tW2_k n k (by omega)
    · rw [uI_ne (by decide), uI_nk (by omega), uI_nk (by omega), uI_ne (by decide)]
      exact tW2_k n k (by omega)
theorem tW2_a {v : Nat → Int32} {I : IF} : ∀ (n a : Nat), a < n → tW2 v I n 92 a = v a ∧ tW2 v I n 93 a = I 93 a + b2 (¬ I 92 a = v a)
  | n + 1, a, h => by
    simp only [tW2, lk2]
    by_cases e : a = n
    · subst e
      have hk := tW2_k (v := v) (I := I) a a (Nat.le_refl _)
      rw [hk.1]
      split
      · next hz =>
        rw [hk.1, hk.2]
        exact ⟨hz, by rw [b2_f (by grind)]; grind⟩
      · next hz =>
        rw [uI_ne (by decide), uI_eq, uI_eq, hk.2]
        exact ⟨rfl, by rw [b2_t hz]⟩
    · have := tW2_a (v := v) (I := I) n a (by omega)
      split
      · exact this
      · rw [uI_ne (by decide), uI_nk (by omega), uI_nk (by omega), uI_ne (by decide)]
        exact this
theorem tN_cg {f g v : Nat → Int32} : ∀ n, (∀ a, a < n → f a = g a) → tN f v n = tN g v n
  | 0, _ => rfl
  | n + 1, h => by
    simp only [tN]
    rw [tN_cg n (fun a ha => h a (by omega)), h n (by omega)]
theorem tN_cg2 {f g v v' : Nat → Int32} : ∀ n, (∀ a, a < n → f a = g a) → (∀ a, a < n → v a = v' a) → tN f v n = tN g v' n
  | 0, _, _ => rfl
  | n + 1, h, h' => by
    simp only [tN]
    rw [tN_cg2 n (fun a ha => h a (by omega)) (fun a ha => h' a (by omega)), h n (by omega), h' n (by omega)]
theorem c_X11_turn (G : Gl) (d : Nat) {nm nr : Nat} (I : IF) (L : LF) (b : Bool) (h5 : I 72 5 = nI nm) (hnm : nm ≤ 10) (h7 : I 72 7 = nI nr) (hnr : nr ≤ 16) (hsq : ∀ m a, m < 14 → a < 16 → ¬ sqD (I 77 m) (I 78 m) (I 86 a) (I 87 a) = 0) : MD G (d + 1) Y_X11_turn [.ref 72] (I, L, RR b) (some (.int (tN (I 92) (fun a => bstG (stgM I) a nm 0 (-1)) nr))) (tW2 (fun a => bstG (stgM I) a nm 0 (-1)) (uI I 72 0 0) nr, L, RR b) := by
  generalize hv : (fun a => bstG (stgM I) a nm 0 (-1)) = v
  have hva : ∀ a, bstG (stgM I) a nm 0 (-1) = v a := fun a => by rw [← hv]
  generalize hI0 : uI I 72 0 0 = I0
  have hI0o : ∀ q, q ≠ 72 → I0 q = I q := by intro q hq; rw [← hI0]; exact uI_fn hq
  have hI05 : I0 72 5 = nI nm := by rw [← hI0, uI_nk (by decide)]; exact h5
  have hI07 : I0 72 7 = nI nr := by rw [← hI0, uI_nk (by decide)]; exact h7
  have inner : ∀ (i : Nat) (hi : i < nr) (c : Int32) (n k : Nat) (u : Int32), k + n = nm → (u = -1 ∨ ∃ j, j < k ∧ u = nI j) → bstG (stgM I) i n k u = v i →
      WQ G (d + 1) Y_X11_turn (fun r' w'' => r' = some (.int (tN (I 92) v nr)) ∧ w'' = (tW2 v I0 nr, L, RR b)) 35 [(0, .ref 72), (1, .int c), (2, .int (nI i)), (3, .int (v i))] [] (tW2 v I0 i, L, RR b) →
      WQ G (d + 1) Y_X11_turn (fun r' w'' => r' = some (.int (tN (I 92) v nr)) ∧ w'' = (tW2 v I0 nr, L, RR b)) 15 [(0, .ref 72), (1, .int c), (2, .int (nI i)), (3, .int u), (4, .int (nI k))] [] (tW2 v I0 i, L, RR b) := by
    intro i hi c n
    have hJo : ∀ q, q ≠ 92 → q ≠ 93 → tW2 v I0 i q = I0 q := fun q => tW2_o i q
    have hini : vp_in (nI i) 16 := vp_in_nI (by omega) (by omega)
    have hcli : (nI i).toNatClampNeg = i := nI_clamp (by omega)
    have cat : ∀ m : Nat, m < 14 → ∀ x : Int32, x = nI m → MD G d Y_X11_at [.ref 72, .int x, .int (nI i)] (tW2 v I0 i, L, RR b) (some (.int (stgM I m i))) (tW2 v I0 i, L, RR b) := by
      intro m hm x hx
      subst hx
      have hclm : (nI m).toNatClampNeg = m := nI_clamp (by omega)
      have k1 := c_X11_at G d (nI m) (nI i) (tW2 v I0 i) L b (vp_in_nI hm (by omega)) hini (by
        rw [hclm, hcli]
        simp (disch := omega) only [hJo, hI0o]
        exact hsq m i hm (by omega))
      rw [hclm, hcli] at k1
      simp (disch := omega) only [hJo, hI0o] at k1
      exact k1
    induction n with
    | zero =>
      intro k u hk hu ht K
      have hge : tW2 v I0 i 72 5 ≤ nI k := by rw [hJo 72 (by decide) (by decide), hI05]; exact nI_le (by omega) (by omega)
      simp only [bstG] at ht
      refine wp_iload rfl rfl ?_
      refine wp_aload_n rfl rfl ?_
      refine q_geti rfl rfl (by first | rfl | assumption) rfl ?_
      refine wp_icmp_ge 35 rfl rfl (fun _ => ?_) (fun h18 => absurd hge h18)
      refine wp_loc (lv' := [(0, _), (1, _), (2, _), (3, _)]) [0, 1, 2, 3] rfl ?_
      rw [ht]
      exact K
    | succ n ih =>
      intro k u hk hu ht K
      have hlt : ¬ tW2 v I0 i 72 5 ≤ nI k := by rw [hJo 72 (by decide) (by decide), hI05]; exact nI_ge (by omega) (by omega)
      simp only [bstG] at ht
      rcases hu with hu1 | ⟨j, hj, hu1⟩
      · rw [if_pos (Or.inl hu1)] at ht
        refine wp_iload rfl rfl ?_
        refine wp_aload_n rfl rfl ?_
        refine q_geti rfl rfl (by first | rfl | assumption) rfl ?_
        refine wp_icmp_ge 35 rfl rfl (fun h18 => absurd h18 hlt) (fun _ => ?_)
        refine wp_iload_n rfl rfl ?_
        refine wp_iconst (v := (-1)) rfl rfl ?_
        refine wp_icmp_eq 31 rfl rfl (fun _ => ?_) (fun h21 => absurd hu1 h21)
        refine wp_iload rfl rfl ?_
        refine wp_istore_n (lv' := [(3, _), (0, _), (1, _), (2, _), (4, _)]) rfl rfl (by decide) rfl ?_
        refine wp_iinc (v := nI (k + 1)) (lv' := [(4, _), (3, _), (0, _), (1, _), (2, _)]) rfl rfl (nI_1 k) (by decide) rfl ?_
        refine wp_goto 15 rfl rfl ?_
        refine wp_loc (lv' := [(0, _), (1, _), (2, _), (3, _), (4, _)]) [2, 3, 4, 1, 0] rfl ?_
        exact ih (k + 1) (nI k) (by omega) (Or.inr ⟨k, by omega, rfl⟩) ht K
      · have hne : ¬ u = -1 := by rw [hu1]; have := nI_pos' (n := j) (by omega); grind
        have hclj : u.toNatClampNeg = j := by rw [hu1]; exact nI_clamp (by omega)
        rw [hclj] at ht
        by_cases hc : stgM I j i < stgM I k i
        · rw [if_pos (Or.inr hc)] at ht
          refine wp_iload rfl rfl ?_
          refine wp_aload_n rfl rfl ?_
          refine q_geti rfl rfl (by first | rfl | assumption) rfl ?_
          refine wp_icmp_ge 35 rfl rfl (fun h18 => absurd h18 hlt) (fun _ => ?_)
          refine wp_iload_n rfl rfl ?_
          refine wp_iconst (v := (-1)) rfl rfl ?_
          refine wp_icmp_eq 31 rfl rfl (fun h21 => absurd h21 hne) (fun _ => ?_)
          refine wp_aload_n rfl rfl ?_
          refine wp_iload rfl rfl ?_
          refine wp_iload_n rfl rfl ?_
          refine cV1 rfl l_11_172 i_X11_at m_X11_at (by first | rfl | assumption) (by decide) (cat k (by omega) _ rfl) rfl (Nat.le_of_ble_eq_true rfl) ?_
          refine wp_aload_n rfl rfl ?_
          refine wp_iload_n rfl rfl ?_
          refine wp_iload_n rfl rfl ?_
          refine cV1 rfl l_11_172 i_X11_at m_X11_at (by first | rfl | assumption) (by decide) (cat j (by omega) _ hu1) rfl (Nat.le_of_ble_eq_true rfl) ?_
          refine wp_icmp_le 33 rfl rfl (fun h30 => ?_) (fun h30 => ?_)
          · exact absurd h30 (by grind)
          · refine wp_iload rfl rfl ?_
            refine wp_istore_n (lv' := [(3, _), (0, _), (1, _), (2, _), (4, _)]) rfl rfl (by decide) rfl ?_
            refine wp_iinc (v := nI (k + 1)) (lv' := [(4, _), (3, _), (0, _), (1, _), (2, _)]) rfl rfl (nI_1 k) (by decide) rfl ?_
            refine wp_goto 15 rfl rfl ?_
            refine wp_loc (lv' := [(0, _), (1, _), (2, _), (3, _), (4, _)]) [2, 3, 4, 1, 0] rfl ?_
            exact ih (k + 1) (nI k) (by omega) (Or.inr ⟨k, by omega, rfl⟩) ht K
        · rw [if_neg (by grind)] at ht
          refine wp_iload rfl rfl ?_
          refine wp_aload_n rfl rfl ?_
          refine q_geti rfl rfl (by first | rfl | assumption) rfl ?_
          refine wp_icmp_ge 35 rfl rfl (fun h18 => absurd h18 hlt) (fun _ => ?_)
          refine wp_iload_n rfl rfl ?_
          refine wp_iconst (v := (-1)) rfl rfl ?_
          refine wp_icmp_eq 31 rfl rfl (fun h21 => absurd h21 hne) (fun _ => ?_)
          refine wp_aload_n rfl rfl ?_
          refine wp_iload rfl rfl ?_
          refine wp_iload_n rfl rfl ?_
          refine cV1 rfl l_11_172 i_X11_at m_X11_at (by first | rfl | assumption) (by decide) (cat k (by omega) _ rfl) rfl (Nat.le_of_ble_eq_true rfl) ?_
          refine wp_aload_n rfl rfl ?_
          refine wp_iload_n rfl rfl ?_
          refine wp_iload_n rfl rfl ?_
          refine cV1 rfl l_11_172 i_X11_at m_X11_at (by first | rfl | assumption) (by decide) (cat j (by omega) _ hu1) rfl (Nat.le_of_ble_eq_true rfl) ?_
          refine wp_icmp_le 33 rfl rfl (fun h30 => ?_) (fun h30 => ?_)
          · refine wp_iinc (v := nI (k + 1)) (lv' := [(4, _), (0, _), (1, _), (2, _), (3, _)]) rfl rfl (nI_1 k) (by decide) rfl ?_
            refine wp_goto 15 rfl rfl ?_
            refine wp_loc (lv' := [(0, _), (1, _), (2, _), (3, _), (4, _)]) [1, 2, 3, 4, 0] rfl ?_
            exact ih (k + 1) u (by omega) (Or.inr ⟨j, by omega, hu1⟩) ht K
          · exact absurd (by grind) h30
  have outer : ∀ (n i : Nat), i + n = nr → WQ G (d + 1) Y_X11_turn (fun r' w'' => r' = some (.int (tN (I 92) v nr)) ∧ w'' = (tW2 v I0 nr, L, RR b)) 7 [(0, .ref 72), (1, .int (tN (I 92) v i)), (2, .int (nI i))] [] (tW2 v I0 i, L, RR b) := by
    intro n
    induction n with
    | zero =>
      intro i hi
      have hin : i = nr := by omega
      subst hin
      have hge : tW2 v I0 i 72 7 ≤ nI i := by rw [tW2_o i 72 (by decide) (by decide), hI07]; exact nI_le (by omega) (by omega)
      refine wp_iload_n rfl rfl ?_
      refine wp_aload_n rfl rfl ?_
      refine q_geti rfl rfl (by first | rfl | assumption) rfl ?_
      refine wp_icmp_ge 48 rfl rfl (fun _ => ?_) (fun h10 => absurd hge h10)
      refine wp_iload_n rfl rfl ?_
      exact wp_iret rfl rfl (⟨rfl, rfl⟩)
    | succ n ih =>
      intro i hi
      have hlt : ¬ tW2 v I0 i 72 7 ≤ nI i := by rw [tW2_o i 72 (by decide) (by decide), hI07]; exact nI_ge (by omega) (by omega)
      have hini : vp_in (nI i) 16 := vp_in_nI (by omega) (by omega)
      have hcli : (nI i).toNatClampNeg = i := nI_clamp (by omega)
      have hstep : tW2 v I0 (i + 1) = (if tW2 v I0 i 92 i = v i then tW2 v I0 i else uI (uI (tW2 v I0 i) 92 i (v i)) 93 i (tW2 v I0 i 93 i + 1)) := rfl
      have e92 : tW2 v I0 i 92 i = I 92 i := by rw [(tW2_k i i (Nat.le_refl _)).1, hI0o 92 (by decide)]
      have hcnt : tN (I 92) v (i + 1) = tN (I 92) v i + b2 (¬ I 92 i = v i) := rfl
      have ct := c_X11_turned G d (nI i) (v i) (tW2 v I0 i) L b hini
      rw [hcli, ← hstep, e92] at ct
      have K : WQ G (d + 1) Y_X11_turn (fun r' w'' => r' = some (.int (tN (I 92) v nr)) ∧ w'' = (tW2 v I0 nr, L, RR b)) 35 [(0, .ref 72), (1, .int (tN (I 92) v i)), (2, .int (nI i)), (3, .int (v i))] [] (tW2 v I0 i, L, RR b) := by
        refine wp_iload_n rfl rfl ?_
        refine wp_aload_n rfl rfl ?_
        refine wp_iload_n rfl rfl ?_
        refine wp_iload_n rfl rfl ?_
        refine cV1 rfl l_11_168 i_X11_turned m_X11_turned (by first | rfl | assumption) (by decide) (ct) rfl (Nat.le_of_ble_eq_true rfl) ?_
        refine wp_if_eq 43 rfl rfl (fun h40 => ?_) (fun h40 => ?_)
        · refine wp_iconst (v := 0) rfl rfl ?_
          refine wp_iadd rfl ?_
          refine wp_istore_n (lv' := [(1, _), (0, _), (2, _), (3, _)]) rfl rfl (by decide) rfl ?_
          refine wp_iinc (v := nI (i + 1)) (lv' := [(2, _), (1, _), (0, _), (3, _)]) rfl rfl (nI_1 i) (by decide) rfl ?_
          refine wp_goto 7 rfl rfl ?_
          refine wp_loc (lv' := [(0, _), (1, _), (2, _)]) [2, 1, 0] rfl ?_
          rw [show tN (I 92) v i + _ = tN (I 92) v (i + 1) by rw [hcnt]; first | rw [b2_f (b2_eq.mp h40)] | rw [b2_t (b2_ne.mp h40)]]
          exact ih (i + 1) (by omega)
        · refine wp_iconst (v := 1) rfl rfl ?_
          refine wp_goto 44 rfl rfl ?_
          refine wp_iadd rfl ?_
          refine wp_istore_n (lv' := [(1, _), (0, _), (2, _), (3, _)]) rfl rfl (by decide) rfl ?_
          refine wp_iinc (v := nI (i + 1)) (lv' := [(2, _), (1, _), (0, _), (3, _)]) rfl rfl (nI_1 i) (by decide) rfl ?_
          refine wp_goto 7 rfl rfl ?_
          refine wp_loc (lv' := [(0, _), (1, _), (2, _)]) [2, 1, 0] rfl ?_
          rw [show tN (I 92) v i + _ = tN (I 92) v (i + 1) by rw [hcnt]; first | rw [b2_f (b2_eq.mp h40)] | rw [b2_t (b2_ne.mp h40)]]
          exact ih (i + 1) (by omega)
      refine wp_iload_n rfl rfl ?_
      refine wp_aload_n rfl rfl ?_
      refine q_geti rfl rfl (by first | rfl | assumption) rfl ?_
      refine wp_icmp_ge 48 rfl rfl (fun h10 => absurd h10 hlt) (fun _ => ?_)
      refine wp_iconst (v := (-1)) rfl rfl ?_
      refine wp_istore_n (lv' := [(3, _), (0, _), (1, _), (2, _)]) rfl rfl (by decide) rfl ?_
      refine wp_iconst (v := 0) rfl rfl ?_
      refine wp_istore (lv' := [(4, _), (3, _), (0, _), (1, _), (2, _)]) rfl (by decide) rfl ?_
      refine wp_loc (lv' := [(0, _), (1, _), (2, _), (3, _), (4, _)]) [2, 3, 4, 1, 0] rfl ?_
      exact inner i (by omega) _ nm 0 (-1) (by omega) (Or.inl rfl) (hva i) K
  refine MT.intro m_X11_turn rfl (Nat.le_of_ble_eq_true rfl) ?_
  show WQ G (d + 1) Y_X11_turn _ 0 [(0, .ref 72)] [] (I, L, RR b)
  refine wp_aload_n rfl rfl ?_
  refine wp_iconst (v := 0) rfl rfl ?_
  refine q_puti rfl rfl (by first | rfl | assumption) (Or.inl rfl) rfl ?_
  rw [hI0]
  refine wp_iconst (v := 0) rfl rfl ?_
  refine wp_istore_n (lv' := [(1, _), (0, _)]) rfl rfl (by decide) rfl ?_
  refine wp_iconst (v := 0) rfl rfl ?_
  refine wp_istore_n (lv' := [(2, _), (1, _), (0, _)]) rfl rfl (by decide) rfl ?_
  refine wp_loc (lv' := [(0, _), (1, _), (2, _)]) [2, 1, 0] rfl ?_
  exact outer nr 0 (by omega)
/-- all aerials turn, on both sides -/
theorem IV_looks {nm na nr : Nat} {I J : IF} {L : LF} {v c : Nat → Int32} (h : IV nm na nr I L) (hv : ∀ a, a < nr → v a = -1 ∨ (0 ≤ v a ∧ v a < I 1 2)) (h6 : ∀ a, a < nr → J (18 + a) 6 = v a) (h7 : ∀ a, a < nr → J (18 + a) 7 = I (18 + a) 7 + c a) (h92 : ∀ a, a < nr → J 92 a = v a) (h93 : ∀ a, a < nr → J 93 a = I 93 a + c a) (hk : ∀ a k, a < 16 → k ≠ 6 → k ≠ 7 → J (18 + a) k = I (18 + a) k) (hn : ∀ a, nr ≤ a → a < 16 → J (18 + a) = I (18 + a)) (hn2 : ∀ a, nr ≤ a → J 92 a = I 92 a ∧ J 93 a = I 93 a) (ho : ∀ q, (q < 18 ∨ 34 ≤ q) → q ≠ 92 → q ≠ 93 → q ≠ 72 → J q = I q) (h72 : ∀ k, k ≠ 0 → J 72 k = I 72 k) : IV nm na nr J L ∧ LSm I J := by
  obtain ⟨a1, a2, a3, a4, a5, a6, a7, a8, a9, a10, a11⟩ := id h
  have hnr : nr ≤ 16 := a1.2.2.2.2
  refine ⟨⟨?_, ?_, ?_, ?_, ?_, ?_, ?_, ?_, ?_, ?_, ?_⟩, ?_, ?_⟩
  · unfold IVc at a1 ⊢; simp (disch := omega) only [ho, h72]; exact a1
  · unfold IVs at a2 ⊢; simp (disch := omega) only [ho, h72]; exact a2
  · intro k hk; simp (disch := omega) only [ho]; exact a3 k hk
  · intro k hk; simp (disch := omega) only [ho]; exact a4 k hk
  · intro k hk; have := a1.1.2.2; simp (disch := omega) only [ho]; exact a5 k hk
  · intro k hk; simp (disch := omega) only [ho]; exact a6 k hk
  · intro k hk; simp (disch := omega) only [ho]; exact a7 k hk
  · intro a ha
    have z := a8 a ha
    by_cases e : a < nr
    · simp (disch := omega) only [ho, hk, h7 a e, h93 a e]
      rw [z.1.2.2.2.2.2.2]
      exact ⟨⟨z.1.1, z.1.2.1, z.1.2.2.1, z.1.2.2.2.1, z.1.2.2.2.2.1, z.1.2.2.2.2.2.1, rfl⟩, z.2⟩
    · rw [hn a (by omega) ha, (hn2 a (by omega)).2]
      simp (disch := omega) only [ho]
      exact z
  · intro a ha
    have z := a9 a ha
    by_cases e : a < nr
    · have hva := hv a e
      rw [a1.1.1] at hva
      have hm0 := (nI_b (n := nm) (k := 10) a1.1.2.2 (by omega)).1
      rw [h6 a e, h92 a e]
      exact ⟨fun _ => ⟨rfl, by grind, by grind⟩, fun z => absurd e (by omega)⟩
    · rw [hn a (by omega) ha, (hn2 a (by omega)).1]
      exact z
  · unfold IVt at a10 ⊢; simp (disch := omega) only [ho, h72]; exact a10
  · intro k hk; simp (disch := omega) only [ho]; exact a11 k hk
  · intro q hq; exact ho q (by omega) (by omega) (by omega) (by omega)
  · exact h72 12 (by decide)
theorem s_turn {G : Gl} {d : Nat} {I : IF} {L : LF} {b : Bool} (h : InvA I L) : StepA G (d + 2) Y_X10_turn Y_X11_turn [] I L b := by
  obtain ⟨nm, na, nr, h⟩ := h
  have hnm : nm ≤ 10 := h.1.1.2.2
  have hnr : nr ≤ 16 := h.1.2.2.2.2
  have c1 := c_X10_turn G d I L b h
  generalize hv : (fun a => bstG (stg I) a nm 0 (-1)) = v at c1
  have hva : ∀ a, bstG (stg I) a nm 0 (-1) = v a := fun a => by rw [← hv]
  generalize hJ : tW v I nr = J at c1
  have hJo : ∀ q, 34 ≤ q → J q = I q := by intro q hq; rw [← hJ]; exact tW_o nr q (by omega)
  have c2 := c_X11_turn G (d + 1) (nm := nm) (nr := nr) J L b (by rw [hJo 72 (by omega)]; exact h.1.1.2.1) hnm (by rw [hJo 72 (by omega)]; exact h.1.2.2.2.1) hnr (fun m a hm ha => by
    simp (disch := omega) only [hJo]
    rw [(stg_m h hm ha).2]
    exact sq_ne h hm ha)
  have hvM : ∀ a, a < 16 → bstG (stgM J) a nm 0 (-1) = v a := by
    intro a ha
    rw [← hva a]
    refine bstG_cg (fun m hm => ?_) nm 0 (-1) (by omega) (Or.inl rfl)
    unfold stgM
    simp (disch := omega) only [hJo]
    exact (stg_m h hm ha).1
  generalize hv2 : (fun a => bstG (stgM J) a nm 0 (-1)) = v2 at c2
  have hv2a : ∀ a, a < 16 → v2 a = v a := fun a ha => by rw [← hv2]; exact hvM a ha
  have z9 : ∀ a, a < nr → I 92 a = I (18 + a) 6 := fun a ha => ((h.2.2.2.2.2.2.2.2.1 a (by omega)).1 ha).1
  have hcnt : tN (J 92) v2 nr = tN (fun a => I (18 + a) 6) v nr := tN_cg2 nr (fun a ha => (congrFun (hJo 92 (by omega)) a).trans (z9 a ha)) (fun a ha => hv2a a (by omega))
  rw [hcnt] at c2
  have g0 : ∀ q, q ≠ 72 → q ≠ 92 → q ≠ 93 → tW2 v2 (uI J 72 0 0) nr q = J q := fun q h1 h2 h3 => (tW2_o nr q h2 h3).trans (uI_fn h1)
  have g72 : ∀ k, k ≠ 0 → tW2 v2 (uI J 72 0 0) nr 72 k = J 72 k := fun k hk => (congrFun (tW2_o nr 72 (by decide) (by decide)) k).trans (uI_nk hk)
  have g92 : ∀ a, a < nr → tW2 v2 (uI J 72 0 0) nr 92 a = v a ∧ tW2 v2 (uI J 72 0 0) nr 93 a = J 93 a + b2 (¬ J 92 a = v a) := by
    intro a ha
    have k1 := tW2_a (v := v2) (I := uI J 72 0 0) nr a ha
    rw [hv2a a (by omega), uI_ne (show (93 : Nat) ≠ 72 by decide), uI_ne (show (92 : Nat) ≠ 72 by decide)] at k1
    exact k1
  have g92' : ∀ a, nr ≤ a → tW2 v2 (uI J 72 0 0) nr 92 a = J 92 a ∧ tW2 v2 (uI J 72 0 0) nr 93 a = J 93 a := by
    intro a ha
    have k1 := tW2_k (v := v2) (I := uI J 72 0 0) nr a ha
    rw [uI_ne (show (93 : Nat) ≠ 72 by decide), uI_ne (show (92 : Nat) ≠ 72 by decide)] at k1
    exact k1
  generalize tW2 v2 (uI J 72 0 0) nr = J2 at c2 g0 g72 g92 g92'
  have t6 : ∀ a, a < nr → J (18 + a) 6 = v a ∧ J (18 + a) 7 = I (18 + a) 7 + b2 (¬ I (18 + a) 6 = v a) := fun a ha => by rw [← hJ]; exact tW_a nr a ha
  have tk : ∀ q k, k ≠ 6 → k ≠ 7 → J q k = I q k := fun q k h6 h7 => by rw [← hJ]; exact tW_k nr q k h6 h7
  have to : ∀ q, (q < 18 ∨ 18 + nr ≤ q) → J q = I q := fun q hq => by rw [← hJ]; exact tW_o nr q hq
  have key := IV_looks (I := I) (J := J2) (L := L) (v := v) (c := fun a => b2 (¬ I (18 + a) 6 = v a)) h (fun a ha => by
        rw [← hva a]
        rcases bstG_b (f := stg I) (a := a) nm 0 (-1) (Or.inl rfl) with e | ⟨j, hj, e⟩
        · exact Or.inl e
        · rw [e, h.1.1.1]; exact Or.inr ⟨nI_pos' (by omega), nI_lt (by omega) (by omega)⟩)
      (fun a ha => by rw [g0 _ (by omega) (by omega) (by omega)]; exact (t6 a ha).1)
      (fun a ha => by rw [g0 _ (by omega) (by omega) (by omega)]; exact (t6 a ha).2)
      (fun a ha => (g92 a ha).1)
      (fun a ha => by rw [(g92 a ha).2, hJo 93 (by omega), hJo 92 (by omega), z9 a ha])
      (fun a k ha h6 h7 => by rw [g0 _ (by omega) (by omega) (by omega)]; exact tk _ k h6 h7)
      (fun a h1 h2 => by rw [g0 _ (by omega) (by omega) (by omega)]; exact to _ (by omega))
      (fun a h1 => by rw [(g92' a h1).1, (g92' a h1).2, hJo 92 (by omega), hJo 93 (by omega)]; exact ⟨rfl, rfl⟩)
      (fun q h1 h2 h3 h4 => by rw [g0 q h4 h2 h3]; exact to q (by omega))
      (fun k hk => by rw [g72 k hk, hJo 72 (by omega)])
  exact ⟨_, _, _, _, _, c1, c2, ⟨nm, na, nr, key.1⟩, key.2⟩
end
section
/-! rows: row, tear, write -/
def flL (L : LF) (a n : Nat) (v : Int64) : LF := fun a' k' => if a' = a ∧ k' < n then v else L a' k'
theorem flL_s (L : LF) (a n : Nat) (v : Int64) : uL (flL L a n v) a n v = flL L a (n + 1) v := by
  funext a' k'
  unfold uL flL
  by_cases e : a' = a
  · subst e
    by_cases k1 : k' = n
    · subst k1; simp
    · simp [k1, show k' < n + 1 ↔ k' < n by omega]
  · simp [e]
theorem flL_0 (L : LF) (a : Nat) (v : Int64) : flL L a 0 v = L := by funext a' k'; simp [flL]
def flI (L : IF) (a n : Nat) (v : Int32) : IF := fun a' k' => if a' = a ∧ k' < n then v else L a' k'
theorem flI_s (L : IF) (a n : Nat) (v : Int32) : uI (flI L a n v) a n v = flI L a (n + 1) v := by
  funext a' k'
  unfold uI flI
  by_cases e : a' = a
  · subst e
    by_cases k1 : k' = n
    · subst k1; simp
    · simp [k1, show k' < n + 1 ↔ k' < n by omega]
  · simp [e]
theorem flI_0 (L : IF) (a : Nat) (v : Int32) : flI L a 0 v = L := by funext a' k'; simp [flI]
theorem c_fillL (G : Gl) (d : Nat) {a len : Nat} (v : Int64) (I : IF) (L : LF) (R : RF) (ha : shp NN a = some (.inl (3, len))) (hlen : len < 2 ^ 31) : MD G d Y_J7_fill_d0a16 [.ref a, .long v] (I, L, R) none (I, flL L a len v, R) := by
  have hloop : ∀ (n i : Nat), i + n = len → WQ G d Y_J7_fill_d0a16 (fun r' w'' => r' = none ∧ w'' = (I, flL L a len v, R)) 5 [(0, .ref a), (1, .long v), (3, .int (nI i)), (4, .int (nI len))] [] (I, flL L a i v, R) := by
    intro n
    induction n with
    | zero =>
      intro i hi
      have hin : i = len := by omega
      subst hin
      refine wp_iload_n rfl rfl ?_
      refine wp_iload rfl rfl ?_
      refine wp_icmp_ge 14 rfl rfl (fun _ => ?_) (fun h7 => absurd (nI_le (Nat.le_refl _) hlen) h7)
      exact wp_vret rfl rfl (⟨rfl, rfl⟩)
    | succ n ih =>
      intro i hi
      have hlt : ¬ nI len ≤ nI i := nI_ge (by omega) hlen
      have hin : vp_in (nI i) len := vp_in_nI (by omega) hlen
      have hcl : (nI i).toNatClampNeg = i := nI_clamp (by omega)
      refine wp_iload_n rfl rfl ?_
      refine wp_iload rfl rfl ?_
      refine wp_icmp_ge 14 rfl rfl (fun h7 => absurd h7 hlt) (fun _ => ?_)
      refine wp_aload_n rfl rfl ?_
      refine wp_iload_n rfl rfl ?_
      refine wp_lload_n rfl rfl ?_
      refine q_last rfl (by first | rfl | assumption) (by assumption) ?_
      refine wp_iinc (v := nI (i + 1)) (lv' := [(3, _), (0, _), (1, _), (4, _)]) rfl rfl (nI_1 i) (by decide) rfl ?_
      refine wp_goto 5 rfl rfl ?_
      refine wp_loc (lv' := [(0, _), (1, _), (3, _), (4, _)]) [1, 2, 0, 3] rfl ?_
      rw [hcl, flL_s]
      exact ih (i + 1) (by omega)
  refine MT.intro m_J7_fill_d0a16 rfl (Nat.le_of_ble_eq_true rfl) ?_
  show WQ G d Y_J7_fill_d0a16 _ 0 [(0, .ref a), (1, .long v)] [] (I, L, R)
  refine wp_iconst (v := 0) rfl rfl ?_
  refine wp_istore_n (lv' := [(3, _), (0, _), (1, _)]) rfl rfl (by decide) rfl ?_
  refine wp_aload_n rfl rfl ?_
  refine wp_alen (v := nI len) rfl ha (by decide) rfl ?_
  refine wp_istore (lv' := [(4, _), (3, _), (0, _), (1, _)]) rfl (by decide) rfl ?_
  refine wp_loc (lv' := [(0, _), (1, _), (3, _), (4, _)]) [2, 3, 1, 0] rfl ?_
  have := hloop len 0 (by omega)
  rw [flL_0] at this
  exact this
theorem c_fillI (G : Gl) (d : Nat) {a len : Nat} (v : Int32) (I : IF) (L : LF) (R : RF) (ha : shp NN a = some (.inl (0, len))) (hlen : len < 2 ^ 31) : MD G d Y_J7_fill_53178 [.ref a, .int v] (I, L, R) none (flI I a len v, L, R) := by
  have hloop : ∀ (n i : Nat), i + n = len → WQ G d Y_J7_fill_53178 (fun r' w'' => r' = none ∧ w'' = (flI I a len v, L, R)) 5 [(0, .ref a), (1, .int v), (2, .int (nI i)), (3, .int (nI len))] [] (flI I a i v, L, R) := by
    intro n
    induction n with
    | zero =>
      intro i hi
      have hin : i = len := by omega
      subst hin
      refine wp_iload_n rfl rfl ?_
      refine wp_iload_n rfl rfl ?_
      refine wp_icmp_ge 14 rfl rfl (fun _ => ?_) (fun h7 => absurd (nI_le (Nat.le_refl _) hlen) h7)
      exact wp_vret rfl rfl (⟨rfl, rfl⟩)
    | succ n ih =>
      intro i hi
      have hlt : ¬ nI len ≤ nI i := nI_ge (by omega) hlen
      have hin : vp_in (nI i) len := vp_in_nI (by omega) hlen
      have hcl : (nI i).toNatClampNeg = i := nI_clamp (by omega)
      refine wp_iload_n rfl rfl ?_
      refine wp_iload_n rfl rfl ?_
      refine wp_icmp_ge 14 rfl rfl (fun h7 => absurd h7 hlt) (fun _ => ?_)
      refine wp_aload_n rfl rfl ?_
      refine wp_iload_n rfl rfl ?_
      refine wp_iload_n rfl rfl ?_
      refine q_iast rfl (by first | rfl | assumption) (by assumption) ?_
      refine wp_iinc (v := nI (i + 1)) (lv' := [(2, _), (0, _), (1, _), (3, _)]) rfl rfl (nI_1 i) (by decide) rfl ?_
      refine wp_goto 5 rfl rfl ?_
      refine wp_loc (lv' := [(0, _), (1, _), (2, _), (3, _)]) [1, 2, 0, 3] rfl ?_
      rw [hcl, flI_s]
      exact ih (i + 1) (by omega)
  refine MT.intro m_J7_fill_53178 rfl (Nat.le_of_ble_eq_true rfl) ?_
  show WQ G d Y_J7_fill_53178 _ 0 [(0, .ref a), (1, .int v)] [] (I, L, R)
  refine wp_iconst (v := 0) rfl rfl ?_
  refine wp_istore_n (lv' := [(2, _), (0, _), (1, _)]) rfl rfl (by decide) rfl ?_
  refine wp_aload_n rfl rfl ?_
  refine wp_alen (v := nI len) rfl ha (by decide) rfl ?_
  refine wp_istore_n (lv' := [(3, _), (2, _), (0, _), (1, _)]) rfl rfl (by decide) rfl ?_
  refine wp_loc (lv' := [(0, _), (1, _), (2, _), (3, _)]) [2, 3, 1, 0] rfl ?_
  have := hloop len 0 (by omega)
  rw [flI_0] at this
  exact this
theorem c_X6_begin (G : Gl) (d : Nat) {s : Nat} (x n : Int32) (I : IF) (L : LF) (b : Bool) (hs : s < 4) : MD G (d + 1) Y_X6_begin [.ref (57 + 2 * s), .int x, .int n] (I, L, RR b) none (uI (uI I (57 + 2 * s) 1 x) (57 + 2 * s) 2 n, flL L (58 + 2 * s) 60 0, RR b) := by
  have ha := sh_row s hs
  refine MT.intro m_X6_begin rfl (Nat.le_of_ble_eq_true rfl) ?_
  show WQ G (d + 1) Y_X6_begin _ 0 [(0, .ref (57 + 2 * s)), (1, .int x), (2, .int n)] [] (I, L, RR b)
  refine wp_aload_n rfl rfl ?_
  refine wp_iload_n rfl rfl ?_
  refine q_puti rfl rfl (by first | rfl | assumption) (Or.inl rfl) rfl ?_
  refine wp_aload_n rfl rfl ?_
  refine wp_iload_n rfl rfl ?_
  refine q_puti rfl rfl (by first | rfl | assumption) (Or.inl rfl) rfl ?_
  refine wp_aload_n rfl rfl ?_
  refine q_getr rfl rfl (by first | rfl | assumption) rfl (rr_row s hs b) ?_
  refine wp_lconst (v := 0) rfl rfl ?_
  refine cS0 rfl l_6_22 s_J7_fill_d0a16 m_J7_fill_d0a16 (c_fillL G _ _ _ _ _ (sh_rowA s hs) (by decide)) rfl (Nat.le_of_ble_eq_true rfl) ?_
  exact wp_vret rfl rfl (⟨rfl, rfl⟩)
theorem c_X10_row_ok (G : Gl) (d : Nat) {s : Nat} (x n : Int32) (I : IF) (L : LF) (b : Bool) (hs : s < 4) (hx : 0 ≤ x ∧ x ≤ 3) (hn : 0 ≤ n ∧ n ≤ 60) : MD G (d + 2) Y_X10_row [.ref 0, .int (nI s), .int x, .int n] (I, L, RR b) (some (.int 0)) (uI (uI I (57 + 2 * s) 1 x) (57 + 2 * s) 2 n, flL L (58 + 2 * s) 60 0, RR b) := by
  have ha := sh_row s hs
  have hs0 : (0 : Int32) ≤ nI s ∧ nI s ≤ 3 := ⟨nI_pos' (by omega), nI_le (b := 3) (by omega) (by omega)⟩
  refine MT.intro m_X10_row rfl (Nat.le_of_ble_eq_true rfl) ?_
  show WQ G (d + 2) Y_X10_row _ 0 [(0, .ref 0), (1, .int (nI s)), (2, .int x), (3, .int n)] [] (I, L, RR b)
  refine wp_iload_n rfl rfl ?_
  refine cS1 rfl l_10_149 s_X10_isSlot m_X10_isSlot (c_X10_isSlot G _ _ _) rfl (Nat.le_of_ble_eq_true rfl) ?_
  refine wp_if_eq 11 rfl rfl (fun h2 => ?_) (fun h2 => ?_)
  · exfalso; grind [b2]
  · refine wp_iload_n rfl rfl ?_
    refine wp_iconst (v := 0) rfl rfl ?_
    refine wp_iconst (v := 3) rfl rfl ?_
    refine cS1 rfl l_10_77 s_X10_isWithin m_X10_isWithin (c_X10_isWithin G _ _ _ _ _) rfl (Nat.le_of_ble_eq_true rfl) ?_
    refine wp_if_eq 11 rfl rfl (fun h7 => ?_) (fun h7 => ?_)
    · exfalso; grind [b2]
    · refine wp_iload_n rfl rfl ?_
      refine wp_bipush (v := 60) rfl rfl ?_
      refine wp_icmp_le 13 rfl rfl (fun h10 => ?_) (fun h10 => ?_)
      · refine wp_iload_n rfl rfl ?_
        refine wp_if_ge 17 rfl rfl (fun h14 => ?_) (fun h14 => ?_)
        · refine wp_aload_n rfl rfl ?_
          refine q_getr rfl rfl (by first | rfl | assumption) rfl rfl ?_
          refine wp_iload_n rfl rfl ?_
          refine q_rowo rfl rfl hs ?_
          refine wp_iload_n rfl rfl ?_
          refine wp_iload_n rfl rfl ?_
          refine cV0 rfl l_10_265 i_X6_begin m_X6_begin (by first | rfl | assumption) (by decide) (c_X6_begin G _ _ _ _ _ _ hs) rfl (Nat.le_of_ble_eq_true rfl) ?_
          refine wp_iconst (v := 0) rfl rfl ?_
          exact wp_iret rfl rfl (⟨rfl, rfl⟩)
        · exfalso; grind [b2]
      · exfalso; grind [b2]
theorem c_X10_row_no (G : Gl) (d : Nat) (v x n : Int32) (I : IF) (L : LF) (b : Bool) (hno : ¬ ((0 ≤ v ∧ v ≤ 3) ∧ (0 ≤ x ∧ x ≤ 3) ∧ 0 ≤ n ∧ n ≤ 60)) : MD G (d + 2) Y_X10_row [.ref 0, .int v, .int x, .int n] (I, L, RR b) (some (.int (if (0 ≤ v ∧ v ≤ 3) ∧ (0 ≤ x ∧ x ≤ 3) ∧ n ≤ 60 then -3 else -2))) (I, L, RR b) := by
  refine MT.intro m_X10_row rfl (Nat.le_of_ble_eq_true rfl) ?_
  show WQ G (d + 2) Y_X10_row _ 0 [(0, .ref 0), (1, .int v), (2, .int x), (3, .int n)] [] (I, L, RR b)
  refine wp_iload_n rfl rfl ?_
  refine cS1 rfl l_10_149 s_X10_isSlot m_X10_isSlot (c_X10_isSlot G _ _ _) rfl (Nat.le_of_ble_eq_true rfl) ?_
  refine wp_if_eq 11 rfl rfl (fun h2 => ?_) (fun h2 => ?_)
  · refine wp_bipush (v := (-2)) rfl rfl ?_
    exact wp_iret rfl rfl (⟨by grind (splits := 30) [b2], rfl⟩)
  · refine wp_iload_n rfl rfl ?_
    refine wp_iconst (v := 0) rfl rfl ?_
    refine wp_iconst (v := 3) rfl rfl ?_
    refine cS1 rfl l_10_77 s_X10_isWithin m_X10_isWithin (c_X10_isWithin G _ _ _ _ _) rfl (Nat.le_of_ble_eq_true rfl) ?_
    refine wp_if_eq 11 rfl rfl (fun h7 => ?_) (fun h7 => ?_)
    · refine wp_bipush (v := (-2)) rfl rfl ?_
      exact wp_iret rfl rfl (⟨by grind (splits := 30) [b2], rfl⟩)
    · refine wp_iload_n rfl rfl ?_
      refine wp_bipush (v := 60) rfl rfl ?_
      refine wp_icmp_le 13 rfl rfl (fun h10 => ?_) (fun h10 => ?_)
      · refine wp_iload_n rfl rfl ?_
        refine wp_if_ge 17 rfl rfl (fun h14 => ?_) (fun h14 => ?_)
        · exfalso; grind (splits := 30) [b2]
        · refine wp_bipush (v := (-3)) rfl rfl ?_
          exact wp_iret rfl rfl (⟨by grind (splits := 30) [b2], rfl⟩)
      · refine wp_bipush (v := (-2)) rfl rfl ?_
        exact wp_iret rfl rfl (⟨by grind (splits := 30) [b2], rfl⟩)
/-- cells of the reference's rows: n of slot s are 0 -/
def flM (L : LF) (s n : Nat) : LF := fun a' k' => if a' = 75 ∧ 60 * s ≤ k' ∧ k' < 60 * s + n then 0 else L a' k'
theorem flM_s (L : LF) (s n : Nat) : uL (flM L s n) 75 (60 * s + n) 0 = flM L s (n + 1) := by
  funext a' k'
  unfold uL flM
  by_cases e : a' = 75
  · subst e
    by_cases k1 : k' = 60 * s + n
    · subst k1; simp
    · simp [k1, show (60 * s ≤ k' ∧ k' < 60 * s + (n + 1)) ↔ (60 * s ≤ k' ∧ k' < 60 * s + n) by omega]
  · simp [e]
theorem flM_0 (L : LF) (s : Nat) : flM L s 0 = L := by
  funext a' k'
  unfold flM
  rw [if_neg (by omega)]
theorem ix60 {s j : Nat} (hs : s < 4) (hj : j < 60) : (60 : Int32) * nI s + nI j = nI (60 * s + j) ∧ vp_in ((60 : Int32) * nI s + nI j) 240 ∧ ((60 : Int32) * nI s + nI j).toNatClampNeg = 60 * s + j := by
  have e : (60 : Int32) * nI s + nI j = nI (60 * s + j) := by rw [show (60 : Int32) = nI 60 from rfl, pk_mul, nI_add]
  rw [e]
  exact ⟨rfl, vp_in_nI (by omega) (by omega), nI_clamp (by omega)⟩
theorem c_X11_row_ok (G : Gl) (d : Nat) {s : Nat} (x n : Int32) (I : IF) (L : LF) (b : Bool) (hs : s < 4) (hx : 0 ≤ x ∧ x ≤ 3) (hn : 0 ≤ n ∧ n ≤ 60) : MD G (d + 2) Y_X11_row [.ref 72, .int (nI s), .int x, .int n] (I, L, RR b) (some (.int 0)) (uI (uI (uI I 72 0 0) 73 s x) 74 s n, flM L s 60, RR b) := by
  have hs0 : (0 : Int32) ≤ nI s ∧ nI s ≤ 3 := ⟨nI_pos' (by omega), nI_le (b := 3) (by omega) (by omega)⟩
  have hin : vp_in (nI s) 4 := vp_in_nI (by omega) (by omega)
  have hcl : (nI s).toNatClampNeg = s := nI_clamp (by omega)
  generalize hJ : uI (uI (uI I 72 0 0) 73 s x) 74 s n = J
  have hloop : ∀ (m i : Nat), i + m = 60 → WQ G (d + 2) Y_X11_row (fun r' w'' => r' = some (.int 0) ∧ w'' = (J, flM L s 60, RR b)) 33 [(0, .ref 72), (1, .int (nI s)), (2, .int x), (3, .int n), (4, .int (nI i))] [] (J, flM L s i, RR b) := by
    intro m
    induction m with
    | zero =>
      intro i hi
      have hie : i = 60 := by omega
      subst hie
      refine wp_iload rfl rfl ?_
      refine wp_bipush (v := 60) rfl rfl ?_
      refine wp_icmp_ge 47 rfl rfl (fun _ => ?_) (fun h35 => absurd (show (60 : Int32) ≤ nI 60 by decide) h35)
      refine wp_iconst (v := 0) rfl rfl ?_
      exact wp_iret rfl rfl (⟨rfl, rfl⟩)
    | succ m ih =>
      intro i hi
      have hlt : ¬ (60 : Int32) ≤ nI i := nI_ge (a := i) (b := 60) (by omega) (by omega)
      have h60 := ix60 hs (show i < 60 by omega)
      refine wp_iload rfl rfl ?_
      refine wp_bipush (v := 60) rfl rfl ?_
      refine wp_icmp_ge 47 rfl rfl (fun h35 => absurd h35 hlt) (fun _ => ?_)
      refine wp_aload_n rfl rfl ?_
      refine q_getr rfl rfl (by first | rfl | assumption) rfl rfl ?_
      refine wp_bipush (v := 60) rfl rfl ?_
      refine wp_iload_n rfl rfl ?_
      refine wp_imul rfl ?_
      refine wp_iload rfl rfl ?_
      refine wp_iadd rfl ?_
      refine wp_lconst (v := 0) rfl rfl ?_
      refine q_last rfl (by first | rfl | assumption) h60.2.1 ?_
      refine wp_iinc (v := nI (i + 1)) (lv' := [(4, _), (0, _), (1, _), (2, _), (3, _)]) rfl rfl (nI_1 i) (by decide) rfl ?_
      refine wp_goto 33 rfl rfl ?_
      refine wp_loc (lv' := [(0, _), (1, _), (2, _), (3, _), (4, _)]) [1, 2, 3, 4, 0] rfl ?_
      rw [h60.2.2, flM_s]
      exact ih (i + 1) (by omega)
  refine MT.intro m_X11_row rfl (Nat.le_of_ble_eq_true rfl) ?_
  show WQ G (d + 2) Y_X11_row _ 0 [(0, .ref 72), (1, .int (nI s)), (2, .int x), (3, .int n)] [] (I, L, RR b)
  refine wp_aload_n rfl rfl ?_
  refine wp_iconst (v := 0) rfl rfl ?_
  refine q_puti rfl rfl (by first | rfl | assumption) (Or.inl rfl) rfl ?_
  refine wp_iload_n rfl rfl ?_
  refine cS1 rfl l_11_123 s_X11_isSlot m_X11_isSlot (c_X11_isSlot G _ _ _) rfl (Nat.le_of_ble_eq_true rfl) ?_
  refine wp_if_eq 15 rfl rfl (fun h5 => ?_) (fun h5 => ?_)
  · exfalso; grind [b2]
  · refine wp_iload_n rfl rfl ?_
    refine wp_i2l rfl ?_
    refine wp_lconst (v := 0) rfl rfl ?_
    refine wp_ldc2 (v := (3)) rfl cl_11_117 ?_
    refine cS1 rfl l_11_119 s_X11_in m_X11_in (c_inI G _ _ 0 3 rfl rfl _) rfl (Nat.le_of_ble_eq_true rfl) ?_
    refine wp_if_eq 15 rfl rfl (fun h11 => ?_) (fun h11 => ?_)
    · exfalso; grind [b2]
    · refine wp_iload_n rfl rfl ?_
      refine wp_bipush (v := 60) rfl rfl ?_
      refine wp_icmp_le 17 rfl rfl (fun h14 => ?_) (fun h14 => ?_)
      · refine wp_iload_n rfl rfl ?_
        refine wp_if_ge 21 rfl rfl (fun h18 => ?_) (fun h18 => ?_)
        · refine wp_aload_n rfl rfl ?_
          refine q_getr rfl rfl (by first | rfl | assumption) rfl rfl ?_
          refine wp_iload_n rfl rfl ?_
          refine wp_iload_n rfl rfl ?_
          refine q_iast rfl (by first | rfl | assumption) (by assumption) ?_
          refine wp_aload_n rfl rfl ?_
          refine q_getr rfl rfl (by first | rfl | assumption) rfl rfl ?_
          refine wp_iload_n rfl rfl ?_
          refine wp_iload_n rfl rfl ?_
          refine q_iast rfl (by first | rfl | assumption) (by assumption) ?_
          refine wp_iconst (v := 0) rfl rfl ?_
          refine wp_istore (lv' := [(4, _), (0, _), (1, _), (2, _), (3, _)]) rfl (by decide) rfl ?_
          refine wp_loc (lv' := [(0, _), (1, _), (2, _), (3, _), (4, _)]) [1, 2, 3, 4, 0] rfl ?_
          rw [hcl, hJ]
          have := hloop 60 0 (by omega)
          rw [flM_0] at this
          exact this
        · exfalso; grind [b2]
      · exfalso; grind [b2]
theorem c_X11_row_no (G : Gl) (d : Nat) (v x n : Int32) (I : IF) (L : LF) (b : Bool) (hno : ¬ ((0 ≤ v ∧ v ≤ 3) ∧ (0 ≤ x ∧ x ≤ 3) ∧ 0 ≤ n ∧ n ≤ 60)) : MD G (d + 2) Y_X11_row [.ref 72, .int v, .int x, .int n] (I, L, RR b) (some (.int (if (0 ≤ v ∧ v ≤ 3) ∧ (0 ≤ x ∧ x ≤ 3) ∧ n ≤ 60 then -3 else -2))) (uI I 72 0 0, L, RR b) := by
  refine MT.intro m_X11_row rfl (Nat.le_of_ble_eq_true rfl) ?_
  show WQ G (d + 2) Y_X11_row _ 0 [(0, .ref 72), (1, .int v), (2, .int x), (3, .int n)] [] (I, L, RR b)
  refine wp_aload_n rfl rfl ?_
  refine wp_iconst (v := 0) rfl rfl ?_
  refine q_puti rfl rfl (by first | rfl | assumption) (Or.inl rfl) rfl ?_
  refine wp_iload_n rfl rfl ?_
  refine cS1 rfl l_11_123 s_X11_isSlot m_X11_isSlot (c_X11_isSlot G _ _ _) rfl (Nat.le_of_ble_eq_true rfl) ?_
  refine wp_if_eq 15 rfl rfl (fun h5 => ?_) (fun h5 => ?_)
  · refine wp_bipush (v := (-2)) rfl rfl ?_
    exact wp_iret rfl rfl (⟨by grind (splits := 30) [b2], rfl⟩)
  · refine wp_iload_n rfl rfl ?_
    refine wp_i2l rfl ?_
    refine wp_lconst (v := 0) rfl rfl ?_
    refine wp_ldc2 (v := (3)) rfl cl_11_117 ?_
    refine cS1 rfl l_11_119 s_X11_in m_X11_in (c_inI G _ _ 0 3 rfl rfl _) rfl (Nat.le_of_ble_eq_true rfl) ?_
    refine wp_if_eq 15 rfl rfl (fun h11 => ?_) (fun h11 => ?_)
    · refine wp_bipush (v := (-2)) rfl rfl ?_
      exact wp_iret rfl rfl (⟨by grind (splits := 30) [b2], rfl⟩)
    · refine wp_iload_n rfl rfl ?_
      refine wp_bipush (v := 60) rfl rfl ?_
      refine wp_icmp_le 17 rfl rfl (fun h14 => ?_) (fun h14 => ?_)
      · refine wp_iload_n rfl rfl ?_
        refine wp_if_ge 21 rfl rfl (fun h18 => ?_) (fun h18 => ?_)
        · exfalso; grind (splits := 30) [b2]
        · refine wp_bipush (v := (-3)) rfl rfl ?_
          exact wp_iret rfl rfl (⟨by grind (splits := 30) [b2], rfl⟩)
      · refine wp_bipush (v := (-2)) rfl rfl ?_
        exact wp_iret rfl rfl (⟨by grind (splits := 30) [b2], rfl⟩)
/-- rows alone change -/
theorem IV_rows {nm na nr : Nat} {I J : IF} {L K : LF} (h : IV nm na nr I L) (ho : ∀ q, (q < 57 ∨ 65 ≤ q) → q ≠ 73 → q ≠ 74 → q ≠ 72 → J q = I q) (h72 : ∀ k, k ≠ 0 → J 72 k = I 72 k) (hr : IVr J K) : IV nm na nr J K ∧ LSm I J := by
  obtain ⟨a1, a2, a3, a4, a5, a6, a7, a8, a9, a10, a11⟩ := id h
  refine ⟨⟨?_, ?_, ?_, ?_, ?_, ?_, ?_, ?_, ?_, ?_, hr⟩, ?_, ?_⟩
  · unfold IVc at a1 ⊢; simp (disch := omega) only [ho, h72]; exact a1
  · unfold IVs at a2 ⊢; simp (disch := omega) only [ho, h72]; exact a2
  · intro k hk; simp (disch := omega) only [ho]; exact a3 k hk
  · intro k hk; simp (disch := omega) only [ho]; exact a4 k hk
  · intro k hk; have := a1.1.2.2; simp (disch := omega) only [ho]; exact a5 k hk
  · intro k hk; simp (disch := omega) only [ho]; exact a6 k hk
  · intro k hk; simp (disch := omega) only [ho]; exact a7 k hk
  · intro a ha; simp (disch := omega) only [ho]; exact a8 a ha
  · intro a ha; simp (disch := omega) only [ho]; exact a9 a ha
  · unfold IVt at a10 ⊢; simp (disch := omega) only [ho, h72]; exact a10
  · intro q hq; exact ho q (by omega) (by omega) (by omega) (by omega)
  · exact h72 12 (by decide)
theorem s_row {G : Gl} {d : Nat} {I : IF} {L : LF} {b : Bool} (v x n : Int32) (h : InvA I L) : StepA G (d + 2) Y_X10_row Y_X11_row [.int v, .int x, .int n] I L b := by
  obtain ⟨nm, na, nr, h⟩ := h
  by_cases hok : (0 ≤ v ∧ v ≤ 3) ∧ (0 ≤ x ∧ x ≤ 3) ∧ 0 ≤ n ∧ n ≤ 60
  · obtain ⟨hv, hx, hn⟩ := hok
    obtain ⟨s, hs, rfl⟩ := nI_get (x := v) (n := 4) hv.1 (by show v < 4; grind) (by omega)
    have c1 := c_X10_row_ok G d x n I L b hs hx hn
    have c2 := c_X11_row_ok G d x n (uI (uI I (57 + 2 * s) 1 x) (57 + 2 * s) 2 n) (flL L (58 + 2 * s) 60 0) b hs hx hn
    have a11 := h.2.2.2.2.2.2.2.2.2.2
    have key := IV_rows (J := uI (uI (uI (uI (uI I (57 + 2 * s) 1 x) (57 + 2 * s) 2 n) 72 0 0) 73 s x) 74 s n) (K := flM (flL L (58 + 2 * s) 60 0) s 60) h (fun q h1 h2 h3 h4 => by rw [uI_fn h3, uI_fn h2, uI_fn h4, uI_fn (by omega), uI_fn (by omega)]) (fun k hk => by simp (disch := omega) only [uI_ne, uI_nk]) (fun t ht => by
      have z := a11 t ht
      by_cases e : t = s
      · subst e
        refine ⟨fun j hj => ?_, Or.inr ?_⟩
        · unfold flM flL
          rw [if_pos (by omega), if_neg (by omega), if_pos (by omega)]
        · simp (disch := omega) only [uI_ne, uI_nk, uI_eq]
          exact ⟨hn, trivial, hx, trivial⟩
      · refine ⟨fun j hj => ?_, ?_⟩
        · unfold flM flL
          rw [if_neg (by omega), if_neg (by omega), if_neg (by omega), if_neg (by omega)]
          exact z.1 j hj
        · simp (disch := omega) only [uI_ne, uI_nk, uI_eq]
          exact z.2)
    exact ⟨_, _, _, _, _, c1, c2, ⟨nm, na, nr, key.1⟩, key.2⟩
  · exact StepA.query h (c_X10_row_no G d v x n I L b hok) (c_X11_row_no G d v x n I L b hok)
end
section
/-! tear, write -/
theorem slot4 {v : Int32} (h : 0 ≤ v ∧ v ≤ 3) : ∃ s, s < 4 ∧ v = nI s ∧ v.toNatClampNeg = s := by
  obtain ⟨s, hs, rfl⟩ := nI_get (x := v) (n := 4) h.1 (by show v < 4; grind) (by omega)
  exact ⟨s, hs, rfl, nI_clamp (by omega)⟩
theorem c_X10_tear (G : Gl) (d : Nat) (v : Int32) (I : IF) (L : LF) (b : Bool) : MD G (d + 2) Y_X10_tear [.ref 0, .int v] (I, L, RR b) (some (.int (b2 ((0 ≤ v ∧ v ≤ 3) ∧ ¬ I (57 + 2 * v.toNatClampNeg) 2 = -1)))) (if (0 ≤ v ∧ v ≤ 3) ∧ ¬ I (57 + 2 * v.toNatClampNeg) 2 = -1 then uI I (57 + 2 * v.toNatClampNeg) 2 (-1) else I, L, RR b) := by
  refine MT.intro m_X10_tear rfl (Nat.le_of_ble_eq_true rfl) ?_
  show WQ G (d + 2) Y_X10_tear _ 0 [(0, .ref 0), (1, .int v)] [] (I, L, RR b)
  refine wp_iload_n rfl rfl ?_
  refine cS1 rfl l_10_149 s_X10_isSlot m_X10_isSlot (c_X10_isSlot G _ _ _) rfl (Nat.le_of_ble_eq_true rfl) ?_
  refine wp_if_eq 9 rfl rfl (fun h2 => ?_) (fun h2 => ?_)
  · refine wp_iconst (v := 0) rfl rfl ?_
    exact wp_zret rfl rfl (by first | rfl | exact nb2 _ | assumption) (⟨by grind [b2], by grind [b2]⟩)
  · have hv := b2_ne.mp h2
    obtain ⟨s, hs, hvs, hcl⟩ := slot4 hv
    have ha := sh_row s hs
    refine wp_aload_n rfl rfl ?_
    refine q_getr rfl rfl (by first | rfl | assumption) rfl rfl ?_
    refine wp_iload_n rfl rfl ?_
    refine q_rowo rfl hvs hs ?_
    refine cV1 rfl l_10_152 i_X6_isEmpty m_X6_isEmpty (by first | rfl | assumption) (by decide) (c_X6_isEmpty G _ _ _ _ _ ha) rfl (Nat.le_of_ble_eq_true rfl) ?_
    refine wp_if_eq 11 rfl rfl (fun h8 => ?_) (fun h8 => ?_)
    · refine wp_aload_n rfl rfl ?_
      refine q_getr rfl rfl (by first | rfl | assumption) rfl rfl ?_
      refine wp_iload_n rfl rfl ?_
      refine q_rowo rfl hvs hs ?_
      refine wp_iconst (v := (-1)) rfl rfl ?_
      refine q_puti rfl rfl (by first | rfl | assumption) (Or.inl rfl) rfl ?_
      refine wp_iconst (v := 1) rfl rfl ?_
      exact wp_zret rfl rfl (by first | rfl | exact nb2 _ | assumption) (⟨by grind [b2], by grind [b2]⟩)
    · refine wp_iconst (v := 0) rfl rfl ?_
      exact wp_zret rfl rfl (by first | rfl | exact nb2 _ | assumption) (⟨by grind [b2], by grind [b2]⟩)
theorem c_X11_tear (G : Gl) (d : Nat) (v : Int32) (I : IF) (L : LF) (b : Bool) : MD G (d + 2) Y_X11_tear [.ref 72, .int v] (I, L, RR b) (some (.int (b2 ((0 ≤ v ∧ v ≤ 3) ∧ ¬ I 73 v.toNatClampNeg < 0)))) (if (0 ≤ v ∧ v ≤ 3) ∧ ¬ I 73 v.toNatClampNeg < 0 then uI (uI I 72 0 0) 73 v.toNatClampNeg (-1) else uI I 72 0 0, L, RR b) := by
  refine MT.intro m_X11_tear rfl (Nat.le_of_ble_eq_true rfl) ?_
  show WQ G (d + 2) Y_X11_tear _ 0 [(0, .ref 72), (1, .int v)] [] (I, L, RR b)
  refine wp_aload_n rfl rfl ?_
  refine wp_iconst (v := 0) rfl rfl ?_
  refine q_puti rfl rfl (by first | rfl | assumption) (Or.inl rfl) rfl ?_
  refine wp_iload_n rfl rfl ?_
  refine cS1 rfl l_11_123 s_X11_isSlot m_X11_isSlot (c_X11_isSlot G _ _ _) rfl (Nat.le_of_ble_eq_true rfl) ?_
  refine wp_if_eq 11 rfl rfl (fun h5 => ?_) (fun h5 => ?_)
  · refine wp_iconst (v := 0) rfl rfl ?_
    exact wp_zret rfl rfl (by first | rfl | exact nb2 _ | assumption) (⟨by (try simp (disch := omega) only [uI_ne] at *); grind [b2], by (try simp (disch := omega) only [uI_ne] at *); grind [b2]⟩)
  · have hv := b2_ne.mp h5
    obtain ⟨s, hs, hvs, hcl⟩ := slot4 hv
    have hin : vp_in v 4 := by rw [hvs]; exact vp_in_nI hs (by omega)
    refine wp_aload_n rfl rfl ?_
    refine q_getr rfl rfl (by first | rfl | assumption) rfl rfl ?_
    refine wp_iload_n rfl rfl ?_
    refine q_iald rfl (by first | rfl | assumption) (by assumption) ?_
    refine wp_if_ge 13 rfl rfl (fun h10 => ?_) (fun h10 => ?_)
    · refine wp_aload_n rfl rfl ?_
      refine q_getr rfl rfl (by first | rfl | assumption) rfl rfl ?_
      refine wp_iload_n rfl rfl ?_
      refine wp_iconst (v := (-1)) rfl rfl ?_
      refine q_iast rfl (by first | rfl | assumption) (by assumption) ?_
      refine wp_iconst (v := 1) rfl rfl ?_
      exact wp_zret rfl rfl (by first | rfl | exact nb2 _ | assumption) (⟨by (try simp (disch := omega) only [uI_ne] at *); grind [b2], by (try simp (disch := omega) only [uI_ne] at *); grind [b2]⟩)
    · refine wp_iconst (v := 0) rfl rfl ?_
      exact wp_zret rfl rfl (by first | rfl | exact nb2 _ | assumption) (⟨by (try simp (disch := omega) only [uI_ne] at *); grind [b2], by (try simp (disch := omega) only [uI_ne] at *); grind [b2]⟩)
theorem s_tear {G : Gl} {d : Nat} {I : IF} {L : LF} {b : Bool} (v : Int32) (h : InvA I L) : StepA G (d + 2) Y_X10_tear Y_X11_tear [.int v] I L b := by
  obtain ⟨nm, na, nr, h⟩ := h
  have a11 := h.2.2.2.2.2.2.2.2.2.2
  by_cases hok : (0 ≤ v ∧ v ≤ 3) ∧ ¬ I (57 + 2 * v.toNatClampNeg) 2 = -1
  · have c1 := c_X10_tear G d v I L b
    rw [b2_t hok, if_pos hok] at c1
    obtain ⟨hv, hne⟩ := hok
    obtain ⟨s, hs, hvs, hcl⟩ := slot4 hv
    rw [hcl] at c1 hne
    have c2 := c_X11_tear G d v (uI I (57 + 2 * s) 2 (-1)) L b
    rw [hcl, uI_ne (show (73 : Nat) ≠ 57 + 2 * s by omega)] at c2
    have z := a11 s hs
    have hok2 : (0 ≤ v ∧ v ≤ 3) ∧ ¬ I 73 s < 0 := ⟨hv, by grind⟩
    rw [b2_t hok2, if_pos hok2] at c2
    have key := IV_rows (J := uI (uI (uI I (57 + 2 * s) 2 (-1)) 72 0 0) 73 s (-1)) (K := L) h (fun q h1 h2 h3 h4 => by rw [uI_fn h2, uI_fn h4, uI_fn (by omega)]) (fun k hk => by simp (disch := omega) only [uI_ne, uI_nk]) (fun t ht => by
      have z := a11 t ht
      refine ⟨z.1, ?_⟩
      by_cases e : t = s
      · subst e
        simp (disch := omega) only [uI_ne, uI_nk, uI_eq]
        exact Or.inl ⟨trivial, trivial⟩
      · simp (disch := omega) only [uI_ne, uI_nk, uI_eq]
        exact z.2)
    exact ⟨_, _, _, _, _, c1, c2, ⟨nm, na, nr, key.1⟩, key.2⟩
  · have c1 := c_X10_tear G d v I L b
    rw [b2_f hok, if_neg hok] at c1
    have c2 := c_X11_tear G d v I L b
    have hok2 : ¬ ((0 ≤ v ∧ v ≤ 3) ∧ ¬ I 73 v.toNatClampNeg < 0) := by
      intro ⟨hv, h0⟩
      obtain ⟨s, hs, hvs, hcl⟩ := slot4 hv
      rw [hcl] at h0 hok
      have z := a11 s hs
      grind
    rw [b2_f hok2, if_neg hok2] at c2
    exact StepA.query h c1 c2
theorem c_X11_cut (G : Gl) (d : Nat) (x : Int32) (v : Int64) (w : mW) : MD G d Y_X11_cut [.int x, .long v] w (some (.long (cutW x v))) w := by
  refine MT.intro m_X11_cut rfl (Nat.le_of_ble_eq_true rfl) ?_
  show WQ G d Y_X11_cut _ 0 [(0, .int x), (1, .long v)] [] w
  refine wp_iload_n rfl rfl ?_
  refine wp_if_ne 7 rfl rfl (fun h1 => ?_) (fun h1 => ?_)
  · refine wp_iload_n rfl rfl ?_
    refine wp_iconst (v := 1) rfl rfl ?_
    refine wp_icmp_ne 15 rfl rfl (fun h9 => ?_) (fun h9 => ?_)
    · refine wp_iload_n rfl rfl ?_
      refine wp_iconst (v := 2) rfl rfl ?_
      refine wp_icmp_ne 22 rfl rfl (fun h17 => ?_) (fun h17 => ?_)
      · refine wp_lload_n rfl rfl ?_
        exact wp_lret rfl rfl (⟨by simp_all [cutW], rfl⟩)
      · refine wp_lload_n rfl rfl ?_
        refine wp_l2i rfl ?_
        refine wp_i2l rfl ?_
        refine wp_goto 23 rfl rfl ?_
        exact wp_lret rfl rfl (⟨by simp_all [cutW], rfl⟩)
    · refine wp_lload_n rfl rfl ?_
      refine wp_l2i rfl ?_
      refine wp_i2s rfl ?_
      refine wp_i2l rfl ?_
      refine wp_goto 23 rfl rfl ?_
      exact wp_lret rfl rfl (⟨by simp_all [cutW], rfl⟩)
  · refine wp_lload_n rfl rfl ?_
    refine wp_l2i rfl ?_
    refine wp_i2b rfl ?_
    refine wp_i2l rfl ?_
    refine wp_goto 23 rfl rfl ?_
    exact wp_lret rfl rfl (⟨by simp_all [cutW], rfl⟩)
theorem c_X10_write_ok (G : Gl) (d : Nat) {s j : Nat} (v : Int64) (I : IF) (L : LF) (b : Bool) (hs : s < 4) (hj : j < 60) (hne : ¬ I (57 + 2 * s) 2 = -1) (hi : nI j ≤ I (57 + 2 * s) 2 - 1) : MD G (d + 2) Y_X10_write [.ref 0, .int (nI s), .int (nI j), .long v] (I, L, RR b) (some (.int 0)) (I, uL L (58 + 2 * s) j (cutW (I (57 + 2 * s) 1) v), RR b) := by
  have ha := sh_row s hs
  have hs0 : (0 : Int32) ≤ nI s ∧ nI s ≤ 3 := ⟨nI_pos' (by omega), nI_le (b := 3) (by omega) (by omega)⟩
  have hj0 : (0 : Int32) ≤ nI j := nI_pos' (by omega)
  have hcl : (nI j).toNatClampNeg = j := nI_clamp (by omega)
  refine MT.intro m_X10_write rfl (Nat.le_of_ble_eq_true rfl) ?_
  show WQ G (d + 2) Y_X10_write _ 0 [(0, .ref 0), (1, .int (nI s)), (2, .int (nI j)), (3, .long v)] [] (I, L, RR b)
  refine wp_iload_n rfl rfl ?_
  refine cS1 rfl l_10_149 s_X10_isSlot m_X10_isSlot (c_X10_isSlot G _ _ _) rfl (Nat.le_of_ble_eq_true rfl) ?_
  refine wp_if_ne 5 rfl rfl (fun h2 => ?_) (fun h2 => ?_)
  · refine wp_aload_n rfl rfl ?_
    refine q_getr rfl rfl (by first | rfl | assumption) rfl rfl ?_
    refine wp_iload_n rfl rfl ?_
    refine q_rowo rfl rfl hs ?_
    refine wp_astore (lv' := [(5, _), (0, _), (1, _), (2, _), (3, _)]) rfl (by decide) rfl ?_
    refine wp_aload rfl rfl ?_
    refine cV1 rfl l_10_152 i_X6_isEmpty m_X6_isEmpty (by first | rfl | assumption) (by decide) (c_X6_isEmpty G _ _ _ _ _ ha) rfl (Nat.le_of_ble_eq_true rfl) ?_
    refine wp_if_eq 15 rfl rfl (fun h12 => ?_) (fun h12 => ?_)
    · refine wp_iload_n rfl rfl ?_
      refine wp_iconst (v := 0) rfl rfl ?_
      refine wp_aload rfl rfl ?_
      refine q_geti rfl rfl (by first | rfl | assumption) rfl ?_
      refine wp_iconst (v := 1) rfl rfl ?_
      refine wp_isub rfl ?_
      refine cS1 rfl l_10_77 s_X10_isWithin m_X10_isWithin (c_X10_isWithin G _ _ _ _ _) rfl (Nat.le_of_ble_eq_true rfl) ?_
      refine wp_if_ne 25 rfl rfl (fun h22 => ?_) (fun h22 => ?_)
      · refine wp_aload rfl rfl ?_
        refine q_getr rfl rfl (by first | rfl | assumption) rfl (rr_row s hs b) ?_
        refine wp_iload_n rfl rfl ?_
        refine wp_aload rfl rfl ?_
        refine wp_lload_n rfl rfl ?_
        refine cV1 rfl l_10_269 i_X6_cut m_X6_cut (by first | rfl | assumption) (by decide) (c_X6_cut G _ _ _ _ _ _ ha) rfl (Nat.le_of_ble_eq_true rfl) ?_
        refine q_last rfl (sh_rowA s hs) (vp_in_nI hj (by omega)) ?_
        refine wp_iconst (v := 0) rfl rfl ?_
        exact wp_iret rfl rfl (⟨rfl, by rw [hcl]⟩)
      · refine wp_loc (lv' := [(0, _), (1, _), (2, _), (3, _), (5, _)]) [1, 2, 3, 4, 0] rfl ?_
        exfalso; grind [b2]
    · refine wp_loc (lv' := [(0, _), (1, _), (2, _), (3, _), (5, _)]) [1, 2, 3, 4, 0] rfl ?_
      exfalso; grind [b2]
  · exfalso; grind [b2]
theorem c_X10_write_no (G : Gl) (d : Nat) (v x : Int32) (u : Int64) (I : IF) (L : LF) (b : Bool) (hno : ¬ ((0 ≤ v ∧ v ≤ 3) ∧ ¬ I (57 + 2 * v.toNatClampNeg) 2 = -1 ∧ 0 ≤ x ∧ x ≤ I (57 + 2 * v.toNatClampNeg) 2 - 1)) : MD G (d + 2) Y_X10_write [.ref 0, .int v, .int x, .long u] (I, L, RR b) (some (.int (if 0 ≤ v ∧ v ≤ 3 then (if I (57 + 2 * v.toNatClampNeg) 2 = -1 then -5 else -6) else -2))) (I, L, RR b) := by
  refine MT.intro m_X10_write rfl (Nat.le_of_ble_eq_true rfl) ?_
  show WQ G (d + 2) Y_X10_write _ 0 [(0, .ref 0), (1, .int v), (2, .int x), (3, .long u)] [] (I, L, RR b)
  refine wp_iload_n rfl rfl ?_
  refine cS1 rfl l_10_149 s_X10_isSlot m_X10_isSlot (c_X10_isSlot G _ _ _) rfl (Nat.le_of_ble_eq_true rfl) ?_
  refine wp_if_ne 5 rfl rfl (fun h2 => ?_) (fun h2 => ?_)
  · have hv := b2_ne.mp h2
    obtain ⟨s, hs, hvs, hcl⟩ := slot4 hv
    have ha := sh_row s hs
    refine wp_aload_n rfl rfl ?_
    refine q_getr rfl rfl (by first | rfl | assumption) rfl rfl ?_
    refine wp_iload_n rfl rfl ?_
    refine q_rowo rfl hvs hs ?_
    refine wp_astore (lv' := [(5, _), (0, _), (1, _), (2, _), (3, _)]) rfl (by decide) rfl ?_
    refine wp_aload rfl rfl ?_
    refine cV1 rfl l_10_152 i_X6_isEmpty m_X6_isEmpty (by first | rfl | assumption) (by decide) (c_X6_isEmpty G _ _ _ _ _ ha) rfl (Nat.le_of_ble_eq_true rfl) ?_
    refine wp_if_eq 15 rfl rfl (fun h12 => ?_) (fun h12 => ?_)
    · refine wp_iload_n rfl rfl ?_
      refine wp_iconst (v := 0) rfl rfl ?_
      refine wp_aload rfl rfl ?_
      refine q_geti rfl rfl (by first | rfl | assumption) rfl ?_
      refine wp_iconst (v := 1) rfl rfl ?_
      refine wp_isub rfl ?_
      refine cS1 rfl l_10_77 s_X10_isWithin m_X10_isWithin (c_X10_isWithin G _ _ _ _ _) rfl (Nat.le_of_ble_eq_true rfl) ?_
      refine wp_if_ne 25 rfl rfl (fun h22 => ?_) (fun h22 => ?_)
      · refine wp_loc (lv' := [(0, _), (1, _), (2, _), (3, _), (5, _)]) [1, 2, 3, 4, 0] rfl ?_
        exfalso; grind [b2]
      · refine wp_bipush (v := (-6)) rfl rfl ?_
        exact wp_iret rfl rfl (⟨by grind [b2], rfl⟩)
    · refine wp_bipush (v := (-5)) rfl rfl ?_
      exact wp_iret rfl rfl (⟨by grind [b2], rfl⟩)
  · refine wp_bipush (v := (-2)) rfl rfl ?_
    exact wp_iret rfl rfl (⟨by grind [b2], rfl⟩)
theorem c_X11_write_ok (G : Gl) (d : Nat) {s j : Nat} (v : Int64) (I : IF) (L : LF) (b : Bool) (hs : s < 4) (hj : j < 60) (hne : ¬ I 73 s < 0) (hi : nI j ≤ I 74 s - 1) : MD G (d + 2) Y_X11_write [.ref 72, .int (nI s), .int (nI j), .long v] (I, L, RR b) (some (.int 0)) (uI I 72 0 0, uL L 75 (60 * s + j) (cutW (I 73 s) v), RR b) := by
  have hs0 : (0 : Int32) ≤ nI s ∧ nI s ≤ 3 := ⟨nI_pos' (by omega), nI_le (b := 3) (by omega) (by omega)⟩
  have hj0 : (0 : Int32) ≤ nI j := nI_pos' (by omega)
  have hin : vp_in (nI s) 4 := vp_in_nI hs (by omega)
  have hcl : (nI s).toNatClampNeg = s := nI_clamp (by omega)
  have h60 := ix60 hs hj
  have e1 : uI I 72 0 0 73 s = I 73 s := uI_ne (by decide)
  have e2 : uI I 72 0 0 74 s = I 74 s := uI_ne (by decide)
  refine MT.intro m_X11_write rfl (Nat.le_of_ble_eq_true rfl) ?_
  show WQ G (d + 2) Y_X11_write _ 0 [(0, .ref 72), (1, .int (nI s)), (2, .int (nI j)), (3, .long v)] [] (I, L, RR b)
  refine wp_aload_n rfl rfl ?_
  refine wp_iconst (v := 0) rfl rfl ?_
  refine q_puti rfl rfl (by first | rfl | assumption) (Or.inl rfl) rfl ?_
  refine wp_iload_n rfl rfl ?_
  refine cS1 rfl l_11_123 s_X11_isSlot m_X11_isSlot (c_X11_isSlot G _ _ _) rfl (Nat.le_of_ble_eq_true rfl) ?_
  refine wp_if_ne 8 rfl rfl (fun h5 => ?_) (fun h5 => ?_)
  · refine wp_aload_n rfl rfl ?_
    refine q_getr rfl rfl (by first | rfl | assumption) rfl rfl ?_
    refine wp_iload_n rfl rfl ?_
    refine q_iald rfl (by first | rfl | assumption) (by assumption) ?_
    refine wp_if_ge 15 rfl rfl (fun h12 => ?_) (fun h12 => ?_)
    · refine wp_iload_n rfl rfl ?_
      refine wp_i2l rfl ?_
      refine wp_lconst (v := 0) rfl rfl ?_
      refine wp_aload_n rfl rfl ?_
      refine q_getr rfl rfl (by first | rfl | assumption) rfl rfl ?_
      refine wp_iload_n rfl rfl ?_
      refine q_iald rfl (by first | rfl | assumption) (by assumption) ?_
      refine wp_iconst (v := 1) rfl rfl ?_
      refine wp_isub rfl ?_
      refine wp_i2l rfl ?_
      refine cS1 rfl l_11_119 s_X11_in m_X11_in (c_inI G _ _ 0 (uI I 72 0 0 74 (nI s).toNatClampNeg - 1) rfl rfl _) rfl (Nat.le_of_ble_eq_true rfl) ?_
      refine wp_if_ne 29 rfl rfl (fun h26 => ?_) (fun h26 => ?_)
      · refine wp_aload_n rfl rfl ?_
        refine q_getr rfl rfl (by first | rfl | assumption) rfl rfl ?_
        refine wp_bipush (v := 60) rfl rfl ?_
        refine wp_iload_n rfl rfl ?_
        refine wp_imul rfl ?_
        refine wp_iload_n rfl rfl ?_
        refine wp_iadd rfl ?_
        refine wp_aload_n rfl rfl ?_
        refine q_getr rfl rfl (by first | rfl | assumption) rfl rfl ?_
        refine wp_iload_n rfl rfl ?_
        refine q_iald rfl (by first | rfl | assumption) (by assumption) ?_
        refine wp_lload_n rfl rfl ?_
        refine cS1 rfl l_11_127 s_X11_cut m_X11_cut (c_X11_cut G _ _ _ _) rfl (Nat.le_of_ble_eq_true rfl) ?_
        refine q_last rfl (by first | rfl | assumption) h60.2.1 ?_
        refine wp_iconst (v := 0) rfl rfl ?_
        exact wp_iret rfl rfl (⟨rfl, by rw [h60.2.2, hcl, e1]⟩)
      · exfalso; rw [hcl, e2] at h26; grind [b2]
    · exfalso; rw [hcl, e1] at h12; grind [b2]
  · exfalso; grind [b2]
theorem c_X11_write_no (G : Gl) (d : Nat) (v x : Int32) (u : Int64) (I : IF) (L : LF) (b : Bool) (hno : ¬ ((0 ≤ v ∧ v ≤ 3) ∧ ¬ I 73 v.toNatClampNeg < 0 ∧ 0 ≤ x ∧ x ≤ I 74 v.toNatClampNeg - 1)) : MD G (d + 2) Y_X11_write [.ref 72, .int v, .int x, .long u] (I, L, RR b) (some (.int (if 0 ≤ v ∧ v ≤ 3 then (if I 73 v.toNatClampNeg < 0 then -5 else -6) else -2))) (uI I 72 0 0, L, RR b) := by
  refine MT.intro m_X11_write rfl (Nat.le_of_ble_eq_true rfl) ?_
  show WQ G (d + 2) Y_X11_write _ 0 [(0, .ref 72), (1, .int v), (2, .int x), (3, .long u)] [] (I, L, RR b)
  refine wp_aload_n rfl rfl ?_
  refine wp_iconst (v := 0) rfl rfl ?_
  refine q_puti rfl rfl (by first | rfl | assumption) (Or.inl rfl) rfl ?_
  refine wp_iload_n rfl rfl ?_
  refine cS1 rfl l_11_123 s_X11_isSlot m_X11_isSlot (c_X11_isSlot G _ _ _) rfl (Nat.le_of_ble_eq_true rfl) ?_
  refine wp_if_ne 8 rfl rfl (fun h5 => ?_) (fun h5 => ?_)
  · have hv := b2_ne.mp h5
    obtain ⟨s, hs, hvs, hcl⟩ := slot4 hv
    have hin : vp_in v 4 := by rw [hvs]; exact vp_in_nI hs (by omega)
    refine wp_aload_n rfl rfl ?_
    refine q_getr rfl rfl (by first | rfl | assumption) rfl rfl ?_
    refine wp_iload_n rfl rfl ?_
    refine q_iald rfl (by first | rfl | assumption) (by assumption) ?_
    refine wp_if_ge 15 rfl rfl (fun h12 => ?_) (fun h12 => ?_)
    · refine wp_iload_n rfl rfl ?_
      refine wp_i2l rfl ?_
      refine wp_lconst (v := 0) rfl rfl ?_
      refine wp_aload_n rfl rfl ?_
      refine q_getr rfl rfl (by first | rfl | assumption) rfl rfl ?_
      refine wp_iload_n rfl rfl ?_
      refine q_iald rfl (by first | rfl | assumption) (by assumption) ?_
      refine wp_iconst (v := 1) rfl rfl ?_
      refine wp_isub rfl ?_
      refine wp_i2l rfl ?_
      refine cS1 rfl l_11_119 s_X11_in m_X11_in (c_inI G _ _ 0 (uI I 72 0 0 74 v.toNatClampNeg - 1) rfl rfl _) rfl (Nat.le_of_ble_eq_true rfl) ?_
      refine wp_if_ne 29 rfl rfl (fun h26 => ?_) (fun h26 => ?_)
      · exfalso; simp (disch := omega) only [uI_ne] at *; grind [b2]
      · refine wp_bipush (v := (-6)) rfl rfl ?_
        exact wp_iret rfl rfl (⟨by (try simp (disch := omega) only [uI_ne] at *); grind [b2], rfl⟩)
    · refine wp_bipush (v := (-5)) rfl rfl ?_
      exact wp_iret rfl rfl (⟨by (try simp (disch := omega) only [uI_ne] at *); grind [b2], rfl⟩)
  · refine wp_bipush (v := (-2)) rfl rfl ?_
    exact wp_iret rfl rfl (⟨by (try simp (disch := omega) only [uI_ne] at *); grind [b2], rfl⟩)
theorem s_write {G : Gl} {d : Nat} {I : IF} {L : LF} {b : Bool} (v x : Int32) (u : Int64) (h : InvA I L) : StepA G (d + 2) Y_X10_write Y_X11_write [.int v, .int x, .long u] I L b := by
  obtain ⟨nm, na, nr, h⟩ := h
  have a11 := h.2.2.2.2.2.2.2.2.2.2
  by_cases hok : (0 ≤ v ∧ v ≤ 3) ∧ ¬ I (57 + 2 * v.toNatClampNeg) 2 = -1 ∧ 0 ≤ x ∧ x ≤ I (57 + 2 * v.toNatClampNeg) 2 - 1
  · obtain ⟨hv, hne, hx0, hx1⟩ := hok
    obtain ⟨s, hs, hvs, hcl⟩ := slot4 hv
    rw [hcl] at hne hx1
    subst hvs
    have z := a11 s hs
    have z2 := z.2.resolve_left (fun q => hne q.1)
    obtain ⟨j, hj, rfl⟩ := nI_get (x := x) (n := 60) hx0 (by show x < 60; grind) (by omega)
    have c1 := c_X10_write_ok G d u I L b hs hj hne hx1
    have c2 := c_X11_write_ok G d u I (uL L (58 + 2 * s) j (cutW (I (57 + 2 * s) 1) u)) b hs hj (by grind) (by rw [z2.2.1]; exact hx1)
    have key := IV_rows (J := uI I 72 0 0) (K := uL (uL L (58 + 2 * s) j (cutW (I (57 + 2 * s) 1) u)) 75 (60 * s + j) (cutW (I 73 s) u)) h (fun q h1 h2 h3 h4 => uI_fn h4) (fun k hk => uI_nk hk) (fun t ht => by
      have z := a11 t ht
      refine ⟨fun q hq => ?_, ?_⟩
      · by_cases e : t = s
        · subst e
          by_cases e2 : q = j
          · subst e2
            rw [uL_eq, uL_ne (by omega), uL_eq, z2.2.2.2]
          · rw [uL_nk (by omega), uL_ne (by omega), uL_ne (by omega), uL_nk e2]
            exact z.1 q hq
        · rw [uL_nk (by omega), uL_ne (by omega), uL_ne (by omega), uL_ne (by omega)]
          exact z.1 q hq
      · simp (disch := omega) only [uI_ne]
        exact z.2)
    exact ⟨_, _, _, _, _, c1, c2, ⟨nm, na, nr, key.1⟩, key.2⟩
  · refine StepA.query h (c_X10_write_no G d v x u I L b hok) ?_
    have hok2 : ¬ ((0 ≤ v ∧ v ≤ 3) ∧ ¬ I 73 v.toNatClampNeg < 0 ∧ 0 ≤ x ∧ x ≤ I 74 v.toNatClampNeg - 1) := by
      intro ⟨hv, h0, h1, h2⟩
      obtain ⟨s, hs, hvs, hcl⟩ := slot4 hv
      rw [hcl] at h0 h2 hok
      have z := a11 s hs
      grind
    have c2 := c_X11_write_no G d v x u I L b hok2
    have e : (if 0 ≤ v ∧ v ≤ 3 then (if I 73 v.toNatClampNeg < 0 then -5 else -6) else (-2 : Int32)) = (if 0 ≤ v ∧ v ≤ 3 then (if I (57 + 2 * v.toNatClampNeg) 2 = -1 then -5 else -6) else -2) := by
      by_cases hv : 0 ≤ v ∧ v ≤ 3
      · obtain ⟨s, hs, hvs, hcl⟩ := slot4 hv
        rw [if_pos hv, if_pos hv, hcl]
        have z := a11 s hs
        grind
      · rw [if_neg hv, if_neg hv]
    rw [e] at c2
    exact c2
end
section
/-! paste -/
theorem sy_i : Cond.initialized "java/lang/System" ∈ goodL := mem_at 73 (by decide +kernel) rfl
theorem sy_l : Cond.methodLink (RN 10) 279 arraycopyName ∈ goodL := mem_at 981 (by decide +kernel) rfl
theorem sy_s : Cond.static arraycopyName ∈ goodL := mem_at 982 (by decide +kernel) rfl
theorem sy_n : Cond.native arraycopyName ∈ goodL := mem_at 983 (by decide +kernel) rfl
theorem W.sz {p : Program} {l : Launch} {e : Env} {R : Room} {s : State} {m : MethodId} {args : Array Value} {below : List Frame} {meth : Method} {c : Code} {H : Heap} {locs : List Loc} {cells slots M : Nat} {Q : State → Prop} {g : JFrame} (hs : s.heap.size + cells ≤ M) (kk : H.size ≤ M → W p l e R s m args below meth c H locs cells slots Q g) : W p l e R s m args below meth c H locs cells slots Q g :=
  fun T hT X => kk (by rw [← hT]; exact Nat.le_trans X.heapSize hs) T hT X
def cpL (L : LF) (a0 a sp dp n : Nat) : LF := fun a' k' => if a' = a then va_cpy (L a0) (L a) sp dp n k' else L a' k'
theorem q_copy {G : Gl} {Q : Option Value → mW → Prop} {k d a0 a n0 n1 : Nat} {lv : List (Nat × Value)} {pc : Nat} {I : IF} {L : LF} {R : RF} {sp dp n : Int32} (hd : nx Y_X10_paste k = some (pc, .invokestatic 279, 3)) (hs0 : shp NN a0 = some (.inl (3, n0))) (hs1 : shp NN a = some (.inl (3, n1))) (h1 : ¬ sp < 0) (h2 : ¬ dp < 0) (h3 : ¬ n < 0) (h4 : sp.toNatClampNeg + n.toNatClampNeg ≤ n0) (h5 : dp.toNatClampNeg + n.toNatClampNeg ≤ n1)
    (kk : WQ G d Y_X10_paste Q (k + 1) lv [] (I, cpL L a0 a sp.toNatClampNeg dp.toNatClampNeg n.toNatClampNeg, R)) : WQ G d Y_X10_paste Q k lv [.int n, .int dp, .ref a, .int sp, .ref a0] (I, L, R) := by
  intro p e s m args below meth c C H locs ls hr hS hh
  obtain ⟨hx, hb, hrt, hml, hown, hts, hlk, hnm, hK, hO, hc⟩ := id C
  obtain ⟨d1, d2⟩ := nx_dec hc hd
  obtain ⟨b1, b2⟩ := arr_at (G := G) (w := (I, L, R)) hs0
  obtain ⟨a1, a2⟩ := arr_at (G := G) (w := (I, L, R)) hs1
  obtain ⟨s1, s2, s3⟩ := shp_spec hs1
  show W _ _ _ _ _ _ _ _ _ _ _ _ _ _ _ (F0 m (pcO Y_X10_paste k) ls [.int n, .int dp, .ref (ra G a), .int sp, .ref (ra G a0)])
  rw [a2, b2]
  refine va_copyl (f := L a0) (g := L a) (ty := .long) (rest := []) hx hb (hml.trans hh.1.symm) hown (hts _ sy_l) (hts _ sy_n) (hts _ sy_s) (hts _ sy_i) hK hr.2 cells_D hS a0 a 3 3 b1 a1 rfl rfl rfl h1 h2 h3 h4 h5 (fun _ _ => rfl) (by show 1 ≤ d + 1; omega) (by show 0 + _ ≤ 60 * d + 60; rw [show nativeFrameWords "java/lang/System" "arraycopy" 5 = 7 from rfl]; omega) d1 (fun H1 locs1 hP1 hD1 hS1 => ?_)
  refine W.sz (M := gb G + NN) (by have := hS.1; rw [hr.1] at this; exact this) (fun hle => ?_)
  have hcell : cellE G (I, cpL L a0 a sp.toNatClampNeg dp.toNatClampNeg n.toNatClampNeg, R) a = .inl (gA G 3, n1, .inr (.inl (va_cpy (L a0) (L a) sp.toNatClampNeg dp.toNatClampNeg n.toNatClampNeg))) := by
    rw [cell_arr s2]
    show Sum.inl (gA G 3, n1, Sum.inr (Sum.inl (cpL L a0 a sp.toNatClampNeg dp.toNatClampNeg n.toNatClampNeg a))) = _
    rw [show cpL L a0 a sp.toNatClampNeg dp.toNatClampNeg n.toNatClampNeg a = va_cpy (L a0) (L a) sp.toNatClampNeg dp.toNatClampNeg n.toNatClampNeg by funext q; simp [cpL]]
  rw [cells_set (w := (I, L, R)) (w' := (I, cpL L a0 a sp.toNatClampNeg dp.toNatClampNeg n.toNatClampNeg, R)) hcell (fun j hj => cell_other rfl (by funext q; simp [cpL, hj]) rfl)] at hP1
  have hlast := (hP1 (NN - 1) _ (cells_at (by decide))).lt
  have hsz : H1.size = gb G + NN := by
    have h9 : gb G + (NN - 1) < H1.size := hlast
    omega
  have K := kk p e s m args below meth c C H1 locs1 ls ⟨hsz, hP1⟩ hS1 hh
  rw [d2] at K
  exact K
theorem c_X10_paste_ok (G : Gl) (d : Nat) {s t i k n : Nat} (I : IF) (L : LF) (b : Bool) (hs : s < 4) (ht : t < 4) (hi : i + n ≤ 60) (hk : k + n ≤ 60) (hes : ¬ I (57 + 2 * s) 2 = -1) (het : ¬ I (57 + 2 * t) 2 = -1) (hw : I (57 + 2 * s) 1 = I (57 + 2 * t) 1) (hrs : nI i ≤ I (57 + 2 * s) 2 ∧ nI n ≤ I (57 + 2 * s) 2 - nI i) (hrt : nI k ≤ I (57 + 2 * t) 2 ∧ nI n ≤ I (57 + 2 * t) 2 - nI k) : MD G (d + 2) Y_X10_paste [.ref 0, .int (nI s), .int (nI i), .int (nI t), .int (nI k), .int (nI n)] (I, L, RR b) (some (.int 0)) (I, cpL L (58 + 2 * s) (58 + 2 * t) i k n, RR b) := by
  have ha := sh_row s hs
  have hb := sh_row t ht
  have hs0 : (0 : Int32) ≤ nI s ∧ nI s ≤ 3 := ⟨nI_pos' (by omega), nI_le (b := 3) (by omega) (by omega)⟩
  have ht0 : (0 : Int32) ≤ nI t ∧ nI t ≤ 3 := ⟨nI_pos' (by omega), nI_le (b := 3) (by omega) (by omega)⟩
  have hi0 : (0 : Int32) ≤ nI i := nI_pos' (by omega)
  have hk0 : (0 : Int32) ≤ nI k := nI_pos' (by omega)
  have hn0 : (0 : Int32) ≤ nI n := nI_pos' (by omega)
  have c1 : (nI i).toNatClampNeg = i := nI_clamp (by omega)
  have c2 : (nI k).toNatClampNeg = k := nI_clamp (by omega)
  have c3 : (nI n).toNatClampNeg = n := nI_clamp (by omega)
  refine MT.intro m_X10_paste rfl (Nat.le_of_ble_eq_true rfl) ?_
  show WQ G (d + 2) Y_X10_paste _ 0 [(0, .ref 0), (1, .int (nI s)), (2, .int (nI i)), (3, .int (nI t)), (4, .int (nI k)), (5, .int (nI n))] [] (I, L, RR b)
  refine wp_iload_n rfl rfl ?_
  refine cS1 rfl l_10_149 s_X10_isSlot m_X10_isSlot (c_X10_isSlot G _ _ _) rfl (Nat.le_of_ble_eq_true rfl) ?_
  refine wp_if_eq 6 rfl rfl (fun h2 => ?_) (fun h2 => ?_)
  · exfalso; grind [b2]
  · refine wp_iload_n rfl rfl ?_
    refine cS1 rfl l_10_149 s_X10_isSlot m_X10_isSlot (c_X10_isSlot G _ _ _) rfl (Nat.le_of_ble_eq_true rfl) ?_
    refine wp_if_ne 8 rfl rfl (fun h5 => ?_) (fun h5 => ?_)
    · refine wp_aload_n rfl rfl ?_
      refine q_getr rfl rfl (by first | rfl | assumption) rfl rfl ?_
      refine wp_iload_n rfl rfl ?_
      refine q_rowo rfl rfl hs ?_
      refine wp_astore (lv' := [(6, _), (0, _), (1, _), (2, _), (3, _), (4, _), (5, _)]) rfl (by decide) rfl ?_
      refine wp_aload_n rfl rfl ?_
      refine q_getr rfl rfl (by first | rfl | assumption) rfl rfl ?_
      refine wp_iload_n rfl rfl ?_
      refine q_rowo rfl rfl ht ?_
      refine wp_astore (lv' := [(7, _), (6, _), (0, _), (1, _), (2, _), (3, _), (4, _), (5, _)]) rfl (by decide) rfl ?_
      refine wp_aload rfl rfl ?_
      refine cV1 rfl l_10_152 i_X6_isEmpty m_X6_isEmpty (by first | rfl | assumption) (by decide) (c_X6_isEmpty G _ _ _ _ _ ha) rfl (Nat.le_of_ble_eq_true rfl) ?_
      refine wp_if_ne 24 rfl rfl (fun h20 => ?_) (fun h20 => ?_)
      · refine wp_loc (lv' := [(0, _), (1, _), (2, _), (3, _), (4, _), (5, _), (6, _), (7, _)]) [2, 3, 4, 5, 6, 7, 1, 0] rfl ?_
        exfalso; grind [b2]
      · refine wp_aload rfl rfl ?_
        refine cV1 rfl l_10_152 i_X6_isEmpty m_X6_isEmpty (by first | rfl | assumption) (by decide) (c_X6_isEmpty G _ _ _ _ _ hb) rfl (Nat.le_of_ble_eq_true rfl) ?_
        refine wp_if_eq 26 rfl rfl (fun h23 => ?_) (fun h23 => ?_)
        · refine wp_aload rfl rfl ?_
          refine q_geti rfl rfl (by first | rfl | assumption) rfl ?_
          refine wp_aload rfl rfl ?_
          refine q_geti rfl rfl (by first | rfl | assumption) rfl ?_
          refine wp_icmp_eq 33 rfl rfl (fun h30 => ?_) (fun h30 => ?_)
          · refine wp_aload rfl rfl ?_
            refine wp_iload_n rfl rfl ?_
            refine wp_iload rfl rfl ?_
            refine cV1 rfl l_10_276 i_X6_reaches m_X6_reaches (by first | rfl | assumption) (by decide) (c_X6_reaches G _ _ _ _ _ _ _ ha) rfl (Nat.le_of_ble_eq_true rfl) ?_
            refine wp_if_eq 43 rfl rfl (fun h37 => ?_) (fun h37 => ?_)
            · refine wp_loc (lv' := [(0, _), (1, _), (2, _), (3, _), (4, _), (5, _), (6, _), (7, _)]) [2, 3, 4, 5, 6, 7, 1, 0] rfl ?_
              exfalso; grind [b2]
            · refine wp_aload rfl rfl ?_
              refine wp_iload rfl rfl ?_
              refine wp_iload rfl rfl ?_
              refine cV1 rfl l_10_276 i_X6_reaches m_X6_reaches (by first | rfl | assumption) (by decide) (c_X6_reaches G _ _ _ _ _ _ _ hb) rfl (Nat.le_of_ble_eq_true rfl) ?_
              refine wp_if_ne 45 rfl rfl (fun h42 => ?_) (fun h42 => ?_)
              · refine wp_aload rfl rfl ?_
                refine q_getr rfl rfl (by first | rfl | assumption) rfl (rr_row s hs b) ?_
                refine wp_iload_n rfl rfl ?_
                refine wp_aload rfl rfl ?_
                refine q_getr rfl rfl (by first | rfl | assumption) rfl (rr_row t ht b) ?_
                refine wp_iload rfl rfl ?_
                refine wp_iload rfl rfl ?_
                refine q_copy rfl (sh_rowA s hs) (sh_rowA t ht) (nI_pos (by omega)) (nI_pos (by omega)) (nI_pos (by omega)) (by rw [c1, c3]; exact hi) (by rw [c2, c3]; exact hk) ?_
                refine wp_iconst (v := 0) rfl rfl ?_
                exact wp_iret rfl rfl (⟨rfl, by rw [c1, c2, c3]⟩)
              · refine wp_loc (lv' := [(0, _), (1, _), (2, _), (3, _), (4, _), (5, _), (6, _), (7, _)]) [2, 3, 4, 5, 6, 7, 1, 0] rfl ?_
                exfalso; grind [b2]
          · refine wp_loc (lv' := [(0, _), (1, _), (2, _), (3, _), (4, _), (5, _), (6, _), (7, _)]) [2, 3, 4, 5, 6, 7, 1, 0] rfl ?_
            exfalso; grind [b2]
        · refine wp_loc (lv' := [(0, _), (1, _), (2, _), (3, _), (4, _), (5, _), (6, _), (7, _)]) [2, 3, 4, 5, 6, 7, 1, 0] rfl ?_
          exfalso; grind [b2]
    · exfalso; grind [b2]
theorem c_X10_paste_no (G : Gl) (d : Nat) (v i t k n : Int32) (I : IF) (L : LF) (b : Bool) (hno : ¬ ((0 ≤ v ∧ v ≤ 3) ∧ (0 ≤ t ∧ t ≤ 3) ∧ ¬ I (57 + 2 * v.toNatClampNeg) 2 = -1 ∧ ¬ I (57 + 2 * t.toNatClampNeg) 2 = -1 ∧ I (57 + 2 * v.toNatClampNeg) 1 = I (57 + 2 * t.toNatClampNeg) 1 ∧ (0 ≤ i ∧ 0 ≤ n ∧ i ≤ I (57 + 2 * v.toNatClampNeg) 2 ∧ n ≤ I (57 + 2 * v.toNatClampNeg) 2 - i) ∧ (0 ≤ k ∧ 0 ≤ n ∧ k ≤ I (57 + 2 * t.toNatClampNeg) 2 ∧ n ≤ I (57 + 2 * t.toNatClampNeg) 2 - k))) : MD G (d + 2) Y_X10_paste [.ref 0, .int v, .int i, .int t, .int k, .int n] (I, L, RR b) (some (.int (if (0 ≤ v ∧ v ≤ 3) ∧ (0 ≤ t ∧ t ≤ 3) then (if I (57 + 2 * v.toNatClampNeg) 2 = -1 ∨ I (57 + 2 * t.toNatClampNeg) 2 = -1 then -5 else if I (57 + 2 * v.toNatClampNeg) 1 = I (57 + 2 * t.toNatClampNeg) 1 then -6 else -7) else -2))) (I, L, RR b) := by
  refine MT.intro m_X10_paste rfl (Nat.le_of_ble_eq_true rfl) ?_
  show WQ G (d + 2) Y_X10_paste _ 0 [(0, .ref 0), (1, .int v), (2, .int i), (3, .int t), (4, .int k), (5, .int n)] [] (I, L, RR b)
  refine wp_iload_n rfl rfl ?_
  refine cS1 rfl l_10_149 s_X10_isSlot m_X10_isSlot (c_X10_isSlot G _ _ _) rfl (Nat.le_of_ble_eq_true rfl) ?_
  refine wp_if_eq 6 rfl rfl (fun h2 => ?_) (fun h2 => ?_)
  · refine wp_bipush (v := (-2)) rfl rfl ?_
    exact wp_iret rfl rfl (⟨by simp only [b2_eq, b2_ne] at *; grind (splits := 30), rfl⟩)
  · refine wp_iload_n rfl rfl ?_
    refine cS1 rfl l_10_149 s_X10_isSlot m_X10_isSlot (c_X10_isSlot G _ _ _) rfl (Nat.le_of_ble_eq_true rfl) ?_
    refine wp_if_ne 8 rfl rfl (fun h5 => ?_) (fun h5 => ?_)
    · have hv := b2_ne.mp h2
      have hu := b2_ne.mp h5
      obtain ⟨s1, hs1, hvs, hcl⟩ := slot4 hv
      obtain ⟨s2, hs2, hts, hcl2⟩ := slot4 hu
      have ha := sh_row s1 hs1
      have hb := sh_row s2 hs2
      rw [hcl, hcl2] at hno
      rw [hcl, hcl2]
      refine wp_aload_n rfl rfl ?_
      refine q_getr rfl rfl (by first | rfl | assumption) rfl rfl ?_
      refine wp_iload_n rfl rfl ?_
      refine q_rowo rfl hvs hs1 ?_
      refine wp_astore (lv' := [(6, _), (0, _), (1, _), (2, _), (3, _), (4, _), (5, _)]) rfl (by decide) rfl ?_
      refine wp_aload_n rfl rfl ?_
      refine q_getr rfl rfl (by first | rfl | assumption) rfl rfl ?_
      refine wp_iload_n rfl rfl ?_
      refine q_rowo rfl hts hs2 ?_
      refine wp_astore (lv' := [(7, _), (6, _), (0, _), (1, _), (2, _), (3, _), (4, _), (5, _)]) rfl (by decide) rfl ?_
      refine wp_aload rfl rfl ?_
      refine cV1 rfl l_10_152 i_X6_isEmpty m_X6_isEmpty (by first | rfl | assumption) (by decide) (c_X6_isEmpty G _ _ _ _ _ ha) rfl (Nat.le_of_ble_eq_true rfl) ?_
      refine wp_if_ne 24 rfl rfl (fun h20 => ?_) (fun h20 => ?_)
      · refine wp_bipush (v := (-5)) rfl rfl ?_
        exact wp_iret rfl rfl (⟨by simp only [b2_eq, b2_ne] at *; grind (splits := 30), rfl⟩)
      · refine wp_aload rfl rfl ?_
        refine cV1 rfl l_10_152 i_X6_isEmpty m_X6_isEmpty (by first | rfl | assumption) (by decide) (c_X6_isEmpty G _ _ _ _ _ hb) rfl (Nat.le_of_ble_eq_true rfl) ?_
        refine wp_if_eq 26 rfl rfl (fun h23 => ?_) (fun h23 => ?_)
        · refine wp_aload rfl rfl ?_
          refine q_geti rfl rfl (by first | rfl | assumption) rfl ?_
          refine wp_aload rfl rfl ?_
          refine q_geti rfl rfl (by first | rfl | assumption) rfl ?_
          refine wp_icmp_eq 33 rfl rfl (fun h30 => ?_) (fun h30 => ?_)
          · refine wp_aload rfl rfl ?_
            refine wp_iload_n rfl rfl ?_
            refine wp_iload rfl rfl ?_
            refine cV1 rfl l_10_276 i_X6_reaches m_X6_reaches (by first | rfl | assumption) (by decide) (c_X6_reaches G _ _ _ _ _ _ _ ha) rfl (Nat.le_of_ble_eq_true rfl) ?_
            refine wp_if_eq 43 rfl rfl (fun h37 => ?_) (fun h37 => ?_)
            · refine wp_bipush (v := (-6)) rfl rfl ?_
              exact wp_iret rfl rfl (⟨by simp only [b2_eq, b2_ne] at *; grind (splits := 30), rfl⟩)
            · refine wp_aload rfl rfl ?_
              refine wp_iload rfl rfl ?_
              refine wp_iload rfl rfl ?_
              refine cV1 rfl l_10_276 i_X6_reaches m_X6_reaches (by first | rfl | assumption) (by decide) (c_X6_reaches G _ _ _ _ _ _ _ hb) rfl (Nat.le_of_ble_eq_true rfl) ?_
              refine wp_if_ne 45 rfl rfl (fun h42 => ?_) (fun h42 => ?_)
              · refine wp_loc (lv' := [(0, _), (1, _), (2, _), (3, _), (4, _), (5, _), (6, _), (7, _)]) [2, 3, 4, 5, 6, 7, 1, 0] rfl ?_
                exfalso; simp only [b2_eq, b2_ne] at *; grind (splits := 30)
              · refine wp_bipush (v := (-6)) rfl rfl ?_
                exact wp_iret rfl rfl (⟨by simp only [b2_eq, b2_ne] at *; grind (splits := 30), rfl⟩)
          · refine wp_bipush (v := (-7)) rfl rfl ?_
            exact wp_iret rfl rfl (⟨by simp only [b2_eq, b2_ne] at *; grind (splits := 30), rfl⟩)
        · refine wp_bipush (v := (-5)) rfl rfl ?_
          exact wp_iret rfl rfl (⟨by simp only [b2_eq, b2_ne] at *; grind (splits := 30), rfl⟩)
    · refine wp_bipush (v := (-2)) rfl rfl ?_
      exact wp_iret rfl rfl (⟨by simp only [b2_eq, b2_ne] at *; grind (splits := 30), rfl⟩)
/-- the reference's paste: first into its own row, then out of it -/
def mvL (L : LF) (f n : Nat) : LF := fun a' k' => if a' = 76 ∧ k' < n then L 75 (f + k') else L a' k'
theorem mvL_s (L : LF) (f n : Nat) : uL (mvL L f n) 76 n (L 75 (f + n)) = mvL L f (n + 1) := by
  funext a' k'
  unfold uL mvL
  by_cases e : a' = 76
  · subst e
    by_cases k1 : k' = n
    · subst k1; simp
    · simp [k1, show k' < n + 1 ↔ k' < n by omega]
  · simp [e]
theorem mvL_0 (L : LF) (f : Nat) : mvL L f 0 = L := by funext a' k'; simp [mvL]
def bkL (L : LF) (g n : Nat) : LF := fun a' k' => if a' = 75 ∧ g ≤ k' ∧ k' < g + n then L 76 (k' - g) else L a' k'
theorem bkL_s (L : LF) (g n : Nat) : uL (bkL L g n) 75 (g + n) (L 76 n) = bkL L g (n + 1) := by
  funext a' k'
  unfold uL bkL
  by_cases e : a' = 75
  · subst e
    by_cases k1 : k' = g + n
    · subst k1; simp
    · simp [k1, show (g ≤ k' ∧ k' < g + (n + 1)) ↔ (g ≤ k' ∧ k' < g + n) by omega]
  · simp [e]
theorem bkL_0 (L : LF) (g : Nat) : bkL L g 0 = L := by
  funext a' k'
  unfold bkL
  rw [if_neg (by omega)]
theorem l64s {a b c : Nat} (ha : a < 2 ^ 31) (hb : b < 2 ^ 31) (hc : c < 2 ^ 31) : (0 < lg_cmp ((nI a).toInt64 + (nI b).toInt64) (nI c).toInt64) ↔ c < a + b := by
  rw [nI_l ha, nI_l hb, nI_l hc, lN_add]
  have e1 := pk_lLT (a := c) (b := a + b) (by omega) (by omega)
  unfold lg_cmp
  by_cases h : c < a + b
  · rw [if_pos (e1.mpr h)]; simp [h]
  · rw [if_neg (fun z => h (e1.mp z))]
    split <;> simp [h]
theorem c_X11_paste_ok (G : Gl) (d : Nat) {s t i k n : Nat} (I : IF) (L : LF) (b : Bool) (hs : s < 4) (ht : t < 4) (hi : i + n ≤ 60) (hk : k + n ≤ 60) (hes : ¬ I 73 s < 0) (het : ¬ I 73 t < 0) (hw : I 73 s = I 73 t) {ss st : Nat} (hss : I 74 s = nI ss) (hst : I 74 t = nI st) (hss6 : ss ≤ 60) (hst6 : st ≤ 60) (his : i + n ≤ ss) (hks : k + n ≤ st) : MD G (d + 2) Y_X11_paste [.ref 72, .int (nI s), .int (nI i), .int (nI t), .int (nI k), .int (nI n)] (I, L, RR b) (some (.int 0)) (uI I 72 0 0, bkL (mvL L (60 * s + i) n) (60 * t + k) n, RR b) := by
  have hs0 : (0 : Int32) ≤ nI s ∧ nI s ≤ 3 := ⟨nI_pos' (by omega), nI_le (b := 3) (by omega) (by omega)⟩
  have ht0 : (0 : Int32) ≤ nI t ∧ nI t ≤ 3 := ⟨nI_pos' (by omega), nI_le (b := 3) (by omega) (by omega)⟩
  have hi0 : ¬ nI i < 0 := nI_pos (by omega)
  have hk0 : ¬ nI k < 0 := nI_pos (by omega)
  have hn0 : ¬ nI n < 0 := nI_pos (by omega)
  have hin : vp_in (nI s) 4 := vp_in_nI hs (by omega)
  have hin2 : vp_in (nI t) 4 := vp_in_nI ht (by omega)
  have hcl : (nI s).toNatClampNeg = s := nI_clamp (by omega)
  have hcl2 : (nI t).toNatClampNeg = t := nI_clamp (by omega)
  generalize hJ : uI I 72 0 0 = J
  have e1 : ∀ q, J 73 q = I 73 q := fun q => by rw [← hJ]; exact uI_ne (by decide)
  have e2 : ∀ q, J 74 q = I 74 q := fun q => by rw [← hJ]; exact uI_ne (by decide)
  have hl2 : ∀ (K : LF) (m j : Nat), j + m = n → WQ G (d + 2) Y_X11_paste (fun r' w'' => r' = some (.int 0) ∧ w'' = (J, bkL K (60 * t + k) n, RR b)) 89 [(0, .ref 72), (1, .int (nI s)), (2, .int (nI i)), (3, .int (nI t)), (4, .int (nI k)), (5, .int (nI n)), (6, .int (nI j))] [] (J, bkL K (60 * t + k) j, RR b) := by
    intro K m
    induction m with
    | zero =>
      intro j hj
      have hje : j = n := by omega
      subst hje
      refine wp_iload rfl rfl ?_
      refine wp_iload rfl rfl ?_
      refine wp_icmp_ge 108 rfl rfl (fun _ => ?_) (fun h91 => absurd (nI_le (Nat.le_refl _) (by omega)) h91)
      refine wp_iconst (v := 0) rfl rfl ?_
      exact wp_iret rfl rfl (⟨rfl, rfl⟩)
    | succ m ih =>
      intro j hj
      have hlt : ¬ nI n ≤ nI j := nI_ge (by omega) (by omega)
      have hx : (60 : Int32) * nI t + nI k + nI j = nI (60 * t + k + j) := by rw [show (60 : Int32) = nI 60 from rfl, pk_mul, nI_add, nI_add]
      have hcx : (nI (60 * t + k + j)).toNatClampNeg = 60 * t + k + j := nI_clamp (by omega)
      have hcj : (nI j).toNatClampNeg = j := nI_clamp (by omega)
      have eb : bkL K (60 * t + k) j 76 j = K 76 j := by unfold bkL; rw [if_neg (by omega)]
      refine wp_iload rfl rfl ?_
      refine wp_iload rfl rfl ?_
      refine wp_icmp_ge 108 rfl rfl (fun h91 => absurd h91 hlt) (fun _ => ?_)
      refine wp_aload_n rfl rfl ?_
      refine q_getr rfl rfl (by first | rfl | assumption) rfl rfl ?_
      refine wp_bipush (v := 60) rfl rfl ?_
      refine wp_iload_n rfl rfl ?_
      refine wp_imul rfl ?_
      refine wp_iload rfl rfl ?_
      refine wp_iadd rfl ?_
      refine wp_iload rfl rfl ?_
      refine wp_iadd rfl ?_
      refine wp_aload_n rfl rfl ?_
      refine q_getr rfl rfl (by first | rfl | assumption) rfl rfl ?_
      refine wp_iload rfl rfl ?_
      refine q_lald rfl (by first | rfl | assumption) (vp_in_nI (by omega) (by omega)) ?_
      refine q_last rfl (by first | rfl | assumption) (by rw [hx]; exact vp_in_nI (by omega) (by omega)) ?_
      refine wp_iinc (v := nI (j + 1)) (lv' := [(6, _), (0, _), (1, _), (2, _), (3, _), (4, _), (5, _)]) rfl rfl (nI_1 j) (by decide) rfl ?_
      refine wp_goto 89 rfl rfl ?_
      refine wp_loc (lv' := [(0, _), (1, _), (2, _), (3, _), (4, _), (5, _), (6, _)]) [1, 2, 3, 4, 5, 6, 0] rfl ?_
      rw [hx, hcx, hcj, eb, bkL_s]
      exact ih (j + 1) (by omega)
  have hl1 : ∀ (m j : Nat), j + m = n → WQ G (d + 2) Y_X11_paste (fun r' w'' => r' = some (.int 0) ∧ w'' = (J, bkL (mvL L (60 * s + i) n) (60 * t + k) n, RR b)) 68 [(0, .ref 72), (1, .int (nI s)), (2, .int (nI i)), (3, .int (nI t)), (4, .int (nI k)), (5, .int (nI n)), (6, .int (nI j))] [] (J, mvL L (60 * s + i) j, RR b) := by
    intro m
    induction m with
    | zero =>
      intro j hj
      have hje : j = n := by omega
      subst hje
      refine wp_iload rfl rfl ?_
      refine wp_iload rfl rfl ?_
      refine wp_icmp_ge 87 rfl rfl (fun _ => ?_) (fun h70 => absurd (nI_le (Nat.le_refl _) (by omega)) h70)
      refine wp_iconst (v := 0) rfl rfl ?_
      refine wp_istore (lv' := [(6, _), (0, _), (1, _), (2, _), (3, _), (4, _), (5, _)]) rfl (by decide) rfl ?_
      refine wp_loc (lv' := [(0, _), (1, _), (2, _), (3, _), (4, _), (5, _), (6, _)]) [1, 2, 3, 4, 5, 6, 0] rfl ?_
      have := hl2 (mvL L (60 * s + i) j) j 0 (by omega)
      rw [bkL_0] at this
      exact this
    | succ m ih =>
      intro j hj
      have hlt : ¬ nI n ≤ nI j := nI_ge (by omega) (by omega)
      have hx : (60 : Int32) * nI s + nI i + nI j = nI (60 * s + i + j) := by rw [show (60 : Int32) = nI 60 from rfl, pk_mul, nI_add, nI_add]
      have hcx : (nI (60 * s + i + j)).toNatClampNeg = 60 * s + i + j := nI_clamp (by omega)
      have hcj : (nI j).toNatClampNeg = j := nI_clamp (by omega)
      have eb : mvL L (60 * s + i) j 75 (60 * s + i + j) = L 75 (60 * s + i + j) := by unfold mvL; rw [if_neg (by omega)]
      refine wp_iload rfl rfl ?_
      refine wp_iload rfl rfl ?_
      refine wp_icmp_ge 87 rfl rfl (fun h70 => absurd h70 hlt) (fun _ => ?_)
      refine wp_aload_n rfl rfl ?_
      refine q_getr rfl rfl (by first | rfl | assumption) rfl rfl ?_
      refine wp_iload rfl rfl ?_
      refine wp_aload_n rfl rfl ?_
      refine q_getr rfl rfl (by first | rfl | assumption) rfl rfl ?_
      refine wp_bipush (v := 60) rfl rfl ?_
      refine wp_iload_n rfl rfl ?_
      refine wp_imul rfl ?_
      refine wp_iload_n rfl rfl ?_
      refine wp_iadd rfl ?_
      refine wp_iload rfl rfl ?_
      refine wp_iadd rfl ?_
      refine q_lald rfl (by first | rfl | assumption) (by rw [hx]; exact vp_in_nI (by omega) (by omega)) ?_
      refine q_last rfl (by first | rfl | assumption) (vp_in_nI (by omega) (by omega)) ?_
      refine wp_iinc (v := nI (j + 1)) (lv' := [(6, _), (0, _), (1, _), (2, _), (3, _), (4, _), (5, _)]) rfl rfl (nI_1 j) (by decide) rfl ?_
      refine wp_goto 68 rfl rfl ?_
      refine wp_loc (lv' := [(0, _), (1, _), (2, _), (3, _), (4, _), (5, _), (6, _)]) [1, 2, 3, 4, 5, 6, 0] rfl ?_
      rw [hx, hcx, hcj, eb, mvL_s]
      exact ih (j + 1) (by omega)
  refine MT.intro m_X11_paste rfl (Nat.le_of_ble_eq_true rfl) ?_
  show WQ G (d + 2) Y_X11_paste _ 0 [(0, .ref 72), (1, .int (nI s)), (2, .int (nI i)), (3, .int (nI t)), (4, .int (nI k)), (5, .int (nI n))] [] (I, L, RR b)
  refine wp_aload_n rfl rfl ?_
  refine wp_iconst (v := 0) rfl rfl ?_
  refine q_puti rfl rfl (by first | rfl | assumption) (Or.inl rfl) rfl ?_
  rw [hJ]
  refine wp_iload_n rfl rfl ?_
  refine cS1 rfl l_11_123 s_X11_isSlot m_X11_isSlot (c_X11_isSlot G _ _ _) rfl (Nat.le_of_ble_eq_true rfl) ?_
  refine wp_if_eq 9 rfl rfl (fun h5 => ?_) (fun h5 => ?_)
  · exfalso; grind [b2]
  · refine wp_iload_n rfl rfl ?_
    refine cS1 rfl l_11_123 s_X11_isSlot m_X11_isSlot (c_X11_isSlot G _ _ _) rfl (Nat.le_of_ble_eq_true rfl) ?_
    refine wp_if_ne 11 rfl rfl (fun h8 => ?_) (fun h8 => ?_)
    · refine wp_aload_n rfl rfl ?_
      refine q_getr rfl rfl (by first | rfl | assumption) rfl rfl ?_
      refine wp_iload_n rfl rfl ?_
      refine q_iald rfl (by first | rfl | assumption) (by assumption) ?_
      refine wp_if_lt 21 rfl rfl (fun h15 => ?_) (fun h15 => ?_)
      · rw [hcl, e1] at h15; exact absurd h15 hes
      · refine wp_aload_n rfl rfl ?_
        refine q_getr rfl rfl (by first | rfl | assumption) rfl rfl ?_
        refine wp_iload_n rfl rfl ?_
        refine q_iald rfl (by first | rfl | assumption) (by assumption) ?_
        refine wp_if_ge 23 rfl rfl (fun h20 => ?_) (fun h20 => ?_)
        · refine wp_aload_n rfl rfl ?_
          refine q_getr rfl rfl (by first | rfl | assumption) rfl rfl ?_
          refine wp_iload_n rfl rfl ?_
          refine q_iald rfl (by first | rfl | assumption) (by assumption) ?_
          refine wp_aload_n rfl rfl ?_
          refine q_getr rfl rfl (by first | rfl | assumption) rfl rfl ?_
          refine wp_iload_n rfl rfl ?_
          refine q_iald rfl (by first | rfl | assumption) (by assumption) ?_
          refine wp_icmp_eq 34 rfl rfl (fun h31 => ?_) (fun h31 => ?_)
          · refine wp_iload_n rfl rfl ?_
            refine wp_if_lt 64 rfl rfl (fun h35 => ?_) (fun h35 => ?_)
            · exact absurd h35 hi0
            · refine wp_iload rfl rfl ?_
              refine wp_if_lt 64 rfl rfl (fun h37 => ?_) (fun h37 => ?_)
              · exact absurd h37 hk0
              · refine wp_iload rfl rfl ?_
                refine wp_if_lt 64 rfl rfl (fun h39 => ?_) (fun h39 => ?_)
                · exact absurd h39 hn0
                · refine wp_iload_n rfl rfl ?_
                  refine wp_i2l rfl ?_
                  refine wp_iload rfl rfl ?_
                  refine wp_i2l rfl ?_
                  refine wp_ladd rfl ?_
                  refine wp_aload_n rfl rfl ?_
                  refine q_getr rfl rfl (by first | rfl | assumption) rfl rfl ?_
                  refine wp_iload_n rfl rfl ?_
                  refine q_iald rfl (by first | rfl | assumption) (by assumption) ?_
                  refine wp_i2l rfl ?_
                  refine wp_lcmp rfl ?_
                  refine wp_if_gt 64 rfl rfl (fun h51 => ?_) (fun h51 => ?_)
                  · rw [hcl, e2, hss] at h51; exact absurd ((l64s (by omega) (by omega) (by omega)).mp h51) (by omega)
                  · refine wp_iload rfl rfl ?_
                    refine wp_i2l rfl ?_
                    refine wp_iload rfl rfl ?_
                    refine wp_i2l rfl ?_
                    refine wp_ladd rfl ?_
                    refine wp_aload_n rfl rfl ?_
                    refine q_getr rfl rfl (by first | rfl | assumption) rfl rfl ?_
                    refine wp_iload_n rfl rfl ?_
                    refine q_iald rfl (by first | rfl | assumption) (by assumption) ?_
                    refine wp_i2l rfl ?_
                    refine wp_lcmp rfl ?_
                    refine wp_if_le 66 rfl rfl (fun h63 => ?_) (fun h63 => ?_)
                    · refine wp_iconst (v := 0) rfl rfl ?_
                      refine wp_istore (lv' := [(6, _), (0, _), (1, _), (2, _), (3, _), (4, _), (5, _)]) rfl (by decide) rfl ?_
                      refine wp_loc (lv' := [(0, _), (1, _), (2, _), (3, _), (4, _), (5, _), (6, _)]) [1, 2, 3, 4, 5, 6, 0] rfl ?_
                      have := hl1 n 0 (by omega)
                      rw [mvL_0] at this
                      exact this
                    · rw [hcl2, e2, hst] at h63; exact absurd ((l64s (a := k) (b := n) (c := st) (by omega) (by omega) (by omega)).mp (by grind)) (by omega)
          · rw [hcl, hcl2, e1, e1] at h31; exact absurd hw h31
        · rw [hcl2, e1] at h20; exfalso; grind
    · exfalso; grind [b2]
end
section
/-! paste, the rest -/
theorem c_X11_paste_no (G : Gl) (d : Nat) (v i t k n : Int32) (I : IF) (L : LF) (b : Bool) (hsz : ∀ s, s < 4 → ¬ I 73 s < 0 → 0 ≤ I 74 s ∧ I 74 s ≤ 60) (hno : ¬ ((0 ≤ v ∧ v ≤ 3) ∧ (0 ≤ t ∧ t ≤ 3) ∧ ¬ I 73 v.toNatClampNeg < 0 ∧ ¬ I 73 t.toNatClampNeg < 0 ∧ I 73 v.toNatClampNeg = I 73 t.toNatClampNeg ∧ (0 ≤ i ∧ 0 ≤ n ∧ i ≤ I 74 v.toNatClampNeg ∧ n ≤ I 74 v.toNatClampNeg - i) ∧ (0 ≤ k ∧ 0 ≤ n ∧ k ≤ I 74 t.toNatClampNeg ∧ n ≤ I 74 t.toNatClampNeg - k))) : MD G (d + 2) Y_X11_paste [.ref 72, .int v, .int i, .int t, .int k, .int n] (I, L, RR b) (some (.int (if (0 ≤ v ∧ v ≤ 3) ∧ (0 ≤ t ∧ t ≤ 3) then (if I 73 v.toNatClampNeg < 0 ∨ I 73 t.toNatClampNeg < 0 then -5 else if I 73 v.toNatClampNeg = I 73 t.toNatClampNeg then -6 else -7) else -2))) (uI I 72 0 0, L, RR b) := by
  have key : ∀ (x y z : Int32), 0 ≤ x → 0 ≤ y → 0 ≤ z → z ≤ 60 → ¬ (x ≤ z ∧ y ≤ z - x) → 0 < lg_cmp (x.toInt64 + y.toInt64) z.toInt64 := by
    intro x y z hx hy hz hz6 hn
    obtain ⟨a, ha, rfl⟩ := nI_of (x := x) (by grind)
    obtain ⟨c, hc, rfl⟩ := nI_of (x := y) (by grind)
    obtain ⟨q, hq, rfl⟩ := nI_of (x := z) (by grind)
    rw [l64s ha hc hq]
    have hq6 : q ≤ 60 := (nI_leI (a := q) (b := 60) hq (by omega)).mp hz6
    rcases Nat.lt_or_ge q (a + c) with h | h
    · exact h
    · exfalso
      apply hn
      refine ⟨nI_le (by omega) hq, ?_⟩
      rw [pk_sub (by omega)]
      exact nI_le (by omega) (by omega)
  have e0 : ∀ q j, q ≠ 72 → uI I 72 0 0 q j = I q j := fun q j hq => uI_ne hq
  generalize hJ : uI I 72 0 0 = J at e0
  refine MT.intro m_X11_paste rfl (Nat.le_of_ble_eq_true rfl) ?_
  show WQ G (d + 2) Y_X11_paste _ 0 [(0, .ref 72), (1, .int v), (2, .int i), (3, .int t), (4, .int k), (5, .int n)] [] (I, L, RR b)
  refine wp_aload_n rfl rfl ?_
  refine wp_iconst (v := 0) rfl rfl ?_
  refine q_puti rfl rfl (by first | rfl | assumption) (Or.inl rfl) rfl ?_
  rw [hJ]
  refine wp_iload_n rfl rfl ?_
  refine cS1 rfl l_11_123 s_X11_isSlot m_X11_isSlot (c_X11_isSlot G _ _ _) rfl (Nat.le_of_ble_eq_true rfl) ?_
  refine wp_if_eq 9 rfl rfl (fun h5 => ?_) (fun h5 => ?_)
  · refine wp_bipush (v := (-2)) rfl rfl ?_
    exact wp_iret rfl rfl (⟨by (try simp only [hcl, hcl2, e0 73 _ (show (73 : Nat) ≠ 72 by decide)] at *); simp only [b2_eq, b2_ne] at *; grind (splits := 30), rfl⟩)
  · refine wp_iload_n rfl rfl ?_
    refine cS1 rfl l_11_123 s_X11_isSlot m_X11_isSlot (c_X11_isSlot G _ _ _) rfl (Nat.le_of_ble_eq_true rfl) ?_
    refine wp_if_ne 11 rfl rfl (fun h8 => ?_) (fun h8 => ?_)
    · have hv := b2_ne.mp h5
      have hu := b2_ne.mp h8
      obtain ⟨s1, hs1, hvs, hcl⟩ := slot4 hv
      obtain ⟨s2, hs2, hts, hcl2⟩ := slot4 hu
      have hin : vp_in v 4 := by rw [hvs]; exact vp_in_nI hs1 (by omega)
      have hin2 : vp_in t 4 := by rw [hts]; exact vp_in_nI hs2 (by omega)
      have z1 := hsz s1 hs1
      have z2 := hsz s2 hs2
      rw [hcl, hcl2] at hno
      rw [hcl, hcl2]
      refine wp_aload_n rfl rfl ?_
      refine q_getr rfl rfl (by first | rfl | assumption) rfl rfl ?_
      refine wp_iload_n rfl rfl ?_
      refine q_iald rfl (by first | rfl | assumption) (by assumption) ?_
      refine wp_if_lt 21 rfl rfl (fun h15 => ?_) (fun h15 => ?_)
      · refine wp_bipush (v := (-5)) rfl rfl ?_
        exact wp_iret rfl rfl (⟨by (try simp only [hcl, hcl2, e0 73 _ (show (73 : Nat) ≠ 72 by decide)] at *); simp only [b2_eq, b2_ne] at *; grind (splits := 30), rfl⟩)
      · refine wp_aload_n rfl rfl ?_
        refine q_getr rfl rfl (by first | rfl | assumption) rfl rfl ?_
        refine wp_iload_n rfl rfl ?_
        refine q_iald rfl (by first | rfl | assumption) (by assumption) ?_
        refine wp_if_ge 23 rfl rfl (fun h20 => ?_) (fun h20 => ?_)
        · refine wp_aload_n rfl rfl ?_
          refine q_getr rfl rfl (by first | rfl | assumption) rfl rfl ?_
          refine wp_iload_n rfl rfl ?_
          refine q_iald rfl (by first | rfl | assumption) (by assumption) ?_
          refine wp_aload_n rfl rfl ?_
          refine q_getr rfl rfl (by first | rfl | assumption) rfl rfl ?_
          refine wp_iload_n rfl rfl ?_
          refine q_iald rfl (by first | rfl | assumption) (by assumption) ?_
          refine wp_icmp_eq 34 rfl rfl (fun h31 => ?_) (fun h31 => ?_)
          · refine wp_iload_n rfl rfl ?_
            refine wp_if_lt 64 rfl rfl (fun h35 => ?_) (fun h35 => ?_)
            · refine wp_bipush (v := (-6)) rfl rfl ?_
              exact wp_iret rfl rfl (⟨by (try simp only [hcl, hcl2, e0 73 _ (show (73 : Nat) ≠ 72 by decide)] at *); simp only [b2_eq, b2_ne] at *; grind (splits := 30), rfl⟩)
            · refine wp_iload rfl rfl ?_
              refine wp_if_lt 64 rfl rfl (fun h37 => ?_) (fun h37 => ?_)
              · refine wp_bipush (v := (-6)) rfl rfl ?_
                exact wp_iret rfl rfl (⟨by (try simp only [hcl, hcl2, e0 73 _ (show (73 : Nat) ≠ 72 by decide)] at *); simp only [b2_eq, b2_ne] at *; grind (splits := 30), rfl⟩)
              · refine wp_iload rfl rfl ?_
                refine wp_if_lt 64 rfl rfl (fun h39 => ?_) (fun h39 => ?_)
                · refine wp_bipush (v := (-6)) rfl rfl ?_
                  exact wp_iret rfl rfl (⟨by (try simp only [hcl, hcl2, e0 73 _ (show (73 : Nat) ≠ 72 by decide)] at *); simp only [b2_eq, b2_ne] at *; grind (splits := 30), rfl⟩)
                · refine wp_iload_n rfl rfl ?_
                  refine wp_i2l rfl ?_
                  refine wp_iload rfl rfl ?_
                  refine wp_i2l rfl ?_
                  refine wp_ladd rfl ?_
                  refine wp_aload_n rfl rfl ?_
                  refine q_getr rfl rfl (by first | rfl | assumption) rfl rfl ?_
                  refine wp_iload_n rfl rfl ?_
                  refine q_iald rfl (by first | rfl | assumption) (by assumption) ?_
                  refine wp_i2l rfl ?_
                  refine wp_lcmp rfl ?_
                  refine wp_if_gt 64 rfl rfl (fun h51 => ?_) (fun h51 => ?_)
                  · refine wp_bipush (v := (-6)) rfl rfl ?_
                    exact wp_iret rfl rfl (⟨by (try simp only [hcl, hcl2, e0 73 _ (show (73 : Nat) ≠ 72 by decide)] at *); simp only [b2_eq, b2_ne] at *; grind (splits := 30), rfl⟩)
                  · refine wp_iload rfl rfl ?_
                    refine wp_i2l rfl ?_
                    refine wp_iload rfl rfl ?_
                    refine wp_i2l rfl ?_
                    refine wp_ladd rfl ?_
                    refine wp_aload_n rfl rfl ?_
                    refine q_getr rfl rfl (by first | rfl | assumption) rfl rfl ?_
                    refine wp_iload_n rfl rfl ?_
                    refine q_iald rfl (by first | rfl | assumption) (by assumption) ?_
                    refine wp_i2l rfl ?_
                    refine wp_lcmp rfl ?_
                    refine wp_if_le 66 rfl rfl (fun h63 => ?_) (fun h63 => ?_)
                    · exfalso
                      rw [hcl, e0 74 _ (by decide)] at h51
                      rw [hcl2, e0 74 _ (by decide)] at h63
                      simp only [hcl, hcl2, e0 73 _ (show (73 : Nat) ≠ 72 by decide)] at h15 h20 h31
                      have k1 := key i n (I 74 s1) (by grind) (by grind) (by grind) (by grind)
                      have k2 := key k n (I 74 s2) (by grind) (by grind) (by grind) (by grind)
                      grind
                    · refine wp_bipush (v := (-6)) rfl rfl ?_
                      exact wp_iret rfl rfl (⟨by (try simp only [hcl, hcl2, e0 73 _ (show (73 : Nat) ≠ 72 by decide)] at *); simp only [b2_eq, b2_ne] at *; grind (splits := 30), rfl⟩)
          · refine wp_bipush (v := (-7)) rfl rfl ?_
            exact wp_iret rfl rfl (⟨by (try simp only [hcl, hcl2, e0 73 _ (show (73 : Nat) ≠ 72 by decide)] at *); simp only [b2_eq, b2_ne] at *; grind (splits := 30), rfl⟩)
        · refine wp_bipush (v := (-5)) rfl rfl ?_
          exact wp_iret rfl rfl (⟨by (try simp only [hcl, hcl2, e0 73 _ (show (73 : Nat) ≠ 72 by decide)] at *); simp only [b2_eq, b2_ne] at *; grind (splits := 30), rfl⟩)
    · refine wp_bipush (v := (-2)) rfl rfl ?_
      exact wp_iret rfl rfl (⟨by (try simp only [hcl, hcl2, e0 73 _ (show (73 : Nat) ≠ 72 by decide)] at *); simp only [b2_eq, b2_ne] at *; grind (splits := 30), rfl⟩)
theorem s_paste {G : Gl} {d : Nat} {I : IF} {L : LF} {b : Bool} (v i t k n : Int32) (h : InvA I L) : StepA G (d + 2) Y_X10_paste Y_X11_paste [.int v, .int i, .int t, .int k, .int n] I L b := by
  obtain ⟨nm, na, nr, h⟩ := h
  have a11 := h.2.2.2.2.2.2.2.2.2.2
  by_cases hok : (0 ≤ v ∧ v ≤ 3) ∧ (0 ≤ t ∧ t ≤ 3) ∧ ¬ I (57 + 2 * v.toNatClampNeg) 2 = -1 ∧ ¬ I (57 + 2 * t.toNatClampNeg) 2 = -1 ∧ I (57 + 2 * v.toNatClampNeg) 1 = I (57 + 2 * t.toNatClampNeg) 1 ∧ (0 ≤ i ∧ 0 ≤ n ∧ i ≤ I (57 + 2 * v.toNatClampNeg) 2 ∧ n ≤ I (57 + 2 * v.toNatClampNeg) 2 - i) ∧ (0 ≤ k ∧ 0 ≤ n ∧ k ≤ I (57 + 2 * t.toNatClampNeg) 2 ∧ n ≤ I (57 + 2 * t.toNatClampNeg) 2 - k)
  · obtain ⟨hv, ht, e1, e2, e3, ⟨i0, n0, i1, i2⟩, k0, -, k1, k2⟩ := hok
    obtain ⟨s, hs, rfl, hcl⟩ := slot4 hv
    obtain ⟨u, hu, rfl, hcl2⟩ := slot4 ht
    rw [hcl] at e1 e3 i1 i2
    rw [hcl2] at e2 e3 k1 k2
    have z1 := (a11 s hs).2.resolve_left (fun q => e1 q.1)
    have z2 := (a11 u hu).2.resolve_left (fun q => e2 q.1)
    obtain ⟨ss, hss, es⟩ := nI_of2 (x := I (57 + 2 * s) 2) (M := 60) (n := 60) rfl (by grind) z1.1.2
    obtain ⟨su, hsu, eu⟩ := nI_of2 (x := I (57 + 2 * u) 2) (M := 60) (n := 60) rfl (by grind) z2.1.2
    obtain ⟨ii, hii, rfl⟩ := nI_of2 (x := i) (M := 60) (n := 60) rfl (by grind) (by grind)
    obtain ⟨kk, hkk, rfl⟩ := nI_of2 (x := k) (M := 60) (n := 60) rfl (by grind) (by grind)
    have hik : ii ≤ ss := (nI_leI (by omega) (by omega)).mp (by rw [← es]; exact i1)
    have hkk2 : kk ≤ su := (nI_leI (by omega) (by omega)).mp (by rw [← eu]; exact k1)
    have i2' : n ≤ nI (ss - ii) := by rw [← pk_sub hik, ← es]; exact i2
    have k2' : n ≤ nI (su - kk) := by rw [← pk_sub hkk2, ← eu]; exact k2
    obtain ⟨nn, hnn, rfl⟩ := nI_of (x := n) (by grind)
    have hn1 : nn ≤ ss - ii := (nI_leI hnn (by omega)).mp i2'
    have hn2 : nn ≤ su - kk := (nI_leI hnn (by omega)).mp k2'
    have c1 := c_X10_paste_ok G d I L b hs hu (show ii + nn ≤ 60 by omega) (show kk + nn ≤ 60 by omega) e1 e2 e3 ⟨i1, i2⟩ ⟨k1, k2⟩
    have c2 := c_X11_paste_ok G d I (cpL L (58 + 2 * s) (58 + 2 * u) ii kk nn) b hs hu (show ii + nn ≤ 60 by omega) (show kk + nn ≤ 60 by omega) (by grind) (by grind) (by rw [← z1.2.2.2, ← z2.2.2.2]; exact e3) (z1.2.1.trans es) (z2.2.1.trans eu) hss hsu (by omega) (by omega)
    have key := IV_rows (J := uI I 72 0 0) (K := bkL (mvL (cpL L (58 + 2 * s) (58 + 2 * u) ii kk nn) (60 * s + ii) nn) (60 * u + kk) nn) h (fun q h1 h2 h3 h4 => uI_fn h4) (fun k hk => uI_nk hk) (fun t ht => by
      have z := a11 t ht
      refine ⟨fun q hq => ?_, ?_⟩
      · have hR : bkL (mvL (cpL L (58 + 2 * s) (58 + 2 * u) ii kk nn) (60 * s + ii) nn) (60 * u + kk) nn (58 + 2 * t) q = cpL L (58 + 2 * s) (58 + 2 * u) ii kk nn (58 + 2 * t) q := by
          unfold bkL mvL
          rw [if_neg (by omega), if_neg (by omega)]
        rw [hR]
        by_cases e : t = u
        · subst e
          by_cases e2 : kk ≤ q ∧ q < kk + nn
          · have hL : bkL (mvL (cpL L (58 + 2 * s) (58 + 2 * t) ii kk nn) (60 * s + ii) nn) (60 * t + kk) nn 75 (60 * t + q) = L 75 (60 * s + ii + (60 * t + q - (60 * t + kk))) := by
              unfold bkL mvL cpL
              rw [if_pos (by omega), if_pos (by omega), if_neg (by omega)]
            have hC : cpL L (58 + 2 * s) (58 + 2 * t) ii kk nn (58 + 2 * t) q = L (58 + 2 * s) (ii + (q - kk)) := by
              unfold cpL va_cpy
              rw [if_pos rfl, if_pos e2]
            rw [hL, hC, show 60 * s + ii + (60 * t + q - (60 * t + kk)) = 60 * s + (ii + (q - kk)) by omega]
            exact (a11 s hs).1 _ (by omega)
          · have hL : bkL (mvL (cpL L (58 + 2 * s) (58 + 2 * t) ii kk nn) (60 * s + ii) nn) (60 * t + kk) nn 75 (60 * t + q) = L 75 (60 * t + q) := by
              unfold bkL mvL cpL
              rw [if_neg (by omega), if_neg (by omega), if_neg (by omega)]
            have hC : cpL L (58 + 2 * s) (58 + 2 * t) ii kk nn (58 + 2 * t) q = L (58 + 2 * t) q := by
              unfold cpL va_cpy
              rw [if_pos rfl, if_neg e2]
            rw [hL, hC]
            exact z.1 q hq
        · have hL : bkL (mvL (cpL L (58 + 2 * s) (58 + 2 * u) ii kk nn) (60 * s + ii) nn) (60 * u + kk) nn 75 (60 * t + q) = L 75 (60 * t + q) := by
            unfold bkL mvL cpL
            rw [if_neg (by omega), if_neg (by omega), if_neg (by omega)]
          have hC : cpL L (58 + 2 * s) (58 + 2 * u) ii kk nn (58 + 2 * t) q = L (58 + 2 * t) q := by
            unfold cpL
            rw [if_neg (by omega)]
          rw [hL, hC]
          exact z.1 q hq
      · simp (disch := omega) only [uI_ne]
        exact z.2)
    exact ⟨_, _, _, _, _, c1, c2, ⟨nm, na, nr, key.1⟩, key.2⟩
  · have hsz : ∀ s, s < 4 → ¬ I 73 s < 0 → 0 ≤ I 74 s ∧ I 74 s ≤ 60 := by
      intro s hs hn
      have z := a11 s hs
      grind
    have hrel : ∀ s, s < 4 → (I 73 s < 0 ↔ I (57 + 2 * s) 2 = -1) ∧ (¬ I 73 s < 0 → I 74 s = I (57 + 2 * s) 2 ∧ I (57 + 2 * s) 1 = I 73 s) := by
      intro s hs
      have z := a11 s hs
      grind
    refine StepA.query h (c_X10_paste_no G d v i t k n I L b hok) ?_
    have hok2 : ¬ ((0 ≤ v ∧ v ≤ 3) ∧ (0 ≤ t ∧ t ≤ 3) ∧ ¬ I 73 v.toNatClampNeg < 0 ∧ ¬ I 73 t.toNatClampNeg < 0 ∧ I 73 v.toNatClampNeg = I 73 t.toNatClampNeg ∧ (0 ≤ i ∧ 0 ≤ n ∧ i ≤ I 74 v.toNatClampNeg ∧ n ≤ I 74 v.toNatClampNeg - i) ∧ (0 ≤ k ∧ 0 ≤ n ∧ k ≤ I 74 t.toNatClampNeg ∧ n ≤ I 74 t.toNatClampNeg - k)) := by
      intro ⟨hv, ht, e1, e2, e3, e4, e5⟩
      apply hok
      obtain ⟨s, hs, -, hcl⟩ := slot4 hv
      obtain ⟨u, hu, -, hcl2⟩ := slot4 ht
      rw [hcl] at e1 e3 e4 ⊢
      rw [hcl2] at e2 e3 e5 ⊢
      have y1 := hrel s hs
      have y2 := hrel u hu
      refine ⟨hv, ht, fun q => e1 (y1.1.mpr q), fun q => e2 (y2.1.mpr q), ?_, ?_, ?_⟩
      · rw [(y1.2 e1).2, (y2.2 e2).2, e3]
      · rw [← (y1.2 e1).1]; exact e4
      · rw [← (y2.2 e2).1]; exact e5
    have c2 := c_X11_paste_no G d v i t k n I L b hsz hok2
    have e : (if (0 ≤ v ∧ v ≤ 3) ∧ (0 ≤ t ∧ t ≤ 3) then (if I 73 v.toNatClampNeg < 0 ∨ I 73 t.toNatClampNeg < 0 then -5 else if I 73 v.toNatClampNeg = I 73 t.toNatClampNeg then -6 else -7) else (-2 : Int32)) = (if (0 ≤ v ∧ v ≤ 3) ∧ (0 ≤ t ∧ t ≤ 3) then (if I (57 + 2 * v.toNatClampNeg) 2 = -1 ∨ I (57 + 2 * t.toNatClampNeg) 2 = -1 then -5 else if I (57 + 2 * v.toNatClampNeg) 1 = I (57 + 2 * t.toNatClampNeg) 1 then -6 else -7) else -2) := by
      by_cases hv : (0 ≤ v ∧ v ≤ 3) ∧ (0 ≤ t ∧ t ≤ 3)
      · obtain ⟨s, hs, -, hcl⟩ := slot4 hv.1
        obtain ⟨u, hu, -, hcl2⟩ := slot4 hv.2
        rw [if_pos hv, if_pos hv, hcl, hcl2]
        have y1 := hrel s hs
        have y2 := hrel u hu
        grind
      · rw [if_neg hv, if_neg hv]
    rw [e] at c2
    exact c2
end
section
/-! poor -/
def pok (f : Nat → Int64) (g : Nat → Int32) : Nat → Nat → Bool
  | 0, _ => true
  | n + 1, i => decide (0 ≤ f i ∧ f i ≤ (g i).toInt64) && pok f g n (i + 1)
theorem pok_cg {f f' : Nat → Int64} {g g' : Nat → Int32} : ∀ (n i : Nat), (∀ j, i ≤ j → j < i + n → f j = f' j ∧ g j = g' j) → pok f g n i = pok f' g' n i
  | 0, _, _ => rfl
  | n + 1, i, h => by
    simp only [pok]
    rw [(h i (by omega) (by omega)).1, (h i (by omega) (by omega)).2, pok_cg n (i + 1) (fun j h1 h2 => h j (by omega) (by omega))]
def pwA (q : Nat → Nat × Nat) (f : Nat → Int64) (I : IF) : Nat → IF
  | 0 => I
  | i + 1 => uI (pwA q f I i) (q i).1 (q i).2 (f i).toInt32
theorem c_X10_poor_ok (G : Gl) (d : Nat) {s nr : Nat} (I : IF) (L : LF) (b : Bool) (hs : s < 4) (h4 : I 1 4 = nI nr) (hnr : nr ≤ 16) (hne : ¬ I (57 + 2 * s) 2 = -1) (hsz : nI nr ≤ I (57 + 2 * s) 2) : MD G (d + 2) Y_X10_poor [.ref 0, .int (nI s)] (I, L, RR b) (some (.int (if pok (L (58 + 2 * s)) (fun a => I (18 + a) 2) nr 0 = true then 0 else -4))) (if pok (L (58 + 2 * s)) (fun a => I (18 + a) 2) nr 0 = true then pwA (fun a => (18 + a, 3)) (L (58 + 2 * s)) I nr else I, L, RR b) := by
  have ha := sh_row s hs
  have hs0 : (0 : Int32) ≤ nI s ∧ nI s ≤ 3 := ⟨nI_pos' (by omega), nI_le (b := 3) (by omega) (by omega)⟩
  have hrr := rr_row s hs b
  have hra := sh_rowA s hs
  generalize hf : L (58 + 2 * s) = f
  have hL2 : ∀ (n i : Nat), i + n = nr → WQ G (d + 2) Y_X10_poor (fun r' w'' => r' = some (.int 0) ∧ w'' = (pwA (fun a => (18 + a, 3)) f I nr, L, RR b)) 56 [(0, .ref 0), (1, .int (nI s)), (2, .ref (57 + 2 * s)), (3, .int (nI i))] [] (pwA (fun a => (18 + a, 3)) f I i, L, RR b) := by
    have h14 : ∀ i, i ≤ 16 → pwA (fun a => (18 + a, 3)) f I i 1 4 = nI nr := by
      intro i
      induction i with
      | zero => intro _; exact h4
      | succ i ih => intro hi; simp only [pwA]; rw [uI_ne (by omega)]; exact ih (by omega)
    intro n
    induction n with
    | zero =>
      intro i hi
      have hie : i = nr := by omega
      subst hie
      have hge : pwA (fun a => (18 + a, 3)) f I i 1 4 ≤ nI i := by rw [h14 i hnr]; exact nI_le (Nat.le_refl _) (by omega)
      refine wp_iload_n rfl rfl ?_
      refine wp_aload_n rfl rfl ?_
      refine q_getr rfl rfl (by first | rfl | assumption) rfl rfl ?_
      refine q_geti rfl rfl (by first | rfl | assumption) rfl ?_
      refine wp_icmp_ge 74 rfl rfl (fun _ => ?_) (fun h60 => absurd hge h60)
      refine wp_iconst (v := 0) rfl rfl ?_
      exact wp_iret rfl rfl (⟨rfl, rfl⟩)
    | succ n ih =>
      intro i hi
      have hlt : ¬ pwA (fun a => (18 + a, 3)) f I i 1 4 ≤ nI i := by rw [h14 i (by omega)]; exact nI_ge (by omega) (by omega)
      have hsa := sh_area i (by omega)
      have hcl : (nI i).toNatClampNeg = i := nI_clamp (by omega)
      refine wp_iload_n rfl rfl ?_
      refine wp_aload_n rfl rfl ?_
      refine q_getr rfl rfl (by first | rfl | assumption) rfl rfl ?_
      refine q_geti rfl rfl (by first | rfl | assumption) rfl ?_
      refine wp_icmp_ge 74 rfl rfl (fun h60 => absurd h60 hlt) (fun _ => ?_)
      refine wp_aload_n rfl rfl ?_
      refine q_getr rfl rfl (by first | rfl | assumption) rfl rfl ?_
      refine q_getr rfl rfl (by first | rfl | assumption) rfl rfl ?_
      refine wp_iload_n rfl rfl ?_
      refine q_area rfl rfl (by omega) ?_
      refine wp_aload_n rfl rfl ?_
      refine q_getr rfl rfl (by first | rfl | assumption) rfl hrr ?_
      refine wp_iload_n rfl rfl ?_
      refine q_lald rfl hra (vp_in_nI (by omega) (by omega)) ?_
      refine wp_l2i rfl ?_
      refine q_puti rfl rfl (by first | rfl | assumption) (Or.inl rfl) rfl ?_
      refine wp_iinc (v := nI (i + 1)) (lv' := [(3, _), (0, _), (1, _), (2, _)]) rfl rfl (nI_1 i) (by decide) rfl ?_
      refine wp_goto 56 rfl rfl ?_
      refine wp_loc (lv' := [(0, _), (1, _), (2, _), (3, _)]) [1, 2, 3, 0] rfl ?_
      rw [hcl, hf]
      exact ih (i + 1) (by omega)
  have hL1 : ∀ (t : Bool) (n i : Nat), i + n = nr → pok f (fun a => I (18 + a) 2) n i = t → WQ G (d + 2) Y_X10_poor (fun r' w'' => r' = some (.int (if t = true then 0 else -4)) ∧ w'' = (if t = true then pwA (fun a => (18 + a, 3)) f I nr else I, L, RR b)) 25 [(0, .ref 0), (1, .int (nI s)), (2, .ref (57 + 2 * s)), (3, .int (nI i))] [] (I, L, RR b) := by
    intro t n
    induction n with
    | zero =>
      intro i hi ht
      simp only [pok] at ht
      subst ht
      have hge : I 1 4 ≤ nI i := by rw [h4]; exact nI_le (by omega) (by omega)
      refine wp_iload_n rfl rfl ?_
      refine wp_aload_n rfl rfl ?_
      refine q_getr rfl rfl (by first | rfl | assumption) rfl rfl ?_
      refine q_geti rfl rfl (by first | rfl | assumption) rfl ?_
      refine wp_icmp_ge 54 rfl rfl (fun _ => ?_) (fun h29 => absurd hge h29)
      refine wp_iconst (v := 0) rfl rfl ?_
      refine wp_istore_n (lv' := [(3, _), (0, _), (1, _), (2, _)]) rfl rfl (by decide) rfl ?_
      refine wp_loc (lv' := [(0, _), (1, _), (2, _), (3, _)]) [1, 2, 3, 0] rfl ?_
      exact hL2 nr 0 (by omega)
    | succ n ih =>
      intro i hi ht
      simp only [pok] at ht
      have hlt : ¬ I 1 4 ≤ nI i := by rw [h4]; exact nI_ge (by omega) (by omega)
      have hsa := sh_area i (by omega)
      have hcl : (nI i).toNatClampNeg = i := nI_clamp (by omega)
      refine wp_iload_n rfl rfl ?_
      refine wp_aload_n rfl rfl ?_
      refine q_getr rfl rfl (by first | rfl | assumption) rfl rfl ?_
      refine q_geti rfl rfl (by first | rfl | assumption) rfl ?_
      refine wp_icmp_ge 54 rfl rfl (fun h29 => absurd h29 hlt) (fun _ => ?_)
      refine wp_aload_n rfl rfl ?_
      refine q_getr rfl rfl (by first | rfl | assumption) rfl hrr ?_
      refine wp_iload_n rfl rfl ?_
      refine q_lald rfl hra (vp_in_nI (by omega) (by omega)) ?_
      refine wp_lconst (v := 0) rfl rfl ?_
      refine wp_lcmp rfl ?_
      refine wp_if_lt 50 rfl rfl (fun h36 => ?_) (fun h36 => ?_)
      · have htf : t = false := by
          rw [← ht]
          have : ¬ (0 ≤ f i ∧ f i ≤ (I (18 + i) 2).toInt64) := by
            (try rw [hcl, hf] at h36); (try rw [hcl, hf] at h49); simp only [lg_cmp] at *; grind
          simp [this]
        subst htf
        refine wp_bipush (v := (-4)) rfl rfl ?_
        exact wp_iret rfl rfl ⟨rfl, rfl⟩
      · refine wp_aload_n rfl rfl ?_
        refine q_getr rfl rfl (by first | rfl | assumption) rfl hrr ?_
        refine wp_iload_n rfl rfl ?_
        refine q_lald rfl hra (vp_in_nI (by omega) (by omega)) ?_
        refine wp_aload_n rfl rfl ?_
        refine q_getr rfl rfl (by first | rfl | assumption) rfl rfl ?_
        refine q_getr rfl rfl (by first | rfl | assumption) rfl rfl ?_
        refine wp_iload_n rfl rfl ?_
        refine q_area rfl rfl (by omega) ?_
        refine q_geti rfl rfl (by first | rfl | assumption) rfl ?_
        refine wp_i2l rfl ?_
        refine wp_lcmp rfl ?_
        refine wp_if_le 52 rfl rfl (fun h49 => ?_) (fun h49 => ?_)
        · refine wp_iinc (v := nI (i + 1)) (lv' := [(3, _), (0, _), (1, _), (2, _)]) rfl rfl (nI_1 i) (by decide) rfl ?_
          refine wp_goto 25 rfl rfl ?_
          refine wp_loc (lv' := [(0, _), (1, _), (2, _), (3, _)]) [1, 2, 3, 0] rfl ?_
          refine ih (i + 1) (by omega) ?_
          rw [hcl, hf] at h36 h49
          have : (0 ≤ f i ∧ f i ≤ (I (18 + i) 2).toInt64) := by simp only [lg_cmp] at *; grind
          rw [← ht]
          simp [this]
        · have htf : t = false := by
            rw [← ht]
            have : ¬ (0 ≤ f i ∧ f i ≤ (I (18 + i) 2).toInt64) := by
              (try rw [hcl, hf] at h36); (try rw [hcl, hf] at h49); simp only [lg_cmp] at *; grind
            simp [this]
          subst htf
          refine wp_bipush (v := (-4)) rfl rfl ?_
          exact wp_iret rfl rfl ⟨rfl, rfl⟩
  refine MT.intro m_X10_poor rfl (Nat.le_of_ble_eq_true rfl) ?_
  show WQ G (d + 2) Y_X10_poor _ 0 [(0, .ref 0), (1, .int (nI s))] [] (I, L, RR b)
  refine wp_iload_n rfl rfl ?_
  refine cS1 rfl l_10_149 s_X10_isSlot m_X10_isSlot (c_X10_isSlot G _ _ _) rfl (Nat.le_of_ble_eq_true rfl) ?_
  refine wp_if_ne 5 rfl rfl (fun h2 => ?_) (fun h2 => ?_)
  · refine wp_aload_n rfl rfl ?_
    refine q_getr rfl rfl (by first | rfl | assumption) rfl rfl ?_
    refine wp_iload_n rfl rfl ?_
    refine q_rowo rfl rfl hs ?_
    refine wp_astore_n (lv' := [(2, _), (0, _), (1, _)]) rfl rfl (by decide) rfl ?_
    refine wp_aload_n rfl rfl ?_
    refine cV1 rfl l_10_152 i_X6_isEmpty m_X6_isEmpty (by first | rfl | assumption) (by decide) (c_X6_isEmpty G _ _ _ _ _ ha) rfl (Nat.le_of_ble_eq_true rfl) ?_
    refine wp_if_eq 15 rfl rfl (fun h12 => ?_) (fun h12 => ?_)
    · refine wp_aload_n rfl rfl ?_
      refine q_geti rfl rfl (by first | rfl | assumption) rfl ?_
      refine wp_aload_n rfl rfl ?_
      refine q_getr rfl rfl (by first | rfl | assumption) rfl rfl ?_
      refine q_geti rfl rfl (by first | rfl | assumption) rfl ?_
      refine wp_icmp_ge 23 rfl rfl (fun h20 => ?_) (fun h20 => ?_)
      · refine wp_iconst (v := 0) rfl rfl ?_
        refine wp_istore_n (lv' := [(3, _), (2, _), (0, _), (1, _)]) rfl rfl (by decide) rfl ?_
        refine wp_loc (lv' := [(0, _), (1, _), (2, _), (3, _)]) [2, 3, 1, 0] rfl ?_
        exact hL1 _ nr 0 (by omega) rfl
      · refine wp_loc (lv' := [(0, _), (1, _), (2, _)]) [1, 2, 0] rfl ?_
        exfalso; rw [h4] at h20; exact h20 hsz
    · refine wp_loc (lv' := [(0, _), (1, _), (2, _)]) [1, 2, 0] rfl ?_
      exfalso; grind [b2]
  · exfalso; grind [b2]
theorem c_X10_poor_no (G : Gl) (d : Nat) (v : Int32) (I : IF) (L : LF) (b : Bool) (hno : ¬ ((0 ≤ v ∧ v ≤ 3) ∧ ¬ I (57 + 2 * v.toNatClampNeg) 2 = -1 ∧ I 1 4 ≤ I (57 + 2 * v.toNatClampNeg) 2)) : MD G (d + 2) Y_X10_poor [.ref 0, .int v] (I, L, RR b) (some (.int (if 0 ≤ v ∧ v ≤ 3 then (if I (57 + 2 * v.toNatClampNeg) 2 = -1 then -5 else -6) else -2))) (I, L, RR b) := by
  refine MT.intro m_X10_poor rfl (Nat.le_of_ble_eq_true rfl) ?_
  show WQ G (d + 2) Y_X10_poor _ 0 [(0, .ref 0), (1, .int v)] [] (I, L, RR b)
  refine wp_iload_n rfl rfl ?_
  refine cS1 rfl l_10_149 s_X10_isSlot m_X10_isSlot (c_X10_isSlot G _ _ _) rfl (Nat.le_of_ble_eq_true rfl) ?_
  refine wp_if_ne 5 rfl rfl (fun h2 => ?_) (fun h2 => ?_)
  · have hv := b2_ne.mp h2
    obtain ⟨s, hs, hvs, hcl⟩ := slot4 hv
    have ha := sh_row s hs
    refine wp_aload_n rfl rfl ?_
    refine q_getr rfl rfl (by first | rfl | assumption) rfl rfl ?_
    refine wp_iload_n rfl rfl ?_
    refine q_rowo rfl hvs hs ?_
    refine wp_astore_n (lv' := [(2, _), (0, _), (1, _)]) rfl rfl (by decide) rfl ?_
    refine wp_aload_n rfl rfl ?_
    refine cV1 rfl l_10_152 i_X6_isEmpty m_X6_isEmpty (by first | rfl | assumption) (by decide) (c_X6_isEmpty G _ _ _ _ _ ha) rfl (Nat.le_of_ble_eq_true rfl) ?_
    refine wp_if_eq 15 rfl rfl (fun h12 => ?_) (fun h12 => ?_)
    · refine wp_aload_n rfl rfl ?_
      refine q_geti rfl rfl (by first | rfl | assumption) rfl ?_
      refine wp_aload_n rfl rfl ?_
      refine q_getr rfl rfl (by first | rfl | assumption) rfl rfl ?_
      refine q_geti rfl rfl (by first | rfl | assumption) rfl ?_
      refine wp_icmp_ge 23 rfl rfl (fun h20 => ?_) (fun h20 => ?_)
      · refine wp_loc (lv' := [(0, _), (1, _), (2, _)]) [1, 2, 0] rfl ?_
        exfalso; grind [b2]
      · refine wp_bipush (v := (-6)) rfl rfl ?_
        exact wp_iret rfl rfl (⟨by grind [b2], rfl⟩)
    · refine wp_bipush (v := (-5)) rfl rfl ?_
      exact wp_iret rfl rfl (⟨by grind [b2], rfl⟩)
  · refine wp_bipush (v := (-2)) rfl rfl ?_
    exact wp_iret rfl rfl (⟨by grind [b2], rfl⟩)
theorem c_X11_poor_ok (G : Gl) (d : Nat) {s nr : Nat} (I : IF) (L : LF) (b : Bool) (hs : s < 4) (h7 : I 72 7 = nI nr) (hnr : nr ≤ 16) (hne : ¬ I 73 s < 0) (hsz : nI nr ≤ I 74 s) : MD G (d + 2) Y_X11_poor [.ref 72, .int (nI s)] (I, L, RR b) (some (.int (if pok (fun j => L 75 (60 * s + j)) (I 88) nr 0 = true then 0 else -4))) (if pok (fun j => L 75 (60 * s + j)) (I 88) nr 0 = true then pwA (fun a => (89, a)) (fun j => L 75 (60 * s + j)) (uI I 72 0 0) nr else uI I 72 0 0, L, RR b) := by
  have hs0 : (0 : Int32) ≤ nI s ∧ nI s ≤ 3 := ⟨nI_pos' (by omega), nI_le (b := 3) (by omega) (by omega)⟩
  have hin : vp_in (nI s) 4 := vp_in_nI hs (by omega)
  have hcls : (nI s).toNatClampNeg = s := nI_clamp (by omega)
  generalize hf : (fun j => L 75 (60 * s + j)) = f
  have hfa : ∀ j, L 75 (60 * s + j) = f j := fun j => by rw [← hf]
  have e0 : ∀ q j, q ≠ 72 → uI I 72 0 0 q j = I q j := fun q j hq => uI_ne hq
  have e7 : uI I 72 0 0 72 7 = nI nr := h7
  generalize hJ : uI I 72 0 0 = J at e0 e7
  have hL2 : ∀ (n i : Nat), i + n = nr → WQ G (d + 2) Y_X11_poor (fun r' w'' => r' = some (.int 0) ∧ w'' = (pwA (fun a => (89, a)) f J nr, L, RR b)) 52 [(0, .ref 72), (1, .int (nI s)), (2, .int (nI i))] [] (pwA (fun a => (89, a)) f J i, L, RR b) := by
    have h14 : ∀ i, pwA (fun a => (89, a)) f J i 72 7 = nI nr := by
      intro i
      induction i with
      | zero => exact e7
      | succ i ih => simp only [pwA]; rw [uI_ne (by decide)]; exact ih
    intro n
    induction n with
    | zero =>
      intro i hi
      have hie : i = nr := by omega
      subst hie
      have hge : pwA (fun a => (89, a)) f J i 72 7 ≤ nI i := by rw [h14 i]; exact nI_le (Nat.le_refl _) (by omega)
      refine wp_iload_n rfl rfl ?_
      refine wp_aload_n rfl rfl ?_
      refine q_geti rfl rfl (by first | rfl | assumption) rfl ?_
      refine wp_icmp_ge 71 rfl rfl (fun _ => ?_) (fun h55 => absurd hge h55)
      refine wp_iconst (v := 0) rfl rfl ?_
      exact wp_iret rfl rfl (⟨rfl, rfl⟩)
    | succ n ih =>
      intro i hi
      have hlt : ¬ pwA (fun a => (89, a)) f J i 72 7 ≤ nI i := by rw [h14 i]; exact nI_ge (by omega) (by omega)
      have hcl : (nI i).toNatClampNeg = i := nI_clamp (by omega)
      have h60 := ix60 hs (show i < 60 by omega)
      refine wp_iload_n rfl rfl ?_
      refine wp_aload_n rfl rfl ?_
      refine q_geti rfl rfl (by first | rfl | assumption) rfl ?_
      refine wp_icmp_ge 71 rfl rfl (fun h55 => absurd h55 hlt) (fun _ => ?_)
      refine wp_aload_n rfl rfl ?_
      refine q_getr rfl rfl (by first | rfl | assumption) rfl rfl ?_
      refine wp_iload_n rfl rfl ?_
      refine wp_aload_n rfl rfl ?_
      refine q_getr rfl rfl (by first | rfl | assumption) rfl rfl ?_
      refine wp_bipush (v := 60) rfl rfl ?_
      refine wp_iload_n rfl rfl ?_
      refine wp_imul rfl ?_
      refine wp_iload_n rfl rfl ?_
      refine wp_iadd rfl ?_
      refine q_lald rfl (by first | rfl | assumption) h60.2.1 ?_
      refine wp_l2i rfl ?_
      refine q_iast rfl (by first | rfl | assumption) (vp_in_nI (by omega) (by omega)) ?_
      refine wp_iinc (v := nI (i + 1)) (lv' := [(2, _), (0, _), (1, _)]) rfl rfl (nI_1 i) (by decide) rfl ?_
      refine wp_goto 52 rfl rfl ?_
      refine wp_loc (lv' := [(0, _), (1, _), (2, _)]) [1, 2, 0] rfl ?_
      rw [h60.2.2, hcl, hfa]
      exact ih (i + 1) (by omega)
  have hL1 : ∀ (t : Bool) (n i : Nat), i + n = nr → pok f (I 88) n i = t → WQ G (d + 2) Y_X11_poor (fun r' w'' => r' = some (.int (if t = true then 0 else -4)) ∧ w'' = (if t = true then pwA (fun a => (89, a)) f J nr else J, L, RR b)) 26 [(0, .ref 72), (1, .int (nI s)), (2, .int (nI i))] [] (J, L, RR b) := by
    intro t n
    induction n with
    | zero =>
      intro i hi ht
      simp only [pok] at ht
      subst ht
      have hge : J 72 7 ≤ nI i := by rw [e7]; exact nI_le (by omega) (by omega)
      refine wp_iload_n rfl rfl ?_
      refine wp_aload_n rfl rfl ?_
      refine q_geti rfl rfl (by first | rfl | assumption) rfl ?_
      refine wp_icmp_ge 50 rfl rfl (fun _ => ?_) (fun h29 => absurd hge h29)
      refine wp_iconst (v := 0) rfl rfl ?_
      refine wp_istore_n (lv' := [(2, _), (0, _), (1, _)]) rfl rfl (by decide) rfl ?_
      refine wp_loc (lv' := [(0, _), (1, _), (2, _)]) [1, 2, 0] rfl ?_
      exact hL2 nr 0 (by omega)
    | succ n ih =>
      intro i hi ht
      simp only [pok] at ht
      have hlt : ¬ J 72 7 ≤ nI i := by rw [e7]; exact nI_ge (by omega) (by omega)
      have hcl : (nI i).toNatClampNeg = i := nI_clamp (by omega)
      have h60 := ix60 hs (show i < 60 by omega)
      refine wp_iload_n rfl rfl ?_
      refine wp_aload_n rfl rfl ?_
      refine q_geti rfl rfl (by first | rfl | assumption) rfl ?_
      refine wp_icmp_ge 50 rfl rfl (fun h29 => absurd h29 hlt) (fun _ => ?_)
      refine wp_aload_n rfl rfl ?_
      refine q_getr rfl rfl (by first | rfl | assumption) rfl rfl ?_
      refine wp_bipush (v := 60) rfl rfl ?_
      refine wp_iload_n rfl rfl ?_
      refine wp_imul rfl ?_
      refine wp_iload_n rfl rfl ?_
      refine wp_iadd rfl ?_
      refine q_lald rfl (by first | rfl | assumption) h60.2.1 ?_
      refine wp_lconst (v := 0) rfl rfl ?_
      refine wp_aload_n rfl rfl ?_
      refine q_getr rfl rfl (by first | rfl | assumption) rfl rfl ?_
      refine wp_iload_n rfl rfl ?_
      refine q_iald rfl (by first | rfl | assumption) (vp_in_nI (by omega) (by omega)) ?_
      refine wp_i2l rfl ?_
      refine cS1 rfl l_11_119 s_X11_in m_X11_in (c_in G _ _ _ _ _) rfl (Nat.le_of_ble_eq_true rfl) ?_
      refine wp_if_ne 48 rfl rfl (fun h45 => ?_) (fun h45 => ?_)
      · refine wp_iinc (v := nI (i + 1)) (lv' := [(2, _), (0, _), (1, _)]) rfl rfl (nI_1 i) (by decide) rfl ?_
        refine wp_goto 26 rfl rfl ?_
        refine wp_loc (lv' := [(0, _), (1, _), (2, _)]) [1, 2, 0] rfl ?_
        refine ih (i + 1) (by omega) ?_
        rw [h60.2.2, hcl, e0 88 _ (by decide), hfa] at h45
        rw [← ht]
        simp [b2_ne.mp h45]
      · rw [h60.2.2, hcl, e0 88 _ (by decide), hfa] at h45
        have htf : t = false := by
          rw [← ht]
          simp [b2_eq.mp h45]
        subst htf
        refine wp_bipush (v := (-4)) rfl rfl ?_
        exact wp_iret rfl rfl ⟨rfl, rfl⟩
  refine MT.intro m_X11_poor rfl (Nat.le_of_ble_eq_true rfl) ?_
  show WQ G (d + 2) Y_X11_poor _ 0 [(0, .ref 72), (1, .int (nI s))] [] (I, L, RR b)
  refine wp_aload_n rfl rfl ?_
  refine wp_iconst (v := 0) rfl rfl ?_
  refine q_puti rfl rfl (by first | rfl | assumption) (Or.inl rfl) rfl ?_
  rw [hJ]
  refine wp_iload_n rfl rfl ?_
  refine cS1 rfl l_11_123 s_X11_isSlot m_X11_isSlot (c_X11_isSlot G _ _ _) rfl (Nat.le_of_ble_eq_true rfl) ?_
  refine wp_if_ne 8 rfl rfl (fun h5 => ?_) (fun h5 => ?_)
  · refine wp_aload_n rfl rfl ?_
    refine q_getr rfl rfl (by first | rfl | assumption) rfl rfl ?_
    refine wp_iload_n rfl rfl ?_
    refine q_iald rfl (by first | rfl | assumption) (by assumption) ?_
    refine wp_if_ge 15 rfl rfl (fun h12 => ?_) (fun h12 => ?_)
    · refine wp_aload_n rfl rfl ?_
      refine q_getr rfl rfl (by first | rfl | assumption) rfl rfl ?_
      refine wp_iload_n rfl rfl ?_
      refine q_iald rfl (by first | rfl | assumption) (by assumption) ?_
      refine wp_aload_n rfl rfl ?_
      refine q_geti rfl rfl (by first | rfl | assumption) rfl ?_
      refine wp_icmp_ge 24 rfl rfl (fun h21 => ?_) (fun h21 => ?_)
      · refine wp_iconst (v := 0) rfl rfl ?_
        refine wp_istore_n (lv' := [(2, _), (0, _), (1, _)]) rfl rfl (by decide) rfl ?_
        refine wp_loc (lv' := [(0, _), (1, _), (2, _)]) [1, 2, 0] rfl ?_
        exact hL1 _ nr 0 (by omega) rfl
      · exfalso; rw [hcls, e0 74 _ (by decide), e7] at h21; exact h21 hsz
    · exfalso; rw [hcls, e0 73 _ (by decide)] at h12; grind
  · exfalso; grind [b2]
theorem c_X11_poor_no (G : Gl) (d : Nat) (v : Int32) (I : IF) (L : LF) (b : Bool) (hno : ¬ ((0 ≤ v ∧ v ≤ 3) ∧ ¬ I 73 v.toNatClampNeg < 0 ∧ I 72 7 ≤ I 74 v.toNatClampNeg)) : MD G (d + 2) Y_X11_poor [.ref 72, .int v] (I, L, RR b) (some (.int (if 0 ≤ v ∧ v ≤ 3 then (if I 73 v.toNatClampNeg < 0 then -5 else -6) else -2))) (uI I 72 0 0, L, RR b) := by
  have e7 : uI I 72 0 0 72 7 = I 72 7 := rfl
  refine MT.intro m_X11_poor rfl (Nat.le_of_ble_eq_true rfl) ?_
  show WQ G (d + 2) Y_X11_poor _ 0 [(0, .ref 72), (1, .int v)] [] (I, L, RR b)
  refine wp_aload_n rfl rfl ?_
  refine wp_iconst (v := 0) rfl rfl ?_
  refine q_puti rfl rfl (by first | rfl | assumption) (Or.inl rfl) rfl ?_
  refine wp_iload_n rfl rfl ?_
  refine cS1 rfl l_11_123 s_X11_isSlot m_X11_isSlot (c_X11_isSlot G _ _ _) rfl (Nat.le_of_ble_eq_true rfl) ?_
  refine wp_if_ne 8 rfl rfl (fun h5 => ?_) (fun h5 => ?_)
  · have hv := b2_ne.mp h5
    obtain ⟨s, hs, hvs, hcl⟩ := slot4 hv
    have hin : vp_in v 4 := by rw [hvs]; exact vp_in_nI hs (by omega)
    refine wp_aload_n rfl rfl ?_
    refine q_getr rfl rfl (by first | rfl | assumption) rfl rfl ?_
    refine wp_iload_n rfl rfl ?_
    refine q_iald rfl (by first | rfl | assumption) (by assumption) ?_
    refine wp_if_ge 15 rfl rfl (fun h12 => ?_) (fun h12 => ?_)
    · refine wp_aload_n rfl rfl ?_
      refine q_getr rfl rfl (by first | rfl | assumption) rfl rfl ?_
      refine wp_iload_n rfl rfl ?_
      refine q_iald rfl (by first | rfl | assumption) (by assumption) ?_
      refine wp_aload_n rfl rfl ?_
      refine q_geti rfl rfl (by first | rfl | assumption) rfl ?_
      refine wp_icmp_ge 24 rfl rfl (fun h21 => ?_) (fun h21 => ?_)
      · exfalso; simp (disch := omega) only [uI_ne, uI_nk] at *; grind [b2]
      · refine wp_bipush (v := (-6)) rfl rfl ?_
        exact wp_iret rfl rfl (⟨by (try simp (disch := omega) only [uI_ne, uI_nk] at *); grind [b2], rfl⟩)
    · refine wp_bipush (v := (-5)) rfl rfl ?_
      exact wp_iret rfl rfl (⟨by (try simp (disch := omega) only [uI_ne, uI_nk] at *); grind [b2], rfl⟩)
  · refine wp_bipush (v := (-2)) rfl rfl ?_
    exact wp_iret rfl rfl (⟨by (try simp (disch := omega) only [uI_ne, uI_nk] at *); grind [b2], rfl⟩)
theorem pwA_c {f : Nat → Int64} {I : IF} : ∀ (n a : Nat), (a < n → pwA (fun a => (18 + a, 3)) f I n (18 + a) 3 = (f a).toInt32) ∧ (n ≤ a → pwA (fun a => (18 + a, 3)) f I n (18 + a) 3 = I (18 + a) 3) ∧ (∀ k, k ≠ 3 → pwA (fun a => (18 + a, 3)) f I n (18 + a) k = I (18 + a) k)
  | 0, a => ⟨fun h => absurd h (by omega), fun _ => rfl, fun _ _ => rfl⟩
  | n + 1, a => by
    have ih := pwA_c (f := f) (I := I) n a
    simp only [pwA]
    by_cases e : a = n
    · subst e
      exact ⟨fun _ => uI_eq, fun h => absurd h (by omega), fun k hk => by rw [uI_nk hk]; exact ih.2.2 k hk⟩
    · refine ⟨fun h => ?_, fun h => ?_, fun k hk => ?_⟩
      · rw [uI_ne (by omega)]; exact ih.1 (by omega)
      · rw [uI_ne (by omega)]; exact ih.2.1 (by omega)
      · rw [uI_ne (by omega)]; exact ih.2.2 k hk
theorem pwA_o {f : Nat → Int64} {I : IF} : ∀ (n q : Nat), (q < 18 ∨ 18 + n ≤ q) → pwA (fun a => (18 + a, 3)) f I n q = I q
  | 0, _, _ => rfl
  | n + 1, q, h => by
    simp only [pwA]
    rw [uI_fn (by omega)]
    exact pwA_o n q (by omega)
theorem pwA_m {f : Nat → Int64} {I : IF} : ∀ (n a : Nat), (a < n → pwA (fun a => (89, a)) f I n 89 a = (f a).toInt32) ∧ (n ≤ a → pwA (fun a => (89, a)) f I n 89 a = I 89 a)
  | 0, a => ⟨fun h => absurd h (by omega), fun _ => rfl⟩
  | n + 1, a => by
    have ih := pwA_m (f := f) (I := I) n a
    simp only [pwA]
    by_cases e : a = n
    · subst e
      exact ⟨fun _ => uI_eq, fun h => absurd h (by omega)⟩
    · rw [uI_nk e]
      exact ⟨fun h => ih.1 (by omega), fun h => ih.2 (by omega)⟩
theorem pwA_mo {f : Nat → Int64} {I : IF} : ∀ (n q : Nat), q ≠ 89 → pwA (fun a => (89, a)) f I n q = I q
  | 0, _, _ => rfl
  | n + 1, q, h => by
    simp only [pwA]
    rw [uI_fn h]
    exact pwA_mo n q h
theorem IV_poor {nm na nr : Nat} {I J : IF} {L : LF} (h : IV nm na nr I L) (v : Nat → Int32) (h3 : ∀ a, a < 16 → J (18 + a) 3 = v a ∧ J 89 a = v a) (hk : ∀ a k, a < 16 → k ≠ 3 → J (18 + a) k = I (18 + a) k) (ho : ∀ q, (q < 18 ∨ 34 ≤ q) → q ≠ 89 → q ≠ 72 → J q = I q) (h72 : ∀ k, k ≠ 0 → J 72 k = I 72 k) : IV nm na nr J L ∧ LSm I J := by
  obtain ⟨a1, a2, a3, a4, a5, a6, a7, a8, a9, a10, a11⟩ := id h
  refine ⟨⟨?_, ?_, ?_, ?_, ?_, ?_, ?_, ?_, ?_, ?_, ?_⟩, ?_, ?_⟩
  · unfold IVc at a1 ⊢; simp (disch := omega) only [ho, h72]; exact a1
  · unfold IVs at a2 ⊢; simp (disch := omega) only [ho, h72]; exact a2
  · intro k hk; simp (disch := omega) only [ho]; exact a3 k hk
  · intro k hk; simp (disch := omega) only [ho]; exact a4 k hk
  · intro k hk; have := a1.1.2.2; simp (disch := omega) only [ho]; exact a5 k hk
  · intro k hk; simp (disch := omega) only [ho]; exact a6 k hk
  · intro k hk; simp (disch := omega) only [ho]; exact a7 k hk
  · intro a ha
    have z := a8 a ha
    rw [(h3 a ha).1, (h3 a ha).2]
    simp (disch := omega) only [ho, hk]
    exact ⟨⟨z.1.1, z.1.2.1, z.1.2.2.1, trivial, z.1.2.2.2.2⟩, z.2⟩
  · intro a ha; simp (disch := omega) only [ho, hk]; exact a9 a ha
  · unfold IVt at a10 ⊢; simp (disch := omega) only [ho, h72]; exact a10
  · intro k hk; simp (disch := omega) only [ho]; exact a11 k hk
  · intro q hq; exact ho q (by omega) (by omega) (by omega)
  · exact h72 12 (by decide)
theorem s_poor {G : Gl} {d : Nat} {I : IF} {L : LF} {b : Bool} (v : Int32) (h : InvA I L) : StepA G (d + 2) Y_X10_poor Y_X11_poor [.int v] I L b := by
  obtain ⟨nm, na, nr, h⟩ := h
  have a11 := h.2.2.2.2.2.2.2.2.2.2
  have a8 := h.2.2.2.2.2.2.2.1
  obtain ⟨n4, n7, hnr⟩ := h.1.2.2
  by_cases hok : (0 ≤ v ∧ v ≤ 3) ∧ ¬ I (57 + 2 * v.toNatClampNeg) 2 = -1 ∧ I 1 4 ≤ I (57 + 2 * v.toNatClampNeg) 2
  · obtain ⟨hv, hne, hsz⟩ := hok
    obtain ⟨s, hs, rfl, hcl⟩ := slot4 hv
    rw [hcl] at hne hsz
    have z := a11 s hs
    have z2 := z.2.resolve_left (fun q => hne q.1)
    rw [n4] at hsz
    have c1 := c_X10_poor_ok G d I L b hs n4 hnr hne hsz
    have hpk : pok (fun j => L 75 (60 * s + j)) (I 88) nr 0 = pok (L (58 + 2 * s)) (fun a => I (18 + a) 2) nr 0 := pok_cg nr 0 (fun j _ hj => ⟨z.1 j (by omega), (a8 j (by omega)).1.2.2.1⟩)
    by_cases hp : pok (L (58 + 2 * s)) (fun a => I (18 + a) 2) nr 0 = true
    · rw [if_pos hp, if_pos hp] at c1
      generalize hJ : pwA (fun a => (18 + a, 3)) (L (58 + 2 * s)) I nr = J at c1
      have j0 : ∀ q, 34 ≤ q → J q = I q := fun q hq => by rw [← hJ]; exact pwA_o nr q (by omega)
      have j1 : ∀ q, q < 18 → J q = I q := fun q hq => by rw [← hJ]; exact pwA_o nr q (by omega)
      have jc : ∀ a, (a < nr → J (18 + a) 3 = (L (58 + 2 * s) a).toInt32) ∧ (nr ≤ a → J (18 + a) 3 = I (18 + a) 3) ∧ (∀ k, k ≠ 3 → J (18 + a) k = I (18 + a) k) := fun a => by rw [← hJ]; exact pwA_c nr a
      have c2 := c_X11_poor_ok G d (s := s) (nr := nr) J L b hs (by rw [j0 72 (by omega)]; exact n7) hnr (by rw [j0 73 (by omega)]; grind) (by rw [j0 74 (by omega), z2.2.1]; exact hsz)
      rw [j0 88 (by omega), hpk, if_pos hp, if_pos hp] at c2
      have g0 : ∀ q, q ≠ 89 → pwA (fun a => (89, a)) (fun j => L 75 (60 * s + j)) (uI J 72 0 0) nr q = uI J 72 0 0 q := fun q hq => pwA_mo nr q hq
      have gm : ∀ a, (a < nr → pwA (fun a => (89, a)) (fun j => L 75 (60 * s + j)) (uI J 72 0 0) nr 89 a = (L 75 (60 * s + a)).toInt32) ∧ (nr ≤ a → pwA (fun a => (89, a)) (fun j => L 75 (60 * s + j)) (uI J 72 0 0) nr 89 a = uI J 72 0 0 89 a) := fun a => pwA_m nr a
      generalize pwA (fun a => (89, a)) (fun j => L 75 (60 * s + j)) (uI J 72 0 0) nr = J2 at c2 g0 gm
      have g1 : ∀ q, q ≠ 89 → q ≠ 72 → J2 q = J q := fun q h1 h2 => (g0 q h1).trans (uI_fn h2)
      have key := IV_poor (J := J2) h (fun a => J (18 + a) 3) (fun a ha => by
          refine ⟨by rw [g1 _ (by omega) (by omega)], ?_⟩
          by_cases e : a < nr
          · rw [(gm a).1 e, (jc a).1 e, z.1 a (by omega)]
          · rw [(gm a).2 (by omega), (jc a).2.1 (by omega), uI_ne (by decide), j0 89 (by omega)]
            exact (a8 a ha).1.2.2.2.1)
        (fun a k ha hk => by rw [g1 _ (by omega) (by omega)]; exact (jc a).2.2 k hk)
        (fun q h1 h2 h3 => by
          rw [g1 q h2 h3]
          rcases h1 with h1 | h1
          · exact j1 q h1
          · exact j0 q h1)
        (fun k hk => by rw [g0 72 (by decide), uI_nk hk, j0 72 (by omega)])
      exact ⟨_, _, _, _, _, c1, c2, ⟨nm, na, nr, key.1⟩, key.2⟩
    · rw [if_neg hp, if_neg hp] at c1
      have c2 := c_X11_poor_ok G d (s := s) (nr := nr) I L b hs n7 hnr (by grind) (by rw [z2.2.1]; exact hsz)
      rw [hpk, if_neg hp, if_neg hp] at c2
      exact StepA.query h c1 c2
  · refine StepA.query h (c_X10_poor_no G d v I L b hok) ?_
    have hok2 : ¬ ((0 ≤ v ∧ v ≤ 3) ∧ ¬ I 73 v.toNatClampNeg < 0 ∧ I 72 7 ≤ I 74 v.toNatClampNeg) := by
      intro ⟨hv, h0, h1⟩
      obtain ⟨s, hs, hvs, hcl⟩ := slot4 hv
      rw [hcl] at h0 h1 hok
      rw [n7] at h1
      rw [n4] at hok
      have z := a11 s hs
      grind
    have c2 := c_X11_poor_no G d v I L b hok2
    have e : (if 0 ≤ v ∧ v ≤ 3 then (if I 73 v.toNatClampNeg < 0 then -5 else -6) else (-2 : Int32)) = (if 0 ≤ v ∧ v ≤ 3 then (if I (57 + 2 * v.toNatClampNeg) 2 = -1 then -5 else -6) else -2) := by
      by_cases hv : 0 ≤ v ∧ v ≤ 3
      · obtain ⟨s, hs, hvs, hcl⟩ := slot4 hv
        rw [if_pos hv, if_pos hv, hcl]
        have z := a11 s hs
        grind
      · rw [if_neg hv, if_neg hv]
    rw [e] at c2
    exact c2
end
section
/-! feed -/
def byt (x : Int32) (i : Nat) : Int32 := (x >>> (nI (24 - 8 * i) &&& 31)).toInt8.toInt32
def apW (J : IF) (t : Nat) (x : Int32) : IF := uI (uI (uI (uI (uI (uI (uI (uI J 45 t (byt x 0)) 44 1 (nI (t + 1))) 45 (t + 1) (byt x 1)) 44 1 (nI (t + 2))) 45 (t + 2) (byt x 2)) 44 1 (nI (t + 3))) 45 (t + 3) (byt x 3)) 44 1 (nI (t + 4))
theorem c_X7_append (G : Gl) (d : Nat) {t : Nat} (x : Int32) (I : IF) (L : LF) (b : Bool) (h : I 44 1 = nI t) (ht : t + 4 ≤ 300) : MD G (d + 1) Y_X7_append [.ref 44, .int x] (I, L, RR b) none (apW I t x, L, RR b) := by
  generalize hW : apW I t x = W
  have step : ∀ (i : Nat) (J : IF) (u : Nat), i < 4 → J 44 1 = nI u → u < 300 → WQ G (d + 1) Y_X7_append (fun r' w'' => r' = none ∧ w'' = (W, L, RR b)) 7 [(0, .ref 44), (1, .int x), (2, .int (nI (24 - 8 * i) + Int32.ofInt (-8)))] [] (uI (uI J 45 u (byt x i)) 44 1 (nI (u + 1)), L, RR b) → WQ G (d + 1) Y_X7_append (fun r' w'' => r' = none ∧ w'' = (W, L, RR b)) 7 [(0, .ref 44), (1, .int x), (2, .int (nI (24 - 8 * i)))] [] (J, L, RR b) := by
    intro i J u hi hu hu3 K
    have hin : vp_in (J 44 1) 300 := by rw [hu]; exact vp_in_nI hu3 (by omega)
    have hcl : (nI u).toNatClampNeg = u := nI_clamp (by omega)
    have hge : ¬ nI (24 - 8 * i) < 0 := nI_pos (by omega)
    have e2 : ∀ v, uI J 45 u v 44 1 = nI u := fun v => by rw [uI_ne (by decide)]; exact hu
    refine wp_iload_n rfl rfl ?_
    refine wp_if_lt 26 rfl rfl (fun h8 => absurd h8 hge) (fun _ => ?_)
    refine wp_aload_n rfl rfl ?_
    refine q_getr rfl rfl (by first | rfl | assumption) rfl rfl ?_
    refine wp_aload_n rfl rfl ?_
    refine q_geti rfl rfl (by first | rfl | assumption) rfl ?_
    refine wp_iload_n rfl rfl ?_
    refine wp_iload_n rfl rfl ?_
    refine wp_ishr rfl ?_
    refine wp_i2b rfl ?_
    refine q_bast rfl (by first | rfl | assumption) (by assumption) ?_
    refine wp_aload_n rfl rfl ?_
    refine wp_dup rfl rfl ?_
    refine q_geti rfl rfl (by first | rfl | assumption) rfl ?_
    refine wp_iconst (v := 1) rfl rfl ?_
    refine wp_iadd rfl ?_
    refine q_puti rfl rfl (by first | rfl | assumption) (Or.inl rfl) rfl ?_
    refine wp_iinc (lv' := [(2, _), (0, _), (1, _)]) rfl rfl rfl (by decide) rfl ?_
    refine wp_goto 7 rfl rfl ?_
    refine wp_loc (lv' := [(0, _), (1, _), (2, _)]) [1, 2, 0] rfl ?_
    rw [hu, hcl, pk_vb, e2, nI_1]
    exact K
  have fin : WQ G (d + 1) Y_X7_append (fun r' w'' => r' = none ∧ w'' = (W, L, RR b)) 7 [(0, .ref 44), (1, .int x), (2, .int (nI (24 - 8 * 3) + Int32.ofInt (-8)))] [] (W, L, RR b) := by
    refine wp_iload_n rfl rfl ?_
    refine wp_if_lt 26 rfl rfl (fun _ => ?_) (fun h8 => absurd (show nI (24 - 8 * 3) + Int32.ofInt (-8) < 0 by decide) h8)
    exact wp_vret rfl rfl (⟨rfl, rfl⟩)
  refine MT.intro m_X7_append rfl (Nat.le_of_ble_eq_true rfl) ?_
  show WQ G (d + 1) Y_X7_append _ 0 [(0, .ref 44), (1, .int x)] [] (I, L, RR b)
  refine wp_aload_n rfl rfl ?_
  refine wp_iconst (v := 1) rfl rfl ?_
  refine cV1 rfl l_7_19 i_X7_hasRoomFor m_X7_hasRoomFor (by first | rfl | assumption) (by decide) (c_X7_hasRoomFor G _ _ _ _ _) rfl (Nat.le_of_ble_eq_true rfl) ?_
  refine wp_if_ne 5 rfl rfl (fun h3 => ?_) (fun h3 => ?_)
  · refine wp_bipush (v := 24) rfl rfl ?_
    refine wp_istore_n (lv' := [(2, _), (0, _), (1, _)]) rfl rfl (by decide) rfl ?_
    refine wp_loc (lv' := [(0, _), (1, _), (2, _)]) [1, 2, 0] rfl ?_
    refine step 0 _ t (by omega) h (by omega) ?_
    refine step 1 _ (t + 1) (by omega) uI_eq (by omega) ?_
    refine step 2 _ (t + 2) (by omega) uI_eq (by omega) ?_
    refine step 3 _ (t + 3) (by omega) uI_eq (by omega) ?_
    have e : uI (uI (uI (uI (uI (uI (uI (uI I 45 t (byt x 0)) 44 1 (nI (t + 1))) 45 (t + 1) (byt x 1)) 44 1 (nI (t + 1 + 1))) 45 (t + 2) (byt x 2)) 44 1 (nI (t + 2 + 1))) 45 (t + 3) (byt x 3)) 44 1 (nI (t + 3 + 1)) = W := hW
    rw [e]
    exact fin
  · exfalso
    have h3' := b2_eq.mp h3
    rw [h] at h3'
    have : nI t + 4 * 1 ≤ 300 := by rw [show (4 : Int32) * 1 = nI 4 from rfl, nI_add]; exact nI_le (b := 300) (by omega) (by omega)
    exact h3' this
theorem apW_s {J : IF} {t : Nat} {x : Int32} : (apW J t x 44 1 = nI (t + 4)) ∧ (∀ k, k ≠ 1 → apW J t x 44 k = J 44 k) ∧ (∀ q, q ≠ 44 → q ≠ 45 → apW J t x q = J q) ∧ (∀ j, apW J t x 45 j = if t ≤ j ∧ j < t + 4 then byt x (j - t) else J 45 j) := by
  refine ⟨uI_eq, fun k hk => ?_, fun q h1 h2 => ?_, fun j => ?_⟩
  · unfold apW; simp (disch := omega) only [uI_ne, uI_nk]
  · unfold apW; rw [uI_fn h1, uI_fn h2, uI_fn h1, uI_fn h2, uI_fn h1, uI_fn h2, uI_fn h1, uI_fn h2]
  · unfold apW
    by_cases e : t ≤ j ∧ j < t + 4
    · rw [if_pos e]
      rcases (show j = t ∨ j = t + 1 ∨ j = t + 2 ∨ j = t + 3 by omega) with rfl | rfl | rfl | rfl
      · simp (disch := omega) only [uI_ne, uI_nk, uI_eq]; rw [Nat.sub_self]
      · simp (disch := omega) only [uI_ne, uI_nk, uI_eq]; rw [show t + 1 - t = 1 by omega]
      · simp (disch := omega) only [uI_ne, uI_nk, uI_eq]; rw [show t + 2 - t = 2 by omega]
      · simp (disch := omega) only [uI_ne, uI_nk, uI_eq]; rw [show t + 3 - t = 3 by omega]
    · rw [if_neg e]
      simp (disch := omega) only [uI_ne, uI_nk]
theorem c_X10_feed_ok (G : Gl) (d : Nat) {t : Nat} (x1 x2 x3 x4 x5 : Int32) (I : IF) (L : LF) (b : Bool) (h : I 44 1 = nI t) (ht : t + 20 ≤ 300) : MD G (d + 2) Y_X10_feed [.ref 0, .int x1, .int x2, .int x3, .int x4, .int x5] (I, L, RR b) (some (.int (nI (t + 20)))) (apW (apW (apW (apW (apW I t x1) (t + 4) x2) (t + 8) x3) (t + 12) x4) (t + 16) x5, L, RR b) := by
  have hle : I 44 1 + 4 * 5 ≤ 300 := by rw [h, show (4 : Int32) * 5 = nI 20 from rfl, nI_add]; exact nI_le (b := 300) (by omega) (by omega)
  refine MT.intro m_X10_feed rfl (Nat.le_of_ble_eq_true rfl) ?_
  show WQ G (d + 2) Y_X10_feed _ 0 [(0, .ref 0), (1, .int x1), (2, .int x2), (3, .int x3), (4, .int x4), (5, .int x5)] [] (I, L, RR b)
  refine wp_aload_n rfl rfl ?_
  refine q_getr rfl rfl (by first | rfl | assumption) rfl rfl ?_
  refine wp_iconst (v := 5) rfl rfl ?_
  refine cV1 rfl l_10_200 i_X7_hasRoomFor m_X7_hasRoomFor (by first | rfl | assumption) (by decide) (c_X7_hasRoomFor G _ _ _ _ _) rfl (Nat.le_of_ble_eq_true rfl) ?_
  refine wp_if_ne 7 rfl rfl (fun h4 => ?_) (fun h4 => ?_)
  · refine wp_aload_n rfl rfl ?_
    refine q_getr rfl rfl (by first | rfl | assumption) rfl rfl ?_
    refine wp_iload_n rfl rfl ?_
    refine cV0 rfl l_10_203 i_X7_append m_X7_append (by first | rfl | assumption) (by decide) (c_X7_append G _ (t := t) _ _ _ _ h (by omega)) rfl (Nat.le_of_ble_eq_true rfl) ?_
    refine wp_aload_n rfl rfl ?_
    refine q_getr rfl rfl (by first | rfl | assumption) rfl rfl ?_
    refine wp_iload_n rfl rfl ?_
    refine cV0 rfl l_10_203 i_X7_append m_X7_append (by first | rfl | assumption) (by decide) (c_X7_append G _ (t := t + 4) _ _ _ _ apW_s.1 (by omega)) rfl (Nat.le_of_ble_eq_true rfl) ?_
    refine wp_aload_n rfl rfl ?_
    refine q_getr rfl rfl (by first | rfl | assumption) rfl rfl ?_
    refine wp_iload_n rfl rfl ?_
    refine cV0 rfl l_10_203 i_X7_append m_X7_append (by first | rfl | assumption) (by decide) (c_X7_append G _ (t := t + 8) _ _ _ _ apW_s.1 (by omega)) rfl (Nat.le_of_ble_eq_true rfl) ?_
    refine wp_aload_n rfl rfl ?_
    refine q_getr rfl rfl (by first | rfl | assumption) rfl rfl ?_
    refine wp_iload rfl rfl ?_
    refine cV0 rfl l_10_203 i_X7_append m_X7_append (by first | rfl | assumption) (by decide) (c_X7_append G _ (t := t + 12) _ _ _ _ apW_s.1 (by omega)) rfl (Nat.le_of_ble_eq_true rfl) ?_
    refine wp_aload_n rfl rfl ?_
    refine q_getr rfl rfl (by first | rfl | assumption) rfl rfl ?_
    refine wp_iload rfl rfl ?_
    refine cV0 rfl l_10_203 i_X7_append m_X7_append (by first | rfl | assumption) (by decide) (c_X7_append G _ (t := t + 16) _ _ _ _ apW_s.1 (by omega)) rfl (Nat.le_of_ble_eq_true rfl) ?_
    refine wp_aload_n rfl rfl ?_
    refine q_getr rfl rfl (by first | rfl | assumption) rfl rfl ?_
    refine q_geti rfl rfl (by first | rfl | assumption) rfl ?_
    exact wp_iret rfl rfl (⟨by rw [apW_s.1], rfl⟩)
  · exfalso; exact (b2_eq.mp h4) hle
theorem c_X10_feed_no (G : Gl) (d : Nat) (x1 x2 x3 x4 x5 : Int32) (I : IF) (L : LF) (b : Bool) (hno : ¬ I 44 1 + 4 * 5 ≤ 300) : MD G (d + 2) Y_X10_feed [.ref 0, .int x1, .int x2, .int x3, .int x4, .int x5] (I, L, RR b) (some (.int (-1))) (I, L, RR b) := by
  refine MT.intro m_X10_feed rfl (Nat.le_of_ble_eq_true rfl) ?_
  show WQ G (d + 2) Y_X10_feed _ 0 [(0, .ref 0), (1, .int x1), (2, .int x2), (3, .int x3), (4, .int x4), (5, .int x5)] [] (I, L, RR b)
  refine wp_aload_n rfl rfl ?_
  refine q_getr rfl rfl (by first | rfl | assumption) rfl rfl ?_
  refine wp_iconst (v := 5) rfl rfl ?_
  refine cV1 rfl l_10_200 i_X7_hasRoomFor m_X7_hasRoomFor (by first | rfl | assumption) (by decide) (c_X7_hasRoomFor G _ _ _ _ _) rfl (Nat.le_of_ble_eq_true rfl) ?_
  refine wp_if_ne 7 rfl rfl (fun h4 => ?_) (fun h4 => ?_)
  · exfalso; exact hno (b2_ne.mp h4)
  · refine wp_iconst (v := (-1)) rfl rfl ?_
    exact wp_iret rfl rfl (⟨rfl, rfl⟩)
/-- bytes behind each other -/
def wrA (t : Nat) (f : Nat → Int32) (I : IF) : Nat → IF
  | 0 => I
  | n + 1 => uI (wrA t f I n) 96 (t + n) (f n)
theorem wrA_o {t : Nat} {f : Nat → Int32} {I : IF} : ∀ (n q : Nat), q ≠ 96 → wrA t f I n q = I q
  | 0, _, _ => rfl
  | n + 1, q, h => by simp only [wrA]; rw [uI_fn h]; exact wrA_o n q h
theorem wrA_a {t : Nat} {f : Nat → Int32} {I : IF} : ∀ (n j : Nat), wrA t f I n 96 j = if t ≤ j ∧ j < t + n then f (j - t) else I 96 j
  | 0, j => by rw [if_neg (by omega)]; rfl
  | n + 1, j => by
    simp only [wrA]
    by_cases e : j = t + n
    · subst e; rw [uI_eq, if_pos (by omega), Nat.add_sub_cancel_left]
    · rw [uI_nk e, wrA_a n j]
      by_cases e2 : t ≤ j ∧ j < t + n
      · rw [if_pos e2, if_pos (by omega)]
      · rw [if_neg e2, if_neg (by omega)]
def arg5 (x1 x2 x3 x4 x5 : Int32) (k : Nat) : Int32 := if k < 4 then x1 else if k < 8 then x2 else if k < 12 then x3 else if k < 16 then x4 else x5
theorem c_X11_feed_ok (G : Gl) (d : Nat) {t : Nat} (x1 x2 x3 x4 x5 : Int32) (I : IF) (L : LF) (b : Bool) (h : I 72 36 = nI t) (ht : t + 20 ≤ 300) : MD G d Y_X11_feed [.ref 72, .int x1, .int x2, .int x3, .int x4, .int x5] (I, L, RR b) (some (.int (nI (t + 20)))) (uI (wrA t (fun k => byt (arg5 x1 x2 x3 x4 x5 k) (k % 4)) (uI I 72 0 0) 20) 72 36 (nI (t + 20)), L, RR b) := by
  have e36 : uI I 72 0 0 72 36 = nI t := h
  generalize hJ : uI I 72 0 0 = J at e36
  generalize hf : (fun k => byt (arg5 x1 x2 x3 x4 x5 k) (k % 4)) = f
  have hfa : ∀ k, byt (arg5 x1 x2 x3 x4 x5 k) (k % 4) = f k := fun k => by rw [← hf]
  have w36 : ∀ n, wrA t f J n 72 36 = nI t := fun n => by rw [wrA_o n 72 (by decide)]; exact e36
  have hloop : ∀ (m i : Nat), i + m = 20 → WQ G d Y_X11_feed (fun r' w'' => r' = some (.int (nI (t + 20))) ∧ w'' = (uI (wrA t f J 20) 72 36 (nI (t + 20)), L, RR b)) 13 [(0, .ref 72), (1, .int x1), (2, .int x2), (3, .int x3), (4, .int x4), (5, .int x5), (6, .int (nI i))] [] (wrA t f J i, L, RR b) := by
    intro m
    induction m with
    | zero =>
      intro i hi
      have hie : i = 20 := by omega
      subst hie
      refine wp_iload rfl rfl ?_
      refine wp_bipush (v := 20) rfl rfl ?_
      refine wp_icmp_ge 57 rfl rfl (fun _ => ?_) (fun h15 => absurd (show (20 : Int32) ≤ nI 20 by decide) h15)
      refine wp_aload_n rfl rfl ?_
      refine wp_dup rfl rfl ?_
      refine q_geti rfl rfl (by first | rfl | assumption) rfl ?_
      refine wp_bipush (v := 20) rfl rfl ?_
      refine wp_iadd rfl ?_
      refine q_puti rfl rfl (by first | rfl | assumption) (Or.inl rfl) rfl ?_
      refine wp_aload_n rfl rfl ?_
      refine q_geti rfl rfl (by first | rfl | assumption) rfl ?_
      exact wp_iret rfl rfl (⟨by rw [uI_eq, w36, show nI t + 20 = nI (t + 20) from nI_add t 20], by rw [w36, show nI t + 20 = nI (t + 20) from nI_add t 20]; (try rfl)⟩)
    | succ m ih =>
      intro i hi
      have hlt : ¬ (20 : Int32) ≤ nI i := nI_ge (a := i) (b := 20) (by omega) (by omega)
      have g4 : (4 : Int32) ≤ nI i ↔ 4 ≤ i := nI_leI (a := 4) (by omega) (by omega)
      have g8 : (8 : Int32) ≤ nI i ↔ 8 ≤ i := nI_leI (a := 8) (by omega) (by omega)
      have g12 : (12 : Int32) ≤ nI i ↔ 12 ≤ i := nI_leI (a := 12) (by omega) (by omega)
      have g16 : (16 : Int32) ≤ nI i ↔ 16 ≤ i := nI_leI (a := 16) (by omega) (by omega)
      have hix : nI t + nI i = nI (t + i) := nI_add t i
      have hrem : (24 : Int32) - 8 * (nI i - nI i / 4 * 4) = nI (24 - 8 * (i % 4)) := by
        rw [show (4 : Int32) = nI 4 from rfl, pk_rem (by omega) (by omega) (by omega), show (8 : Int32) = nI 8 from rfl, pk_mul, show (24 : Int32) = nI 24 from rfl, pk_sub (by omega)]
      have J37 : ∀ y : Int32, y = arg5 x1 x2 x3 x4 x5 i → WQ G d Y_X11_feed (fun r' w'' => r' = some (.int (nI (t + 20))) ∧ w'' = (uI (wrA t f J 20) 72 36 (nI (t + 20)), L, RR b)) 37 [(0, .ref 72), (1, .int x1), (2, .int x2), (3, .int x3), (4, .int x4), (5, .int x5), (6, .int (nI i))] [.int y] (wrA t f J i, L, RR b) := by
        intro y hy
        refine wp_istore (lv' := [(7, _), (0, _), (1, _), (2, _), (3, _), (4, _), (5, _), (6, _)]) rfl (by decide) rfl ?_
        refine wp_aload_n rfl rfl ?_
        refine q_getr rfl rfl (by first | rfl | assumption) rfl rfl ?_
        refine wp_aload_n rfl rfl ?_
        refine q_geti rfl rfl (by first | rfl | assumption) rfl ?_
        refine wp_iload rfl rfl ?_
        refine wp_iadd rfl ?_
        refine wp_iload rfl rfl ?_
        refine wp_bipush (v := 24) rfl rfl ?_
        refine wp_bipush (v := 8) rfl rfl ?_
        refine wp_iload rfl rfl ?_
        refine wp_iconst (v := 4) rfl rfl ?_
        refine wp_irem rfl (by decide) ?_
        refine wp_imul rfl ?_
        refine wp_isub rfl ?_
        refine wp_ishr rfl ?_
        refine wp_i2b rfl ?_
        refine q_bast rfl (by first | rfl | assumption) (by rw [w36, hix]; exact vp_in_nI (by omega) (by omega)) ?_
        refine wp_iinc (v := nI (i + 1)) (lv' := [(6, _), (7, _), (0, _), (1, _), (2, _), (3, _), (4, _), (5, _)]) rfl rfl (nI_1 i) (by decide) rfl ?_
        refine wp_goto 13 rfl rfl ?_
        refine wp_loc (lv' := [(0, _), (1, _), (2, _), (3, _), (4, _), (5, _), (6, _)]) [2, 3, 4, 5, 6, 7, 0] rfl ?_
        rw [w36, hix, nI_clamp (by omega), hrem, pk_vb]
        have e9 : (y >>> (nI (24 - 8 * (i % 4)) &&& 31)).toInt8.toInt32 = f i := by rw [← hfa i, hy]; rfl
        rw [e9]
        exact ih (i + 1) (by omega)
      refine wp_iload rfl rfl ?_
      refine wp_bipush (v := 20) rfl rfl ?_
      refine wp_icmp_ge 57 rfl rfl (fun h15 => absurd h15 hlt) (fun _ => ?_)
      refine wp_iload rfl rfl ?_
      refine wp_iconst (v := 4) rfl rfl ?_
      refine wp_icmp_ge 21 rfl rfl (fun h18 => ?_) (fun h18 => ?_)
      · refine wp_iload rfl rfl ?_
        refine wp_bipush (v := 8) rfl rfl ?_
        refine wp_icmp_ge 26 rfl rfl (fun h23 => ?_) (fun h23 => ?_)
        · refine wp_iload rfl rfl ?_
          refine wp_bipush (v := 12) rfl rfl ?_
          refine wp_icmp_ge 31 rfl rfl (fun h28 => ?_) (fun h28 => ?_)
          · refine wp_iload rfl rfl ?_
            refine wp_bipush (v := 16) rfl rfl ?_
            refine wp_icmp_ge 36 rfl rfl (fun h33 => ?_) (fun h33 => ?_)
            · refine wp_iload rfl rfl ?_
              exact J37 _ (by unfold arg5; grind)
            · refine wp_iload rfl rfl ?_
              refine wp_goto 37 rfl rfl ?_
              exact J37 _ (by unfold arg5; grind)
          · refine wp_iload_n rfl rfl ?_
            refine wp_goto 37 rfl rfl ?_
            exact J37 _ (by unfold arg5; grind)
        · refine wp_iload_n rfl rfl ?_
          refine wp_goto 37 rfl rfl ?_
          exact J37 _ (by unfold arg5; grind)
      · refine wp_iload_n rfl rfl ?_
        refine wp_goto 37 rfl rfl ?_
        exact J37 _ (by unfold arg5; grind)
  refine MT.intro m_X11_feed rfl (Nat.le_of_ble_eq_true rfl) ?_
  show WQ G d Y_X11_feed _ 0 [(0, .ref 72), (1, .int x1), (2, .int x2), (3, .int x3), (4, .int x4), (5, .int x5)] [] (I, L, RR b)
  refine wp_aload_n rfl rfl ?_
  refine wp_iconst (v := 0) rfl rfl ?_
  refine q_puti rfl rfl (by first | rfl | assumption) (Or.inl rfl) rfl ?_
  rw [hJ]
  refine wp_aload_n rfl rfl ?_
  refine q_geti rfl rfl (by first | rfl | assumption) rfl ?_
  refine wp_bipush (v := 20) rfl rfl ?_
  refine wp_iadd rfl ?_
  refine wp_sipush (v := 300) rfl rfl ?_
  refine wp_icmp_le 11 rfl rfl (fun h8 => ?_) (fun h8 => ?_)
  · refine wp_iconst (v := 0) rfl rfl ?_
    refine wp_istore (lv' := [(6, _), (0, _), (1, _), (2, _), (3, _), (4, _), (5, _)]) rfl (by decide) rfl ?_
    refine wp_loc (lv' := [(0, _), (1, _), (2, _), (3, _), (4, _), (5, _), (6, _)]) [1, 2, 3, 4, 5, 6, 0] rfl ?_
    exact hloop 20 0 (by omega)
  · exfalso; rw [e36] at h8; exact h8 (by rw [show (20 : Int32) = nI 20 from rfl, nI_add]; exact nI_le (b := 300) (by omega) (by omega))
theorem c_X11_feed_no (G : Gl) (d : Nat) (x1 x2 x3 x4 x5 : Int32) (I : IF) (L : LF) (b : Bool) (hno : ¬ I 72 36 + 20 ≤ 300) : MD G d Y_X11_feed [.ref 72, .int x1, .int x2, .int x3, .int x4, .int x5] (I, L, RR b) (some (.int (-1))) (uI I 72 0 0, L, RR b) := by
  refine MT.intro m_X11_feed rfl (Nat.le_of_ble_eq_true rfl) ?_
  show WQ G d Y_X11_feed _ 0 [(0, .ref 72), (1, .int x1), (2, .int x2), (3, .int x3), (4, .int x4), (5, .int x5)] [] (I, L, RR b)
  refine wp_aload_n rfl rfl ?_
  refine wp_iconst (v := 0) rfl rfl ?_
  refine q_puti rfl rfl (by first | rfl | assumption) (Or.inl rfl) rfl ?_
  refine wp_aload_n rfl rfl ?_
  refine q_geti rfl rfl (by first | rfl | assumption) rfl ?_
  refine wp_bipush (v := 20) rfl rfl ?_
  refine wp_iadd rfl ?_
  refine wp_sipush (v := 300) rfl rfl ?_
  refine wp_icmp_le 11 rfl rfl (fun h8 => ?_) (fun h8 => ?_)
  · exfalso; exact hno h8
  · refine wp_iconst (v := (-1)) rfl rfl ?_
    exact wp_iret rfl rfl (⟨rfl, rfl⟩)
theorem s_feed {G : Gl} {d : Nat} {I : IF} {L : LF} {b : Bool} (x1 x2 x3 x4 x5 : Int32) (h : InvA I L) : StepA G (d + 2) Y_X10_feed Y_X11_feed [.int x1, .int x2, .int x3, .int x4, .int x5] I L b := by
  obtain ⟨nm, na, nr, h⟩ := h
  obtain ⟨a1, a2, a3, a4, a5, a6, a7, a8, a9, ⟨⟨t, t1, t2, t3⟩, t4⟩, a11⟩ := id h
  by_cases hok : t + 20 ≤ 300
  · have c1 := c_X10_feed_ok G d x1 x2 x3 x4 x5 I L b t2 hok
    generalize hJ : apW (apW (apW (apW (apW I t x1) (t + 4) x2) (t + 8) x3) (t + 12) x4) (t + 16) x5 = J at c1
    have j1 : ∀ q, q ≠ 44 → q ≠ 45 → J q = I q := by
      intro q h1 h2
      rw [← hJ, apW_s.2.2.1 q h1 h2, apW_s.2.2.1 q h1 h2, apW_s.2.2.1 q h1 h2, apW_s.2.2.1 q h1 h2, apW_s.2.2.1 q h1 h2]
    have j2 : J 44 1 = nI (t + 20) := by rw [← hJ, apW_s.1]
    have j3 : ∀ j, J 45 j = if t ≤ j ∧ j < t + 20 then byt (arg5 x1 x2 x3 x4 x5 (j - t)) ((j - t) % 4) else I 45 j := by
      intro j
      rw [← hJ, apW_s.2.2.2 j, apW_s.2.2.2 j, apW_s.2.2.2 j, apW_s.2.2.2 j, apW_s.2.2.2 j]
      unfold arg5
      by_cases g : t ≤ j ∧ j < t + 20
      · rw [if_pos g]
        rcases (show j < t + 4 ∨ (t + 4 ≤ j ∧ j < t + 8) ∨ (t + 8 ≤ j ∧ j < t + 12) ∨ (t + 12 ≤ j ∧ j < t + 16) ∨ (t + 16 ≤ j) by omega) with g1 | g1 | g1 | g1 | g1
        · rw [if_neg (by omega), if_neg (by omega), if_neg (by omega), if_neg (by omega), if_pos (by omega), if_pos (by omega), show (j - t) % 4 = j - t by omega]
        · rw [if_neg (by omega), if_neg (by omega), if_neg (by omega), if_pos (by omega), if_neg (by omega), if_pos (by omega), show (j - t) % 4 = j - (t + 4) by omega]
        · rw [if_neg (by omega), if_neg (by omega), if_pos (by omega), if_neg (by omega), if_neg (by omega), if_pos (by omega), show (j - t) % 4 = j - (t + 8) by omega]
        · rw [if_neg (by omega), if_pos (by omega), if_neg (by omega), if_neg (by omega), if_neg (by omega), if_pos (by omega), show (j - t) % 4 = j - (t + 12) by omega]
        · rw [if_pos (by omega), if_neg (by omega), if_neg (by omega), if_neg (by omega), if_neg (by omega), show (j - t) % 4 = j - (t + 16) by omega]
      · rw [if_neg g, if_neg (by omega), if_neg (by omega), if_neg (by omega), if_neg (by omega), if_neg (by omega)]
    have c2 := c_X11_feed_ok G (d + 2) (t := t) x1 x2 x3 x4 x5 J L b (by rw [j1 72 (by decide) (by decide)]; exact t3) hok
    have g0 : ∀ q, q ≠ 96 → q ≠ 72 → uI (wrA t (fun k => byt (arg5 x1 x2 x3 x4 x5 k) (k % 4)) (uI J 72 0 0) 20) 72 36 (nI (t + 20)) q = J q := fun q h1 h2 => by rw [uI_fn h2, wrA_o 20 q h1, uI_fn h2]
    have g1 : ∀ k, k ≠ 36 → k ≠ 0 → uI (wrA t (fun k => byt (arg5 x1 x2 x3 x4 x5 k) (k % 4)) (uI J 72 0 0) 20) 72 36 (nI (t + 20)) 72 k = J 72 k := fun k h1 h2 => by rw [uI_nk h1, wrA_o 20 72 (by decide), uI_nk h2]
    have g2 : uI (wrA t (fun k => byt (arg5 x1 x2 x3 x4 x5 k) (k % 4)) (uI J 72 0 0) 20) 72 36 (nI (t + 20)) 72 36 = nI (t + 20) := uI_eq
    have g3 : ∀ j, uI (wrA t (fun k => byt (arg5 x1 x2 x3 x4 x5 k) (k % 4)) (uI J 72 0 0) 20) 72 36 (nI (t + 20)) 96 j = if t ≤ j ∧ j < t + 20 then byt (arg5 x1 x2 x3 x4 x5 (j - t)) ((j - t) % 4) else J 96 j := by
      intro j
      rw [uI_ne (by decide), wrA_a 20 j, uI_ne (by decide)]
    generalize uI (wrA t (fun k => byt (arg5 x1 x2 x3 x4 x5 k) (k % 4)) (uI J 72 0 0) 20) 72 36 (nI (t + 20)) = J2 at c2 g0 g1 g2 g3
    have ho : ∀ q, q ≠ 44 → q ≠ 45 → q ≠ 72 → q ≠ 96 → J2 q = I q := fun q h1 h2 h3 h4 => (g0 q h4 h3).trans (j1 q h1 h2)
    have h72 : ∀ k, k ≠ 36 → k ≠ 0 → J2 72 k = I 72 k := fun k h1 h2 => (g1 k h1 h2).trans (by rw [j1 72 (by decide) (by decide)])
    refine ⟨_, _, _, _, _, c1, c2, ⟨nm, na, nr, ?_, ?_, IVm_fr a3 (fun m hm => ho _ (by omega) (by omega) (by omega) (by omega)) (fun a _ _ => ho _ (by omega) (by omega) (by omega) (by omega)), IVk_fr a4 (fun m hm => ho _ (by omega) (by omega) (by omega) (by omega)) (fun a _ _ => ho _ (by omega) (by omega) (by omega) (by omega)) (by rw [ho 0 (by decide) (by decide) (by decide) (by decide)]), IVf_fr a1.1.2.2 a5 (fun m hm => ho _ (by omega) (by omega) (by omega) (by omega)) (ho _ (by omega) (by omega) (by omega) (by omega)), IVu_fr a6 (fun m hm => ho _ (by omega) (by omega) (by omega) (by omega)) (ho _ (by omega) (by omega) (by omega) (by omega)), IVp_fr a7 (fun m hm => ho _ (by omega) (by omega) (by omega) (by omega)) (fun a _ _ => ho _ (by omega) (by omega) (by omega) (by omega)) (by rw [ho 0 (by decide) (by decide) (by decide) (by decide)]) (by rw [ho 0 (by decide) (by decide) (by decide) (by decide)]), IVa_fr a8 (fun m hm => ho _ (by omega) (by omega) (by omega) (by omega)) (fun a _ _ => ho _ (by omega) (by omega) (by omega) (by omega)), IVl_fr a9 (fun m hm => ho _ (by omega) (by omega) (by omega) (by omega)) (ho _ (by omega) (by omega) (by omega) (by omega)), ⟨⟨t + 20, hok, ?_, g2⟩, ?_⟩, IVr_fr a11 (fun m hm => ho _ (by omega) (by omega) (by omega) (by omega)) (ho _ (by omega) (by omega) (by omega) (by omega)) (ho _ (by omega) (by omega) (by omega) (by omega))⟩, fun a ha => ho a (by omega) (by omega) (by omega) (by omega), h72 12 (by decide) (by decide)⟩
    · unfold IVc at a1 ⊢; simp (disch := omega) only [ho, h72]; exact a1
    · unfold IVs at a2 ⊢; simp (disch := omega) only [ho, h72]; exact a2
    · rw [g0 44 (by decide) (by decide)]; exact j2
    · intro j hj
      rw [g3 j, g0 45 (by decide) (by decide), j3 j, j1 96 (by decide) (by decide)]
      split
      · rfl
      · exact t4 j hj
  · have hn1 : ¬ I 44 1 + 4 * 5 ≤ 300 := by rw [t2, show (4 : Int32) * 5 = nI 20 from rfl, nI_add]; exact nI_ge (a := 300) (by omega) (by omega)
    have hn2 : ¬ I 72 36 + 20 ≤ 300 := by rw [t3, show (20 : Int32) = nI 20 from rfl, nI_add]; exact nI_ge (a := 300) (by omega) (by omega)
    exact StepA.query h (c_X10_feed_no G d x1 x2 x3 x4 x5 I L b hn1) (c_X11_feed_no G (d + 2) x1 x2 x3 x4 x5 I L b hn2)
end
section
/-! bits (the family bt out of the given rows on bits), and count -/
def bt (x : Int32) (i : Nat) : Bool := x.toBitVec.getLsbD i
theorem b_ext {x y : Int32} (h : ∀ i, i < 32 → bt x i = bt y i) : x = y := Int32.toBitVec_inj.mp (BitVec.eq_of_getLsbD_eq (fun i hi => h i hi))
theorem b_or (x y : Int32) (i : Nat) : bt (x ||| y) i = (bt x i || bt y i) := by unfold bt; rw [Int32.toBitVec_or, BitVec.getLsbD_or]
theorem b_and (x y : Int32) (i : Nat) : bt (x &&& y) i = (bt x i && bt y i) := by unfold bt; rw [Int32.toBitVec_and, BitVec.getLsbD_and]
theorem b_xor (x y : Int32) (i : Nat) : bt (x ^^^ y) i = (bt x i ^^ bt y i) := by unfold bt; rw [Int32.toBitVec_xor, BitVec.getLsbD_xor]
theorem b_big {x : Int32} {i : Nat} (h : 32 ≤ i) : bt x i = false := BitVec.getLsbD_of_ge _ _ h
theorem b_255 (i : Nat) : bt 255 i = decide (i < 8) := by
  rcases Nat.lt_or_ge i 32 with h | h
  · exact (by decide +kernel : ∀ i, i < 32 → bt 255 i = decide (i < 8)) i h
  · rw [b_big h, decide_eq_false (by omega)]
theorem b_65535 (i : Nat) : bt 65535 i = decide (i < 16) := by
  rcases Nat.lt_or_ge i 32 with h | h
  · exact (by decide +kernel : ∀ i, i < 32 → bt 65535 i = decide (i < 16)) i h
  · rw [b_big h, decide_eq_false (by omega)]
theorem b_m1 : ∀ i, i < 32 → bt (-1) i = true := by decide +kernel
theorem b_0 (i : Nat) : bt 0 i = false := BitVec.getLsbD_zero
theorem s_l : ∀ n, n < 32 → ((nI n &&& 31).toBitVec.smod 32).toNat = n := by decide +kernel
theorem s_u : ∀ n, n < 32 → (((nI n).toUInt32 &&& Int32.toUInt32 31).toBitVec % 32).toNat = n := by decide +kernel
theorem b_shl (n : Nat) (hn : n < 32) (x : Int32) {i : Nat} (hi : i < 32) : bt (x <<< (nI n &&& 31)) i = (decide (n ≤ i) && bt x (i - n)) := by
  unfold bt
  rw [Int32.toBitVec_shiftLeft]
  show (x.toBitVec <<< ((nI n &&& 31).toBitVec.smod 32).toNat).getLsbD i = _
  rw [s_l n hn, BitVec.getLsbD_shiftLeft]
  rcases Nat.lt_or_ge i n with h | h
  · simp [h, Nat.not_le.mpr h]
  · simp [hi, h, Nat.not_lt.mpr h]
theorem b_ushr (n : Nat) (hn : n < 32) (x : Int32) (i : Nat) : bt ((x.toUInt32 >>> ((nI n).toUInt32 &&& Int32.toUInt32 31)).toInt32) i = bt x (n + i) := by
  show (x.toUInt32 >>> ((nI n).toUInt32 &&& Int32.toUInt32 31)).toBitVec.getLsbD i = x.toUInt32.toBitVec.getLsbD (n + i)
  rw [UInt32.toBitVec_shiftRight]
  show (x.toUInt32.toBitVec >>> (((nI n).toUInt32 &&& Int32.toUInt32 31).toBitVec % 32).toNat).getLsbD i = _
  rw [s_u n hn, BitVec.getLsbD_ushiftRight]
theorem b_sshr (n : Nat) (hn : n < 32) (x : Int32) {i : Nat} (hi : i < 32) : bt (x >>> (nI n &&& 31)) i = if n + i < 32 then bt x (n + i) else bt x 31 := by
  unfold bt
  rw [Int32.toBitVec_shiftRight]
  show (x.toBitVec.sshiftRight ((nI n &&& 31).toBitVec.smod 32).toNat).getLsbD i = _
  rw [s_l n hn, BitVec.getLsbD_sshiftRight, BitVec.msb_eq_getLsbD_last]
  simp [hi]
theorem b_1 : ∀ i, i < 32 → bt 1 i = decide (i = 0) := by decide +kernel
/-- one bit, as a number -/
theorem bit1 (x : Int32) {a : Nat} (ha : a < 32) : (x >>> (nI a &&& 31)) &&& 1 = b2 (bt x a = true) := by
  apply b_ext
  intro i hi
  rw [b_and, b_1 i hi]
  by_cases e : i = 0
  · subst e
    rw [b_sshr a ha x (by omega), if_pos (by omega)]
    by_cases h : bt x a = true
    · rw [b2_t h, b_1 0 (by omega)]; simp [h]
    · rw [b2_f h, b_0]; simp at h; simp [h]
  · by_cases h : bt x a = true
    · rw [b2_t h, b_1 i hi]; simp [e]
    · rw [b2_f h, b_0]; simp [e]
def snS (I : IF) : Nat → Int32
  | 0 => 0
  | i + 1 => snS I i + snwF I i
theorem c_X1_snowInAll (G : Gl) (d : Nat) {nm na nr : Nat} (I : IF) (L : LF) (b : Bool) (h : IV nm na nr I L) : MD G (d + 6) Y_X1_snowInAll [.ref 1] (I, L, RR b) (some (.int (snS I nr))) (I, L, RR b) := by
  have hnr : nr ≤ 16 := h.1.2.2.2.2
  have h4 := h.1.2.2.1
  have hloop : ∀ (n i : Nat), i + n = nr → WQ G (d + 6) Y_X1_snowInAll (fun r' w'' => r' = some (.int (snS I nr)) ∧ w'' = (I, L, RR b)) 4 [(0, .ref 1), (1, .int (snS I i)), (2, .int (nI i))] [] (I, L, RR b) := by
    intro n
    induction n with
    | zero =>
      intro i hi
      have hie : i = nr := by omega
      subst hie
      have hge : I 1 4 ≤ nI i := by rw [h4]; exact nI_le (Nat.le_refl _) (by omega)
      refine wp_iload_n rfl rfl ?_
      refine wp_aload_n rfl rfl ?_
      refine q_geti rfl rfl (by first | rfl | assumption) rfl ?_
      refine wp_icmp_ge 19 rfl rfl (fun _ => ?_) (fun h7 => absurd hge h7)
      refine wp_iload_n rfl rfl ?_
      exact wp_iret rfl rfl (⟨rfl, rfl⟩)
    | succ n ih =>
      intro i hi
      have hlt : ¬ I 1 4 ≤ nI i := by rw [h4]; exact nI_ge (by omega) (by omega)
      refine wp_iload_n rfl rfl ?_
      refine wp_aload_n rfl rfl ?_
      refine q_geti rfl rfl (by first | rfl | assumption) rfl ?_
      refine wp_icmp_ge 19 rfl rfl (fun h7 => absurd h7 hlt) (fun _ => ?_)
      refine wp_iload_n rfl rfl ?_
      refine wp_aload_n rfl rfl ?_
      refine wp_aload_n rfl rfl ?_
      refine q_getr rfl rfl (by first | rfl | assumption) rfl rfl ?_
      refine wp_iload_n rfl rfl ?_
      refine q_area rfl rfl (by omega) ?_
      refine cV1 rfl l_1_97 i_X1_snowOf m_X1_snowOf (by first | rfl | assumption) (by decide) (c_X1_snowOf G _ _ _ _ h (show i < 16 by omega)) rfl (Nat.le_of_ble_eq_true rfl) ?_
      refine wp_iadd rfl ?_
      refine wp_istore_n (lv' := [(1, _), (0, _), (2, _)]) rfl rfl (by decide) rfl ?_
      refine wp_iinc (v := nI (i + 1)) (lv' := [(2, _), (1, _), (0, _)]) rfl rfl (nI_1 i) (by decide) rfl ?_
      refine wp_goto 4 rfl rfl ?_
      refine wp_loc (lv' := [(0, _), (1, _), (2, _)]) [2, 1, 0] rfl ?_
      exact ih (i + 1) (by omega)
  refine MT.intro m_X1_snowInAll rfl (Nat.le_of_ble_eq_true rfl) ?_
  show WQ G (d + 6) Y_X1_snowInAll _ 0 [(0, .ref 1)] [] (I, L, RR b)
  refine wp_iconst (v := 0) rfl rfl ?_
  refine wp_istore_n (lv' := [(1, _), (0, _)]) rfl rfl (by decide) rfl ?_
  refine wp_iconst (v := 0) rfl rfl ?_
  refine wp_istore_n (lv' := [(2, _), (1, _), (0, _)]) rfl rfl (by decide) rfl ?_
  refine wp_loc (lv' := [(0, _), (1, _), (2, _)]) [2, 1, 0] rfl ?_
  exact hloop nr 0 (by omega)
def rwS (I : IF) : Nat → Int32
  | 0 => 0
  | i + 1 => rwS I i + b2 (¬ I (57 + 2 * i) 2 = -1)
theorem c_X10_rowsThere (G : Gl) (d : Nat) (I : IF) (L : LF) (b : Bool) : MD G (d + 1) Y_X10_rowsThere [.ref 0] (I, L, RR b) (some (.int (rwS I 4))) (I, L, RR b) := by
  have hloop : ∀ (n i : Nat), i + n = 4 → WQ G (d + 1) Y_X10_rowsThere (fun r' w'' => r' = some (.int (rwS I 4)) ∧ w'' = (I, L, RR b)) 4 [(0, .ref 0), (1, .int (rwS I i)), (2, .int (nI i))] [] (I, L, RR b) := by
    intro n
    induction n with
    | zero =>
      intro i hi
      have hie : i = 4 := by omega
      subst hie
      refine wp_iload_n rfl rfl ?_
      refine wp_aload_n rfl rfl ?_
      refine q_getr rfl rfl (by first | rfl | assumption) rfl rfl ?_
      refine wp_alen rfl rfl (by decide) rfl ?_
      refine wp_icmp_ge 24 rfl rfl (fun _ => ?_) (fun h8 => absurd (show Int32.ofNat 4 ≤ nI 4 by decide) h8)
      refine wp_iload_n rfl rfl ?_
      exact wp_iret rfl rfl (⟨rfl, rfl⟩)
    | succ n ih =>
      intro i hi
      have hlt : ¬ Int32.ofNat 4 ≤ nI i := nI_ge (a := i) (b := 4) (by omega) (by omega)
      have ha := sh_row i (by omega)
      have hst : rwS I (i + 1) = rwS I i + b2 (¬ I (57 + 2 * i) 2 = -1) := rfl
      refine wp_iload_n rfl rfl ?_
      refine wp_aload_n rfl rfl ?_
      refine q_getr rfl rfl (by first | rfl | assumption) rfl rfl ?_
      refine wp_alen rfl rfl (by decide) rfl ?_
      refine wp_icmp_ge 24 rfl rfl (fun h8 => absurd h8 hlt) (fun _ => ?_)
      refine wp_iload_n rfl rfl ?_
      refine wp_aload_n rfl rfl ?_
      refine q_getr rfl rfl (by first | rfl | assumption) rfl rfl ?_
      refine wp_iload_n rfl rfl ?_
      refine q_rowo rfl rfl (by omega) ?_
      refine cV1 rfl l_10_152 i_X6_isEmpty m_X6_isEmpty (by first | rfl | assumption) (by decide) (c_X6_isEmpty G _ _ _ _ _ ha) rfl (Nat.le_of_ble_eq_true rfl) ?_
      refine wp_if_ne 18 rfl rfl (fun h15 => ?_) (fun h15 => ?_)
      · refine wp_iconst (v := 0) rfl rfl ?_
        refine cS1 rfl l_10_234 s_X10_asNumber m_X10_asNumber (c_X10_asNumber G _ _ _) rfl (Nat.le_of_ble_eq_true rfl) ?_
        refine wp_iadd rfl ?_
        refine wp_istore_n (lv' := [(1, _), (0, _), (2, _)]) rfl rfl (by decide) rfl ?_
        refine wp_iinc (v := nI (i + 1)) (lv' := [(2, _), (1, _), (0, _)]) rfl rfl (nI_1 i) (by decide) rfl ?_
        refine wp_goto 4 rfl rfl ?_
        refine wp_loc (lv' := [(0, _), (1, _), (2, _)]) [2, 1, 0] rfl ?_
        rw [show rwS I i + _ = rwS I (i + 1) by (rw [hst]; first | (rw [b2_t (show ¬ (1 : Int32) = 0 by decide), b2_t (b2_eq.mp h15)]) | (rw [b2_f (show ¬ ¬ (0 : Int32) = 0 by decide), b2_f (show ¬ ¬ I (57 + 2 * i) 2 = -1 by have := b2_ne.mp h15; grind)]))]
        exact ih (i + 1) (by omega)
      · refine wp_iconst (v := 1) rfl rfl ?_
        refine wp_goto 19 rfl rfl ?_
        refine cS1 rfl l_10_234 s_X10_asNumber m_X10_asNumber (c_X10_asNumber G _ _ _) rfl (Nat.le_of_ble_eq_true rfl) ?_
        refine wp_iadd rfl ?_
        refine wp_istore_n (lv' := [(1, _), (0, _), (2, _)]) rfl rfl (by decide) rfl ?_
        refine wp_iinc (v := nI (i + 1)) (lv' := [(2, _), (1, _), (0, _)]) rfl rfl (nI_1 i) (by decide) rfl ?_
        refine wp_goto 4 rfl rfl ?_
        refine wp_loc (lv' := [(0, _), (1, _), (2, _)]) [2, 1, 0] rfl ?_
        rw [show rwS I i + _ = rwS I (i + 1) by (rw [hst]; first | (rw [b2_t (show ¬ (1 : Int32) = 0 by decide), b2_t (b2_eq.mp h15)]) | (rw [b2_f (show ¬ ¬ (0 : Int32) = 0 by decide), b2_f (show ¬ ¬ I (57 + 2 * i) 2 = -1 by have := b2_ne.mp h15; grind)]))]
        exact ih (i + 1) (by omega)
  refine MT.intro m_X10_rowsThere rfl (Nat.le_of_ble_eq_true rfl) ?_
  show WQ G (d + 1) Y_X10_rowsThere _ 0 [(0, .ref 0)] [] (I, L, RR b)
  refine wp_iconst (v := 0) rfl rfl ?_
  refine wp_istore_n (lv' := [(1, _), (0, _)]) rfl rfl (by decide) rfl ?_
  refine wp_iconst (v := 0) rfl rfl ?_
  refine wp_istore_n (lv' := [(2, _), (1, _), (0, _)]) rfl rfl (by decide) rfl ?_
  refine wp_loc (lv' := [(0, _), (1, _), (2, _)]) [2, 1, 0] rfl ?_
  exact hloop 4 0 (by omega)
def cntF (I : IF) (b : Bool) (nr : Nat) (x : Int32) : Int32 := if x = 0 then I 1 5 else if x = 1 then I 1 2 else if x = 2 then I 1 3 else if x = 3 then I 1 4 else if x = 4 then I 0 9 else if x = 5 then I (lawA b) 8 else if x = 6 then I 44 1 else if x = 7 then snS I nr else if x = 8 then rwS I 4 else if x = 9 then I 0 10 else if x = 10 then I 39 4 else -1
theorem c_X10_count (G : Gl) (d : Nat) {nm na nr : Nat} (x : Int32) (I : IF) (L : LF) (b : Bool) (h : IV nm na nr I L) : MD G (d + 7) Y_X10_count [.ref 0, .int x] (I, L, RR b) (some (.int (cntF I b nr x))) (I, L, RR b) := by
  have hsl := sh_law b
  refine MT.intro m_X10_count rfl (Nat.le_of_ble_eq_true rfl) ?_
  show WQ G (d + 7) Y_X10_count _ 0 [(0, .ref 0), (1, .int x)] [] (I, L, RR b)
  refine wp_iload_n rfl rfl ?_
  by_cases e1_0 : x = 0
  · subst e1_0
    refine wp_tsIn 2 rfl (by decide) (by decide) rfl rfl ?_
    refine wp_aload_n rfl rfl ?_
    refine q_getr rfl rfl (by first | rfl | assumption) rfl rfl ?_
    refine q_geti rfl rfl (by first | rfl | assumption) rfl ?_
    exact wp_iret rfl rfl (⟨by simp_all [cntF], rfl⟩)
  by_cases e1_1 : x = 1
  · subst e1_1
    refine wp_tsIn 6 rfl (by decide) (by decide) rfl rfl ?_
    refine wp_aload_n rfl rfl ?_
    refine q_getr rfl rfl (by first | rfl | assumption) rfl rfl ?_
    refine q_geti rfl rfl (by first | rfl | assumption) rfl ?_
    exact wp_iret rfl rfl (⟨by simp_all [cntF], rfl⟩)
  by_cases e1_2 : x = 2
  · subst e1_2
    refine wp_tsIn 10 rfl (by decide) (by decide) rfl rfl ?_
    refine wp_aload_n rfl rfl ?_
    refine q_getr rfl rfl (by first | rfl | assumption) rfl rfl ?_
    refine q_geti rfl rfl (by first | rfl | assumption) rfl ?_
    exact wp_iret rfl rfl (⟨by simp_all [cntF], rfl⟩)
  by_cases e1_3 : x = 3
  · subst e1_3
    refine wp_tsIn 14 rfl (by decide) (by decide) rfl rfl ?_
    refine wp_aload_n rfl rfl ?_
    refine q_getr rfl rfl (by first | rfl | assumption) rfl rfl ?_
    refine q_geti rfl rfl (by first | rfl | assumption) rfl ?_
    exact wp_iret rfl rfl (⟨by simp_all [cntF], rfl⟩)
  by_cases e1_4 : x = 4
  · subst e1_4
    refine wp_tsIn 18 rfl (by decide) (by decide) rfl rfl ?_
    refine wp_aload_n rfl rfl ?_
    refine q_geti rfl rfl (by first | rfl | assumption) rfl ?_
    exact wp_iret rfl rfl (⟨by simp_all [cntF], rfl⟩)
  by_cases e1_5 : x = 5
  · subst e1_5
    refine wp_tsIn 21 rfl (by decide) (by decide) rfl rfl ?_
    refine wp_aload_n rfl rfl ?_
    refine q_getr rfl rfl (by first | rfl | assumption) rfl rfl ?_
    refine q_geti rfl rfl (by first | rfl | assumption) rfl ?_
    exact wp_iret rfl rfl (⟨by simp_all [cntF], rfl⟩)
  by_cases e1_6 : x = 6
  · subst e1_6
    refine wp_tsIn 25 rfl (by decide) (by decide) rfl rfl ?_
    refine wp_aload_n rfl rfl ?_
    refine q_getr rfl rfl (by first | rfl | assumption) rfl rfl ?_
    refine q_geti rfl rfl (by first | rfl | assumption) rfl ?_
    exact wp_iret rfl rfl (⟨by simp_all [cntF], rfl⟩)
  by_cases e1_7 : x = 7
  · subst e1_7
    refine wp_tsIn 29 rfl (by decide) (by decide) rfl rfl ?_
    refine wp_aload_n rfl rfl ?_
    refine q_getr rfl rfl (by first | rfl | assumption) rfl rfl ?_
    refine cV1 rfl l_10_255 i_X1_snowInAll m_X1_snowInAll (by first | rfl | assumption) (by decide) (c_X1_snowInAll G _ _ _ _ h) rfl (Nat.le_of_ble_eq_true rfl) ?_
    exact wp_iret rfl rfl (⟨by simp_all [cntF], rfl⟩)
  by_cases e1_8 : x = 8
  · subst e1_8
    refine wp_tsIn 33 rfl (by decide) (by decide) rfl rfl ?_
    refine wp_aload_n rfl rfl ?_
    refine cV1 rfl l_10_259 i_X10_rowsThere m_X10_rowsThere (by first | rfl | assumption) (by decide) (c_X10_rowsThere G _ _ _ _) rfl (Nat.le_of_ble_eq_true rfl) ?_
    exact wp_iret rfl rfl (⟨by simp_all [cntF], rfl⟩)
  by_cases e1_9 : x = 9
  · subst e1_9
    refine wp_tsIn 36 rfl (by decide) (by decide) rfl rfl ?_
    refine wp_aload_n rfl rfl ?_
    refine q_geti rfl rfl (by first | rfl | assumption) rfl ?_
    exact wp_iret rfl rfl (⟨by simp_all [cntF], rfl⟩)
  by_cases e1_10 : x = 10
  · subst e1_10
    refine wp_tsIn 39 rfl (by decide) (by decide) rfl rfl ?_
    refine wp_aload_n rfl rfl ?_
    refine q_getr rfl rfl (by first | rfl | assumption) rfl rfl ?_
    refine q_geti rfl rfl (by first | rfl | assumption) rfl ?_
    exact wp_iret rfl rfl (⟨by simp_all [cntF], rfl⟩)
  refine wp_tsOut 43 rfl (by have a0 := lv_neT e1_0 (a := 0) rfl; have a1 := lv_neT e1_1 (a := 1) rfl; have a2 := lv_neT e1_2 (a := 2) rfl; have a3 := lv_neT e1_3 (a := 3) rfl; have a4 := lv_neT e1_4 (a := 4) rfl; have a5 := lv_neT e1_5 (a := 5) rfl; have a6 := lv_neT e1_6 (a := 6) rfl; have a7 := lv_neT e1_7 (a := 7) rfl; have a8 := lv_neT e1_8 (a := 8) rfl; have a9 := lv_neT e1_9 (a := 9) rfl; have a10 := lv_neT e1_10 (a := 10) rfl; omega) rfl ?_
  refine wp_iconst (v := (-1)) rfl rfl ?_
  exact wp_iret rfl rfl (⟨by simp_all [cntF], rfl⟩)
theorem c_X11_count (G : Gl) (d : Nat) {nm na nr : Nat} (x : Int32) (I : IF) (L : LF) (b : Bool) (h : IV nm na nr I L) (hlaw : I 72 12 = I (lawA b) 8) : MD G (d + 7) Y_X11_count [.ref 72, .int x] (I, L, RR b) (some (.int (cntF I b nr x))) (uI I 72 0 0, L, RR b) := by
  have hnr : nr ≤ 16 := h.1.2.2.2.2
  have h' := IV_thr h
  have ek : ∀ k, k ≠ 0 → uI I 72 0 0 72 k = I 72 k := fun k hk => uI_nk hk
  have e73 : ∀ k, uI I 72 0 0 73 k = I 73 k := fun k => uI_ne (by decide)
  have esn : ∀ a, a < nr → snwF (uI I 72 0 0) a = snwF I a := fun a ha => (hurtF_thr h ha).2.2
  generalize hJ : uI I 72 0 0 = J at *
  obtain ⟨a1, a2, -⟩ := id h
  obtain ⟨⟨t, t1, t2, t3⟩, -⟩ := h.2.2.2.2.2.2.2.2.2.1
  have l7 : ∀ (n i : Nat), i + n = nr → WQ G (d + 7) Y_X11_count (fun r' w'' => r' = some (.int (snS I nr)) ∧ w'' = (J, L, RR b)) 30 [(0, .ref 72), (1, .int 7), (2, .int (snS I i)), (3, .int (nI i))] [] (J, L, RR b) := by
    intro n
    induction n with
    | zero =>
      intro i hi
      have hie : i = nr := by omega
      subst hie
      have hge : J 72 7 ≤ nI i := by rw [ek 7 (by decide), a1.2.2.2.1]; exact nI_le (Nat.le_refl _) (by omega)
      refine wp_iload_n rfl rfl ?_
      refine wp_aload_n rfl rfl ?_
      refine q_geti rfl rfl (by first | rfl | assumption) rfl ?_
      refine wp_icmp_ge 42 rfl rfl (fun _ => ?_) (fun h33 => absurd hge h33)
      refine wp_iload_n rfl rfl ?_
      exact wp_iret rfl rfl (⟨rfl, rfl⟩)
    | succ n ih =>
      intro i hi
      have hlt : ¬ J 72 7 ≤ nI i := by rw [ek 7 (by decide), a1.2.2.2.1]; exact nI_ge (by omega) (by omega)
      have cs := c_X11_snowOf G (d + 2) (a := i) _ J L b h' (by omega) rfl
      rw [esn i (by omega)] at cs
      refine wp_iload_n rfl rfl ?_
      refine wp_aload_n rfl rfl ?_
      refine q_geti rfl rfl (by first | rfl | assumption) rfl ?_
      refine wp_icmp_ge 42 rfl rfl (fun h33 => absurd h33 hlt) (fun _ => ?_)
      refine wp_iload_n rfl rfl ?_
      refine wp_aload_n rfl rfl ?_
      refine wp_iload_n rfl rfl ?_
      refine cV1 rfl l_11_353 i_X11_snowOf m_X11_snowOf (by first | rfl | assumption) (by decide) (cs) rfl (Nat.le_of_ble_eq_true rfl) ?_
      refine wp_iadd rfl ?_
      refine wp_istore_n (lv' := [(2, _), (0, _), (1, _), (3, _)]) rfl rfl (by decide) rfl ?_
      refine wp_iinc (v := nI (i + 1)) (lv' := [(3, _), (2, _), (0, _), (1, _)]) rfl rfl (nI_1 i) (by decide) rfl ?_
      refine wp_goto 30 rfl rfl ?_
      refine wp_loc (lv' := [(0, _), (1, _), (2, _), (3, _)]) [2, 3, 1, 0] rfl ?_
      exact ih (i + 1) (by omega)
  have l8 : ∀ (n i : Nat), i + n = 4 → WQ G (d + 7) Y_X11_count (fun r' w'' => r' = some (.int (rwS I 4)) ∧ w'' = (J, L, RR b)) 46 [(0, .ref 72), (1, .int 8), (2, .int (rwS I i)), (3, .int (nI i))] [] (J, L, RR b) := by
    intro n
    induction n with
    | zero =>
      intro i hi
      have hie : i = 4 := by omega
      subst hie
      refine wp_iload_n rfl rfl ?_
      refine wp_iconst (v := 4) rfl rfl ?_
      refine wp_icmp_ge 62 rfl rfl (fun _ => ?_) (fun h48 => absurd (show (4 : Int32) ≤ nI 4 by decide) h48)
      refine wp_iload_n rfl rfl ?_
      exact wp_iret rfl rfl (⟨rfl, rfl⟩)
    | succ n ih =>
      intro i hi
      have hlt : ¬ (4 : Int32) ≤ nI i := nI_ge (a := i) (b := 4) (by omega) (by omega)
      have hcl : (nI i).toNatClampNeg = i := nI_clamp (by omega)
      have z := h.2.2.2.2.2.2.2.2.2.2 i (by omega)
      have hst : rwS I (i + 1) = rwS I i + b2 (¬ I (57 + 2 * i) 2 = -1) := rfl
      refine wp_iload_n rfl rfl ?_
      refine wp_iconst (v := 4) rfl rfl ?_
      refine wp_icmp_ge 62 rfl rfl (fun h48 => absurd h48 hlt) (fun _ => ?_)
      refine wp_iload_n rfl rfl ?_
      refine wp_aload_n rfl rfl ?_
      refine q_getr rfl rfl (by first | rfl | assumption) rfl rfl ?_
      refine wp_iload_n rfl rfl ?_
      refine q_iald rfl (by first | rfl | assumption) (vp_in_nI (by omega) (by omega)) ?_
      refine wp_if_lt 57 rfl rfl (fun h54 => ?_) (fun h54 => ?_)
      · refine wp_iconst (v := 0) rfl rfl ?_
        refine wp_iadd rfl ?_
        refine wp_istore_n (lv' := [(2, _), (0, _), (1, _), (3, _)]) rfl rfl (by decide) rfl ?_
        refine wp_iinc (v := nI (i + 1)) (lv' := [(3, _), (2, _), (0, _), (1, _)]) rfl rfl (nI_1 i) (by decide) rfl ?_
        refine wp_goto 46 rfl rfl ?_
        refine wp_loc (lv' := [(0, _), (1, _), (2, _), (3, _)]) [2, 3, 1, 0] rfl ?_
        rw [hcl, e73] at h54
        rw [show rwS I i + _ = rwS I (i + 1) by (rw [hst]; first | (rw [b2_t (show ¬ I (57 + 2 * i) 2 = -1 by grind)]) | (rw [b2_f (show ¬ ¬ I (57 + 2 * i) 2 = -1 by grind)]))]
        exact ih (i + 1) (by omega)
      · refine wp_iconst (v := 1) rfl rfl ?_
        refine wp_goto 58 rfl rfl ?_
        refine wp_iadd rfl ?_
        refine wp_istore_n (lv' := [(2, _), (0, _), (1, _), (3, _)]) rfl rfl (by decide) rfl ?_
        refine wp_iinc (v := nI (i + 1)) (lv' := [(3, _), (2, _), (0, _), (1, _)]) rfl rfl (nI_1 i) (by decide) rfl ?_
        refine wp_goto 46 rfl rfl ?_
        refine wp_loc (lv' := [(0, _), (1, _), (2, _), (3, _)]) [2, 3, 1, 0] rfl ?_
        rw [hcl, e73] at h54
        rw [show rwS I i + _ = rwS I (i + 1) by (rw [hst]; first | (rw [b2_t (show ¬ I (57 + 2 * i) 2 = -1 by grind)]) | (rw [b2_f (show ¬ ¬ I (57 + 2 * i) 2 = -1 by grind)]))]
        exact ih (i + 1) (by omega)
  refine MT.intro m_X11_count rfl (Nat.le_of_ble_eq_true rfl) ?_
  show WQ G (d + 7) Y_X11_count _ 0 [(0, .ref 72), (1, .int x)] [] (I, L, RR b)
  refine wp_aload_n rfl rfl ?_
  refine wp_iconst (v := 0) rfl rfl ?_
  refine q_puti rfl rfl (by first | rfl | assumption) (Or.inl rfl) rfl ?_
  rw [hJ]
  refine wp_iconst (v := 0) rfl rfl ?_
  refine wp_istore_n (lv' := [(2, _), (0, _), (1, _)]) rfl rfl (by decide) rfl ?_
  refine wp_iload_n rfl rfl ?_
  by_cases e6_0 : x = 0
  · subst e6_0
    refine wp_tsIn 7 rfl (by decide) (by decide) rfl rfl ?_
    refine wp_aload_n rfl rfl ?_
    refine q_geti rfl rfl (by first | rfl | assumption) rfl ?_
    exact wp_iret rfl rfl (⟨by (try simp only [ek 8 (by decide), ek 5 (by decide), ek 6 (by decide), ek 7 (by decide), ek 11 (by decide), ek 12 (by decide), ek 36 (by decide), ek 30 (by decide), ek 31 (by decide)]); simp only [cntF]; obtain ⟨b1, b2, b3, b4, b5, b6, b7, b8, b9, b10⟩ := a2; obtain ⟨⟨c1, c2, -⟩, ⟨c3, c4, -⟩, c5, c6, -⟩ := a1; simp_all, rfl⟩)
  by_cases e6_1 : x = 1
  · subst e6_1
    refine wp_tsIn 10 rfl (by decide) (by decide) rfl rfl ?_
    refine wp_aload_n rfl rfl ?_
    refine q_geti rfl rfl (by first | rfl | assumption) rfl ?_
    exact wp_iret rfl rfl (⟨by (try simp only [ek 8 (by decide), ek 5 (by decide), ek 6 (by decide), ek 7 (by decide), ek 11 (by decide), ek 12 (by decide), ek 36 (by decide), ek 30 (by decide), ek 31 (by decide)]); simp only [cntF]; obtain ⟨b1, b2, b3, b4, b5, b6, b7, b8, b9, b10⟩ := a2; obtain ⟨⟨c1, c2, -⟩, ⟨c3, c4, -⟩, c5, c6, -⟩ := a1; simp_all, rfl⟩)
  by_cases e6_2 : x = 2
  · subst e6_2
    refine wp_tsIn 13 rfl (by decide) (by decide) rfl rfl ?_
    refine wp_aload_n rfl rfl ?_
    refine q_geti rfl rfl (by first | rfl | assumption) rfl ?_
    exact wp_iret rfl rfl (⟨by (try simp only [ek 8 (by decide), ek 5 (by decide), ek 6 (by decide), ek 7 (by decide), ek 11 (by decide), ek 12 (by decide), ek 36 (by decide), ek 30 (by decide), ek 31 (by decide)]); simp only [cntF]; obtain ⟨b1, b2, b3, b4, b5, b6, b7, b8, b9, b10⟩ := a2; obtain ⟨⟨c1, c2, -⟩, ⟨c3, c4, -⟩, c5, c6, -⟩ := a1; simp_all, rfl⟩)
  by_cases e6_3 : x = 3
  · subst e6_3
    refine wp_tsIn 16 rfl (by decide) (by decide) rfl rfl ?_
    refine wp_aload_n rfl rfl ?_
    refine q_geti rfl rfl (by first | rfl | assumption) rfl ?_
    exact wp_iret rfl rfl (⟨by (try simp only [ek 8 (by decide), ek 5 (by decide), ek 6 (by decide), ek 7 (by decide), ek 11 (by decide), ek 12 (by decide), ek 36 (by decide), ek 30 (by decide), ek 31 (by decide)]); simp only [cntF]; obtain ⟨b1, b2, b3, b4, b5, b6, b7, b8, b9, b10⟩ := a2; obtain ⟨⟨c1, c2, -⟩, ⟨c3, c4, -⟩, c5, c6, -⟩ := a1; simp_all, rfl⟩)
  by_cases e6_4 : x = 4
  · subst e6_4
    refine wp_tsIn 19 rfl (by decide) (by decide) rfl rfl ?_
    refine wp_aload_n rfl rfl ?_
    refine q_geti rfl rfl (by first | rfl | assumption) rfl ?_
    exact wp_iret rfl rfl (⟨by (try simp only [ek 8 (by decide), ek 5 (by decide), ek 6 (by decide), ek 7 (by decide), ek 11 (by decide), ek 12 (by decide), ek 36 (by decide), ek 30 (by decide), ek 31 (by decide)]); simp only [cntF]; obtain ⟨b1, b2, b3, b4, b5, b6, b7, b8, b9, b10⟩ := a2; obtain ⟨⟨c1, c2, -⟩, ⟨c3, c4, -⟩, c5, c6, -⟩ := a1; simp_all, rfl⟩)
  by_cases e6_5 : x = 5
  · subst e6_5
    refine wp_tsIn 22 rfl (by decide) (by decide) rfl rfl ?_
    refine wp_aload_n rfl rfl ?_
    refine q_geti rfl rfl (by first | rfl | assumption) rfl ?_
    exact wp_iret rfl rfl (⟨by (try simp only [ek 8 (by decide), ek 5 (by decide), ek 6 (by decide), ek 7 (by decide), ek 11 (by decide), ek 12 (by decide), ek 36 (by decide), ek 30 (by decide), ek 31 (by decide)]); simp only [cntF]; obtain ⟨b1, b2, b3, b4, b5, b6, b7, b8, b9, b10⟩ := a2; obtain ⟨⟨c1, c2, -⟩, ⟨c3, c4, -⟩, c5, c6, -⟩ := a1; simp_all, rfl⟩)
  by_cases e6_6 : x = 6
  · subst e6_6
    refine wp_tsIn 25 rfl (by decide) (by decide) rfl rfl ?_
    refine wp_aload_n rfl rfl ?_
    refine q_geti rfl rfl (by first | rfl | assumption) rfl ?_
    exact wp_iret rfl rfl (⟨by (try simp only [ek 8 (by decide), ek 5 (by decide), ek 6 (by decide), ek 7 (by decide), ek 11 (by decide), ek 12 (by decide), ek 36 (by decide), ek 30 (by decide), ek 31 (by decide)]); simp only [cntF]; obtain ⟨b1, b2, b3, b4, b5, b6, b7, b8, b9, b10⟩ := a2; obtain ⟨⟨c1, c2, -⟩, ⟨c3, c4, -⟩, c5, c6, -⟩ := a1; simp_all, rfl⟩)
  by_cases e6_7 : x = 7
  · subst e6_7
    refine wp_tsIn 28 rfl (by decide) (by decide) rfl rfl ?_
    refine wp_iconst (v := 0) rfl rfl ?_
    refine wp_istore_n (lv' := [(3, _), (2, _), (0, _), (1, _)]) rfl rfl (by decide) rfl ?_
    refine wp_loc (lv' := [(0, _), (1, _), (2, _), (3, _)]) [2, 3, 1, 0] rfl ?_
    have := l7 nr 0 (by omega)
    simp only [cntF]
    exact this
  by_cases e6_8 : x = 8
  · subst e6_8
    refine wp_tsIn 44 rfl (by decide) (by decide) rfl rfl ?_
    refine wp_iconst (v := 0) rfl rfl ?_
    refine wp_istore_n (lv' := [(3, _), (2, _), (0, _), (1, _)]) rfl rfl (by decide) rfl ?_
    refine wp_loc (lv' := [(0, _), (1, _), (2, _), (3, _)]) [2, 3, 1, 0] rfl ?_
    have := l8 4 0 (by omega)
    simp only [cntF]
    exact this
  by_cases e6_9 : x = 9
  · subst e6_9
    refine wp_tsIn 64 rfl (by decide) (by decide) rfl rfl ?_
    refine wp_aload_n rfl rfl ?_
    refine q_geti rfl rfl (by first | rfl | assumption) rfl ?_
    exact wp_iret rfl rfl (⟨by (try simp only [ek 8 (by decide), ek 5 (by decide), ek 6 (by decide), ek 7 (by decide), ek 11 (by decide), ek 12 (by decide), ek 36 (by decide), ek 30 (by decide), ek 31 (by decide)]); simp only [cntF]; obtain ⟨b1, b2, b3, b4, b5, b6, b7, b8, b9, b10⟩ := a2; obtain ⟨⟨c1, c2, -⟩, ⟨c3, c4, -⟩, c5, c6, -⟩ := a1; simp_all, rfl⟩)
  by_cases e6_10 : x = 10
  · subst e6_10
    refine wp_tsIn 67 rfl (by decide) (by decide) rfl rfl ?_
    refine wp_aload_n rfl rfl ?_
    refine q_geti rfl rfl (by first | rfl | assumption) rfl ?_
    exact wp_iret rfl rfl (⟨by (try simp only [ek 8 (by decide), ek 5 (by decide), ek 6 (by decide), ek 7 (by decide), ek 11 (by decide), ek 12 (by decide), ek 36 (by decide), ek 30 (by decide), ek 31 (by decide)]); simp only [cntF]; obtain ⟨b1, b2, b3, b4, b5, b6, b7, b8, b9, b10⟩ := a2; obtain ⟨⟨c1, c2, -⟩, ⟨c3, c4, -⟩, c5, c6, -⟩ := a1; simp_all, rfl⟩)
  refine wp_tsOut 70 rfl (by have a0 := lv_neT e6_0 (a := 0) rfl; have a1 := lv_neT e6_1 (a := 1) rfl; have a2 := lv_neT e6_2 (a := 2) rfl; have a3 := lv_neT e6_3 (a := 3) rfl; have a4 := lv_neT e6_4 (a := 4) rfl; have a5 := lv_neT e6_5 (a := 5) rfl; have a6 := lv_neT e6_6 (a := 6) rfl; have a7 := lv_neT e6_7 (a := 7) rfl; have a8 := lv_neT e6_8 (a := 8) rfl; have a9 := lv_neT e6_9 (a := 9) rfl; have a10 := lv_neT e6_10 (a := 10) rfl; omega) rfl ?_
  refine wp_iconst (v := (-1)) rfl rfl ?_
  exact wp_iret rfl rfl (⟨by (try simp only [ek 8 (by decide), ek 5 (by decide), ek 6 (by decide), ek 7 (by decide), ek 11 (by decide), ek 12 (by decide), ek 36 (by decide), ek 30 (by decide), ek 31 (by decide)]); simp only [cntF]; obtain ⟨b1, b2, b3, b4, b5, b6, b7, b8, b9, b10⟩ := a2; obtain ⟨⟨c1, c2, -⟩, ⟨c3, c4, -⟩, c5, c6, -⟩ := a1; simp_all, rfl⟩)
theorem s_count {G : Gl} {d : Nat} {I : IF} {L : LF} {b : Bool} (x : Int32) (h : InvA I L) (hlaw : I 72 12 = I (lawA b) 8) : StepA G (d + 7) Y_X10_count Y_X11_count [.int x] I L b := by
  obtain ⟨nm, na, nr, h⟩ := h
  exact StepA.query h (c_X10_count G d x I L b h) (c_X11_count G d x I L b h hlaw)
end
section
/-! blame -/
/-- the masts of the areas of a kind -/
def blS (P : Nat → Bool) (m : Nat → Int32) : Nat → Int32
  | 0 => 0
  | i + 1 => if ¬ m i = -1 ∧ P i = true then blS P m i ||| (1 <<< (m i &&& 31)) else blS P m i
theorem blS_bt {P : Nat → Bool} {m : Nat → Int32} : ∀ (n : Nat), (∀ a, a < n → m a = -1 ∨ ∃ j, j < 10 ∧ m a = nI j) → ∀ q, q < 32 → (bt (blS P m n) q = true ↔ ∃ a, a < n ∧ P a = true ∧ m a = nI q)
  | 0, _, q, hq => by
    simp only [blS]
    rw [b_0]
    exact ⟨fun h => absurd h (by decide), fun ⟨a, h, _⟩ => absurd h (by omega)⟩
  | n + 1, h, q, hq => by
    have ih := blS_bt (P := P) (m := m) n (fun a ha => h a (by omega)) q hq
    simp only [blS]
    split
    · next hc =>
      obtain ⟨j, hj, e⟩ := (h n (by omega)).resolve_left hc.1
      rw [b_or, e, b_shl j (by omega) 1 hq, Bool.or_eq_true, ih]
      have e1 : (decide (j ≤ q) && bt 1 (q - j)) = true ↔ q = j := by
        rw [b_1 (q - j) (by omega)]
        simp
        omega
      rw [e1]
      constructor
      · rintro (⟨a, h1, h2, h3⟩ | rfl)
        · exact ⟨a, by omega, h2, h3⟩
        · exact ⟨n, by omega, hc.2, e⟩
      · rintro ⟨a, h1, h2, h3⟩
        by_cases ea : a = n
        · subst ea
          right
          rw [e] at h3
          exact ((nI_eq (by omega) (by omega)).mp h3).symm
        · exact Or.inl ⟨a, by omega, h2, h3⟩
    · next hc =>
      rw [ih]
      constructor
      · rintro ⟨a, h1, h2, h3⟩
        exact ⟨a, by omega, h2, h3⟩
      · rintro ⟨a, h1, h2, h3⟩
        by_cases ea : a = n
        · subst ea
          exfalso
          apply hc
          refine ⟨?_, h2⟩
          rw [h3]
          have := nI_pos' (n := q) (by omega)
          grind
        · exact ⟨a, by omega, h2, h3⟩
theorem set_rng (x : Int32) {n : Nat} (hn : n ≤ 16) : x >>> (nI n &&& 31) = 0 ↔ 0 ≤ x ∧ x ≤ (1 <<< (nI n &&& 31)) - 1 := by
  have hs := s_l n (by omega)
  have hp : 2 ^ n ≤ 65536 := Nat.pow_le_pow_right (n := 2) (by omega) hn
  have hp1 : 1 ≤ 2 ^ n := Nat.one_le_two_pow
  have e1 : (1 : Int32) <<< (nI n &&& 31) = nI (2 ^ n) := by
    have := pk_shlN (n := 1) (nI n &&& 31) n hs (by omega)
    rw [Nat.one_mul] at this
    exact this
  have e2 : nI (2 ^ n) - 1 = nI (2 ^ n - 1) := pk_sub (a := 2 ^ n) (b := 1) hp1
  rw [e1, e2, ← Int32.toInt_inj, pk_shr x _ n hs, Int32.le_iff_toInt_le, Int32.le_iff_toInt_le, nI_toInt (by omega), Int.shiftRight_eq_div_pow, show (0 : Int32).toInt = 0 from rfl]
  have hpi : (0 : Int) < ((2 ^ n : Nat) : Int) := by omega
  rw [show ((2 : Nat) ^ n : Nat) = 2 ^ n from rfl]
  constructor
  · intro h
    have h1 := Int.emod_nonneg x.toInt (b := ((2 ^ n : Nat) : Int)) (by omega)
    have h2 := Int.emod_lt_of_pos x.toInt hpi
    have h3 := Int.emod_add_mul_ediv x.toInt ((2 ^ n : Nat) : Int)
    rw [h, Int.mul_zero, Int.add_zero] at h3
    omega
  · intro ⟨h1, h2⟩
    exact Int.ediv_eq_zero_of_lt h1 (by omega)
def blmF (P : Nat → Bool) (m : Nat → Int32) (n : Nat) : Int32 := if blS P m n &&& blS (fun a => !P a) m n = 0 then blS P m n else -1
theorem c_X10_blame (G : Gl) (d : Nat) {nm na nr : Nat} (x : Int32) (I : IF) (L : LF) (b : Bool) (h : IV nm na nr I L) : MD G (d + 1) Y_X10_blame [.ref 0, .int x] (I, L, RR b) (some (.int (if x >>> (nI nr &&& 31) = 0 then blmF (bt x) (fun a => I (18 + a) 6) nr else -2))) (I, L, RR b) := by
  have hnr : nr ≤ 16 := h.1.2.2.2.2
  have h4 := h.1.2.2.1
  have hloop : ∀ (n i : Nat), i + n = nr → WQ G (d + 1) Y_X10_blame (fun r' w'' => r' = some (.int (blmF (bt x) (fun a => I (18 + a) 6) nr)) ∧ w'' = (I, L, RR b)) 14 [(0, .ref 0), (1, .int x), (2, .int (blS (bt x) (fun a => I (18 + a) 6) i)), (3, .int (blS (fun a => !bt x a) (fun a => I (18 + a) 6) i)), (4, .int (nI i))] [] (I, L, RR b) := by
    intro n
    induction n with
    | zero =>
      intro i hi
      have hie : i = nr := by omega
      subst hie
      have hge : I 1 4 ≤ nI i := by rw [h4]; exact nI_le (Nat.le_refl _) (by omega)
      refine wp_iload rfl rfl ?_
      refine wp_aload_n rfl rfl ?_
      refine q_getr rfl rfl (by first | rfl | assumption) rfl rfl ?_
      refine q_geti rfl rfl (by first | rfl | assumption) rfl ?_
      refine wp_icmp_ge 51 rfl rfl (fun _ => ?_) (fun h18 => absurd hge h18)
      refine wp_iload_n rfl rfl ?_
      refine wp_iload_n rfl rfl ?_
      refine wp_iand rfl ?_
      refine wp_if_ne 57 rfl rfl (fun h54 => ?_) (fun h54 => ?_)
      · refine wp_iconst (v := (-1)) rfl rfl ?_
        exact wp_iret rfl rfl (⟨by unfold blmF; grind, rfl⟩)
      · refine wp_iload_n rfl rfl ?_
        refine wp_goto 58 rfl rfl ?_
        exact wp_iret rfl rfl (⟨by unfold blmF; grind, rfl⟩)
    | succ n ih =>
      intro i hi
      have hlt : ¬ I 1 4 ≤ nI i := by rw [h4]; exact nI_ge (by omega) (by omega)
      have hsa := sh_area i (by omega)
      have hbit := bit1 x (a := i) (by omega)
      have s1 : blS (bt x) (fun a => I (18 + a) 6) (i + 1) = if ¬ I (18 + i) 6 = -1 ∧ bt x i = true then blS (bt x) (fun a => I (18 + a) 6) i ||| (1 <<< (I (18 + i) 6 &&& 31)) else blS (bt x) (fun a => I (18 + a) 6) i := rfl
      have s2 : blS (fun a => !bt x a) (fun a => I (18 + a) 6) (i + 1) = if ¬ I (18 + i) 6 = -1 ∧ (!bt x i) = true then blS (fun a => !bt x a) (fun a => I (18 + a) 6) i ||| (1 <<< (I (18 + i) 6 &&& 31)) else blS (fun a => !bt x a) (fun a => I (18 + a) 6) i := rfl
      have J49 : ∀ y1 y2 y5 : Int32, y1 = blS (bt x) (fun a => I (18 + a) 6) (i + 1) → y2 = blS (fun a => !bt x a) (fun a => I (18 + a) 6) (i + 1) → WQ G (d + 1) Y_X10_blame (fun r' w'' => r' = some (.int (blmF (bt x) (fun a => I (18 + a) 6) nr)) ∧ w'' = (I, L, RR b)) 49 [(0, .ref 0), (1, .int x), (2, .int y1), (3, .int y2), (4, .int (nI i)), (5, .int y5)] [] (I, L, RR b) := by
        intro y1 y2 y5 e1 e2
        rw [e1, e2]
        refine wp_iinc (v := nI (i + 1)) (lv' := [(4, _), (0, _), (1, _), (2, _), (3, _), (5, _)]) rfl rfl (nI_1 i) (by decide) rfl ?_
        refine wp_goto 14 rfl rfl ?_
        refine wp_loc (lv' := [(0, _), (1, _), (2, _), (3, _), (4, _)]) [1, 2, 3, 4, 0] rfl ?_
        exact ih (i + 1) (by omega)
      refine wp_iload rfl rfl ?_
      refine wp_aload_n rfl rfl ?_
      refine q_getr rfl rfl (by first | rfl | assumption) rfl rfl ?_
      refine q_geti rfl rfl (by first | rfl | assumption) rfl ?_
      refine wp_icmp_ge 51 rfl rfl (fun h18 => absurd h18 hlt) (fun _ => ?_)
      refine wp_aload_n rfl rfl ?_
      refine q_getr rfl rfl (by first | rfl | assumption) rfl rfl ?_
      refine q_getr rfl rfl (by first | rfl | assumption) rfl rfl ?_
      refine wp_iload rfl rfl ?_
      refine q_area rfl rfl (by omega) ?_
      refine q_geti rfl rfl (by first | rfl | assumption) rfl ?_
      refine wp_istore (lv' := [(5, _), (0, _), (1, _), (2, _), (3, _), (4, _)]) rfl (by decide) rfl ?_
      refine wp_iload rfl rfl ?_
      refine wp_iconst (v := (-1)) rfl rfl ?_
      refine wp_icmp_eq 40 rfl rfl (fun h28 => ?_) (fun h28 => ?_)
      · refine wp_iload rfl rfl ?_
        refine wp_iconst (v := (-1)) rfl rfl ?_
        refine wp_icmp_eq 49 rfl rfl (fun h42 => ?_) (fun h42 => ?_)
        · refine wp_loc (lv' := [(0, _), (1, _), (2, _), (3, _), (4, _), (5, _)]) [1, 2, 3, 4, 5, 0] rfl ?_
          exact J49 _ _ _ (by rw [s1]; (try rw [hbit] at h32); grind [b2]) (by rw [s2]; (try rw [hbit] at h32); grind [b2])
        · refine wp_iload_n rfl rfl ?_
          refine wp_iconst (v := 1) rfl rfl ?_
          refine wp_iload rfl rfl ?_
          refine wp_ishl rfl ?_
          refine wp_ior rfl ?_
          refine wp_istore_n (lv' := [(3, _), (5, _), (0, _), (1, _), (2, _), (4, _)]) rfl rfl (by decide) rfl ?_
          refine wp_loc (lv' := [(0, _), (1, _), (2, _), (3, _), (4, _), (5, _)]) [2, 3, 4, 0, 5, 1] rfl ?_
          exact J49 _ _ _ (by rw [s1]; (try rw [hbit] at h32); grind [b2]) (by rw [s2]; (try rw [hbit] at h32); grind [b2])
      · refine wp_iload_n rfl rfl ?_
        refine wp_iload rfl rfl ?_
        refine cS1 rfl l_10_247 s_X10_isIn m_X10_isIn (c_X10_isIn G _ _ _ _) rfl (Nat.le_of_ble_eq_true rfl) ?_
        refine wp_if_eq 40 rfl rfl (fun h32 => ?_) (fun h32 => ?_)
        · refine wp_iload rfl rfl ?_
          refine wp_iconst (v := (-1)) rfl rfl ?_
          refine wp_icmp_eq 49 rfl rfl (fun h42 => ?_) (fun h42 => ?_)
          · refine wp_loc (lv' := [(0, _), (1, _), (2, _), (3, _), (4, _), (5, _)]) [1, 2, 3, 4, 5, 0] rfl ?_
            exact J49 _ _ _ (by rw [s1]; (try rw [hbit] at h32); grind [b2]) (by rw [s2]; (try rw [hbit] at h32); grind [b2])
          · refine wp_iload_n rfl rfl ?_
            refine wp_iconst (v := 1) rfl rfl ?_
            refine wp_iload rfl rfl ?_
            refine wp_ishl rfl ?_
            refine wp_ior rfl ?_
            refine wp_istore_n (lv' := [(3, _), (5, _), (0, _), (1, _), (2, _), (4, _)]) rfl rfl (by decide) rfl ?_
            refine wp_loc (lv' := [(0, _), (1, _), (2, _), (3, _), (4, _), (5, _)]) [2, 3, 4, 0, 5, 1] rfl ?_
            exact J49 _ _ _ (by rw [s1]; (try rw [hbit] at h32); grind [b2]) (by rw [s2]; (try rw [hbit] at h32); grind [b2])
        · refine wp_iload_n rfl rfl ?_
          refine wp_iconst (v := 1) rfl rfl ?_
          refine wp_iload rfl rfl ?_
          refine wp_ishl rfl ?_
          refine wp_ior rfl ?_
          refine wp_istore_n (lv' := [(2, _), (5, _), (0, _), (1, _), (3, _), (4, _)]) rfl rfl (by decide) rfl ?_
          refine wp_goto 49 rfl rfl ?_
          refine wp_loc (lv' := [(0, _), (1, _), (2, _), (3, _), (4, _), (5, _)]) [2, 3, 0, 4, 5, 1] rfl ?_
          exact J49 _ _ _ (by rw [s1]; (try rw [hbit] at h32); grind [b2]) (by rw [s2]; (try rw [hbit] at h32); grind [b2])
  refine MT.intro m_X10_blame rfl (Nat.le_of_ble_eq_true rfl) ?_
  show WQ G (d + 1) Y_X10_blame _ 0 [(0, .ref 0), (1, .int x)] [] (I, L, RR b)
  refine wp_iload_n rfl rfl ?_
  refine wp_aload_n rfl rfl ?_
  refine q_getr rfl rfl (by first | rfl | assumption) rfl rfl ?_
  refine q_geti rfl rfl (by first | rfl | assumption) rfl ?_
  refine wp_ishr rfl ?_
  refine wp_if_eq 8 rfl rfl (fun h5 => ?_) (fun h5 => ?_)
  · refine wp_iconst (v := 0) rfl rfl ?_
    refine wp_istore_n (lv' := [(2, _), (0, _), (1, _)]) rfl rfl (by decide) rfl ?_
    refine wp_iconst (v := 0) rfl rfl ?_
    refine wp_istore_n (lv' := [(3, _), (2, _), (0, _), (1, _)]) rfl rfl (by decide) rfl ?_
    refine wp_iconst (v := 0) rfl rfl ?_
    refine wp_istore (lv' := [(4, _), (3, _), (2, _), (0, _), (1, _)]) rfl (by decide) rfl ?_
    refine wp_loc (lv' := [(0, _), (1, _), (2, _), (3, _), (4, _)]) [3, 4, 2, 1, 0] rfl ?_
    rw [h4] at h5
    rw [if_pos h5]
    exact hloop nr 0 (by omega)
  · rw [h4] at h5
    refine wp_bipush (v := (-2)) rfl rfl ?_
    exact wp_iret rfl rfl ⟨by rw [if_neg h5], rfl⟩
theorem c_X11_blame (G : Gl) (d : Nat) {nm na nr : Nat} (x : Int32) (I : IF) (L : LF) (b : Bool) (h : IV nm na nr I L) : MD G (d + 1) Y_X11_blame [.ref 72, .int x] (I, L, RR b) (some (.int (if x >>> (nI nr &&& 31) = 0 then blmF (bt x) (fun a => I (18 + a) 6) nr else -2))) (uI I 72 0 0, L, RR b) := by
  have hnr : nr ≤ 16 := h.1.2.2.2.2
  have hnm : nm ≤ 10 := h.1.1.2.2
  have h7 : uI I 72 0 0 72 7 = nI nr := h.1.2.2.2.1
  have e92 : ∀ k, uI I 72 0 0 92 k = I 92 k := fun k => uI_ne (by decide)
  generalize hJ : uI I 72 0 0 = J at *
  have hae : ∀ a, a < nr → J 92 a = I (18 + a) 6 ∧ (I (18 + a) 6 = -1 ∨ ∃ j, j < 10 ∧ I (18 + a) 6 = nI j) := by
    intro a ha
    have z := (h.2.2.2.2.2.2.2.2.1 a (by omega)).1 ha
    refine ⟨(e92 a).trans z.1, ?_⟩
    by_cases e : I (18 + a) 6 = -1
    · exact Or.inl e
    · obtain ⟨j, h1, h2⟩ := nI_get (x := I (18 + a) 6) (n := nm) (by grind) z.2.2 (by omega)
      exact Or.inr ⟨j, by omega, h2⟩
  generalize hm : (fun a => I (18 + a) 6) = m
  have hma : ∀ a, I (18 + a) 6 = m a := fun a => by rw [← hm]
  have hmb : ∀ a, a < nr → J 92 a = m a ∧ (m a = -1 ∨ ∃ j, j < 10 ∧ m a = nI j) := fun a ha => by rw [← hma]; exact hae a ha
  have hB := blS_bt (P := bt x) (m := m) nr (fun a ha => (hmb a ha).2)
  have hC := blS_bt (P := fun a => !bt x a) (m := m) nr (fun a ha => (hmb a ha).2)
  have hz : blS (bt x) m nr &&& blS (fun a => !bt x a) m nr = 0 ↔ ∀ a, a < nr → bt x a = false → ∀ q, q < 10 → m a = nI q → bt (blS (bt x) m nr) q = false := by
    constructor
    · intro e a ha hx q hq hmq
      have h1 : bt (blS (fun a => !bt x a) m nr) q = true := (hC q (by omega)).mpr ⟨a, ha, by simp [hx], hmq⟩
      have h2 := b_and (blS (bt x) m nr) (blS (fun a => !bt x a) m nr) q
      rw [e, b_0, h1] at h2
      simpa using h2.symm
    · intro hall
      apply b_ext
      intro q hq
      rw [b_and, b_0]
      cases e1 : bt (blS (fun a => !bt x a) m nr) q with
      | false => simp
      | true =>
        obtain ⟨a, ha, hx, hmq⟩ := (hC q hq).mp e1
        have hq10 : q < 10 := by
          rcases (hmb a ha).2 with e2 | ⟨j, hj, e2⟩
          · rw [hmq] at e2
            exfalso
            have := nI_pos' (n := q) (by omega)
            grind
          · have := (nI_eq (a := q) (b := j) (by omega) (by omega)).mp (hmq.symm.trans e2)
            omega
        rw [hall a ha (by simpa using hx) q hq10 hmq]
        simp
  generalize hbl : blS (bt x) m nr = BL
  have loop2 : ∀ (n i : Nat), i + n = nr → (∀ a, a < i → bt x a = false → ∀ q, q < 10 → m a = nI q → bt BL q = false) → WQ G (d + 1) Y_X11_blame (fun r' w'' => r' = some (.int (blmF (bt x) m nr)) ∧ w'' = (J, L, RR b)) 51 [(0, .ref 72), (1, .int x), (2, .int BL), (3, .int (nI i))] [] (J, L, RR b) := by
    intro n
    induction n with
    | zero =>
      intro i hi hall
      have hie : i = nr := by omega
      subst hie
      have hge : J 72 7 ≤ nI i := by rw [h7]; exact nI_le (Nat.le_refl _) (by omega)
      have hF : blmF (bt x) m i = BL := by unfold blmF; rw [if_pos (hz.mpr (by rw [hbl]; exact hall)), hbl]
      refine wp_iload_n rfl rfl ?_
      refine wp_aload_n rfl rfl ?_
      refine q_geti rfl rfl (by first | rfl | assumption) rfl ?_
      refine wp_icmp_ge 81 rfl rfl (fun _ => ?_) (fun h54 => absurd hge h54)
      refine wp_iload_n rfl rfl ?_
      exact wp_iret rfl rfl (⟨by rw [hF], rfl⟩)
    | succ n ih =>
      intro i hi hall
      have hlt : ¬ J 72 7 ≤ nI i := by rw [h7]; exact nI_ge (by omega) (by omega)
      have hbit := bit1 x (a := i) (by omega)
      have hcl : (nI i).toNatClampNeg = i := nI_clamp (by omega)
      have hmi := hmb i (by omega)
      refine wp_iload_n rfl rfl ?_
      refine wp_aload_n rfl rfl ?_
      refine q_geti rfl rfl (by first | rfl | assumption) rfl ?_
      refine wp_icmp_ge 81 rfl rfl (fun h54 => absurd h54 hlt) (fun _ => ?_)
      refine wp_iload_n rfl rfl ?_
      refine wp_iload_n rfl rfl ?_
      refine wp_ishr rfl ?_
      refine wp_iconst (v := 1) rfl rfl ?_
      refine wp_iand rfl ?_
      refine wp_if_ne 79 rfl rfl (fun h60 => ?_) (fun h60 => ?_)
      · refine wp_iinc (v := nI (i + 1)) (lv' := [(3, _), (0, _), (1, _), (2, _)]) rfl rfl (nI_1 i) (by decide) rfl ?_
        refine wp_goto 51 rfl rfl ?_
        refine wp_loc (lv' := [(0, _), (1, _), (2, _), (3, _)]) [1, 2, 3, 0] rfl ?_
        refine ih (i + 1) (by omega) (fun a ha hx q hq hmq2 => ?_)
        by_cases ea : a = i
        · subst ea
          first
          | (rw [hbit, b2_f (by rw [hx]; decide)] at h60; exact absurd rfl h60)
          | (rw [hcl, hmi.1] at h66; rw [hmq2] at h66; exfalso; have := nI_pos' (n := q) (by omega); grind)
          | (have hqq : q = q0 := (nI_eq (by omega) (by omega)).mp (hmq2.symm.trans hmq)
             subst hqq
             rw [hcl, hmi.1, hmq, hb2] at h76
             cases e3 : bt BL q with
             | false => rfl
             | true => rw [b2_t e3] at h76; exact absurd rfl h76)
        · exact hall a (by omega) hx q hq hmq2
      · refine wp_aload_n rfl rfl ?_
        refine q_getr rfl rfl (by first | rfl | assumption) rfl rfl ?_
        refine wp_iload_n rfl rfl ?_
        refine q_iald rfl (by first | rfl | assumption) (vp_in_nI (by omega) (by omega)) ?_
        refine wp_iconst (v := (-1)) rfl rfl ?_
        refine wp_icmp_eq 79 rfl rfl (fun h66 => ?_) (fun h66 => ?_)
        · refine wp_iinc (v := nI (i + 1)) (lv' := [(3, _), (0, _), (1, _), (2, _)]) rfl rfl (nI_1 i) (by decide) rfl ?_
          refine wp_goto 51 rfl rfl ?_
          refine wp_loc (lv' := [(0, _), (1, _), (2, _), (3, _)]) [1, 2, 3, 0] rfl ?_
          refine ih (i + 1) (by omega) (fun a ha hx q hq hmq2 => ?_)
          by_cases ea : a = i
          · subst ea
            first
            | (rw [hbit, b2_f (by rw [hx]; decide)] at h60; exact absurd rfl h60)
            | (rw [hcl, hmi.1] at h66; rw [hmq2] at h66; exfalso; have := nI_pos' (n := q) (by omega); grind)
            | (have hqq : q = q0 := (nI_eq (by omega) (by omega)).mp (hmq2.symm.trans hmq)
               subst hqq
               rw [hcl, hmi.1, hmq, hb2] at h76
               cases e3 : bt BL q with
               | false => rfl
               | true => rw [b2_t e3] at h76; exact absurd rfl h76)
          · exact hall a (by omega) hx q hq hmq2
        · rw [hbit] at h60
          have hxi : bt x i = false := by simpa using b2_eq.mp h60
          rw [hcl, hmi.1] at h66
          obtain ⟨q0, hq0, hmq⟩ := hmi.2.resolve_left h66
          have hb2 := bit1 BL (a := q0) (by omega)
          refine wp_iload_n rfl rfl ?_
          refine wp_aload_n rfl rfl ?_
          refine q_getr rfl rfl (by first | rfl | assumption) rfl rfl ?_
          refine wp_iload_n rfl rfl ?_
          refine q_iald rfl (by first | rfl | assumption) (vp_in_nI (by omega) (by omega)) ?_
          refine wp_ishr rfl ?_
          refine wp_iconst (v := 1) rfl rfl ?_
          refine wp_iand rfl ?_
          refine wp_iconst (v := 1) rfl rfl ?_
          refine wp_icmp_ne 79 rfl rfl (fun h76 => ?_) (fun h76 => ?_)
          · refine wp_iinc (v := nI (i + 1)) (lv' := [(3, _), (0, _), (1, _), (2, _)]) rfl rfl (nI_1 i) (by decide) rfl ?_
            refine wp_goto 51 rfl rfl ?_
            refine wp_loc (lv' := [(0, _), (1, _), (2, _), (3, _)]) [1, 2, 3, 0] rfl ?_
            refine ih (i + 1) (by omega) (fun a ha hx q hq hmq2 => ?_)
            by_cases ea : a = i
            · subst ea
              first
              | (rw [hbit, b2_f (by rw [hx]; decide)] at h60; exact absurd rfl h60)
              | (rw [hcl, hmi.1] at h66; rw [hmq2] at h66; exfalso; have := nI_pos' (n := q) (by omega); grind)
              | (have hqq : q = q0 := (nI_eq (by omega) (by omega)).mp (hmq2.symm.trans hmq)
                 subst hqq
                 rw [hcl, hmi.1, hmq, hb2] at h76
                 cases e3 : bt BL q with
                 | false => rfl
                 | true => rw [b2_t e3] at h76; exact absurd rfl h76)
            · exact hall a (by omega) hx q hq hmq2
          · rw [hcl, hmi.1, hmq, hb2] at h76
            have hbq : bt BL q0 = true := by
              by_cases e : bt BL q0 = true
              · exact e
              · rw [b2_f e] at h76; exact absurd h76 (by decide)
            refine wp_iconst (v := (-1)) rfl rfl ?_
            exact wp_iret rfl rfl (⟨by unfold blmF; rw [if_neg (fun e => by have := hz.mp e i (by omega) hxi q0 hq0 hmq; rw [hbl, hbq] at this; cases this)], rfl⟩)
  have loop1 : ∀ (n i : Nat), i + n = nr → WQ G (d + 1) Y_X11_blame (fun r' w'' => r' = some (.int (blmF (bt x) m nr)) ∧ w'' = (J, L, RR b)) 21 [(0, .ref 72), (1, .int x), (2, .int (blS (bt x) m i)), (3, .int (nI i))] [] (J, L, RR b) := by
    intro n
    induction n with
    | zero =>
      intro i hi
      have hie : i = nr := by omega
      subst hie
      have hge : J 72 7 ≤ nI i := by rw [h7]; exact nI_le (Nat.le_refl _) (by omega)
      refine wp_iload_n rfl rfl ?_
      refine wp_aload_n rfl rfl ?_
      refine q_geti rfl rfl (by first | rfl | assumption) rfl ?_
      refine wp_icmp_ge 49 rfl rfl (fun _ => ?_) (fun h24 => absurd hge h24)
      refine wp_iconst (v := 0) rfl rfl ?_
      refine wp_istore_n (lv' := [(3, _), (0, _), (1, _), (2, _)]) rfl rfl (by decide) rfl ?_
      refine wp_loc (lv' := [(0, _), (1, _), (2, _), (3, _)]) [1, 2, 3, 0] rfl ?_
      rw [hbl]
      exact loop2 i 0 (by omega) (fun a ha => absurd ha (by omega))
    | succ n ih =>
      intro i hi
      have hlt : ¬ J 72 7 ≤ nI i := by rw [h7]; exact nI_ge (by omega) (by omega)
      have hbit := bit1 x (a := i) (by omega)
      have hcl : (nI i).toNatClampNeg = i := nI_clamp (by omega)
      have hmi := (hmb i (by omega)).1
      have s1 : blS (bt x) m (i + 1) = if ¬ m i = -1 ∧ bt x i = true then blS (bt x) m i ||| (1 <<< (m i &&& 31)) else blS (bt x) m i := rfl
      have J47 : ∀ y1 : Int32, y1 = blS (bt x) m (i + 1) → WQ G (d + 1) Y_X11_blame (fun r' w'' => r' = some (.int (blmF (bt x) m nr)) ∧ w'' = (J, L, RR b)) 47 [(0, .ref 72), (1, .int x), (2, .int y1), (3, .int (nI i))] [] (J, L, RR b) := by
        intro y1 e1
        rw [e1]
        refine wp_iinc (v := nI (i + 1)) (lv' := [(3, _), (0, _), (1, _), (2, _)]) rfl rfl (nI_1 i) (by decide) rfl ?_
        refine wp_goto 21 rfl rfl ?_
        refine wp_loc (lv' := [(0, _), (1, _), (2, _), (3, _)]) [1, 2, 3, 0] rfl ?_
        exact ih (i + 1) (by omega)
      refine wp_iload_n rfl rfl ?_
      refine wp_aload_n rfl rfl ?_
      refine q_geti rfl rfl (by first | rfl | assumption) rfl ?_
      refine wp_icmp_ge 49 rfl rfl (fun h24 => absurd h24 hlt) (fun _ => ?_)
      refine wp_iload_n rfl rfl ?_
      refine wp_iload_n rfl rfl ?_
      refine wp_ishr rfl ?_
      refine wp_iconst (v := 1) rfl rfl ?_
      refine wp_iand rfl ?_
      refine wp_iconst (v := 1) rfl rfl ?_
      refine wp_icmp_ne 47 rfl rfl (fun h31 => ?_) (fun h31 => ?_)
      · refine J47 _ ?_
        rw [s1]
        (try rw [hcl, hmi] at h37)
        rw [hbit] at h31
        (try rw [hcl, hmi])
        grind [b2]
      · refine wp_aload_n rfl rfl ?_
        refine q_getr rfl rfl (by first | rfl | assumption) rfl rfl ?_
        refine wp_iload_n rfl rfl ?_
        refine q_iald rfl (by first | rfl | assumption) (vp_in_nI (by omega) (by omega)) ?_
        refine wp_iconst (v := (-1)) rfl rfl ?_
        refine wp_icmp_eq 47 rfl rfl (fun h37 => ?_) (fun h37 => ?_)
        · refine J47 _ ?_
          rw [s1]
          (try rw [hcl, hmi] at h37)
          rw [hbit] at h31
          (try rw [hcl, hmi])
          grind [b2]
        · refine wp_iload_n rfl rfl ?_
          refine wp_iconst (v := 1) rfl rfl ?_
          refine wp_aload_n rfl rfl ?_
          refine q_getr rfl rfl (by first | rfl | assumption) rfl rfl ?_
          refine wp_iload_n rfl rfl ?_
          refine q_iald rfl (by first | rfl | assumption) (vp_in_nI (by omega) (by omega)) ?_
          refine wp_ishl rfl ?_
          refine wp_ior rfl ?_
          refine wp_istore_n (lv' := [(2, _), (0, _), (1, _), (3, _)]) rfl rfl (by decide) rfl ?_
          refine wp_loc (lv' := [(0, _), (1, _), (2, _), (3, _)]) [1, 2, 0, 3] rfl ?_
          refine J47 _ ?_
          rw [s1]
          (try rw [hcl, hmi] at h37)
          rw [hbit] at h31
          (try rw [hcl, hmi])
          grind [b2]
  have hrg := set_rng x hnr
  refine MT.intro m_X11_blame rfl (Nat.le_of_ble_eq_true rfl) ?_
  show WQ G (d + 1) Y_X11_blame _ 0 [(0, .ref 72), (1, .int x)] [] (I, L, RR b)
  refine wp_aload_n rfl rfl ?_
  refine wp_iconst (v := 0) rfl rfl ?_
  refine q_puti rfl rfl (by first | rfl | assumption) (Or.inl rfl) rfl ?_
  rw [hJ]
  refine wp_iload_n rfl rfl ?_
  refine wp_i2l rfl ?_
  refine wp_lconst (v := 0) rfl rfl ?_
  refine wp_iconst (v := 1) rfl rfl ?_
  refine wp_aload_n rfl rfl ?_
  refine q_geti rfl rfl (by first | rfl | assumption) rfl ?_
  refine wp_ishl rfl ?_
  refine wp_iconst (v := 1) rfl rfl ?_
  refine wp_isub rfl ?_
  refine wp_i2l rfl ?_
  refine cS1 rfl l_11_119 s_X11_in m_X11_in (c_inI G _ _ 0 ((1 : Int32) <<< (J 72 7 &&& 31) - 1) rfl rfl _) rfl (Nat.le_of_ble_eq_true rfl) ?_
  refine wp_if_ne 17 rfl rfl (fun h14 => ?_) (fun h14 => ?_)
  · refine wp_iconst (v := 0) rfl rfl ?_
    refine wp_istore_n (lv' := [(2, _), (0, _), (1, _)]) rfl rfl (by decide) rfl ?_
    refine wp_iconst (v := 0) rfl rfl ?_
    refine wp_istore_n (lv' := [(3, _), (2, _), (0, _), (1, _)]) rfl rfl (by decide) rfl ?_
    refine wp_loc (lv' := [(0, _), (1, _), (2, _), (3, _)]) [2, 3, 1, 0] rfl ?_
    rw [h7] at h14
    rw [if_pos (hrg.mpr (b2_ne.mp h14))]
    exact loop1 nr 0 (by omega)
  · rw [h7] at h14
    refine wp_bipush (v := (-2)) rfl rfl ?_
    exact wp_iret rfl rfl ⟨by rw [if_neg (fun e => (b2_eq.mp h14) (hrg.mp e))], rfl⟩
theorem s_blame {G : Gl} {d : Nat} {I : IF} {L : LF} {b : Bool} (x : Int32) (h : InvA I L) : StepA G (d + 1) Y_X10_blame Y_X11_blame [.int x] I L b := by
  obtain ⟨nm, na, nr, h⟩ := h
  exact StepA.query h (c_X10_blame G d x I L b h) (c_X11_blame G d x I L b h)
end
