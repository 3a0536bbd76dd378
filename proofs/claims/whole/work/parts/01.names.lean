-- ===== PART A: goes FIRST, ahead of the names: the tables' words, and 'selects' of the private methods out of them =====
/-- a private method of a class that the tables say can be made, by its rows of tables_1 -/
def lw_okq (q : MethodName × Nat) : Prop := (q.1.cls ≠ "java/lang/invoke/MethodHandle" ∧ q.1.cls ≠ "java/lang/invoke/VarHandle") ∧ Cond.instantiable q.1.cls q.2 ∈ tables_1 ∧ Cond.privateMethod q.1 ∈ tables_1 ∧ Cond.instanceMethod q.1 ∈ tables_1
theorem lw_p0 : lw_okq (⟨"GlassStreet$Tape", "scanWord", "()V"⟩, 9) := ⟨⟨by decide +kernel, by decide +kernel⟩, List.mem_of_getElem? (i := 35) (by decide +kernel), List.mem_of_getElem? (i := 368) (by decide +kernel), List.mem_of_getElem? (i := 369) (by decide +kernel)⟩
theorem lw_p1 : lw_okq (⟨"GlassStreet$Tape", "scanNumber", "()V"⟩, 9) := ⟨⟨by decide +kernel, by decide +kernel⟩, List.mem_of_getElem? (i := 35) (by decide +kernel), List.mem_of_getElem? (i := 426) (by decide +kernel), List.mem_of_getElem? (i := 427) (by decide +kernel)⟩
theorem lw_p2 : lw_okq (⟨"GlassStreet$Law", "readsLevel", "(LGlassStreet$Tape;II)Z"⟩, 3) := ⟨⟨by decide +kernel, by decide +kernel⟩, List.mem_of_getElem? (i := 169) (by decide +kernel), List.mem_of_getElem? (i := 550) (by decide +kernel), List.mem_of_getElem? (i := 551) (by decide +kernel)⟩
theorem lw_p3 : lw_okq (⟨"GlassStreet$Law", "readsPart", "(LGlassStreet$Tape;I)Z"⟩, 3) := ⟨⟨by decide +kernel, by decide +kernel⟩, List.mem_of_getElem? (i := 169) (by decide +kernel), List.mem_of_getElem? (i := 554) (by decide +kernel), List.mem_of_getElem? (i := 555) (by decide +kernel)⟩
theorem lw_p4 : lw_okq (⟨"GlassStreet$Law", "add", "(I)V"⟩, 3) := ⟨⟨by decide +kernel, by decide +kernel⟩, List.mem_of_getElem? (i := 169) (by decide +kernel), List.mem_of_getElem? (i := 568) (by decide +kernel), List.mem_of_getElem? (i := 569) (by decide +kernel)⟩
theorem lw_p5 : lw_okq (⟨"GlassStreet$World", "addMark", "(III)V"⟩, 8) := ⟨⟨by decide +kernel, by decide +kernel⟩, List.mem_of_getElem? (i := 80) (by decide +kernel), List.mem_of_getElem? (i := 736) (by decide +kernel), List.mem_of_getElem? (i := 737) (by decide +kernel)⟩
theorem lw_p6 : lw_okq (⟨"GlassStreet$World", "dropMark", "(II)V"⟩, 8) := ⟨⟨by decide +kernel, by decide +kernel⟩, List.mem_of_getElem? (i := 80) (by decide +kernel), List.mem_of_getElem? (i := 740) (by decide +kernel), List.mem_of_getElem? (i := 741) (by decide +kernel)⟩
theorem lw_p7 : lw_okq (⟨"GlassStreet$World", "fade", "(LGlassStreet$Street;II)I"⟩, 8) := ⟨⟨by decide +kernel, by decide +kernel⟩, List.mem_of_getElem? (i := 80) (by decide +kernel), List.mem_of_getElem? (i := 781) (by decide +kernel), List.mem_of_getElem? (i := 782) (by decide +kernel)⟩
theorem lw_p8 : lw_okq (⟨"GlassStreet$Day", "isPlayed", "(LGlassStreet$Street;LGlassStreet$World;I)Z"⟩, 6) := ⟨⟨by decide +kernel, by decide +kernel⟩, List.mem_of_getElem? (i := 271) (by decide +kernel), List.mem_of_getElem? (i := 816) (by decide +kernel), List.mem_of_getElem? (i := 817) (by decide +kernel)⟩
theorem lw_p9 : lw_okq (⟨"GlassStreet$Draws", "playPerson", "(LGlassStreet$Street;LGlassStreet$World;I)V"⟩, 3) := ⟨⟨by decide +kernel, by decide +kernel⟩, List.mem_of_getElem? (i := 145) (by decide +kernel), List.mem_of_getElem? (i := 1025) (by decide +kernel), List.mem_of_getElem? (i := 1026) (by decide +kernel)⟩
theorem lw_p10 : lw_okq (⟨"GlassStreet$Draws", "draw", "(I)I"⟩, 3) := ⟨⟨by decide +kernel, by decide +kernel⟩, List.mem_of_getElem? (i := 145) (by decide +kernel), List.mem_of_getElem? (i := 1029) (by decide +kernel), List.mem_of_getElem? (i := 1030) (by decide +kernel)⟩
theorem lw_p11 : lw_okq (⟨"java/lang/Throwable", "fillInStackTrace", "(I)Ljava/lang/Throwable;"⟩, 6) := ⟨⟨by decide +kernel, by decide +kernel⟩, List.mem_of_getElem? (i := 1105) (by decide +kernel), List.mem_of_getElem? (i := 1103) (by decide +kernel), List.mem_of_getElem? (i := 1104) (by decide +kernel)⟩
theorem lw_p12 : lw_okq (⟨"GlassStreetModel", "lay", "(J)V"⟩, 31) := ⟨⟨by decide +kernel, by decide +kernel⟩, List.mem_of_getElem? (i := 1146) (by decide +kernel), List.mem_of_getElem? (i := 1144) (by decide +kernel), List.mem_of_getElem? (i := 1145) (by decide +kernel)⟩
theorem lw_p13 : lw_okq (⟨"GlassStreetModel", "standsAsAlways", "(I)V"⟩, 31) := ⟨⟨by decide +kernel, by decide +kernel⟩, List.mem_of_getElem? (i := 1146) (by decide +kernel), List.mem_of_getElem? (i := 1180) (by decide +kernel), List.mem_of_getElem? (i := 1181) (by decide +kernel)⟩
theorem lw_p14 : lw_okq (⟨"GlassStreetModel", "begins", "()V"⟩, 31) := ⟨⟨by decide +kernel, by decide +kernel⟩, List.mem_of_getElem? (i := 1146) (by decide +kernel), List.mem_of_getElem? (i := 1184) (by decide +kernel), List.mem_of_getElem? (i := 1185) (by decide +kernel)⟩
theorem lw_p15 : lw_okq (⟨"GlassStreetModel", "starts", "(I)V"⟩, 31) := ⟨⟨by decide +kernel, by decide +kernel⟩, List.mem_of_getElem? (i := 1146) (by decide +kernel), List.mem_of_getElem? (i := 1188) (by decide +kernel), List.mem_of_getElem? (i := 1189) (by decide +kernel)⟩
def lw_privs_1 : List (MethodName × Nat) := [(⟨"GlassStreet$Tape", "scanWord", "()V"⟩, 9), (⟨"GlassStreet$Tape", "scanNumber", "()V"⟩, 9), (⟨"GlassStreet$Law", "readsLevel", "(LGlassStreet$Tape;II)Z"⟩, 3), (⟨"GlassStreet$Law", "readsPart", "(LGlassStreet$Tape;I)Z"⟩, 3), (⟨"GlassStreet$Law", "add", "(I)V"⟩, 3), (⟨"GlassStreet$World", "addMark", "(III)V"⟩, 8), (⟨"GlassStreet$World", "dropMark", "(II)V"⟩, 8), (⟨"GlassStreet$World", "fade", "(LGlassStreet$Street;II)I"⟩, 8), (⟨"GlassStreet$Day", "isPlayed", "(LGlassStreet$Street;LGlassStreet$World;I)Z"⟩, 6), (⟨"GlassStreet$Draws", "playPerson", "(LGlassStreet$Street;LGlassStreet$World;I)V"⟩, 3), (⟨"GlassStreet$Draws", "draw", "(I)I"⟩, 3), (⟨"java/lang/Throwable", "fillInStackTrace", "(I)Ljava/lang/Throwable;"⟩, 6), (⟨"GlassStreetModel", "lay", "(J)V"⟩, 31), (⟨"GlassStreetModel", "standsAsAlways", "(I)V"⟩, 31), (⟨"GlassStreetModel", "begins", "()V"⟩, 31), (⟨"GlassStreetModel", "starts", "(I)V"⟩, 31)]
theorem lw_r1 : ∀ q ∈ lw_privs_1, lw_okq q := List.forall_mem_cons.mpr ⟨lw_p0, List.forall_mem_cons.mpr ⟨lw_p1, List.forall_mem_cons.mpr ⟨lw_p2, List.forall_mem_cons.mpr ⟨lw_p3, List.forall_mem_cons.mpr ⟨lw_p4, List.forall_mem_cons.mpr ⟨lw_p5, List.forall_mem_cons.mpr ⟨lw_p6, List.forall_mem_cons.mpr ⟨lw_p7, List.forall_mem_cons.mpr ⟨lw_p8, List.forall_mem_cons.mpr ⟨lw_p9, List.forall_mem_cons.mpr ⟨lw_p10, List.forall_mem_cons.mpr ⟨lw_p11, List.forall_mem_cons.mpr ⟨lw_p12, List.forall_mem_cons.mpr ⟨lw_p13, List.forall_mem_cons.mpr ⟨lw_p14, List.forall_mem_cons.mpr ⟨lw_p15, fun _ h => absurd h List.not_mem_nil⟩⟩⟩⟩⟩⟩⟩⟩⟩⟩⟩⟩⟩⟩⟩⟩
theorem lw_p16 : lw_okq (⟨"GlassStreetModel", "people", "()I"⟩, 31) := ⟨⟨by decide +kernel, by decide +kernel⟩, List.mem_of_getElem? (i := 1146) (by decide +kernel), List.mem_of_getElem? (i := 1192) (by decide +kernel), List.mem_of_getElem? (i := 1193) (by decide +kernel)⟩
theorem lw_p17 : lw_okq (⟨"GlassStreetModel", "cutAll", "()V"⟩, 31) := ⟨⟨by decide +kernel, by decide +kernel⟩, List.mem_of_getElem? (i := 1146) (by decide +kernel), List.mem_of_getElem? (i := 1295) (by decide +kernel), List.mem_of_getElem? (i := 1296) (by decide +kernel)⟩
theorem lw_p18 : lw_okq (⟨"GlassStreetModel", "readLine", "()V"⟩, 31) := ⟨⟨by decide +kernel, by decide +kernel⟩, List.mem_of_getElem? (i := 1146) (by decide +kernel), List.mem_of_getElem? (i := 1314) (by decide +kernel), List.mem_of_getElem? (i := 1315) (by decide +kernel)⟩
theorem lw_p19 : lw_okq (⟨"GlassStreetModel", "isWord", "(I)Z"⟩, 31) := ⟨⟨by decide +kernel, by decide +kernel⟩, List.mem_of_getElem? (i := 1146) (by decide +kernel), List.mem_of_getElem? (i := 1318) (by decide +kernel), List.mem_of_getElem? (i := 1319) (by decide +kernel)⟩
theorem lw_p20 : lw_okq (⟨"GlassStreetModel", "readPane", "()V"⟩, 31) := ⟨⟨by decide +kernel, by decide +kernel⟩, List.mem_of_getElem? (i := 1146) (by decide +kernel), List.mem_of_getElem? (i := 1322) (by decide +kernel), List.mem_of_getElem? (i := 1323) (by decide +kernel)⟩
theorem lw_p21 : lw_okq (⟨"GlassStreetModel", "readName", "(III)V"⟩, 31) := ⟨⟨by decide +kernel, by decide +kernel⟩, List.mem_of_getElem? (i := 1146) (by decide +kernel), List.mem_of_getElem? (i := 1326) (by decide +kernel), List.mem_of_getElem? (i := 1327) (by decide +kernel)⟩
theorem lw_p22 : lw_okq (⟨"GlassStreetModel", "wrong", "(I)V"⟩, 31) := ⟨⟨by decide +kernel, by decide +kernel⟩, List.mem_of_getElem? (i := 1146) (by decide +kernel), List.mem_of_getElem? (i := 1330) (by decide +kernel), List.mem_of_getElem? (i := 1331) (by decide +kernel)⟩
theorem lw_p23 : lw_okq (⟨"GlassStreetModel", "isName", "()Z"⟩, 31) := ⟨⟨by decide +kernel, by decide +kernel⟩, List.mem_of_getElem? (i := 1146) (by decide +kernel), List.mem_of_getElem? (i := 1334) (by decide +kernel), List.mem_of_getElem? (i := 1335) (by decide +kernel)⟩
theorem lw_p24 : lw_okq (⟨"GlassStreetModel", "wordHere", "(II)I"⟩, 31) := ⟨⟨by decide +kernel, by decide +kernel⟩, List.mem_of_getElem? (i := 1146) (by decide +kernel), List.mem_of_getElem? (i := 1338) (by decide +kernel), List.mem_of_getElem? (i := 1339) (by decide +kernel)⟩
theorem lw_p25 : lw_okq (⟨"GlassStreetModel", "nameAt", "(Z)I"⟩, 31) := ⟨⟨by decide +kernel, by decide +kernel⟩, List.mem_of_getElem? (i := 1146) (by decide +kernel), List.mem_of_getElem? (i := 1342) (by decide +kernel), List.mem_of_getElem? (i := 1343) (by decide +kernel)⟩
theorem lw_p26 : lw_okq (⟨"GlassStreetModel", "takeOne", "(II)I"⟩, 31) := ⟨⟨by decide +kernel, by decide +kernel⟩, List.mem_of_getElem? (i := 1146) (by decide +kernel), List.mem_of_getElem? (i := 1346) (by decide +kernel), List.mem_of_getElem? (i := 1347) (by decide +kernel)⟩
theorem lw_p27 : lw_okq (⟨"GlassStreetModel", "takeAfter", "(III)I"⟩, 31) := ⟨⟨by decide +kernel, by decide +kernel⟩, List.mem_of_getElem? (i := 1146) (by decide +kernel), List.mem_of_getElem? (i := 1350) (by decide +kernel), List.mem_of_getElem? (i := 1351) (by decide +kernel)⟩
theorem lw_p28 : lw_okq (⟨"GlassStreetModel", "takeWord", "(I)V"⟩, 31) := ⟨⟨by decide +kernel, by decide +kernel⟩, List.mem_of_getElem? (i := 1146) (by decide +kernel), List.mem_of_getElem? (i := 1354) (by decide +kernel), List.mem_of_getElem? (i := 1355) (by decide +kernel)⟩
theorem lw_p29 : lw_okq (⟨"GlassStreetModel", "hasWord", "(I)Z"⟩, 31) := ⟨⟨by decide +kernel, by decide +kernel⟩, List.mem_of_getElem? (i := 1146) (by decide +kernel), List.mem_of_getElem? (i := 1358) (by decide +kernel), List.mem_of_getElem? (i := 1359) (by decide +kernel)⟩
theorem lw_p30 : lw_okq (⟨"GlassStreetModel", "takeNumber", "(II)I"⟩, 31) := ⟨⟨by decide +kernel, by decide +kernel⟩, List.mem_of_getElem? (i := 1146) (by decide +kernel), List.mem_of_getElem? (i := 1362) (by decide +kernel), List.mem_of_getElem? (i := 1363) (by decide +kernel)⟩
theorem lw_p31 : lw_okq (⟨"GlassStreetModel", "readOnce", "()V"⟩, 31) := ⟨⟨by decide +kernel, by decide +kernel⟩, List.mem_of_getElem? (i := 1146) (by decide +kernel), List.mem_of_getElem? (i := 1366) (by decide +kernel), List.mem_of_getElem? (i := 1367) (by decide +kernel)⟩
def lw_privs_2 : List (MethodName × Nat) := [(⟨"GlassStreetModel", "people", "()I"⟩, 31), (⟨"GlassStreetModel", "cutAll", "()V"⟩, 31), (⟨"GlassStreetModel", "readLine", "()V"⟩, 31), (⟨"GlassStreetModel", "isWord", "(I)Z"⟩, 31), (⟨"GlassStreetModel", "readPane", "()V"⟩, 31), (⟨"GlassStreetModel", "readName", "(III)V"⟩, 31), (⟨"GlassStreetModel", "wrong", "(I)V"⟩, 31), (⟨"GlassStreetModel", "isName", "()Z"⟩, 31), (⟨"GlassStreetModel", "wordHere", "(II)I"⟩, 31), (⟨"GlassStreetModel", "nameAt", "(Z)I"⟩, 31), (⟨"GlassStreetModel", "takeOne", "(II)I"⟩, 31), (⟨"GlassStreetModel", "takeAfter", "(III)I"⟩, 31), (⟨"GlassStreetModel", "takeWord", "(I)V"⟩, 31), (⟨"GlassStreetModel", "hasWord", "(I)Z"⟩, 31), (⟨"GlassStreetModel", "takeNumber", "(II)I"⟩, 31), (⟨"GlassStreetModel", "readOnce", "()V"⟩, 31)]
theorem lw_r2 : ∀ q ∈ lw_privs_2, lw_okq q := List.forall_mem_cons.mpr ⟨lw_p16, List.forall_mem_cons.mpr ⟨lw_p17, List.forall_mem_cons.mpr ⟨lw_p18, List.forall_mem_cons.mpr ⟨lw_p19, List.forall_mem_cons.mpr ⟨lw_p20, List.forall_mem_cons.mpr ⟨lw_p21, List.forall_mem_cons.mpr ⟨lw_p22, List.forall_mem_cons.mpr ⟨lw_p23, List.forall_mem_cons.mpr ⟨lw_p24, List.forall_mem_cons.mpr ⟨lw_p25, List.forall_mem_cons.mpr ⟨lw_p26, List.forall_mem_cons.mpr ⟨lw_p27, List.forall_mem_cons.mpr ⟨lw_p28, List.forall_mem_cons.mpr ⟨lw_p29, List.forall_mem_cons.mpr ⟨lw_p30, List.forall_mem_cons.mpr ⟨lw_p31, fun _ h => absurd h List.not_mem_nil⟩⟩⟩⟩⟩⟩⟩⟩⟩⟩⟩⟩⟩⟩⟩⟩
theorem lw_p32 : lw_okq (⟨"GlassStreetModel", "readLight", "()V"⟩, 31) := ⟨⟨by decide +kernel, by decide +kernel⟩, List.mem_of_getElem? (i := 1146) (by decide +kernel), List.mem_of_getElem? (i := 1370) (by decide +kernel), List.mem_of_getElem? (i := 1371) (by decide +kernel)⟩
theorem lw_p33 : lw_okq (⟨"GlassStreetModel", "whole", "(I)V"⟩, 31) := ⟨⟨by decide +kernel, by decide +kernel⟩, List.mem_of_getElem? (i := 1146) (by decide +kernel), List.mem_of_getElem? (i := 1374) (by decide +kernel), List.mem_of_getElem? (i := 1375) (by decide +kernel)⟩
theorem lw_p34 : lw_okq (⟨"GlassStreetModel", "test", "(I)V"⟩, 31) := ⟨⟨by decide +kernel, by decide +kernel⟩, List.mem_of_getElem? (i := 1146) (by decide +kernel), List.mem_of_getElem? (i := 1378) (by decide +kernel), List.mem_of_getElem? (i := 1379) (by decide +kernel)⟩
theorem lw_p35 : lw_okq (⟨"GlassStreetModel", "sums", "(I)V"⟩, 31) := ⟨⟨by decide +kernel, by decide +kernel⟩, List.mem_of_getElem? (i := 1146) (by decide +kernel), List.mem_of_getElem? (i := 1382) (by decide +kernel), List.mem_of_getElem? (i := 1383) (by decide +kernel)⟩
theorem lw_p36 : lw_okq (⟨"GlassStreetModel", "products", "(I)V"⟩, 31) := ⟨⟨by decide +kernel, by decide +kernel⟩, List.mem_of_getElem? (i := 1146) (by decide +kernel), List.mem_of_getElem? (i := 1386) (by decide +kernel), List.mem_of_getElem? (i := 1387) (by decide +kernel)⟩
theorem lw_p37 : lw_okq (⟨"GlassStreetModel", "takePart", "(I)V"⟩, 31) := ⟨⟨by decide +kernel, by decide +kernel⟩, List.mem_of_getElem? (i := 1146) (by decide +kernel), List.mem_of_getElem? (i := 1390) (by decide +kernel), List.mem_of_getElem? (i := 1391) (by decide +kernel)⟩
theorem lw_p38 : lw_okq (⟨"GlassStreetModel", "isSign", "(I)Z"⟩, 31) := ⟨⟨by decide +kernel, by decide +kernel⟩, List.mem_of_getElem? (i := 1146) (by decide +kernel), List.mem_of_getElem? (i := 1394) (by decide +kernel), List.mem_of_getElem? (i := 1395) (by decide +kernel)⟩
theorem lw_p39 : lw_okq (⟨"GlassStreetModel", "emit", "(II)V"⟩, 31) := ⟨⟨by decide +kernel, by decide +kernel⟩, List.mem_of_getElem? (i := 1146) (by decide +kernel), List.mem_of_getElem? (i := 1398) (by decide +kernel), List.mem_of_getElem? (i := 1399) (by decide +kernel)⟩
theorem lw_p40 : lw_okq (⟨"GlassStreetModel", "hasSign", "(I)Z"⟩, 31) := ⟨⟨by decide +kernel, by decide +kernel⟩, List.mem_of_getElem? (i := 1146) (by decide +kernel), List.mem_of_getElem? (i := 1402) (by decide +kernel), List.mem_of_getElem? (i := 1403) (by decide +kernel)⟩
theorem lw_p41 : lw_okq (⟨"GlassStreetModel", "takeSign", "(I)V"⟩, 31) := ⟨⟨by decide +kernel, by decide +kernel⟩, List.mem_of_getElem? (i := 1146) (by decide +kernel), List.mem_of_getElem? (i := 1406) (by decide +kernel), List.mem_of_getElem? (i := 1407) (by decide +kernel)⟩
theorem lw_p42 : lw_okq (⟨"GlassStreetModel", "takeTold", "(I)I"⟩, 31) := ⟨⟨by decide +kernel, by decide +kernel⟩, List.mem_of_getElem? (i := 1146) (by decide +kernel), List.mem_of_getElem? (i := 1414) (by decide +kernel), List.mem_of_getElem? (i := 1415) (by decide +kernel)⟩
theorem lw_p43 : lw_okq (⟨"GlassStreetModel", "isPane", "(I)Z"⟩, 31) := ⟨⟨by decide +kernel, by decide +kernel⟩, List.mem_of_getElem? (i := 1146) (by decide +kernel), List.mem_of_getElem? (i := 1425) (by decide +kernel), List.mem_of_getElem? (i := 1426) (by decide +kernel)⟩
theorem lw_p44 : lw_okq (⟨"GlassStreetModel", "panes", "()I"⟩, 31) := ⟨⟨by decide +kernel, by decide +kernel⟩, List.mem_of_getElem? (i := 1146) (by decide +kernel), List.mem_of_getElem? (i := 1429) (by decide +kernel), List.mem_of_getElem? (i := 1430) (by decide +kernel)⟩
theorem lw_p45 : lw_okq (⟨"GlassStreetModel", "paneOf", "(II)I"⟩, 31) := ⟨⟨by decide +kernel, by decide +kernel⟩, List.mem_of_getElem? (i := 1146) (by decide +kernel), List.mem_of_getElem? (i := 1433) (by decide +kernel), List.mem_of_getElem? (i := 1434) (by decide +kernel)⟩
theorem lw_p46 : lw_okq (⟨"GlassStreetModel", "sightOf", "(II)I"⟩, 31) := ⟨⟨by decide +kernel, by decide +kernel⟩, List.mem_of_getElem? (i := 1146) (by decide +kernel), List.mem_of_getElem? (i := 1437) (by decide +kernel), List.mem_of_getElem? (i := 1438) (by decide +kernel)⟩
theorem lw_p47 : lw_okq (⟨"GlassStreetModel", "isWhole", "(II)Z"⟩, 31) := ⟨⟨by decide +kernel, by decide +kernel⟩, List.mem_of_getElem? (i := 1146) (by decide +kernel), List.mem_of_getElem? (i := 1441) (by decide +kernel), List.mem_of_getElem? (i := 1442) (by decide +kernel)⟩
def lw_privs_3 : List (MethodName × Nat) := [(⟨"GlassStreetModel", "readLight", "()V"⟩, 31), (⟨"GlassStreetModel", "whole", "(I)V"⟩, 31), (⟨"GlassStreetModel", "test", "(I)V"⟩, 31), (⟨"GlassStreetModel", "sums", "(I)V"⟩, 31), (⟨"GlassStreetModel", "products", "(I)V"⟩, 31), (⟨"GlassStreetModel", "takePart", "(I)V"⟩, 31), (⟨"GlassStreetModel", "isSign", "(I)Z"⟩, 31), (⟨"GlassStreetModel", "emit", "(II)V"⟩, 31), (⟨"GlassStreetModel", "hasSign", "(I)Z"⟩, 31), (⟨"GlassStreetModel", "takeSign", "(I)V"⟩, 31), (⟨"GlassStreetModel", "takeTold", "(I)I"⟩, 31), (⟨"GlassStreetModel", "isPane", "(I)Z"⟩, 31), (⟨"GlassStreetModel", "panes", "()I"⟩, 31), (⟨"GlassStreetModel", "paneOf", "(II)I"⟩, 31), (⟨"GlassStreetModel", "sightOf", "(II)I"⟩, 31), (⟨"GlassStreetModel", "isWhole", "(II)Z"⟩, 31)]
theorem lw_r3 : ∀ q ∈ lw_privs_3, lw_okq q := List.forall_mem_cons.mpr ⟨lw_p32, List.forall_mem_cons.mpr ⟨lw_p33, List.forall_mem_cons.mpr ⟨lw_p34, List.forall_mem_cons.mpr ⟨lw_p35, List.forall_mem_cons.mpr ⟨lw_p36, List.forall_mem_cons.mpr ⟨lw_p37, List.forall_mem_cons.mpr ⟨lw_p38, List.forall_mem_cons.mpr ⟨lw_p39, List.forall_mem_cons.mpr ⟨lw_p40, List.forall_mem_cons.mpr ⟨lw_p41, List.forall_mem_cons.mpr ⟨lw_p42, List.forall_mem_cons.mpr ⟨lw_p43, List.forall_mem_cons.mpr ⟨lw_p44, List.forall_mem_cons.mpr ⟨lw_p45, List.forall_mem_cons.mpr ⟨lw_p46, List.forall_mem_cons.mpr ⟨lw_p47, fun _ h => absurd h List.not_mem_nil⟩⟩⟩⟩⟩⟩⟩⟩⟩⟩⟩⟩⟩⟩⟩⟩
theorem lw_p48 : lw_okq (⟨"GlassStreetModel", "lightOf", "(I)I"⟩, 31) := ⟨⟨by decide +kernel, by decide +kernel⟩, List.mem_of_getElem? (i := 1146) (by decide +kernel), List.mem_of_getElem? (i := 1445) (by decide +kernel), List.mem_of_getElem? (i := 1446) (by decide +kernel)⟩
theorem lw_p49 : lw_okq (⟨"GlassStreetModel", "isShown", "(II)Z"⟩, 31) := ⟨⟨by decide +kernel, by decide +kernel⟩, List.mem_of_getElem? (i := 1146) (by decide +kernel), List.mem_of_getElem? (i := 1453) (by decide +kernel), List.mem_of_getElem? (i := 1454) (by decide +kernel)⟩
theorem lw_p50 : lw_okq (⟨"GlassStreetModel", "markOf", "(III)I"⟩, 31) := ⟨⟨by decide +kernel, by decide +kernel⟩, List.mem_of_getElem? (i := 1146) (by decide +kernel), List.mem_of_getElem? (i := 1457) (by decide +kernel), List.mem_of_getElem? (i := 1458) (by decide +kernel)⟩
theorem lw_p51 : lw_okq (⟨"GlassStreetModel", "shownOf", "(III)I"⟩, 31) := ⟨⟨by decide +kernel, by decide +kernel⟩, List.mem_of_getElem? (i := 1146) (by decide +kernel), List.mem_of_getElem? (i := 1461) (by decide +kernel), List.mem_of_getElem? (i := 1462) (by decide +kernel)⟩
theorem lw_p52 : lw_okq (⟨"GlassStreetModel", "isPerson", "(I)Z"⟩, 31) := ⟨⟨by decide +kernel, by decide +kernel⟩, List.mem_of_getElem? (i := 1146) (by decide +kernel), List.mem_of_getElem? (i := 1481) (by decide +kernel), List.mem_of_getElem? (i := 1482) (by decide +kernel)⟩
theorem lw_p53 : lw_okq (⟨"GlassStreetModel", "mayWalk", "(III)Z"⟩, 31) := ⟨⟨by decide +kernel, by decide +kernel⟩, List.mem_of_getElem? (i := 1146) (by decide +kernel), List.mem_of_getElem? (i := 1489) (by decide +kernel), List.mem_of_getElem? (i := 1490) (by decide +kernel)⟩
theorem lw_p54 : lw_okq (⟨"GlassStreetModel", "keeps", "()V"⟩, 31) := ⟨⟨by decide +kernel, by decide +kernel⟩, List.mem_of_getElem? (i := 1146) (by decide +kernel), List.mem_of_getElem? (i := 1493) (by decide +kernel), List.mem_of_getElem? (i := 1494) (by decide +kernel)⟩
theorem lw_p55 : lw_okq (⟨"GlassStreetModel", "copies", "(III)V"⟩, 31) := ⟨⟨by decide +kernel, by decide +kernel⟩, List.mem_of_getElem? (i := 1146) (by decide +kernel), List.mem_of_getElem? (i := 1497) (by decide +kernel), List.mem_of_getElem? (i := 1498) (by decide +kernel)⟩
theorem lw_p56 : lw_okq (⟨"GlassStreetModel", "isDeed", "(I)Z"⟩, 31) := ⟨⟨by decide +kernel, by decide +kernel⟩, List.mem_of_getElem? (i := 1146) (by decide +kernel), List.mem_of_getElem? (i := 1505) (by decide +kernel), List.mem_of_getElem? (i := 1506) (by decide +kernel)⟩
theorem lw_p57 : lw_okq (⟨"GlassStreetModel", "deeds", "()I"⟩, 31) := ⟨⟨by decide +kernel, by decide +kernel⟩, List.mem_of_getElem? (i := 1146) (by decide +kernel), List.mem_of_getElem? (i := 1509) (by decide +kernel), List.mem_of_getElem? (i := 1510) (by decide +kernel)⟩
theorem lw_p58 : lw_okq (⟨"GlassStreetModel", "does", "(IIII)I"⟩, 31) := ⟨⟨by decide +kernel, by decide +kernel⟩, List.mem_of_getElem? (i := 1146) (by decide +kernel), List.mem_of_getElem? (i := 1513) (by decide +kernel), List.mem_of_getElem? (i := 1514) (by decide +kernel)⟩
theorem lw_p59 : lw_okq (⟨"GlassStreetModel", "seersOf", "(II)I"⟩, 31) := ⟨⟨by decide +kernel, by decide +kernel⟩, List.mem_of_getElem? (i := 1146) (by decide +kernel), List.mem_of_getElem? (i := 1517) (by decide +kernel), List.mem_of_getElem? (i := 1518) (by decide +kernel)⟩
theorem lw_p60 : lw_okq (⟨"GlassStreetModel", "doesSee", "(III)Z"⟩, 31) := ⟨⟨by decide +kernel, by decide +kernel⟩, List.mem_of_getElem? (i := 1146) (by decide +kernel), List.mem_of_getElem? (i := 1521) (by decide +kernel), List.mem_of_getElem? (i := 1522) (by decide +kernel)⟩
theorem lw_p61 : lw_okq (⟨"GlassStreetModel", "forgets", "(III)V"⟩, 31) := ⟨⟨by decide +kernel, by decide +kernel⟩, List.mem_of_getElem? (i := 1146) (by decide +kernel), List.mem_of_getElem? (i := 1525) (by decide +kernel), List.mem_of_getElem? (i := 1526) (by decide +kernel)⟩
theorem lw_p62 : lw_okq (⟨"GlassStreetModel", "mayWash", "(II)Z"⟩, 31) := ⟨⟨by decide +kernel, by decide +kernel⟩, List.mem_of_getElem? (i := 1146) (by decide +kernel), List.mem_of_getElem? (i := 1533) (by decide +kernel), List.mem_of_getElem? (i := 1534) (by decide +kernel)⟩
theorem lw_p63 : lw_okq (⟨"GlassStreetModel", "passes", "(I)I"⟩, 31) := ⟨⟨by decide +kernel, by decide +kernel⟩, List.mem_of_getElem? (i := 1146) (by decide +kernel), List.mem_of_getElem? (i := 1549) (by decide +kernel), List.mem_of_getElem? (i := 1550) (by decide +kernel)⟩
def lw_privs_4 : List (MethodName × Nat) := [(⟨"GlassStreetModel", "lightOf", "(I)I"⟩, 31), (⟨"GlassStreetModel", "isShown", "(II)Z"⟩, 31), (⟨"GlassStreetModel", "markOf", "(III)I"⟩, 31), (⟨"GlassStreetModel", "shownOf", "(III)I"⟩, 31), (⟨"GlassStreetModel", "isPerson", "(I)Z"⟩, 31), (⟨"GlassStreetModel", "mayWalk", "(III)Z"⟩, 31), (⟨"GlassStreetModel", "keeps", "()V"⟩, 31), (⟨"GlassStreetModel", "copies", "(III)V"⟩, 31), (⟨"GlassStreetModel", "isDeed", "(I)Z"⟩, 31), (⟨"GlassStreetModel", "deeds", "()I"⟩, 31), (⟨"GlassStreetModel", "does", "(IIII)I"⟩, 31), (⟨"GlassStreetModel", "seersOf", "(II)I"⟩, 31), (⟨"GlassStreetModel", "doesSee", "(III)Z"⟩, 31), (⟨"GlassStreetModel", "forgets", "(III)V"⟩, 31), (⟨"GlassStreetModel", "mayWash", "(II)Z"⟩, 31), (⟨"GlassStreetModel", "passes", "(I)I"⟩, 31)]
theorem lw_r4 : ∀ q ∈ lw_privs_4, lw_okq q := List.forall_mem_cons.mpr ⟨lw_p48, List.forall_mem_cons.mpr ⟨lw_p49, List.forall_mem_cons.mpr ⟨lw_p50, List.forall_mem_cons.mpr ⟨lw_p51, List.forall_mem_cons.mpr ⟨lw_p52, List.forall_mem_cons.mpr ⟨lw_p53, List.forall_mem_cons.mpr ⟨lw_p54, List.forall_mem_cons.mpr ⟨lw_p55, List.forall_mem_cons.mpr ⟨lw_p56, List.forall_mem_cons.mpr ⟨lw_p57, List.forall_mem_cons.mpr ⟨lw_p58, List.forall_mem_cons.mpr ⟨lw_p59, List.forall_mem_cons.mpr ⟨lw_p60, List.forall_mem_cons.mpr ⟨lw_p61, List.forall_mem_cons.mpr ⟨lw_p62, List.forall_mem_cons.mpr ⟨lw_p63, fun _ h => absurd h List.not_mem_nil⟩⟩⟩⟩⟩⟩⟩⟩⟩⟩⟩⟩⟩⟩⟩⟩
theorem lw_p64 : lw_okq (⟨"GlassStreetModel", "isFaded", "(III)Z"⟩, 31) := ⟨⟨by decide +kernel, by decide +kernel⟩, List.mem_of_getElem? (i := 1146) (by decide +kernel), List.mem_of_getElem? (i := 1553) (by decide +kernel), List.mem_of_getElem? (i := 1554) (by decide +kernel)⟩
theorem lw_p65 : lw_okq (⟨"GlassStreetModel", "worthAt", "(I)I"⟩, 31) := ⟨⟨by decide +kernel, by decide +kernel⟩, List.mem_of_getElem? (i := 1146) (by decide +kernel), List.mem_of_getElem? (i := 1557) (by decide +kernel), List.mem_of_getElem? (i := 1558) (by decide +kernel)⟩
theorem lw_p66 : lw_okq (⟨"GlassStreetModel", "done", "(III)Z"⟩, 31) := ⟨⟨by decide +kernel, by decide +kernel⟩, List.mem_of_getElem? (i := 1146) (by decide +kernel), List.mem_of_getElem? (i := 1572) (by decide +kernel), List.mem_of_getElem? (i := 1573) (by decide +kernel)⟩
theorem lw_p67 : lw_okq (⟨"GlassStreetModel", "harmShown", "(III)I"⟩, 31) := ⟨⟨by decide +kernel, by decide +kernel⟩, List.mem_of_getElem? (i := 1146) (by decide +kernel), List.mem_of_getElem? (i := 1576) (by decide +kernel), List.mem_of_getElem? (i := 1577) (by decide +kernel)⟩
theorem lw_p68 : lw_okq (⟨"GlassStreetModel", "deedsBy", "(IIII)I"⟩, 31) := ⟨⟨by decide +kernel, by decide +kernel⟩, List.mem_of_getElem? (i := 1146) (by decide +kernel), List.mem_of_getElem? (i := 1580) (by decide +kernel), List.mem_of_getElem? (i := 1581) (by decide +kernel)⟩
theorem lw_p69 : lw_okq (⟨"GlassStreetModel", "harmOf", "(I)I"⟩, 31) := ⟨⟨by decide +kernel, by decide +kernel⟩, List.mem_of_getElem? (i := 1146) (by decide +kernel), List.mem_of_getElem? (i := 1584) (by decide +kernel), List.mem_of_getElem? (i := 1585) (by decide +kernel)⟩
theorem lw_p70 : lw_okq (⟨"GlassStreetModel", "cellsNow", "()I"⟩, 31) := ⟨⟨by decide +kernel, by decide +kernel⟩, List.mem_of_getElem? (i := 1146) (by decide +kernel), List.mem_of_getElem? (i := 1651) (by decide +kernel), List.mem_of_getElem? (i := 1652) (by decide +kernel)⟩
theorem lw_p71 : lw_okq (⟨"GlassStreetModel", "peopleIn", "(II)I"⟩, 31) := ⟨⟨by decide +kernel, by decide +kernel⟩, List.mem_of_getElem? (i := 1146) (by decide +kernel), List.mem_of_getElem? (i := 1663) (by decide +kernel), List.mem_of_getElem? (i := 1664) (by decide +kernel)⟩
theorem lw_p72 : lw_okq (⟨"GlassStreetModel", "likeIn", "(II)I"⟩, 31) := ⟨⟨by decide +kernel, by decide +kernel⟩, List.mem_of_getElem? (i := 1146) (by decide +kernel), List.mem_of_getElem? (i := 1683) (by decide +kernel), List.mem_of_getElem? (i := 1684) (by decide +kernel)⟩
theorem lw_p73 : lw_okq (⟨"GlassStreetModel", "drawsPerson", "(I)V"⟩, 31) := ⟨⟨by decide +kernel, by decide +kernel⟩, List.mem_of_getElem? (i := 1146) (by decide +kernel), List.mem_of_getElem? (i := 1702) (by decide +kernel), List.mem_of_getElem? (i := 1703) (by decide +kernel)⟩
theorem lw_p74 : lw_okq (⟨"GlassStreetModel", "draw", "(I)I"⟩, 31) := ⟨⟨by decide +kernel, by decide +kernel⟩, List.mem_of_getElem? (i := 1146) (by decide +kernel), List.mem_of_getElem? (i := 1706) (by decide +kernel), List.mem_of_getElem? (i := 1707) (by decide +kernel)⟩
theorem lw_p75 : lw_okq (⟨"GlassStreetModel", "marksMany", "()I"⟩, 31) := ⟨⟨by decide +kernel, by decide +kernel⟩, List.mem_of_getElem? (i := 1146) (by decide +kernel), List.mem_of_getElem? (i := 1722) (by decide +kernel), List.mem_of_getElem? (i := 1723) (by decide +kernel)⟩
theorem lw_p76 : lw_okq (⟨"GlassStreetModel", "bitsOf", "(II)I"⟩, 31) := ⟨⟨by decide +kernel, by decide +kernel⟩, List.mem_of_getElem? (i := 1146) (by decide +kernel), List.mem_of_getElem? (i := 1726) (by decide +kernel), List.mem_of_getElem? (i := 1727) (by decide +kernel)⟩
def lw_privs_5 : List (MethodName × Nat) := [(⟨"GlassStreetModel", "isFaded", "(III)Z"⟩, 31), (⟨"GlassStreetModel", "worthAt", "(I)I"⟩, 31), (⟨"GlassStreetModel", "done", "(III)Z"⟩, 31), (⟨"GlassStreetModel", "harmShown", "(III)I"⟩, 31), (⟨"GlassStreetModel", "deedsBy", "(IIII)I"⟩, 31), (⟨"GlassStreetModel", "harmOf", "(I)I"⟩, 31), (⟨"GlassStreetModel", "cellsNow", "()I"⟩, 31), (⟨"GlassStreetModel", "peopleIn", "(II)I"⟩, 31), (⟨"GlassStreetModel", "likeIn", "(II)I"⟩, 31), (⟨"GlassStreetModel", "drawsPerson", "(I)V"⟩, 31), (⟨"GlassStreetModel", "draw", "(I)I"⟩, 31), (⟨"GlassStreetModel", "marksMany", "()I"⟩, 31), (⟨"GlassStreetModel", "bitsOf", "(II)I"⟩, 31)]
theorem lw_r5 : ∀ q ∈ lw_privs_5, lw_okq q := List.forall_mem_cons.mpr ⟨lw_p64, List.forall_mem_cons.mpr ⟨lw_p65, List.forall_mem_cons.mpr ⟨lw_p66, List.forall_mem_cons.mpr ⟨lw_p67, List.forall_mem_cons.mpr ⟨lw_p68, List.forall_mem_cons.mpr ⟨lw_p69, List.forall_mem_cons.mpr ⟨lw_p70, List.forall_mem_cons.mpr ⟨lw_p71, List.forall_mem_cons.mpr ⟨lw_p72, List.forall_mem_cons.mpr ⟨lw_p73, List.forall_mem_cons.mpr ⟨lw_p74, List.forall_mem_cons.mpr ⟨lw_p75, List.forall_mem_cons.mpr ⟨lw_p76, fun _ h => absurd h List.not_mem_nil⟩⟩⟩⟩⟩⟩⟩⟩⟩⟩⟩⟩⟩
def lw_privs : List (MethodName × Nat) := lw_privs_1 ++ (lw_privs_2 ++ (lw_privs_3 ++ (lw_privs_4 ++ (lw_privs_5))))
def lw_tbl : List Cond := k2_sels lw_privs ++ tables_1
theorem lw_privs_ok : ∀ q ∈ lw_privs, lw_okq q := by
  show ∀ q ∈ lw_privs_1 ++ (lw_privs_2 ++ (lw_privs_3 ++ (lw_privs_4 ++ (lw_privs_5)))), lw_okq q
  exact List.forall_mem_append.mpr ⟨lw_r1, List.forall_mem_append.mpr ⟨lw_r2, List.forall_mem_append.mpr ⟨lw_r3, List.forall_mem_append.mpr ⟨lw_r4, lw_r5⟩⟩⟩⟩
-- ===== end of PART A; then your names; then what follows =====
def RX0 : String := "GlassStreet$Day"
def TX0 : u_T := fun k => match k with
  | 0 => ("GlassStreet$Day", "verbs", "[I", true)
  | 1 => ("GlassStreet$Day", "firsts", "[I", true)
  | 2 => ("GlassStreet$Day", "seconds", "[I", true)
  | 3 => ("GlassStreet$Day", "size", "I", false)
  | 4 => ("GlassStreet$Day", "firstRefused", "I", false)
  | _ => ("GlassStreet$Day", "firstUnseen", "I", false)
def tyX0 : Nat → FieldType := fun k => match k with
  | 0 => .array .int
  | 1 => .array .int
  | 2 => .array .int
  | 3 => .int
  | 4 => .int
  | _ => .int
abbrev wsX00 : List Cond := u_ws RX0 TX0 6
theorem nmX0 : ∀ a, a < 6 → ∀ b, b < 6 → a ≠ b → (TX0 a).2.1 ≠ (TX0 b).2.1 := by decide +kernel
theorem tyX0_ok : ∀ k, k < 6 → parseFieldDescriptor (TX0 k).2.2.1 = some (tyX0 k) := by decide +kernel
abbrev cX0_init : ByteArray := prog_2_method_1_code
def yX0_init : MethodName := ⟨RX0, "<init>", "()V"⟩
abbrev cX0_clear : ByteArray := prog_2_method_2_code
def yX0_clear : MethodName := ⟨RX0, "clear", "()V"⟩
abbrev cX0_play : ByteArray := prog_2_method_3_code
def yX0_play : MethodName := ⟨RX0, "play", "(LGlassStreet$Street;LGlassStreet$World;)V"⟩
abbrev cX0_isPlayed : ByteArray := prog_2_method_4_code
def yX0_isPlayed : MethodName := ⟨RX0, "isPlayed", "(LGlassStreet$Street;LGlassStreet$World;I)Z"⟩
def RX1 : String := "GlassStreet$DayReader"
def TX1 : u_T := fun k => match k with
  | _ => ("", "", "", false)
def tyX1 : Nat → FieldType := fun k => match k with
  | _ => .int
abbrev wsX10 : List Cond := u_ws RX1 TX1 0
theorem nmX1 : ∀ a, a < 0 → ∀ b, b < 0 → a ≠ b → (TX1 a).2.1 ≠ (TX1 b).2.1 := by decide +kernel
theorem tyX1_ok : ∀ k, k < 0 → parseFieldDescriptor (TX1 k).2.2.1 = some (tyX1 k) := by decide +kernel
abbrev cX1_reads : ByteArray := prog_3_method_2_code
def yX1_reads : MethodName := ⟨RX1, "reads", "(LGlassStreet$Tape;LGlassStreet$Street;LGlassStreet$Day;)Z"⟩
abbrev cX1_readsLine : ByteArray := prog_3_method_3_code
def yX1_readsLine : MethodName := ⟨RX1, "readsLine", "(LGlassStreet$Tape;LGlassStreet$Street;LGlassStreet$Day;)Z"⟩
abbrev cX1_readsNames : ByteArray := prog_3_method_4_code
def yX1_readsNames : MethodName := ⟨RX1, "readsNames", "(LGlassStreet$Tape;[JI[II)Z"⟩
abbrev cX1_readsCell : ByteArray := prog_3_method_5_code
def yX1_readsCell : MethodName := ⟨RX1, "readsCell", "(LGlassStreet$Tape;LGlassStreet$Day;I)Z"⟩
def RX2 : String := "GlassStreet$Draws"
def TX2 : u_T := fun k => match k with
  | 0 => ("GlassStreet$Draws", "g", "J", false)
  | 1 => ("GlassStreet$Draws", "done", "I", false)
  | _ => ("GlassStreet$Draws", "unseen", "I", false)
def tyX2 : Nat → FieldType := fun k => match k with
  | 0 => .long
  | 1 => .int
  | _ => .int
abbrev wsX20 : List Cond := u_ws RX2 TX2 3
theorem nmX2 : ∀ a, a < 3 → ∀ b, b < 3 → a ≠ b → (TX2 a).2.1 ≠ (TX2 b).2.1 := by decide +kernel
theorem tyX2_ok : ∀ k, k < 3 → parseFieldDescriptor (TX2 k).2.2.1 = some (tyX2 k) := by decide +kernel
abbrev cX2_init : ByteArray := prog_4_method_1_code
def yX2_init : MethodName := ⟨RX2, "<init>", "()V"⟩
abbrev cX2_play : ByteArray := prog_4_method_2_code
def yX2_play : MethodName := ⟨RX2, "play", "(LGlassStreet$Street;LGlassStreet$World;II)V"⟩
abbrev cX2_playPerson : ByteArray := prog_4_method_3_code
def yX2_playPerson : MethodName := ⟨RX2, "playPerson", "(LGlassStreet$Street;LGlassStreet$World;I)V"⟩
abbrev cX2_draw : ByteArray := prog_4_method_4_code
def yX2_draw : MethodName := ⟨RX2, "draw", "(I)I"⟩
def RX3 : String := "GlassStreet$Evidence"
def TX3 : u_T := fun k => match k with
  | _ => ("", "", "", false)
def tyX3 : Nat → FieldType := fun k => match k with
  | _ => .int
abbrev wsX30 : List Cond := u_ws RX3 TX3 0
theorem nmX3 : ∀ a, a < 0 → ∀ b, b < 0 → a ≠ b → (TX3 a).2.1 ≠ (TX3 b).2.1 := by decide +kernel
theorem tyX3_ok : ∀ k, k < 0 → parseFieldDescriptor (TX3 k).2.2.1 = some (tyX3 k) := by decide +kernel
abbrev cX3_harmOf : ByteArray := prog_5_method_2_code
def yX3_harmOf : MethodName := ⟨RX3, "harmOf", "(LGlassStreet$Street;I)I"⟩
abbrev cX3_harmShown : ByteArray := prog_5_method_3_code
def yX3_harmShown : MethodName := ⟨RX3, "harmShown", "(LGlassStreet$Street;LGlassStreet$World;I)I"⟩
abbrev cX3_isShownOf : ByteArray := prog_5_method_4_code
def yX3_isShownOf : MethodName := ⟨RX3, "isShownOf", "(LGlassStreet$Street;LGlassStreet$World;III)Z"⟩
abbrev cX3_deedsShownOf : ByteArray := prog_5_method_5_code
def yX3_deedsShownOf : MethodName := ⟨RX3, "deedsShownOf", "(LGlassStreet$Street;LGlassStreet$World;II)I"⟩
abbrev cX3_allPanes : ByteArray := prog_5_method_6_code
def yX3_allPanes : MethodName := ⟨RX3, "allPanes", "(LGlassStreet$Street;)I"⟩
abbrev cX3_shameOf : ByteArray := prog_5_method_7_code
def yX3_shameOf : MethodName := ⟨RX3, "shameOf", "(LGlassStreet$Street;LGlassStreet$World;I)I"⟩
abbrev cX3_fewestProving : ByteArray := prog_5_method_8_code
def yX3_fewestProving : MethodName := ⟨RX3, "fewestProving", "(LGlassStreet$Street;LGlassStreet$World;II)I"⟩
abbrev cX3_fewestCloaking : ByteArray := prog_5_method_9_code
def yX3_fewestCloaking : MethodName := ⟨RX3, "fewestCloaking", "(LGlassStreet$Street;LGlassStreet$World;II)I"⟩
abbrev cX3_rinsesNeeded : ByteArray := prog_5_method_10_code
def yX3_rinsesNeeded : MethodName := ⟨RX3, "rinsesNeeded", "(LGlassStreet$Street;LGlassStreet$World;II)I"⟩
abbrev cX3_marksUpTo : ByteArray := prog_5_method_11_code
def yX3_marksUpTo : MethodName := ⟨RX3, "marksUpTo", "(LGlassStreet$Street;LGlassStreet$World;I)I"⟩
abbrev cX3_cellsShownOf : ByteArray := prog_5_method_12_code
def yX3_cellsShownOf : MethodName := ⟨RX3, "cellsShownOf", "(LGlassStreet$Street;LGlassStreet$World;I)I"⟩
abbrev cX3_newestCellOf : ByteArray := prog_5_method_13_code
def yX3_newestCellOf : MethodName := ⟨RX3, "newestCellOf", "(LGlassStreet$Street;LGlassStreet$World;I)I"⟩
abbrev cX3_mostShamed : ByteArray := prog_5_method_14_code
def yX3_mostShamed : MethodName := ⟨RX3, "mostShamed", "(LGlassStreet$Street;LGlassStreet$World;)I"⟩
abbrev cX3_paneOfGreatestAge : ByteArray := prog_5_method_15_code
def yX3_paneOfGreatestAge : MethodName := ⟨RX3, "paneOfGreatestAge", "(LGlassStreet$Street;LGlassStreet$World;)I"⟩
abbrev cX3_alikeMarks : ByteArray := prog_5_method_16_code
def yX3_alikeMarks : MethodName := ⟨RX3, "alikeMarks", "(LGlassStreet$World;II)I"⟩
def RX4 : String := "GlassStreet$History"
def TX4 : u_T := fun k => match k with
  | 0 => ("GlassStreet$History", "kept", "[LGlassStreet$World;", true)
  | 1 => ("GlassStreet$History", "size", "I", false)
  | _ => ("GlassStreet$History", "next", "I", false)
def tyX4 : Nat → FieldType := fun k => match k with
  | 0 => .array (.object "GlassStreet$World")
  | 1 => .int
  | _ => .int
abbrev wsX40 : List Cond := u_ws RX4 TX4 3
theorem nmX4 : ∀ a, a < 3 → ∀ b, b < 3 → a ≠ b → (TX4 a).2.1 ≠ (TX4 b).2.1 := by decide +kernel
theorem tyX4_ok : ∀ k, k < 3 → parseFieldDescriptor (TX4 k).2.2.1 = some (tyX4 k) := by decide +kernel
abbrev cX4_init : ByteArray := prog_6_method_1_code
def yX4_init : MethodName := ⟨RX4, "<init>", "()V"⟩
abbrev cX4_clear : ByteArray := prog_6_method_2_code
def yX4_clear : MethodName := ⟨RX4, "clear", "()V"⟩
abbrev cX4_keep : ByteArray := prog_6_method_3_code
def yX4_keep : MethodName := ⟨RX4, "keep", "(LGlassStreet$World;)V"⟩
abbrev cX4_takeBack : ByteArray := prog_6_method_4_code
def yX4_takeBack : MethodName := ⟨RX4, "takeBack", "(LGlassStreet$World;)Z"⟩
def RX5 : String := "GlassStreet$Law"
def TX5 : u_T := fun k => match k with
  | 0 => ("GlassStreet$Law", "codes", "[I", true)
  | 1 => ("GlassStreet$Law", "parts", "[I", true)
  | _ => ("GlassStreet$Law", "length", "I", false)
def tyX5 : Nat → FieldType := fun k => match k with
  | 0 => .array .int
  | 1 => .array .int
  | _ => .int
abbrev wsX50 : List Cond := u_ws RX5 TX5 3
theorem nmX5 : ∀ a, a < 3 → ∀ b, b < 3 → a ≠ b → (TX5 a).2.1 ≠ (TX5 b).2.1 := by decide +kernel
theorem tyX5_ok : ∀ k, k < 3 → parseFieldDescriptor (TX5 k).2.2.1 = some (tyX5 k) := by decide +kernel
abbrev cX5_init : ByteArray := prog_7_method_1_code
def yX5_init : MethodName := ⟨RX5, "<init>", "()V"⟩
abbrev cX5_clear : ByteArray := prog_7_method_2_code
def yX5_clear : MethodName := ⟨RX5, "clear", "()V"⟩
abbrev cX5_add : ByteArray := prog_7_method_3_code
def yX5_add : MethodName := ⟨RX5, "add", "(I)V"⟩
abbrev cX5_readsLevel : ByteArray := prog_7_method_4_code
def yX5_readsLevel : MethodName := ⟨RX5, "readsLevel", "(LGlassStreet$Tape;II)Z"⟩
abbrev cX5_joinAt : ByteArray := prog_7_method_5_code
def yX5_joinAt : MethodName := ⟨RX5, "joinAt", "(LGlassStreet$Tape;I)I"⟩
abbrev cX5_readsPart : ByteArray := prog_7_method_6_code
def yX5_readsPart : MethodName := ⟨RX5, "readsPart", "(LGlassStreet$Tape;I)Z"⟩
abbrev cX5_isFading : ByteArray := prog_7_method_7_code
def yX5_isFading : MethodName := ⟨RX5, "isFading", "(IIII)Z"⟩
abbrev cX5_partOf : ByteArray := prog_7_method_8_code
def yX5_partOf : MethodName := ⟨RX5, "partOf", "(IIIII)I"⟩
abbrev cX5_joined : ByteArray := prog_7_method_9_code
def yX5_joined : MethodName := ⟨RX5, "joined", "(III)I"⟩
def RX6 : String := "GlassStreet$Sight"
def TX6 : u_T := fun k => match k with
  | _ => ("", "", "", false)
def tyX6 : Nat → FieldType := fun k => match k with
  | _ => .int
abbrev wsX60 : List Cond := u_ws RX6 TX6 0
theorem nmX6 : ∀ a, a < 0 → ∀ b, b < 0 → a ≠ b → (TX6 a).2.1 ≠ (TX6 b).2.1 := by decide +kernel
theorem tyX6_ok : ∀ k, k < 0 → parseFieldDescriptor (TX6 k).2.2.1 = some (tyX6 k) := by decide +kernel
abbrev cX6_unseenCells : ByteArray := prog_8_method_2_code
def yX6_unseenCells : MethodName := ⟨RX6, "unseenCells", "(LGlassStreet$Street;LGlassStreet$World;)I"⟩
abbrev cX6_nearestUnseen : ByteArray := prog_8_method_3_code
def yX6_nearestUnseen : MethodName := ⟨RX6, "nearestUnseen", "(LGlassStreet$Street;LGlassStreet$World;I)I"⟩
abbrev cX6_fewestWatching : ByteArray := prog_8_method_4_code
def yX6_fewestWatching : MethodName := ⟨RX6, "fewestWatching", "(LGlassStreet$Street;LGlassStreet$World;I)I"⟩
abbrev cX6_cellsAsSaid : ByteArray := prog_8_method_5_code
def yX6_cellsAsSaid : MethodName := ⟨RX6, "cellsAsSaid", "(LGlassStreet$Street;LGlassStreet$World;)I"⟩
abbrev cX6_bestToAsk : ByteArray := prog_8_method_6_code
def yX6_bestToAsk : MethodName := ⟨RX6, "bestToAsk", "(LGlassStreet$Street;LGlassStreet$World;)I"⟩
abbrev cX6_mostWatched : ByteArray := prog_8_method_7_code
def yX6_mostWatched : MethodName := ⟨RX6, "mostWatched", "(LGlassStreet$Street;LGlassStreet$World;)I"⟩
abbrev cX6_mostPeopled : ByteArray := prog_8_method_8_code
def yX6_mostPeopled : MethodName := ⟨RX6, "mostPeopled", "(LGlassStreet$Street;LGlassStreet$World;I)I"⟩
def RX7 : String := "GlassStreet$Street"
def TX7 : u_T := fun k => match k with
  | 0 => ("GlassStreet$Street", "law", "LGlassStreet$Law;", true)
  | 1 => ("GlassStreet$Street", "kinds", "[I", true)
  | 2 => ("GlassStreet$Street", "keeps", "[I", true)
  | 3 => ("GlassStreet$Street", "views", "[I", true)
  | 4 => ("GlassStreet$Street", "homes", "[I", true)
  | 5 => ("GlassStreet$Street", "harms", "[I", true)
  | 6 => ("GlassStreet$Street", "lights", "[I", true)
  | 7 => ("GlassStreet$Street", "paneNames", "[J", true)
  | 8 => ("GlassStreet$Street", "personNames", "[J", true)
  | 9 => ("GlassStreet$Street", "deedNames", "[J", true)
  | 10 => ("GlassStreet$Street", "paneCount", "I", false)
  | 11 => ("GlassStreet$Street", "personCount", "I", false)
  | 12 => ("GlassStreet$Street", "deedCount", "I", false)
  | _ => ("GlassStreet$Street", "lightCount", "I", false)
def tyX7 : Nat → FieldType := fun k => match k with
  | 0 => .object "GlassStreet$Law"
  | 1 => .array .int
  | 2 => .array .int
  | 3 => .array .int
  | 4 => .array .int
  | 5 => .array .int
  | 6 => .array .int
  | 7 => .array .long
  | 8 => .array .long
  | 9 => .array .long
  | 10 => .int
  | 11 => .int
  | 12 => .int
  | _ => .int
abbrev wsX70 : List Cond := u_ws RX7 TX7 14
theorem nmX7 : ∀ a, a < 14 → ∀ b, b < 14 → a ≠ b → (TX7 a).2.1 ≠ (TX7 b).2.1 := by decide +kernel
theorem tyX7_ok : ∀ k, k < 14 → parseFieldDescriptor (TX7 k).2.2.1 = some (tyX7 k) := by decide +kernel
abbrev cX7_init : ByteArray := prog_9_method_1_code
def yX7_init : MethodName := ⟨RX7, "<init>", "()V"⟩
abbrev cX7_clear : ByteArray := prog_9_method_2_code
def yX7_clear : MethodName := ⟨RX7, "clear", "()V"⟩
abbrev cX7_hasPane : ByteArray := prog_9_method_3_code
def yX7_hasPane : MethodName := ⟨RX7, "hasPane", "(I)Z"⟩
abbrev cX7_hasPerson : ByteArray := prog_9_method_4_code
def yX7_hasPerson : MethodName := ⟨RX7, "hasPerson", "(I)Z"⟩
abbrev cX7_hasDeed : ByteArray := prog_9_method_5_code
def yX7_hasDeed : MethodName := ⟨RX7, "hasDeed", "(I)Z"⟩
abbrev cX7_isTold : ByteArray := prog_9_method_6_code
def yX7_isTold : MethodName := ⟨RX7, "isTold", "(J)Z"⟩
abbrev cX7_lightAt : ByteArray := prog_9_method_7_code
def yX7_lightAt : MethodName := ⟨RX7, "lightAt", "(I)I"⟩
abbrev cX7_placeOf : ByteArray := prog_9_method_8_code
def yX7_placeOf : MethodName := ⟨RX7, "placeOf", "([JIJ)I"⟩
abbrev cX7_bothWays : ByteArray := prog_9_method_9_code
def yX7_bothWays : MethodName := ⟨RX7, "bothWays", "(I)I"⟩
def RX8 : String := "GlassStreet$StreetReader"
def TX8 : u_T := fun k => match k with
  | _ => ("", "", "", false)
def tyX8 : Nat → FieldType := fun k => match k with
  | _ => .int
abbrev wsX80 : List Cond := u_ws RX8 TX8 0
theorem nmX8 : ∀ a, a < 0 → ∀ b, b < 0 → a ≠ b → (TX8 a).2.1 ≠ (TX8 b).2.1 := by decide +kernel
theorem tyX8_ok : ∀ k, k < 0 → parseFieldDescriptor (TX8 k).2.2.1 = some (tyX8 k) := by decide +kernel
abbrev cX8_reads : ByteArray := prog_10_method_2_code
def yX8_reads : MethodName := ⟨RX8, "reads", "(LGlassStreet$Tape;LGlassStreet$Street;)Z"⟩
abbrev cX8_readsLine : ByteArray := prog_10_method_3_code
def yX8_readsLine : MethodName := ⟨RX8, "readsLine", "(LGlassStreet$Tape;LGlassStreet$Street;)Z"⟩
abbrev cX8_readsPane : ByteArray := prog_10_method_4_code
def yX8_readsPane : MethodName := ⟨RX8, "readsPane", "(LGlassStreet$Tape;LGlassStreet$Street;)Z"⟩
abbrev cX8_readsView : ByteArray := prog_10_method_5_code
def yX8_readsView : MethodName := ⟨RX8, "readsView", "(LGlassStreet$Tape;LGlassStreet$Street;I)Z"⟩
abbrev cX8_readsPerson : ByteArray := prog_10_method_6_code
def yX8_readsPerson : MethodName := ⟨RX8, "readsPerson", "(LGlassStreet$Tape;LGlassStreet$Street;)Z"⟩
abbrev cX8_readsDeed : ByteArray := prog_10_method_7_code
def yX8_readsDeed : MethodName := ⟨RX8, "readsDeed", "(LGlassStreet$Tape;LGlassStreet$Street;)Z"⟩
abbrev cX8_readsLight : ByteArray := prog_10_method_8_code
def yX8_readsLight : MethodName := ⟨RX8, "readsLight", "(LGlassStreet$Tape;LGlassStreet$Street;)Z"⟩
abbrev cX8_readsFades : ByteArray := prog_10_method_9_code
def yX8_readsFades : MethodName := ⟨RX8, "readsFades", "(LGlassStreet$Tape;LGlassStreet$Street;)Z"⟩
abbrev cX8_hasNewName : ByteArray := prog_10_method_10_code
def yX8_hasNewName : MethodName := ⟨RX8, "hasNewName", "(LGlassStreet$Tape;LGlassStreet$Street;)Z"⟩
def RX9 : String := "GlassStreet$Tape"
def TX9 : u_T := fun k => match k with
  | 0 => ("GlassStreet$Tape", "signs", "[C", true)
  | 1 => ("GlassStreet$Tape", "length", "I", false)
  | 2 => ("GlassStreet$Tape", "kind", "I", false)
  | 3 => ("GlassStreet$Tape", "place", "I", false)
  | 4 => ("GlassStreet$Tape", "behind", "I", false)
  | 5 => ("GlassStreet$Tape", "number", "I", false)
  | 6 => ("GlassStreet$Tape", "name", "J", false)
  | 7 => ("GlassStreet$Tape", "reserved", "I", false)
  | _ => ("GlassStreet$Tape", "fault", "I", false)
def tyX9 : Nat → FieldType := fun k => match k with
  | 0 => .array .char
  | 1 => .int
  | 2 => .int
  | 3 => .int
  | 4 => .int
  | 5 => .int
  | 6 => .long
  | 7 => .int
  | _ => .int
abbrev wsX90 : List Cond := u_ws RX9 TX9 9
theorem nmX9 : ∀ a, a < 9 → ∀ b, b < 9 → a ≠ b → (TX9 a).2.1 ≠ (TX9 b).2.1 := by decide +kernel
theorem tyX9_ok : ∀ k, k < 9 → parseFieldDescriptor (TX9 k).2.2.1 = some (tyX9 k) := by decide +kernel
abbrev cX9_init : ByteArray := prog_11_method_1_code
def yX9_init : MethodName := ⟨RX9, "<init>", "()V"⟩
abbrev cX9_append : ByteArray := prog_11_method_2_code
def yX9_append : MethodName := ⟨RX9, "append", "(J)V"⟩
abbrev cX9_clear : ByteArray := prog_11_method_3_code
def yX9_clear : MethodName := ⟨RX9, "clear", "()V"⟩
abbrev cX9_rewind : ByteArray := prog_11_method_4_code
def yX9_rewind : MethodName := ⟨RX9, "rewind", "()V"⟩
abbrev cX9_advance : ByteArray := prog_11_method_5_code
def yX9_advance : MethodName := ⟨RX9, "advance", "()V"⟩
abbrev cX9_scanWord : ByteArray := prog_11_method_6_code
def yX9_scanWord : MethodName := ⟨RX9, "scanWord", "()V"⟩
abbrev cX9_scanNumber : ByteArray := prog_11_method_7_code
def yX9_scanNumber : MethodName := ⟨RX9, "scanNumber", "()V"⟩
abbrev cX9_placeIn : ByteArray := prog_11_method_8_code
def yX9_placeIn : MethodName := ⟨RX9, "placeIn", "(Ljava/lang/String;)I"⟩
abbrev cX9_isAtEnd : ByteArray := prog_11_method_9_code
def yX9_isAtEnd : MethodName := ⟨RX9, "isAtEnd", "()Z"⟩
abbrev cX9_isNumber : ByteArray := prog_11_method_10_code
def yX9_isNumber : MethodName := ⟨RX9, "isNumber", "()Z"⟩
abbrev cX9_isName : ByteArray := prog_11_method_11_code
def yX9_isName : MethodName := ⟨RX9, "isName", "()Z"⟩
abbrev cX9_isSign : ByteArray := prog_11_method_12_code
def yX9_isSign : MethodName := ⟨RX9, "isSign", "(C)Z"⟩
abbrev cX9_isWrong : ByteArray := prog_11_method_13_code
def yX9_isWrong : MethodName := ⟨RX9, "isWrong", "(I)Z"⟩
abbrev cX9_takesWord : ByteArray := prog_11_method_14_code
def yX9_takesWord : MethodName := ⟨RX9, "takesWord", "(I)Z"⟩
abbrev cX9_takesSign : ByteArray := prog_11_method_15_code
def yX9_takesSign : MethodName := ⟨RX9, "takesSign", "(C)Z"⟩
abbrev cX9_hasNumber : ByteArray := prog_11_method_16_code
def yX9_hasNumber : MethodName := ⟨RX9, "hasNumber", "(II)Z"⟩
def RX10 : String := "GlassStreet$World"
def TX10 : u_T := fun k => match k with
  | 0 => ("GlassStreet$World", "time", "I", false)
  | 1 => ("GlassStreet$World", "drawn", "I", false)
  | 2 => ("GlassStreet$World", "broken", "I", false)
  | 3 => ("GlassStreet$World", "saidOf", "I", false)
  | 4 => ("GlassStreet$World", "saidSeen", "I", false)
  | 5 => ("GlassStreet$World", "cells", "[I", true)
  | 6 => ("GlassStreet$World", "held", "[I", true)
  | _ => ("GlassStreet$World", "marks", "[I", true)
def tyX10 : Nat → FieldType := fun k => match k with
  | 0 => .int
  | 1 => .int
  | 2 => .int
  | 3 => .int
  | 4 => .int
  | 5 => .array .int
  | 6 => .array .int
  | _ => .array .int
abbrev wsX100 : List Cond := u_ws RX10 TX10 8
theorem nmX10 : ∀ a, a < 8 → ∀ b, b < 8 → a ≠ b → (TX10 a).2.1 ≠ (TX10 b).2.1 := by decide +kernel
theorem tyX10_ok : ∀ k, k < 8 → parseFieldDescriptor (TX10 k).2.2.1 = some (tyX10 k) := by decide +kernel
abbrev cX10_init : ByteArray := prog_12_method_1_code
def yX10_init : MethodName := ⟨RX10, "<init>", "()V"⟩
abbrev cX10_whoOf : ByteArray := prog_12_method_2_code
def yX10_whoOf : MethodName := ⟨RX10, "whoOf", "(I)I"⟩
abbrev cX10_deedOf : ByteArray := prog_12_method_3_code
def yX10_deedOf : MethodName := ⟨RX10, "deedOf", "(I)I"⟩
abbrev cX10_cellOf : ByteArray := prog_12_method_4_code
def yX10_cellOf : MethodName := ⟨RX10, "cellOf", "(I)I"⟩
abbrev cX10_ageOf : ByteArray := prog_12_method_5_code
def yX10_ageOf : MethodName := ⟨RX10, "ageOf", "(I)I"⟩
abbrev cX10_isAlike : ByteArray := prog_12_method_6_code
def yX10_isAlike : MethodName := ⟨RX10, "isAlike", "(II)Z"⟩
abbrev cX10_begin : ByteArray := prog_12_method_7_code
def yX10_begin : MethodName := ⟨RX10, "begin", "(LGlassStreet$Street;)V"⟩
abbrev cX10_forgetSaid : ByteArray := prog_12_method_8_code
def yX10_forgetSaid : MethodName := ⟨RX10, "forgetSaid", "()V"⟩
abbrev cX10_copy : ByteArray := prog_12_method_9_code
def yX10_copy : MethodName := ⟨RX10, "copy", "(LGlassStreet$World;)V"⟩
abbrev cX10_copySaid : ByteArray := prog_12_method_10_code
def yX10_copySaid : MethodName := ⟨RX10, "copySaid", "(LGlassStreet$World;)V"⟩
abbrev cX10_hear : ByteArray := prog_12_method_11_code
def yX10_hear : MethodName := ⟨RX10, "hear", "(IZ)V"⟩
abbrev cX10_isDrawn : ByteArray := prog_12_method_12_code
def yX10_isDrawn : MethodName := ⟨RX10, "isDrawn", "(I)Z"⟩
abbrev cX10_isBroken : ByteArray := prog_12_method_13_code
def yX10_isBroken : MethodName := ⟨RX10, "isBroken", "(I)Z"⟩
abbrev cX10_isOpenToAll : ByteArray := prog_12_method_14_code
def yX10_isOpenToAll : MethodName := ⟨RX10, "isOpenToAll", "(I)Z"⟩
abbrev cX10_tellsWho : ByteArray := prog_12_method_15_code
def yX10_tellsWho : MethodName := ⟨RX10, "tellsWho", "(LGlassStreet$Street;I)Z"⟩
abbrev cX10_marksHeld : ByteArray := prog_12_method_16_code
def yX10_marksHeld : MethodName := ⟨RX10, "marksHeld", "(LGlassStreet$Street;)I"⟩
abbrev cX10_markAt : ByteArray := prog_12_method_17_code
def yX10_markAt : MethodName := ⟨RX10, "markAt", "(II)I"⟩
abbrev cX10_sightOf : ByteArray := prog_12_method_18_code
def yX10_sightOf : MethodName := ⟨RX10, "sightOf", "(LGlassStreet$Street;I)I"⟩
abbrev cX10_watchersOf : ByteArray := prog_12_method_19_code
def yX10_watchersOf : MethodName := ⟨RX10, "watchersOf", "(LGlassStreet$Street;I)I"⟩
abbrev cX10_canStep : ByteArray := prog_12_method_20_code
def yX10_canStep : MethodName := ⟨RX10, "canStep", "(II)Z"⟩
abbrev cX10_steps : ByteArray := prog_12_method_21_code
def yX10_steps : MethodName := ⟨RX10, "steps", "(II)Z"⟩
abbrev cX10_act : ByteArray := prog_12_method_22_code
def yX10_act : MethodName := ⟨RX10, "act", "(LGlassStreet$Street;II)I"⟩
abbrev cX10_addMark : ByteArray := prog_12_method_23_code
def yX10_addMark : MethodName := ⟨RX10, "addMark", "(III)V"⟩
abbrev cX10_dropMark : ByteArray := prog_12_method_24_code
def yX10_dropMark : MethodName := ⟨RX10, "dropMark", "(II)V"⟩
abbrev cX10_canRinse : ByteArray := prog_12_method_25_code
def yX10_canRinse : MethodName := ⟨RX10, "canRinse", "(I)Z"⟩
abbrev cX10_rinses : ByteArray := prog_12_method_26_code
def yX10_rinses : MethodName := ⟨RX10, "rinses", "(I)Z"⟩
abbrev cX10_pulls : ByteArray := prog_12_method_27_code
def yX10_pulls : MethodName := ⟨RX10, "pulls", "(I)Z"⟩
abbrev cX10_smashes : ByteArray := prog_12_method_28_code
def yX10_smashes : MethodName := ⟨RX10, "smashes", "(I)Z"⟩
abbrev cX10_pass : ByteArray := prog_12_method_29_code
def yX10_pass : MethodName := ⟨RX10, "pass", "(LGlassStreet$Street;)I"⟩
abbrev cX10_fade : ByteArray := prog_12_method_30_code
def yX10_fade : MethodName := ⟨RX10, "fade", "(LGlassStreet$Street;II)I"⟩
def RX11 : String := "GlassStreet"
def TX11 : u_T := fun k => match k with
  | 0 => ("GlassStreet", "tape", "LGlassStreet$Tape;", true)
  | 1 => ("GlassStreet", "now", "LGlassStreet$World;", true)
  | 2 => ("GlassStreet", "trial", "LGlassStreet$World;", true)
  | 3 => ("GlassStreet", "history", "LGlassStreet$History;", true)
  | 4 => ("GlassStreet", "notches", "[LGlassStreet$World;", true)
  | 5 => ("GlassStreet", "draws", "LGlassStreet$Draws;", true)
  | 6 => ("GlassStreet", "laidNotches", "I", false)
  | 7 => ("GlassStreet", "told", "LGlassStreet$Street;", false)
  | 8 => ("GlassStreet", "spareStreet", "LGlassStreet$Street;", false)
  | 9 => ("GlassStreet", "toldDay", "LGlassStreet$Day;", false)
  | _ => ("GlassStreet", "spareDay", "LGlassStreet$Day;", false)
def tyX11 : Nat → FieldType := fun k => match k with
  | 0 => .object "GlassStreet$Tape"
  | 1 => .object "GlassStreet$World"
  | 2 => .object "GlassStreet$World"
  | 3 => .object "GlassStreet$History"
  | 4 => .array (.object "GlassStreet$World")
  | 5 => .object "GlassStreet$Draws"
  | 6 => .int
  | 7 => .object "GlassStreet$Street"
  | 8 => .object "GlassStreet$Street"
  | 9 => .object "GlassStreet$Day"
  | _ => .object "GlassStreet$Day"
abbrev wsX110 : List Cond := u_ws RX11 TX11 11
theorem nmX11 : ∀ a, a < 11 → ∀ b, b < 11 → a ≠ b → (TX11 a).2.1 ≠ (TX11 b).2.1 := by decide +kernel
theorem tyX11_ok : ∀ k, k < 11 → parseFieldDescriptor (TX11 k).2.2.1 = some (tyX11 k) := by decide +kernel
abbrev cX11_init : ByteArray := prog_1_method_1_code
def yX11_init : MethodName := ⟨RX11, "<init>", "()V"⟩
abbrev cX11_feed : ByteArray := prog_1_method_2_code
def yX11_feed : MethodName := ⟨RX11, "feed", "(JJJ)I"⟩
abbrev cX11_street : ByteArray := prog_1_method_3_code
def yX11_street : MethodName := ⟨RX11, "street", "()I"⟩
abbrev cX11_day : ByteArray := prog_1_method_4_code
def yX11_day : MethodName := ⟨RX11, "day", "()I"⟩
abbrev cX11_pane : ByteArray := prog_1_method_5_code
def yX11_pane : MethodName := ⟨RX11, "pane", "(II)I"⟩
abbrev cX11_shown : ByteArray := prog_1_method_6_code
def yX11_shown : MethodName := ⟨RX11, "shown", "(III)I"⟩
abbrev cX11_person : ByteArray := prog_1_method_7_code
def yX11_person : MethodName := ⟨RX11, "person", "(I)I"⟩
abbrev cX11_walk : ByteArray := prog_1_method_8_code
def yX11_walk : MethodName := ⟨RX11, "walk", "(II)Z"⟩
abbrev cX11_does : ByteArray := prog_1_method_9_code
def yX11_does : MethodName := ⟨RX11, "does", "(II)I"⟩
abbrev cX11_wash : ByteArray := prog_1_method_10_code
def yX11_wash : MethodName := ⟨RX11, "wash", "(I)I"⟩
abbrev cX11_curtain : ByteArray := prog_1_method_11_code
def yX11_curtain : MethodName := ⟨RX11, "curtain", "(I)Z"⟩
abbrev cX11_stone : ByteArray := prog_1_method_12_code
def yX11_stone : MethodName := ⟨RX11, "stone", "(I)Z"⟩
abbrev cX11_hour : ByteArray := prog_1_method_13_code
def yX11_hour : MethodName := ⟨RX11, "hour", "()I"⟩
abbrev cX11_undo : ByteArray := prog_1_method_14_code
def yX11_undo : MethodName := ⟨RX11, "undo", "()Z"⟩
abbrev cX11_judged : ByteArray := prog_1_method_15_code
def yX11_judged : MethodName := ⟨RX11, "judged", "(I)I"⟩
abbrev cX11_shame : ByteArray := prog_1_method_16_code
def yX11_shame : MethodName := ⟨RX11, "shame", "(I)I"⟩
abbrev cX11_harm : ByteArray := prog_1_method_17_code
def yX11_harm : MethodName := ⟨RX11, "harm", "()I"⟩
abbrev cX11_hide : ByteArray := prog_1_method_18_code
def yX11_hide : MethodName := ⟨RX11, "hide", "(II)I"⟩
abbrev cX11_proof : ByteArray := prog_1_method_19_code
def yX11_proof : MethodName := ⟨RX11, "proof", "(II)I"⟩
abbrev cX11_washes : ByteArray := prog_1_method_20_code
def yX11_washes : MethodName := ⟨RX11, "washes", "(II)I"⟩
abbrev cX11_dark : ByteArray := prog_1_method_21_code
def yX11_dark : MethodName := ⟨RX11, "dark", "(I)I"⟩
abbrev cX11_say : ByteArray := prog_1_method_22_code
def yX11_say : MethodName := ⟨RX11, "say", "(IZ)Z"⟩
abbrev cX11_where : ByteArray := prog_1_method_23_code
def yX11_where : MethodName := ⟨RX11, "where", "()I"⟩
abbrev cX11_ask : ByteArray := prog_1_method_24_code
def yX11_ask : MethodName := ⟨RX11, "ask", "()I"⟩
abbrev cX11_memory : ByteArray := prog_1_method_25_code
def yX11_memory : MethodName := ⟨RX11, "memory", "(I)I"⟩
abbrev cX11_glass : ByteArray := prog_1_method_26_code
def yX11_glass : MethodName := ⟨RX11, "glass", "(I)I"⟩
abbrev cX11_seen : ByteArray := prog_1_method_27_code
def yX11_seen : MethodName := ⟨RX11, "seen", "(I)I"⟩
abbrev cX11_eyes : ByteArray := prog_1_method_28_code
def yX11_eyes : MethodName := ⟨RX11, "eyes", "()I"⟩
abbrev cX11_blind : ByteArray := prog_1_method_29_code
def yX11_blind : MethodName := ⟨RX11, "blind", "()I"⟩
abbrev cX11_young : ByteArray := prog_1_method_30_code
def yX11_young : MethodName := ⟨RX11, "young", "(I)I"⟩
abbrev cX11_trail : ByteArray := prog_1_method_31_code
def yX11_trail : MethodName := ⟨RX11, "trail", "(I)I"⟩
abbrev cX11_last : ByteArray := prog_1_method_32_code
def yX11_last : MethodName := ⟨RX11, "last", "(I)I"⟩
abbrev cX11_worst : ByteArray := prog_1_method_33_code
def yX11_worst : MethodName := ⟨RX11, "worst", "()I"⟩
abbrev cX11_oldest : ByteArray := prog_1_method_34_code
def yX11_oldest : MethodName := ⟨RX11, "oldest", "()I"⟩
abbrev cX11_cloak : ByteArray := prog_1_method_35_code
def yX11_cloak : MethodName := ⟨RX11, "cloak", "(II)I"⟩
abbrev cX11_twin : ByteArray := prog_1_method_36_code
def yX11_twin : MethodName := ⟨RX11, "twin", "(II)I"⟩
abbrev cX11_run : ByteArray := prog_1_method_37_code
def yX11_run : MethodName := ⟨RX11, "run", "(I)I"⟩
abbrev cX11_rests : ByteArray := prog_1_method_38_code
def yX11_rests : MethodName := ⟨RX11, "rests", "(IIII)I"⟩
abbrev cX11_years : ByteArray := prog_1_method_39_code
def yX11_years : MethodName := ⟨RX11, "years", "(III)I"⟩
abbrev cX11_notch : ByteArray := prog_1_method_40_code
def yX11_notch : MethodName := ⟨RX11, "notch", "(IZ)Z"⟩
abbrev cX11_count : ByteArray := prog_1_method_41_code
def yX11_count : MethodName := ⟨RX11, "count", "(I)I"⟩
abbrev cX11_isRent : ByteArray := prog_1_method_42_code
def yX11_isRent : MethodName := ⟨RX11, "isRent", "(I)Z"⟩
abbrev cX11_isAtRest : ByteArray := prog_1_method_43_code
def yX11_isAtRest : MethodName := ⟨RX11, "isAtRest", "(IIII)Z"⟩
abbrev cX11_rentOf : ByteArray := prog_1_method_44_code
def yX11_rentOf : MethodName := ⟨RX11, "rentOf", "(IIIII)I"⟩
abbrev cX11_isBetterSet : ByteArray := prog_1_method_45_code
def yX11_isBetterSet : MethodName := ⟨RX11, "isBetterSet", "(II)Z"⟩
def RX12 : String := "GlassStreetModel"
def TX12 : u_T := fun k => match k with
  | 0 => ("GlassStreetModel", "thrown", "I", false)
  | 1 => ("GlassStreetModel", "tape", "[I", true)
  | 2 => ("GlassStreetModel", "taped", "I", false)
  | 3 => ("GlassStreetModel", "size", "I", false)
  | 4 => ("GlassStreetModel", "sort", "[I", true)
  | 5 => ("GlassStreetModel", "place", "[I", true)
  | 6 => ("GlassStreetModel", "value", "[J", true)
  | 7 => ("GlassStreetModel", "at", "I", false)
  | 8 => ("GlassStreetModel", "fault", "I", false)
  | 9 => ("GlassStreetModel", "words", "[J", true)
  | 10 => ("GlassStreetModel", "streets", "[I", true)
  | 11 => ("GlassStreetModel", "op", "[I", true)
  | 12 => ("GlassStreetModel", "arg", "[I", true)
  | 13 => ("GlassStreetModel", "codes", "I", false)
  | 14 => ("GlassStreetModel", "names", "[J", true)
  | 15 => ("GlassStreetModel", "readNames", "[J", true)
  | 16 => ("GlassStreetModel", "nameOf", "[I", true)
  | 17 => ("GlassStreetModel", "readNameOf", "[I", true)
  | 18 => ("GlassStreetModel", "namesMany", "I", false)
  | 19 => ("GlassStreetModel", "readMany", "I", false)
  | 20 => ("GlassStreetModel", "once", "I", false)
  | 21 => ("GlassStreetModel", "lines", "[I", true)
  | 22 => ("GlassStreetModel", "facts", "[I", true)
  | 23 => ("GlassStreetModel", "pile", "[I", true)
  | 24 => ("GlassStreetModel", "state", "[I", true)
  | 25 => ("GlassStreetModel", "undos", "I", false)
  | 26 => ("GlassStreetModel", "isNotched", "[Z", true)
  | 27 => ("GlassStreetModel", "isUnseen", "Z", false)
  | 28 => ("GlassStreetModel", "g0", "J", false)
  | 29 => ("GlassStreetModel", "drawnDeeds", "I", false)
  | _ => ("GlassStreetModel", "drawnUnseen", "I", false)
def tyX12 : Nat → FieldType := fun k => match k with
  | 0 => .int
  | 1 => .array .int
  | 2 => .int
  | 3 => .int
  | 4 => .array .int
  | 5 => .array .int
  | 6 => .array .long
  | 7 => .int
  | 8 => .int
  | 9 => .array .long
  | 10 => .array .int
  | 11 => .array .int
  | 12 => .array .int
  | 13 => .int
  | 14 => .array .long
  | 15 => .array .long
  | 16 => .array .int
  | 17 => .array .int
  | 18 => .int
  | 19 => .int
  | 20 => .int
  | 21 => .array .int
  | 22 => .array .int
  | 23 => .array .int
  | 24 => .array .int
  | 25 => .int
  | 26 => .array .boolean
  | 27 => .boolean
  | 28 => .long
  | 29 => .int
  | _ => .int
abbrev wsX120 : List Cond := u_ws RX12 TX12 31
theorem nmX12 : ∀ a, a < 31 → ∀ b, b < 31 → a ≠ b → (TX12 a).2.1 ≠ (TX12 b).2.1 := by decide +kernel
theorem tyX12_ok : ∀ k, k < 31 → parseFieldDescriptor (TX12 k).2.2.1 = some (tyX12 k) := by decide +kernel
abbrev cX12_thrown : ByteArray := prog_14_method_1_code
def yX12_thrown : MethodName := ⟨RX12, "thrown", "()I"⟩
abbrev cX12_feed : ByteArray := prog_14_method_2_code
def yX12_feed : MethodName := ⟨RX12, "feed", "(JJJ)I"⟩
abbrev cX12_lay : ByteArray := prog_14_method_3_code
def yX12_lay : MethodName := ⟨RX12, "lay", "(J)V"⟩
abbrev cX12_init : ByteArray := prog_14_method_4_code
def yX12_init : MethodName := ⟨RX12, "<init>", "()V"⟩
abbrev cX12_isLetter : ByteArray := prog_14_method_5_code
def yX12_isLetter : MethodName := ⟨RX12, "isLetter", "(I)Z"⟩
abbrev cX12_isDigit : ByteArray := prog_14_method_6_code
def yX12_isDigit : MethodName := ⟨RX12, "isDigit", "(I)Z"⟩
abbrev cX12_rank : ByteArray := prog_14_method_7_code
def yX12_rank : MethodName := ⟨RX12, "rank", "(I)I"⟩
abbrev cX12_isSignOf : ByteArray := prog_14_method_8_code
def yX12_isSignOf : MethodName := ⟨RX12, "isSignOf", "(I)Z"⟩
abbrev cX12_cutAll : ByteArray := prog_14_method_9_code
def yX12_cutAll : MethodName := ⟨RX12, "cutAll", "()V"⟩
abbrev cX12_wrong : ByteArray := prog_14_method_10_code
def yX12_wrong : MethodName := ⟨RX12, "wrong", "(I)V"⟩
abbrev cX12_isSign : ByteArray := prog_14_method_11_code
def yX12_isSign : MethodName := ⟨RX12, "isSign", "(I)Z"⟩
abbrev cX12_isWord : ByteArray := prog_14_method_12_code
def yX12_isWord : MethodName := ⟨RX12, "isWord", "(I)Z"⟩
abbrev cX12_takeSign : ByteArray := prog_14_method_13_code
def yX12_takeSign : MethodName := ⟨RX12, "takeSign", "(I)V"⟩
abbrev cX12_hasSign : ByteArray := prog_14_method_14_code
def yX12_hasSign : MethodName := ⟨RX12, "hasSign", "(I)Z"⟩
abbrev cX12_hasWord : ByteArray := prog_14_method_15_code
def yX12_hasWord : MethodName := ⟨RX12, "hasWord", "(I)Z"⟩
abbrev cX12_takeWord : ByteArray := prog_14_method_16_code
def yX12_takeWord : MethodName := ⟨RX12, "takeWord", "(I)V"⟩
abbrev cX12_within : ByteArray := prog_14_method_17_code
def yX12_within : MethodName := ⟨RX12, "within", "(III)Z"⟩
abbrev cX12_standsAsAlways : ByteArray := prog_14_method_18_code
def yX12_standsAsAlways : MethodName := ⟨RX12, "standsAsAlways", "(I)V"⟩
abbrev cX12_takeNumber : ByteArray := prog_14_method_19_code
def yX12_takeNumber : MethodName := ⟨RX12, "takeNumber", "(II)I"⟩
abbrev cX12_takeAfter : ByteArray := prog_14_method_20_code
def yX12_takeAfter : MethodName := ⟨RX12, "takeAfter", "(III)I"⟩
abbrev cX12_wordHere : ByteArray := prog_14_method_21_code
def yX12_wordHere : MethodName := ⟨RX12, "wordHere", "(II)I"⟩
abbrev cX12_takeOne : ByteArray := prog_14_method_22_code
def yX12_takeOne : MethodName := ⟨RX12, "takeOne", "(II)I"⟩
abbrev cX12_isName : ByteArray := prog_14_method_23_code
def yX12_isName : MethodName := ⟨RX12, "isName", "()Z"⟩
abbrev cX12_nameAt : ByteArray := prog_14_method_24_code
def yX12_nameAt : MethodName := ⟨RX12, "nameAt", "(Z)I"⟩
abbrev cX12_takeTold : ByteArray := prog_14_method_25_code
def yX12_takeTold : MethodName := ⟨RX12, "takeTold", "(I)I"⟩
abbrev cX12_street : ByteArray := prog_14_method_26_code
def yX12_street : MethodName := ⟨RX12, "street", "()I"⟩
abbrev cX12_readLine : ByteArray := prog_14_method_27_code
def yX12_readLine : MethodName := ⟨RX12, "readLine", "()V"⟩
abbrev cX12_readName : ByteArray := prog_14_method_28_code
def yX12_readName : MethodName := ⟨RX12, "readName", "(III)V"⟩
abbrev cX12_readPane : ByteArray := prog_14_method_29_code
def yX12_readPane : MethodName := ⟨RX12, "readPane", "()V"⟩
abbrev cX12_readOnce : ByteArray := prog_14_method_30_code
def yX12_readOnce : MethodName := ⟨RX12, "readOnce", "()V"⟩
abbrev cX12_readLight : ByteArray := prog_14_method_31_code
def yX12_readLight : MethodName := ⟨RX12, "readLight", "()V"⟩
abbrev cX12_day : ByteArray := prog_14_method_32_code
def yX12_day : MethodName := ⟨RX12, "day", "()I"⟩
abbrev cX12_emit : ByteArray := prog_14_method_33_code
def yX12_emit : MethodName := ⟨RX12, "emit", "(II)V"⟩
abbrev cX12_whole : ByteArray := prog_14_method_34_code
def yX12_whole : MethodName := ⟨RX12, "whole", "(I)V"⟩
abbrev cX12_test : ByteArray := prog_14_method_35_code
def yX12_test : MethodName := ⟨RX12, "test", "(I)V"⟩
abbrev cX12_sums : ByteArray := prog_14_method_36_code
def yX12_sums : MethodName := ⟨RX12, "sums", "(I)V"⟩
abbrev cX12_products : ByteArray := prog_14_method_37_code
def yX12_products : MethodName := ⟨RX12, "products", "(I)V"⟩
abbrev cX12_takePart : ByteArray := prog_14_method_38_code
def yX12_takePart : MethodName := ⟨RX12, "takePart", "(I)V"⟩
abbrev cX12_worthAt : ByteArray := prog_14_method_39_code
def yX12_worthAt : MethodName := ⟨RX12, "worthAt", "(I)I"⟩
abbrev cX12_both : ByteArray := prog_14_method_40_code
def yX12_both : MethodName := ⟨RX12, "both", "(III)I"⟩
abbrev cX12_copies : ByteArray := prog_14_method_41_code
def yX12_copies : MethodName := ⟨RX12, "copies", "(III)V"⟩
abbrev cX12_starts : ByteArray := prog_14_method_42_code
def yX12_starts : MethodName := ⟨RX12, "starts", "(I)V"⟩
abbrev cX12_begins : ByteArray := prog_14_method_43_code
def yX12_begins : MethodName := ⟨RX12, "begins", "()V"⟩
abbrev cX12_keeps : ByteArray := prog_14_method_44_code
def yX12_keeps : MethodName := ⟨RX12, "keeps", "()V"⟩
abbrev cX12_panes : ByteArray := prog_14_method_45_code
def yX12_panes : MethodName := ⟨RX12, "panes", "()I"⟩
abbrev cX12_people : ByteArray := prog_14_method_46_code
def yX12_people : MethodName := ⟨RX12, "people", "()I"⟩
abbrev cX12_deeds : ByteArray := prog_14_method_47_code
def yX12_deeds : MethodName := ⟨RX12, "deeds", "()I"⟩
abbrev cX12_paneOf : ByteArray := prog_14_method_48_code
def yX12_paneOf : MethodName := ⟨RX12, "paneOf", "(II)I"⟩
abbrev cX12_isPane : ByteArray := prog_14_method_49_code
def yX12_isPane : MethodName := ⟨RX12, "isPane", "(I)Z"⟩
abbrev cX12_isPerson : ByteArray := prog_14_method_50_code
def yX12_isPerson : MethodName := ⟨RX12, "isPerson", "(I)Z"⟩
abbrev cX12_isDeed : ByteArray := prog_14_method_51_code
def yX12_isDeed : MethodName := ⟨RX12, "isDeed", "(I)Z"⟩
abbrev cX12_lightOf : ByteArray := prog_14_method_52_code
def yX12_lightOf : MethodName := ⟨RX12, "lightOf", "(I)I"⟩
abbrev cX12_isWhole : ByteArray := prog_14_method_53_code
def yX12_isWhole : MethodName := ⟨RX12, "isWhole", "(II)Z"⟩
abbrev cX12_sightOf : ByteArray := prog_14_method_54_code
def yX12_sightOf : MethodName := ⟨RX12, "sightOf", "(II)I"⟩
abbrev cX12_doesSee : ByteArray := prog_14_method_55_code
def yX12_doesSee : MethodName := ⟨RX12, "doesSee", "(III)Z"⟩
abbrev cX12_seersOf : ByteArray := prog_14_method_56_code
def yX12_seersOf : MethodName := ⟨RX12, "seersOf", "(II)I"⟩
abbrev cX12_markOf : ByteArray := prog_14_method_57_code
def yX12_markOf : MethodName := ⟨RX12, "markOf", "(III)I"⟩
abbrev cX12_whoOf : ByteArray := prog_14_method_58_code
def yX12_whoOf : MethodName := ⟨RX12, "whoOf", "(I)I"⟩
abbrev cX12_deedOf : ByteArray := prog_14_method_59_code
def yX12_deedOf : MethodName := ⟨RX12, "deedOf", "(I)I"⟩
abbrev cX12_cellOf : ByteArray := prog_14_method_60_code
def yX12_cellOf : MethodName := ⟨RX12, "cellOf", "(I)I"⟩
abbrev cX12_ageOf : ByteArray := prog_14_method_61_code
def yX12_ageOf : MethodName := ⟨RX12, "ageOf", "(I)I"⟩
abbrev cX12_forgets : ByteArray := prog_14_method_62_code
def yX12_forgets : MethodName := ⟨RX12, "forgets", "(III)V"⟩
abbrev cX12_does : ByteArray := prog_14_method_63_code
def yX12_does : MethodName := ⟨RX12, "does", "(IIII)I"⟩
abbrev cX12_isFaded : ByteArray := prog_14_method_64_code
def yX12_isFaded : MethodName := ⟨RX12, "isFaded", "(III)Z"⟩
abbrev cX12_passes : ByteArray := prog_14_method_65_code
def yX12_passes : MethodName := ⟨RX12, "passes", "(I)I"⟩
abbrev cX12_isShown : ByteArray := prog_14_method_66_code
def yX12_isShown : MethodName := ⟨RX12, "isShown", "(II)Z"⟩
abbrev cX12_shownOf : ByteArray := prog_14_method_67_code
def yX12_shownOf : MethodName := ⟨RX12, "shownOf", "(III)I"⟩
abbrev cX12_deedsBy : ByteArray := prog_14_method_68_code
def yX12_deedsBy : MethodName := ⟨RX12, "deedsBy", "(IIII)I"⟩
abbrev cX12_harmOf : ByteArray := prog_14_method_69_code
def yX12_harmOf : MethodName := ⟨RX12, "harmOf", "(I)I"⟩
abbrev cX12_harmShown : ByteArray := prog_14_method_70_code
def yX12_harmShown : MethodName := ⟨RX12, "harmShown", "(III)I"⟩
abbrev cX12_pane : ByteArray := prog_14_method_71_code
def yX12_pane : MethodName := ⟨RX12, "pane", "(II)I"⟩
abbrev cX12_shown : ByteArray := prog_14_method_72_code
def yX12_shown : MethodName := ⟨RX12, "shown", "(III)I"⟩
abbrev cX12_person : ByteArray := prog_14_method_73_code
def yX12_person : MethodName := ⟨RX12, "person", "(I)I"⟩
abbrev cX12_mayWalk : ByteArray := prog_14_method_74_code
def yX12_mayWalk : MethodName := ⟨RX12, "mayWalk", "(III)Z"⟩
abbrev cX12_walk : ByteArray := prog_14_method_75_code
def yX12_walk : MethodName := ⟨RX12, "walk", "(II)Z"⟩
abbrev cX12_does_ : ByteArray := prog_14_method_76_code
def yX12_does_ : MethodName := ⟨RX12, "does", "(II)I"⟩
abbrev cX12_mayWash : ByteArray := prog_14_method_77_code
def yX12_mayWash : MethodName := ⟨RX12, "mayWash", "(II)Z"⟩
abbrev cX12_wash : ByteArray := prog_14_method_78_code
def yX12_wash : MethodName := ⟨RX12, "wash", "(I)I"⟩
abbrev cX12_curtain : ByteArray := prog_14_method_79_code
def yX12_curtain : MethodName := ⟨RX12, "curtain", "(I)Z"⟩
abbrev cX12_stone : ByteArray := prog_14_method_80_code
def yX12_stone : MethodName := ⟨RX12, "stone", "(I)Z"⟩
abbrev cX12_hour : ByteArray := prog_14_method_81_code
def yX12_hour : MethodName := ⟨RX12, "hour", "()I"⟩
abbrev cX12_undo : ByteArray := prog_14_method_82_code
def yX12_undo : MethodName := ⟨RX12, "undo", "()Z"⟩
abbrev cX12_done : ByteArray := prog_14_method_83_code
def yX12_done : MethodName := ⟨RX12, "done", "(III)Z"⟩
abbrev cX12_judged : ByteArray := prog_14_method_84_code
def yX12_judged : MethodName := ⟨RX12, "judged", "(I)I"⟩
abbrev cX12_shame : ByteArray := prog_14_method_85_code
def yX12_shame : MethodName := ⟨RX12, "shame", "(I)I"⟩
abbrev cX12_harm : ByteArray := prog_14_method_86_code
def yX12_harm : MethodName := ⟨RX12, "harm", "()I"⟩
abbrev cX12_memory : ByteArray := prog_14_method_87_code
def yX12_memory : MethodName := ⟨RX12, "memory", "(I)I"⟩
abbrev cX12_trail : ByteArray := prog_14_method_88_code
def yX12_trail : MethodName := ⟨RX12, "trail", "(I)I"⟩
abbrev cX12_last : ByteArray := prog_14_method_89_code
def yX12_last : MethodName := ⟨RX12, "last", "(I)I"⟩
abbrev cX12_worst : ByteArray := prog_14_method_90_code
def yX12_worst : MethodName := ⟨RX12, "worst", "()I"⟩
abbrev cX12_oldest : ByteArray := prog_14_method_91_code
def yX12_oldest : MethodName := ⟨RX12, "oldest", "()I"⟩
abbrev cX12_young : ByteArray := prog_14_method_92_code
def yX12_young : MethodName := ⟨RX12, "young", "(I)I"⟩
abbrev cX12_cloak : ByteArray := prog_14_method_93_code
def yX12_cloak : MethodName := ⟨RX12, "cloak", "(II)I"⟩
abbrev cX12_hide : ByteArray := prog_14_method_94_code
def yX12_hide : MethodName := ⟨RX12, "hide", "(II)I"⟩
abbrev cX12_bits : ByteArray := prog_14_method_95_code
def yX12_bits : MethodName := ⟨RX12, "bits", "(I)I"⟩
abbrev cX12_proof : ByteArray := prog_14_method_96_code
def yX12_proof : MethodName := ⟨RX12, "proof", "(II)I"⟩
abbrev cX12_washes : ByteArray := prog_14_method_97_code
def yX12_washes : MethodName := ⟨RX12, "washes", "(II)I"⟩
abbrev cX12_dark : ByteArray := prog_14_method_98_code
def yX12_dark : MethodName := ⟨RX12, "dark", "(I)I"⟩
abbrev cX12_say : ByteArray := prog_14_method_99_code
def yX12_say : MethodName := ⟨RX12, "say", "(IZ)Z"⟩
abbrev cX12_cellsNow : ByteArray := prog_14_method_100_code
def yX12_cellsNow : MethodName := ⟨RX12, "cellsNow", "()I"⟩
abbrev cX12_where : ByteArray := prog_14_method_101_code
def yX12_where : MethodName := ⟨RX12, "where", "()I"⟩
abbrev cX12_ask : ByteArray := prog_14_method_102_code
def yX12_ask : MethodName := ⟨RX12, "ask", "()I"⟩
abbrev cX12_peopleIn : ByteArray := prog_14_method_103_code
def yX12_peopleIn : MethodName := ⟨RX12, "peopleIn", "(II)I"⟩
abbrev cX12_glass : ByteArray := prog_14_method_104_code
def yX12_glass : MethodName := ⟨RX12, "glass", "(I)I"⟩
abbrev cX12_seen : ByteArray := prog_14_method_105_code
def yX12_seen : MethodName := ⟨RX12, "seen", "(I)I"⟩
abbrev cX12_eyes : ByteArray := prog_14_method_106_code
def yX12_eyes : MethodName := ⟨RX12, "eyes", "()I"⟩
abbrev cX12_blind : ByteArray := prog_14_method_107_code
def yX12_blind : MethodName := ⟨RX12, "blind", "()I"⟩
abbrev cX12_likeIn : ByteArray := prog_14_method_108_code
def yX12_likeIn : MethodName := ⟨RX12, "likeIn", "(II)I"⟩
abbrev cX12_twin : ByteArray := prog_14_method_109_code
def yX12_twin : MethodName := ⟨RX12, "twin", "(II)I"⟩
abbrev cX12_run : ByteArray := prog_14_method_110_code
def yX12_run : MethodName := ⟨RX12, "run", "(I)I"⟩
abbrev cX12_getsBy : ByteArray := prog_14_method_111_code
def yX12_getsBy : MethodName := ⟨RX12, "getsBy", "(IIIII)I"⟩
abbrev cX12_rests : ByteArray := prog_14_method_112_code
def yX12_rests : MethodName := ⟨RX12, "rests", "(IIII)I"⟩
abbrev cX12_draw : ByteArray := prog_14_method_113_code
def yX12_draw : MethodName := ⟨RX12, "draw", "(I)I"⟩
abbrev cX12_drawsPerson : ByteArray := prog_14_method_114_code
def yX12_drawsPerson : MethodName := ⟨RX12, "drawsPerson", "(I)V"⟩
abbrev cX12_years : ByteArray := prog_14_method_115_code
def yX12_years : MethodName := ⟨RX12, "years", "(III)I"⟩
abbrev cX12_notch : ByteArray := prog_14_method_116_code
def yX12_notch : MethodName := ⟨RX12, "notch", "(IZ)Z"⟩
abbrev cX12_bitsOf : ByteArray := prog_14_method_117_code
def yX12_bitsOf : MethodName := ⟨RX12, "bitsOf", "(II)I"⟩
abbrev cX12_marksMany : ByteArray := prog_14_method_118_code
def yX12_marksMany : MethodName := ⟨RX12, "marksMany", "()I"⟩
abbrev cX12_count : ByteArray := prog_14_method_119_code
def yX12_count : MethodName := ⟨RX12, "count", "(I)I"⟩
def RJx145de : String := "java/io/Serializable"
def TJx145de : u_T := fun k => match k with
  | _ => ("", "", "", false)
def tyJx145de : Nat → FieldType := fun k => match k with
  | _ => .int
theorem nmJx145de : ∀ a, a < 0 → ∀ b, b < 0 → a ≠ b → (TJx145de a).2.1 ≠ (TJx145de b).2.1 := by decide +kernel
theorem tyJx145de_ok : ∀ k, k < 0 → parseFieldDescriptor (TJx145de k).2.2.1 = some (tyJx145de k) := by decide +kernel
def RJx9f9b0 : String := "java/lang/CharSequence"
def TJx9f9b0 : u_T := fun k => match k with
  | _ => ("", "", "", false)
def tyJx9f9b0 : Nat → FieldType := fun k => match k with
  | _ => .int
theorem nmJx9f9b0 : ∀ a, a < 0 → ∀ b, b < 0 → a ≠ b → (TJx9f9b0 a).2.1 ≠ (TJx9f9b0 b).2.1 := by decide +kernel
theorem tyJx9f9b0_ok : ∀ k, k < 0 → parseFieldDescriptor (TJx9f9b0 k).2.2.1 = some (tyJx9f9b0 k) := by decide +kernel
def RJ11 : String := "java/lang/Character"
def TJ11 : u_T := fun k => match k with
  | _ => ("", "", "", false)
def tyJ11 : Nat → FieldType := fun k => match k with
  | _ => .int
abbrev wsJ110 : List Cond := u_ws RJ11 TJ11 0
theorem nmJ11 : ∀ a, a < 0 → ∀ b, b < 0 → a ≠ b → (TJ11 a).2.1 ≠ (TJ11 b).2.1 := by decide +kernel
theorem tyJ11_ok : ∀ k, k < 0 → parseFieldDescriptor (TJ11 k).2.2.1 = some (tyJ11 k) := by decide +kernel
abbrev cJ11_isValidCodePoint_9a6ad : ByteArray := prog_17_method_11_code
def yJ11_isValidCodePoint_9a6ad : MethodName := ⟨RJ11, "isValidCodePoint", "(I)Z"⟩
abbrev cJ11_highSurrogate_5068e : ByteArray := prog_17_method_28_code
def yJ11_highSurrogate_5068e : MethodName := ⟨RJ11, "highSurrogate", "(I)C"⟩
abbrev cJ11_lowSurrogate_5068e : ByteArray := prog_17_method_29_code
def yJ11_lowSurrogate_5068e : MethodName := ⟨RJ11, "lowSurrogate", "(I)C"⟩
def RJxb160c : String := "java/lang/Comparable"
def TJxb160c : u_T := fun k => match k with
  | _ => ("", "", "", false)
def tyJxb160c : Nat → FieldType := fun k => match k with
  | _ => .int
theorem nmJxb160c : ∀ a, a < 0 → ∀ b, b < 0 → a ≠ b → (TJxb160c a).2.1 ≠ (TJxb160c b).2.1 := by decide +kernel
theorem tyJxb160c_ok : ∀ k, k < 0 → parseFieldDescriptor (TJxb160c k).2.2.1 = some (tyJxb160c k) := by decide +kernel
def RJ6 : String := "java/lang/Integer"
def TJ6 : u_T := fun k => match k with
  | _ => ("", "", "", false)
def tyJ6 : Nat → FieldType := fun k => match k with
  | _ => .int
abbrev wsJ60 : List Cond := u_ws RJ6 TJ6 0
theorem nmJ6 : ∀ a, a < 0 → ∀ b, b < 0 → a ≠ b → (TJ6 a).2.1 ≠ (TJ6 b).2.1 := by decide +kernel
theorem tyJ6_ok : ∀ k, k < 0 → parseFieldDescriptor (TJ6 k).2.2.1 = some (tyJ6 k) := by decide +kernel
abbrev cJ6_bitCount_0f7a4 : ByteArray := prog_20_method_49_code
def yJ6_bitCount_0f7a4 : MethodName := ⟨RJ6, "bitCount", "(I)I"⟩
def RJ9 : String := "java/lang/Math"
def TJ9 : u_T := fun k => match k with
  | _ => ("", "", "", false)
def tyJ9 : Nat → FieldType := fun k => match k with
  | _ => .int
abbrev wsJ90 : List Cond := u_ws RJ9 TJ9 0
theorem nmJ9 : ∀ a, a < 0 → ∀ b, b < 0 → a ≠ b → (TJ9 a).2.1 ≠ (TJ9 b).2.1 := by decide +kernel
theorem tyJ9_ok : ∀ k, k < 0 → parseFieldDescriptor (TJ9 k).2.2.1 = some (tyJ9 k) := by decide +kernel
abbrev cJ9_floorMod_7cf53 : ByteArray := prog_21_method_50_code
def yJ9_floorMod_7cf53 : MethodName := ⟨RJ9, "floorMod", "(II)I"⟩
abbrev cJ9_abs_0f7a4 : ByteArray := prog_21_method_59_code
def yJ9_abs_0f7a4 : MethodName := ⟨RJ9, "abs", "(I)I"⟩
abbrev cJ9_max_7cf53 : ByteArray := prog_21_method_65_code
def yJ9_max_7cf53 : MethodName := ⟨RJ9, "max", "(II)I"⟩
abbrev cJ9_min_7cf53 : ByteArray := prog_21_method_69_code
def yJ9_min_7cf53 : MethodName := ⟨RJ9, "min", "(II)I"⟩
def RJ0 : String := "java/lang/String"
def TJ0 : u_T := fun k => match k with
  | _ => ("", "", "", false)
def tyJ0 : Nat → FieldType := fun k => match k with
  | _ => .int
abbrev wsJ00 : List Cond := u_ws RJ0 TJ0 0
theorem nmJ0 : ∀ a, a < 0 → ∀ b, b < 0 → a ≠ b → (TJ0 a).2.1 ≠ (TJ0 b).2.1 := by decide +kernel
theorem tyJ0_ok : ∀ k, k < 0 → parseFieldDescriptor (TJ0 k).2.2.1 = some (tyJ0 k) := by decide +kernel
abbrev cJ0_length_8abf5 : ByteArray := prog_23_method_54_code
def yJ0_length_8abf5 : MethodName := ⟨RJ0, "length", "()I"⟩
abbrev cJ0_charAt_5068e : ByteArray := prog_23_method_56_code
def yJ0_charAt_5068e : MethodName := ⟨RJ0, "charAt", "(I)C"⟩
abbrev cJ0_indexOf_0f7a4 : ByteArray := prog_23_method_79_code
def yJ0_indexOf_0f7a4 : MethodName := ⟨RJ0, "indexOf", "(I)I"⟩
abbrev cJ0_indexOf_7cf53 : ByteArray := prog_23_method_80_code
def yJ0_indexOf_7cf53 : MethodName := ⟨RJ0, "indexOf", "(II)I"⟩
abbrev cJ0_coder_7d493 : ByteArray := prog_23_method_152_code
def yJ0_coder_7d493 : MethodName := ⟨RJ0, "coder", "()B"⟩
abbrev cJ0_isLatin1_aae02 : ByteArray := prog_23_method_154_code
def yJ0_isLatin1_aae02 : MethodName := ⟨RJ0, "isLatin1", "()Z"⟩
abbrev cJ0_checkIndex_df160 : ByteArray := prog_23_method_155_code
def yJ0_checkIndex_df160 : MethodName := ⟨RJ0, "checkIndex", "(II)V"⟩
abbrev cJ0_checkBoundsBeginEnd_23922 : ByteArray := prog_23_method_158_code
def yJ0_checkBoundsBeginEnd_23922 : MethodName := ⟨RJ0, "checkBoundsBeginEnd", "(III)V"⟩
def RJ1 : String := "java/lang/StringLatin1"
def TJ1 : u_T := fun k => match k with
  | _ => ("", "", "", false)
def tyJ1 : Nat → FieldType := fun k => match k with
  | _ => .int
abbrev wsJ10 : List Cond := u_ws RJ1 TJ1 0
theorem nmJ1 : ∀ a, a < 0 → ∀ b, b < 0 → a ≠ b → (TJ1 a).2.1 ≠ (TJ1 b).2.1 := by decide +kernel
theorem tyJ1_ok : ∀ k, k < 0 → parseFieldDescriptor (TJ1 k).2.2.1 = some (tyJ1 k) := by decide +kernel
abbrev cJ1_charAt_3b067 : ByteArray := prog_24_method_2_code
def yJ1_charAt_3b067 : MethodName := ⟨RJ1, "charAt", "([BI)C"⟩
abbrev cJ1_canEncode_9a6ad : ByteArray := prog_24_method_4_code
def yJ1_canEncode_9a6ad : MethodName := ⟨RJ1, "canEncode", "(I)Z"⟩
abbrev cJ1_indexOf_4cfef : ByteArray := prog_24_method_22_code
def yJ1_indexOf_4cfef : MethodName := ⟨RJ1, "indexOf", "([BIII)I"⟩
abbrev cJ1_indexOfChar_4cfef : ByteArray := prog_24_method_23_code
def yJ1_indexOfChar_4cfef : MethodName := ⟨RJ1, "indexOfChar", "([BIII)I"⟩
def RJ2 : String := "java/lang/StringUTF16"
def TJ2 : u_T := fun k => match k with
  | _ => ("", "", "", false)
def tyJ2 : Nat → FieldType := fun k => match k with
  | _ => .int
abbrev wsJ20 : List Cond := u_ws RJ2 TJ2 0
theorem nmJ2 : ∀ a, a < 0 → ∀ b, b < 0 → a ≠ b → (TJ2 a).2.1 ≠ (TJ2 b).2.1 := by decide +kernel
theorem tyJ2_ok : ∀ k, k < 0 → parseFieldDescriptor (TJ2 k).2.2.1 = some (tyJ2 k) := by decide +kernel
abbrev cJ2_getChar_3b067 : ByteArray := prog_25_method_5_code
def yJ2_getChar_3b067 : MethodName := ⟨RJ2, "getChar", "([BI)C"⟩
abbrev cJ2_length_9d52b : ByteArray := prog_25_method_6_code
def yJ2_length_9d52b : MethodName := ⟨RJ2, "length", "([B)I"⟩
abbrev cJ2_indexOf_4cfef : ByteArray := prog_25_method_40_code
def yJ2_indexOf_4cfef : MethodName := ⟨RJ2, "indexOf", "([BIII)I"⟩
abbrev cJ2_indexOfChar_4cfef : ByteArray := prog_25_method_47_code
def yJ2_indexOfChar_4cfef : MethodName := ⟨RJ2, "indexOfChar", "([BIII)I"⟩
abbrev cJ2_indexOfCharUnsafe_4cfef : ByteArray := prog_25_method_48_code
def yJ2_indexOfCharUnsafe_4cfef : MethodName := ⟨RJ2, "indexOfCharUnsafe", "([BIII)I"⟩
abbrev cJ2_indexOfSupplementary_4cfef : ByteArray := prog_25_method_49_code
def yJ2_indexOfSupplementary_4cfef : MethodName := ⟨RJ2, "indexOfSupplementary", "([BIII)I"⟩
abbrev cJ2_charAt_3b067 : ByteArray := prog_25_method_83_code
def yJ2_charAt_3b067 : MethodName := ⟨RJ2, "charAt", "([BI)C"⟩
abbrev cJ2_checkIndex_2214a : ByteArray := prog_25_method_91_code
def yJ2_checkIndex_2214a : MethodName := ⟨RJ2, "checkIndex", "(I[B)V"⟩
abbrev cJ2_checkBoundsBeginEnd_d044e : ByteArray := prog_25_method_93_code
def yJ2_checkBoundsBeginEnd_d044e : MethodName := ⟨RJ2, "checkBoundsBeginEnd", "(II[B)V"⟩
def RJ10 : String := "java/lang/System"
def TJ10 : u_T := fun k => match k with
  | _ => ("", "", "", false)
def tyJ10 : Nat → FieldType := fun k => match k with
  | _ => .int
abbrev wsJ100 : List Cond := u_ws RJ10 TJ10 0
theorem nmJ10 : ∀ a, a < 0 → ∀ b, b < 0 → a ≠ b → (TJ10 a).2.1 ≠ (TJ10 b).2.1 := by decide +kernel
theorem tyJ10_ok : ∀ k, k < 0 → parseFieldDescriptor (TJ10 k).2.2.1 = some (tyJ10 k) := by decide +kernel
def RJxfd54e : String := "java/lang/constant/Constable"
def TJxfd54e : u_T := fun k => match k with
  | _ => ("", "", "", false)
def tyJxfd54e : Nat → FieldType := fun k => match k with
  | _ => .int
theorem nmJxfd54e : ∀ a, a < 0 → ∀ b, b < 0 → a ≠ b → (TJxfd54e a).2.1 ≠ (TJxfd54e b).2.1 := by decide +kernel
theorem tyJxfd54e_ok : ∀ k, k < 0 → parseFieldDescriptor (TJxfd54e k).2.2.1 = some (tyJxfd54e k) := by decide +kernel
def RJx3cf43 : String := "java/lang/constant/ConstantDesc"
def TJx3cf43 : u_T := fun k => match k with
  | _ => ("", "", "", false)
def tyJx3cf43 : Nat → FieldType := fun k => match k with
  | _ => .int
theorem nmJx3cf43 : ∀ a, a < 0 → ∀ b, b < 0 → a ≠ b → (TJx3cf43 a).2.1 ≠ (TJx3cf43 b).2.1 := by decide +kernel
theorem tyJx3cf43_ok : ∀ k, k < 0 → parseFieldDescriptor (TJx3cf43 k).2.2.1 = some (tyJx3cf43 k) := by decide +kernel
def RJ3 : String := "jdk/internal/util/Preconditions"
def TJ3 : u_T := fun k => match k with
  | _ => ("", "", "", false)
def tyJ3 : Nat → FieldType := fun k => match k with
  | _ => .int
abbrev wsJ30 : List Cond := u_ws RJ3 TJ3 0
theorem nmJ3 : ∀ a, a < 0 → ∀ b, b < 0 → a ≠ b → (TJ3 a).2.1 ≠ (TJ3 b).2.1 := by decide +kernel
theorem tyJ3_ok : ∀ k, k < 0 → parseFieldDescriptor (TJ3 k).2.2.1 = some (tyJ3 k) := by decide +kernel
abbrev cJ3_checkIndex_8e157 : ByteArray := prog_31_method_11_code
def yJ3_checkIndex_8e157 : MethodName := ⟨RJ3, "checkIndex", "(IILjava/util/function/BiFunction;)I"⟩
abbrev cJ3_checkFromToIndex_8c36e : ByteArray := prog_31_method_12_code
def yJ3_checkFromToIndex_8c36e : MethodName := ⟨RJ3, "checkFromToIndex", "(IIILjava/util/function/BiFunction;)I"⟩
def RL : String := "GlassStreetLaw"
abbrev cL_rests : ByteArray := method_3_code
def yL_rests : MethodName := ⟨RL, "rests", "(LGlassStreet;IIII[J)I"⟩
abbrev cL_law : ByteArray := code
def yL_law : MethodName := ⟨RL, "law", "([I)Z"⟩
abbrev vwCl : List vw_C := [(RX0, TX0, 6), (RX2, TX2, 3), (RX4, TX4, 3), (RX5, TX5, 3), (RX7, TX7, 14), (RX9, TX9, 9), (RX10, TX10, 8), (RX11, TX11, 11), (RX12, TX12, 31)]
