-- ===== PART A: goes FIRST, ahead of the names: the tables' words, and 'selects' of the private methods out of them =====
/-- a private method of a class that the tables say can be made, by its rows of tables_1 -/
def lw_okq (q : MethodName × Nat) : Prop := (q.1.cls ≠ "java/lang/invoke/MethodHandle" ∧ q.1.cls ≠ "java/lang/invoke/VarHandle") ∧ Cond.instantiable q.1.cls q.2 ∈ tables_1 ∧ Cond.privateMethod q.1 ∈ tables_1 ∧ Cond.instanceMethod q.1 ∈ tables_1
theorem lw_p0 : lw_okq (⟨"SideBySide", "refusalOf", "(IZ)I"⟩, 9) := ⟨⟨by decide +kernel, by decide +kernel⟩, List.mem_of_getElem? (i := 24) (by decide +kernel), List.mem_of_getElem? (i := 226) (by decide +kernel), List.mem_of_getElem? (i := 227) (by decide +kernel)⟩
theorem lw_p1 : lw_okq (⟨"SideBySide", "firstOpening", "()I"⟩, 9) := ⟨⟨by decide +kernel, by decide +kernel⟩, List.mem_of_getElem? (i := 24) (by decide +kernel), List.mem_of_getElem? (i := 587) (by decide +kernel), List.mem_of_getElem? (i := 588) (by decide +kernel)⟩
theorem lw_p2 : lw_okq (⟨"SideBySide", "bestTrait", "(III)I"⟩, 9) := ⟨⟨by decide +kernel, by decide +kernel⟩, List.mem_of_getElem? (i := 24) (by decide +kernel), List.mem_of_getElem? (i := 595) (by decide +kernel), List.mem_of_getElem? (i := 596) (by decide +kernel)⟩
theorem lw_p3 : lw_okq (⟨"SideBySide", "cellsHeld", "(III)I"⟩, 9) := ⟨⟨by decide +kernel, by decide +kernel⟩, List.mem_of_getElem? (i := 24) (by decide +kernel), List.mem_of_getElem? (i := 600) (by decide +kernel), List.mem_of_getElem? (i := 601) (by decide +kernel)⟩
theorem lw_p4 : lw_okq (⟨"SideBySide", "isBroken", "(I)Z"⟩, 9) := ⟨⟨by decide +kernel, by decide +kernel⟩, List.mem_of_getElem? (i := 24) (by decide +kernel), List.mem_of_getElem? (i := 608) (by decide +kernel), List.mem_of_getElem? (i := 609) (by decide +kernel)⟩
theorem lw_p5 : lw_okq (⟨"SideBySide", "refusalOfRally", "(I)I"⟩, 9) := ⟨⟨by decide +kernel, by decide +kernel⟩, List.mem_of_getElem? (i := 24) (by decide +kernel), List.mem_of_getElem? (i := 624) (by decide +kernel), List.mem_of_getElem? (i := 625) (by decide +kernel)⟩
theorem lw_p6 : lw_okq (⟨"SideBySide", "refusalOfHits", "(I)I"⟩, 9) := ⟨⟨by decide +kernel, by decide +kernel⟩, List.mem_of_getElem? (i := 24) (by decide +kernel), List.mem_of_getElem? (i := 628) (by decide +kernel), List.mem_of_getElem? (i := 629) (by decide +kernel)⟩
theorem lw_p7 : lw_okq (⟨"SideBySide", "playRally", "(LSideBySide$Shelf;)I"⟩, 9) := ⟨⟨by decide +kernel, by decide +kernel⟩, List.mem_of_getElem? (i := 24) (by decide +kernel), List.mem_of_getElem? (i := 632) (by decide +kernel), List.mem_of_getElem? (i := 633) (by decide +kernel)⟩
theorem lw_p8 : lw_okq (⟨"SideBySide", "addWaysGone", "()V"⟩, 9) := ⟨⟨by decide +kernel, by decide +kernel⟩, List.mem_of_getElem? (i := 24) (by decide +kernel), List.mem_of_getElem? (i := 637) (by decide +kernel), List.mem_of_getElem? (i := 638) (by decide +kernel)⟩
theorem lw_p9 : lw_okq (⟨"SideBySide", "sideWithMorePoints", "()I"⟩, 9) := ⟨⟨by decide +kernel, by decide +kernel⟩, List.mem_of_getElem? (i := 24) (by decide +kernel), List.mem_of_getElem? (i := 642) (by decide +kernel), List.mem_of_getElem? (i := 643) (by decide +kernel)⟩
theorem lw_p10 : lw_okq (⟨"SideBySide", "refusalOfCells", "(I)I"⟩, 9) := ⟨⟨by decide +kernel, by decide +kernel⟩, List.mem_of_getElem? (i := 24) (by decide +kernel), List.mem_of_getElem? (i := 658) (by decide +kernel), List.mem_of_getElem? (i := 659) (by decide +kernel)⟩
theorem lw_p11 : lw_okq (⟨"SideBySide", "kindsThatFell", "(LSideBySide$Shelf;)I"⟩, 9) := ⟨⟨by decide +kernel, by decide +kernel⟩, List.mem_of_getElem? (i := 24) (by decide +kernel), List.mem_of_getElem? (i := 662) (by decide +kernel), List.mem_of_getElem? (i := 663) (by decide +kernel)⟩
theorem lw_p12 : lw_okq (⟨"SideBySide", "outlay", "(III)I"⟩, 9) := ⟨⟨by decide +kernel, by decide +kernel⟩, List.mem_of_getElem? (i := 24) (by decide +kernel), List.mem_of_getElem? (i := 694) (by decide +kernel), List.mem_of_getElem? (i := 695) (by decide +kernel)⟩
theorem lw_p13 : lw_okq (⟨"SideBySide", "staysInPlay", "(II)Z"⟩, 9) := ⟨⟨by decide +kernel, by decide +kernel⟩, List.mem_of_getElem? (i := 24) (by decide +kernel), List.mem_of_getElem? (i := 706) (by decide +kernel), List.mem_of_getElem? (i := 707) (by decide +kernel)⟩
theorem lw_p14 : lw_okq (⟨"SideBySide", "draw", "(I)I"⟩, 9) := ⟨⟨by decide +kernel, by decide +kernel⟩, List.mem_of_getElem? (i := 24) (by decide +kernel), List.mem_of_getElem? (i := 749) (by decide +kernel), List.mem_of_getElem? (i := 750) (by decide +kernel)⟩
theorem lw_p15 : lw_okq (⟨"java/lang/Throwable", "fillInStackTrace", "(I)Ljava/lang/Throwable;"⟩, 6) := ⟨⟨by decide +kernel, by decide +kernel⟩, List.mem_of_getElem? (i := 895) (by decide +kernel), List.mem_of_getElem? (i := 893) (by decide +kernel), List.mem_of_getElem? (i := 894) (by decide +kernel)⟩
def lw_privs_1 : List (MethodName × Nat) := [(⟨"SideBySide", "refusalOf", "(IZ)I"⟩, 9), (⟨"SideBySide", "firstOpening", "()I"⟩, 9), (⟨"SideBySide", "bestTrait", "(III)I"⟩, 9), (⟨"SideBySide", "cellsHeld", "(III)I"⟩, 9), (⟨"SideBySide", "isBroken", "(I)Z"⟩, 9), (⟨"SideBySide", "refusalOfRally", "(I)I"⟩, 9), (⟨"SideBySide", "refusalOfHits", "(I)I"⟩, 9), (⟨"SideBySide", "playRally", "(LSideBySide$Shelf;)I"⟩, 9), (⟨"SideBySide", "addWaysGone", "()V"⟩, 9), (⟨"SideBySide", "sideWithMorePoints", "()I"⟩, 9), (⟨"SideBySide", "refusalOfCells", "(I)I"⟩, 9), (⟨"SideBySide", "kindsThatFell", "(LSideBySide$Shelf;)I"⟩, 9), (⟨"SideBySide", "outlay", "(III)I"⟩, 9), (⟨"SideBySide", "staysInPlay", "(II)Z"⟩, 9), (⟨"SideBySide", "draw", "(I)I"⟩, 9), (⟨"java/lang/Throwable", "fillInStackTrace", "(I)Ljava/lang/Throwable;"⟩, 6)]
theorem lw_r1 : ∀ q ∈ lw_privs_1, lw_okq q := List.forall_mem_cons.mpr ⟨lw_p0, List.forall_mem_cons.mpr ⟨lw_p1, List.forall_mem_cons.mpr ⟨lw_p2, List.forall_mem_cons.mpr ⟨lw_p3, List.forall_mem_cons.mpr ⟨lw_p4, List.forall_mem_cons.mpr ⟨lw_p5, List.forall_mem_cons.mpr ⟨lw_p6, List.forall_mem_cons.mpr ⟨lw_p7, List.forall_mem_cons.mpr ⟨lw_p8, List.forall_mem_cons.mpr ⟨lw_p9, List.forall_mem_cons.mpr ⟨lw_p10, List.forall_mem_cons.mpr ⟨lw_p11, List.forall_mem_cons.mpr ⟨lw_p12, List.forall_mem_cons.mpr ⟨lw_p13, List.forall_mem_cons.mpr ⟨lw_p14, List.forall_mem_cons.mpr ⟨lw_p15, fun _ h => absurd h List.not_mem_nil⟩⟩⟩⟩⟩⟩⟩⟩⟩⟩⟩⟩⟩⟩⟩⟩
theorem lw_p16 : lw_okq (⟨"SideBySideModel", "wrongRow", "(II)I"⟩, 20) := ⟨⟨by decide +kernel, by decide +kernel⟩, List.mem_of_getElem? (i := 980) (by decide +kernel), List.mem_of_getElem? (i := 1057) (by decide +kernel), List.mem_of_getElem? (i := 1058) (by decide +kernel)⟩
theorem lw_p17 : lw_okq (⟨"SideBySideModel", "readsStatement", "()Z"⟩, 20) := ⟨⟨by decide +kernel, by decide +kernel⟩, List.mem_of_getElem? (i := 980) (by decide +kernel), List.mem_of_getElem? (i := 1067) (by decide +kernel), List.mem_of_getElem? (i := 1068) (by decide +kernel)⟩
theorem lw_p18 : lw_okq (⟨"SideBySideModel", "here", "()I"⟩, 20) := ⟨⟨by decide +kernel, by decide +kernel⟩, List.mem_of_getElem? (i := 980) (by decide +kernel), List.mem_of_getElem? (i := 1071) (by decide +kernel), List.mem_of_getElem? (i := 1072) (by decide +kernel)⟩
theorem lw_p19 : lw_okq (⟨"SideBySideModel", "readsNumber", "(II)Z"⟩, 20) := ⟨⟨by decide +kernel, by decide +kernel⟩, List.mem_of_getElem? (i := 980) (by decide +kernel), List.mem_of_getElem? (i := 1075) (by decide +kernel), List.mem_of_getElem? (i := 1076) (by decide +kernel)⟩
theorem lw_p20 : lw_okq (⟨"SideBySideModel", "isDone", "(I)Z"⟩, 20) := ⟨⟨by decide +kernel, by decide +kernel⟩, List.mem_of_getElem? (i := 980) (by decide +kernel), List.mem_of_getElem? (i := 1082) (by decide +kernel), List.mem_of_getElem? (i := 1083) (by decide +kernel)⟩
theorem lw_p21 : lw_okq (⟨"SideBySideModel", "adds", "(II)V"⟩, 20) := ⟨⟨by decide +kernel, by decide +kernel⟩, List.mem_of_getElem? (i := 980) (by decide +kernel), List.mem_of_getElem? (i := 1086) (by decide +kernel), List.mem_of_getElem? (i := 1087) (by decide +kernel)⟩
theorem lw_p22 : lw_okq (⟨"SideBySideModel", "isStroke", "(I)Z"⟩, 20) := ⟨⟨by decide +kernel, by decide +kernel⟩, List.mem_of_getElem? (i := 980) (by decide +kernel), List.mem_of_getElem? (i := 1099) (by decide +kernel), List.mem_of_getElem? (i := 1100) (by decide +kernel)⟩
theorem lw_p23 : lw_okq (⟨"SideBySideModel", "isOver", "()Z"⟩, 20) := ⟨⟨by decide +kernel, by decide +kernel⟩, List.mem_of_getElem? (i := 980) (by decide +kernel), List.mem_of_getElem? (i := 1103) (by decide +kernel), List.mem_of_getElem? (i := 1104) (by decide +kernel)⟩
theorem lw_p24 : lw_okq (⟨"SideBySideModel", "hits", "([III)Z"⟩, 20) := ⟨⟨by decide +kernel, by decide +kernel⟩, List.mem_of_getElem? (i := 980) (by decide +kernel), List.mem_of_getElem? (i := 1107) (by decide +kernel), List.mem_of_getElem? (i := 1108) (by decide +kernel)⟩
theorem lw_p25 : lw_okq (⟨"SideBySideModel", "moves", "([III)V"⟩, 20) := ⟨⟨by decide +kernel, by decide +kernel⟩, List.mem_of_getElem? (i := 980) (by decide +kernel), List.mem_of_getElem? (i := 1147) (by decide +kernel), List.mem_of_getElem? (i := 1148) (by decide +kernel)⟩
theorem lw_p26 : lw_okq (⟨"SideBySideModel", "outOfPlace", "(I)I"⟩, 20) := ⟨⟨by decide +kernel, by decide +kernel⟩, List.mem_of_getElem? (i := 980) (by decide +kernel), List.mem_of_getElem? (i := 1172) (by decide +kernel), List.mem_of_getElem? (i := 1173) (by decide +kernel)⟩
theorem lw_p27 : lw_okq (⟨"SideBySideModel", "wrongKept", "(I)I"⟩, 20) := ⟨⟨by decide +kernel, by decide +kernel⟩, List.mem_of_getElem? (i := 980) (by decide +kernel), List.mem_of_getElem? (i := 1180) (by decide +kernel), List.mem_of_getElem? (i := 1181) (by decide +kernel)⟩
theorem lw_p28 : lw_okq (⟨"SideBySideModel", "isHit", "(II)Z"⟩, 20) := ⟨⟨by decide +kernel, by decide +kernel⟩, List.mem_of_getElem? (i := 980) (by decide +kernel), List.mem_of_getElem? (i := 1212) (by decide +kernel), List.mem_of_getElem? (i := 1213) (by decide +kernel)⟩
theorem lw_p29 : lw_okq (⟨"SideBySideModel", "whoseNow", "(II)I"⟩, 20) := ⟨⟨by decide +kernel, by decide +kernel⟩, List.mem_of_getElem? (i := 980) (by decide +kernel), List.mem_of_getElem? (i := 1216) (by decide +kernel), List.mem_of_getElem? (i := 1217) (by decide +kernel)⟩
theorem lw_p30 : lw_okq (⟨"SideBySideModel", "otherSide", "()I"⟩, 20) := ⟨⟨by decide +kernel, by decide +kernel⟩, List.mem_of_getElem? (i := 980) (by decide +kernel), List.mem_of_getElem? (i := 1220) (by decide +kernel), List.mem_of_getElem? (i := 1221) (by decide +kernel)⟩
theorem lw_p31 : lw_okq (⟨"SideBySideModel", "isWon", "(II)Z"⟩, 20) := ⟨⟨by decide +kernel, by decide +kernel⟩, List.mem_of_getElem? (i := 980) (by decide +kernel), List.mem_of_getElem? (i := 1228) (by decide +kernel), List.mem_of_getElem? (i := 1229) (by decide +kernel)⟩
def lw_privs_2 : List (MethodName × Nat) := [(⟨"SideBySideModel", "wrongRow", "(II)I"⟩, 20), (⟨"SideBySideModel", "readsStatement", "()Z"⟩, 20), (⟨"SideBySideModel", "here", "()I"⟩, 20), (⟨"SideBySideModel", "readsNumber", "(II)Z"⟩, 20), (⟨"SideBySideModel", "isDone", "(I)Z"⟩, 20), (⟨"SideBySideModel", "adds", "(II)V"⟩, 20), (⟨"SideBySideModel", "isStroke", "(I)Z"⟩, 20), (⟨"SideBySideModel", "isOver", "()Z"⟩, 20), (⟨"SideBySideModel", "hits", "([III)Z"⟩, 20), (⟨"SideBySideModel", "moves", "([III)V"⟩, 20), (⟨"SideBySideModel", "outOfPlace", "(I)I"⟩, 20), (⟨"SideBySideModel", "wrongKept", "(I)I"⟩, 20), (⟨"SideBySideModel", "isHit", "(II)Z"⟩, 20), (⟨"SideBySideModel", "whoseNow", "(II)I"⟩, 20), (⟨"SideBySideModel", "otherSide", "()I"⟩, 20), (⟨"SideBySideModel", "isWon", "(II)Z"⟩, 20)]
theorem lw_r2 : ∀ q ∈ lw_privs_2, lw_okq q := List.forall_mem_cons.mpr ⟨lw_p16, List.forall_mem_cons.mpr ⟨lw_p17, List.forall_mem_cons.mpr ⟨lw_p18, List.forall_mem_cons.mpr ⟨lw_p19, List.forall_mem_cons.mpr ⟨lw_p20, List.forall_mem_cons.mpr ⟨lw_p21, List.forall_mem_cons.mpr ⟨lw_p22, List.forall_mem_cons.mpr ⟨lw_p23, List.forall_mem_cons.mpr ⟨lw_p24, List.forall_mem_cons.mpr ⟨lw_p25, List.forall_mem_cons.mpr ⟨lw_p26, List.forall_mem_cons.mpr ⟨lw_p27, List.forall_mem_cons.mpr ⟨lw_p28, List.forall_mem_cons.mpr ⟨lw_p29, List.forall_mem_cons.mpr ⟨lw_p30, List.forall_mem_cons.mpr ⟨lw_p31, fun _ h => absurd h List.not_mem_nil⟩⟩⟩⟩⟩⟩⟩⟩⟩⟩⟩⟩⟩⟩⟩⟩
theorem lw_p32 : lw_okq (⟨"SideBySideModel", "openTo", "(I)I"⟩, 20) := ⟨⟨by decide +kernel, by decide +kernel⟩, List.mem_of_getElem? (i := 980) (by decide +kernel), List.mem_of_getElem? (i := 1240) (by decide +kernel), List.mem_of_getElem? (i := 1241) (by decide +kernel)⟩
theorem lw_p33 : lw_okq (⟨"SideBySideModel", "leads", "(II)I"⟩, 20) := ⟨⟨by decide +kernel, by decide +kernel⟩, List.mem_of_getElem? (i := 980) (by decide +kernel), List.mem_of_getElem? (i := 1252) (by decide +kernel), List.mem_of_getElem? (i := 1253) (by decide +kernel)⟩
theorem lw_p34 : lw_okq (⟨"SideBySideModel", "isWonInThree", "(II)Z"⟩, 20) := ⟨⟨by decide +kernel, by decide +kernel⟩, List.mem_of_getElem? (i := 980) (by decide +kernel), List.mem_of_getElem? (i := 1265) (by decide +kernel), List.mem_of_getElem? (i := 1266) (by decide +kernel)⟩
theorem lw_p35 : lw_okq (⟨"SideBySideModel", "bestOf", "(IIII)I"⟩, 20) := ⟨⟨by decide +kernel, by decide +kernel⟩, List.mem_of_getElem? (i := 980) (by decide +kernel), List.mem_of_getElem? (i := 1273) (by decide +kernel), List.mem_of_getElem? (i := 1274) (by decide +kernel)⟩
theorem lw_p36 : lw_okq (⟨"SideBySideModel", "isHeld", "(IIII)Z"⟩, 20) := ⟨⟨by decide +kernel, by decide +kernel⟩, List.mem_of_getElem? (i := 980) (by decide +kernel), List.mem_of_getElem? (i := 1277) (by decide +kernel), List.mem_of_getElem? (i := 1278) (by decide +kernel)⟩
theorem lw_p37 : lw_okq (⟨"SideBySideModel", "wrongRally", "(I)I"⟩, 20) := ⟨⟨by decide +kernel, by decide +kernel⟩, List.mem_of_getElem? (i := 980) (by decide +kernel), List.mem_of_getElem? (i := 1293) (by decide +kernel), List.mem_of_getElem? (i := 1294) (by decide +kernel)⟩
theorem lw_p38 : lw_okq (⟨"SideBySideModel", "rallies", "(I)V"⟩, 20) := ⟨⟨by decide +kernel, by decide +kernel⟩, List.mem_of_getElem? (i := 980) (by decide +kernel), List.mem_of_getElem? (i := 1297) (by decide +kernel), List.mem_of_getElem? (i := 1298) (by decide +kernel)⟩
theorem lw_p39 : lw_okq (⟨"SideBySideModel", "isSkipped", "(II)Z"⟩, 20) := ⟨⟨by decide +kernel, by decide +kernel⟩, List.mem_of_getElem? (i := 980) (by decide +kernel), List.mem_of_getElem? (i := 1313) (by decide +kernel), List.mem_of_getElem? (i := 1314) (by decide +kernel)⟩
theorem lw_p40 : lw_okq (⟨"SideBySideModel", "costBy2", "(III)I"⟩, 20) := ⟨⟨by decide +kernel, by decide +kernel⟩, List.mem_of_getElem? (i := 980) (by decide +kernel), List.mem_of_getElem? (i := 1329) (by decide +kernel), List.mem_of_getElem? (i := 1330) (by decide +kernel)⟩
theorem lw_p41 : lw_okq (⟨"SideBySideModel", "isPointless", "(II)Z"⟩, 20) := ⟨⟨by decide +kernel, by decide +kernel⟩, List.mem_of_getElem? (i := 980) (by decide +kernel), List.mem_of_getElem? (i := 1341) (by decide +kernel), List.mem_of_getElem? (i := 1342) (by decide +kernel)⟩
theorem lw_p42 : lw_okq (⟨"SideBySideModel", "allTired", "()I"⟩, 20) := ⟨⟨by decide +kernel, by decide +kernel⟩, List.mem_of_getElem? (i := 980) (by decide +kernel), List.mem_of_getElem? (i := 1355) (by decide +kernel), List.mem_of_getElem? (i := 1356) (by decide +kernel)⟩
theorem lw_p43 : lw_okq (⟨"SideBySideModel", "drawn", "(I)I"⟩, 20) := ⟨⟨by decide +kernel, by decide +kernel⟩, List.mem_of_getElem? (i := 980) (by decide +kernel), List.mem_of_getElem? (i := 1372) (by decide +kernel), List.mem_of_getElem? (i := 1373) (by decide +kernel)⟩
def lw_privs_3 : List (MethodName × Nat) := [(⟨"SideBySideModel", "openTo", "(I)I"⟩, 20), (⟨"SideBySideModel", "leads", "(II)I"⟩, 20), (⟨"SideBySideModel", "isWonInThree", "(II)Z"⟩, 20), (⟨"SideBySideModel", "bestOf", "(IIII)I"⟩, 20), (⟨"SideBySideModel", "isHeld", "(IIII)Z"⟩, 20), (⟨"SideBySideModel", "wrongRally", "(I)I"⟩, 20), (⟨"SideBySideModel", "rallies", "(I)V"⟩, 20), (⟨"SideBySideModel", "isSkipped", "(II)Z"⟩, 20), (⟨"SideBySideModel", "costBy2", "(III)I"⟩, 20), (⟨"SideBySideModel", "isPointless", "(II)Z"⟩, 20), (⟨"SideBySideModel", "allTired", "()I"⟩, 20), (⟨"SideBySideModel", "drawn", "(I)I"⟩, 20)]
theorem lw_r3 : ∀ q ∈ lw_privs_3, lw_okq q := List.forall_mem_cons.mpr ⟨lw_p32, List.forall_mem_cons.mpr ⟨lw_p33, List.forall_mem_cons.mpr ⟨lw_p34, List.forall_mem_cons.mpr ⟨lw_p35, List.forall_mem_cons.mpr ⟨lw_p36, List.forall_mem_cons.mpr ⟨lw_p37, List.forall_mem_cons.mpr ⟨lw_p38, List.forall_mem_cons.mpr ⟨lw_p39, List.forall_mem_cons.mpr ⟨lw_p40, List.forall_mem_cons.mpr ⟨lw_p41, List.forall_mem_cons.mpr ⟨lw_p42, List.forall_mem_cons.mpr ⟨lw_p43, fun _ h => absurd h List.not_mem_nil⟩⟩⟩⟩⟩⟩⟩⟩⟩⟩⟩⟩
def lw_privs : List (MethodName × Nat) := lw_privs_1 ++ (lw_privs_2 ++ (lw_privs_3))
def lw_tbl : List Cond := k2_sels lw_privs ++ tables_1
theorem lw_privs_ok : ∀ q ∈ lw_privs, lw_okq q := by
  show ∀ q ∈ lw_privs_1 ++ (lw_privs_2 ++ (lw_privs_3)), lw_okq q
  exact List.forall_mem_append.mpr ⟨lw_r1, List.forall_mem_append.mpr ⟨lw_r2, lw_r3⟩⟩
/-! names -/
def RX0 : String := "SideBySide$Between"
def TX0 : u_T := fun k => match k with
  | _ => ("SideBySide$Stroke", "figure", "I", true)
def tyX0 : Nat → FieldType := fun k => match k with
  | _ => .int
abbrev wsX00 : List Cond := u_ws RX0 TX0 1
theorem nmX0 : ∀ a, a < 1 → ∀ b, b < 1 → a ≠ b → (TX0 a).2.1 ≠ (TX0 b).2.1 := by decide +kernel
theorem tyX0_ok : ∀ k, k < 1 → parseFieldDescriptor (TX0 k).2.2.1 = some (tyX0 k) := by decide +kernel
abbrev cX0_init : ByteArray := prog_2_method_1_code
def yX0_init : MethodName := ⟨RX0, "<init>", "(I)V"⟩
abbrev cX0_kind : ByteArray := prog_2_method_2_code
def yX0_kind : MethodName := ⟨RX0, "kind", "()I"⟩
abbrev cX0_landing : ByteArray := prog_2_method_3_code
def yX0_landing : MethodName := ⟨RX0, "landing", "(II)I"⟩
abbrev cX0_price : ByteArray := prog_2_method_4_code
def yX0_price : MethodName := ⟨RX0, "price", "()I"⟩
def RX1 : String := "SideBySide$Court"
def TX1 : u_T := fun k => match k with
  | 0 => ("SideBySide$Court", "at", "[I", true)
  | 1 => ("SideBySide$Court", "pace", "[I", true)
  | 2 => ("SideBySide$Court", "tired", "[I", true)
  | 3 => ("SideBySide$Court", "left", "[I", true)
  | 4 => ("SideBySide$Court", "form", "[I", true)
  | 5 => ("SideBySide$Court", "habit", "[I", true)
  | 6 => ("SideBySide$Court", "points", "[I", true)
  | 7 => ("SideBySide$Court", "strokes", "[LSideBySide$Stroke;", true)
  | 8 => ("SideBySide$Court", "known", "I", false)
  | 9 => ("SideBySide$Court", "has", "I", false)
  | 10 => ("SideBySide$Court", "draught", "I", false)
  | _ => ("SideBySide$Court", "hits", "I", false)
def tyX1 : Nat → FieldType := fun k => match k with
  | 0 => .array .int
  | 1 => .array .int
  | 2 => .array .int
  | 3 => .array .int
  | 4 => .array .int
  | 5 => .array .int
  | 6 => .array .int
  | 7 => .array (.object "SideBySide$Stroke")
  | 8 => .int
  | 9 => .int
  | 10 => .int
  | _ => .int
abbrev wsX10 : List Cond := u_ws RX1 TX1 12
theorem nmX1 : ∀ a, a < 12 → ∀ b, b < 12 → a ≠ b → (TX1 a).2.1 ≠ (TX1 b).2.1 := by decide +kernel
theorem tyX1_ok : ∀ k, k < 12 → parseFieldDescriptor (TX1 k).2.2.1 = some (tyX1 k) := by decide +kernel
abbrev cX1_init : ByteArray := prog_3_method_1_code
def yX1_init : MethodName := ⟨RX1, "<init>", "()V"⟩
abbrev cX1_become : ByteArray := prog_3_method_2_code
def yX1_become : MethodName := ⟨RX1, "become", "(LSideBySide$Court;)V"⟩
abbrev cX1_knows : ByteArray := prog_3_method_3_code
def yX1_knows : MethodName := ⟨RX1, "knows", "(I)Z"⟩
abbrev cX1_isHit : ByteArray := prog_3_method_4_code
def yX1_isHit : MethodName := ⟨RX1, "isHit", "(II)Z"⟩
abbrev cX1_hitRefusal : ByteArray := prog_3_method_5_code
def yX1_hitRefusal : MethodName := ⟨RX1, "hitRefusal", "(II)I"⟩
abbrev cX1_learn : ByteArray := prog_3_method_6_code
def yX1_learn : MethodName := ⟨RX1, "learn", "(LSideBySide$Stroke;)I"⟩
abbrev cX1_standAt : ByteArray := prog_3_method_7_code
def yX1_standAt : MethodName := ⟨RX1, "standAt", "(III)I"⟩
abbrev cX1_setTired : ByteArray := prog_3_method_8_code
def yX1_setTired : MethodName := ⟨RX1, "setTired", "(II)I"⟩
abbrev cX1_switchHand : ByteArray := prog_3_method_9_code
def yX1_switchHand : MethodName := ⟨RX1, "switchHand", "(I)I"⟩
abbrev cX1_choices : ByteArray := prog_3_method_10_code
def yX1_choices : MethodName := ⟨RX1, "choices", "(I)I"⟩
abbrev cX1_adopt : ByteArray := prog_3_method_11_code
def yX1_adopt : MethodName := ⟨RX1, "adopt", "(III)I"⟩
abbrev cX1_setDraught : ByteArray := prog_3_method_12_code
def yX1_setDraught : MethodName := ⟨RX1, "setDraught", "(I)I"⟩
abbrev cX1_giveTo : ByteArray := prog_3_method_13_code
def yX1_giveTo : MethodName := ⟨RX1, "giveTo", "(I)V"⟩
abbrev cX1_receivers : ByteArray := prog_3_method_14_code
def yX1_receivers : MethodName := ⟨RX1, "receivers", "()I"⟩
abbrev cX1_landing : ByteArray := prog_3_method_15_code
def yX1_landing : MethodName := ⟨RX1, "landing", "(II)I"⟩
abbrev cX1_stepsIn : ByteArray := prog_3_method_16_code
def yX1_stepsIn : MethodName := ⟨RX1, "stepsIn", "(III)I"⟩
abbrev cX1_claimTo : ByteArray := prog_3_method_17_code
def yX1_claimTo : MethodName := ⟨RX1, "claimTo", "(I)I"⟩
abbrev cX1_takerBy : ByteArray := prog_3_method_18_code
def yX1_takerBy : MethodName := ⟨RX1, "takerBy", "(I)I"⟩
abbrev cX1_takerOf : ByteArray := prog_3_method_19_code
def yX1_takerOf : MethodName := ⟨RX1, "takerOf", "(I)I"⟩
abbrev cX1_leftOneOf : ByteArray := prog_3_method_20_code
def yX1_leftOneOf : MethodName := ⟨RX1, "leftOneOf", "(II)I"⟩
abbrev cX1_wayLed : ByteArray := prog_3_method_21_code
def yX1_wayLed : MethodName := ⟨RX1, "wayLed", "(I)I"⟩
abbrev cX1_scores : ByteArray := prog_3_method_22_code
def yX1_scores : MethodName := ⟨RX1, "scores", "(II)Z"⟩
abbrev cX1_isMissed : ByteArray := prog_3_method_23_code
def yX1_isMissed : MethodName := ⟨RX1, "isMissed", "(III)Z"⟩
abbrev cX1_firstScoring : ByteArray := prog_3_method_24_code
def yX1_firstScoring : MethodName := ⟨RX1, "firstScoring", "()I"⟩
abbrev cX1_strike : ByteArray := prog_3_method_25_code
def yX1_strike : MethodName := ⟨RX1, "strike", "(II)Z"⟩
abbrev cX1_take : ByteArray := prog_3_method_26_code
def yX1_take : MethodName := ⟨RX1, "take", "(II)V"⟩
abbrev cX1_sendPartner : ByteArray := prog_3_method_27_code
def yX1_sendPartner : MethodName := ⟨RX1, "sendPartner", "(II)V"⟩
abbrev cX1_weary : ByteArray := prog_3_method_28_code
def yX1_weary : MethodName := ⟨RX1, "weary", "(II)V"⟩
abbrev cX1_partnerOf : ByteArray := prog_3_method_29_code
def yX1_partnerOf : MethodName := ⟨RX1, "partnerOf", "(I)I"⟩
abbrev cX1_placeBy : ByteArray := prog_3_method_30_code
def yX1_placeBy : MethodName := ⟨RX1, "placeBy", "(I)I"⟩
abbrev cX1_outOfPlace : ByteArray := prog_3_method_31_code
def yX1_outOfPlace : MethodName := ⟨RX1, "outOfPlace", "(I)I"⟩
abbrev cX1_nearer : ByteArray := prog_3_method_32_code
def yX1_nearer : MethodName := ⟨RX1, "nearer", "(III)I"⟩
abbrev cX1_allTired : ByteArray := prog_3_method_33_code
def yX1_allTired : MethodName := ⟨RX1, "allTired", "()I"⟩
abbrev cX1_leftOnes : ByteArray := prog_3_method_34_code
def yX1_leftOnes : MethodName := ⟨RX1, "leftOnes", "()I"⟩
def RX2 : String := "SideBySide$CourtText"
def TX2 : u_T := fun k => match k with
  | _ => ("", "", "", false)
def tyX2 : Nat → FieldType := fun k => match k with
  | _ => .int
abbrev wsX20 : List Cond := u_ws RX2 TX2 0
theorem nmX2 : ∀ a, a < 0 → ∀ b, b < 0 → a ≠ b → (TX2 a).2.1 ≠ (TX2 b).2.1 := by decide +kernel
theorem tyX2_ok : ∀ k, k < 0 → parseFieldDescriptor (TX2 k).2.2.1 = some (tyX2 k) := by decide +kernel
abbrev cX2_wrongByte : ByteArray := prog_4_method_2_code
def yX2_wrongByte : MethodName := ⟨RX2, "wrongByte", "(LSideBySide$Shelf;)I"⟩
abbrev cX2_wrongStatement : ByteArray := prog_4_method_3_code
def yX2_wrongStatement : MethodName := ⟨RX2, "wrongStatement", "(LSideBySide$Shelf;LSideBySide$Court;)I"⟩
abbrev cX2_statements : ByteArray := prog_4_method_4_code
def yX2_statements : MethodName := ⟨RX2, "statements", "(LSideBySide$Shelf;)I"⟩
abbrev cX2_digitsBehind : ByteArray := prog_4_method_5_code
def yX2_digitsBehind : MethodName := ⟨RX2, "digitsBehind", "(I)I"⟩
abbrev cX2_tell : ByteArray := prog_4_method_6_code
def yX2_tell : MethodName := ⟨RX2, "tell", "(LSideBySide$Shelf;ILSideBySide$Court;)I"⟩
def RX3 : String := "SideBySide$Drop"
def TX3 : u_T := fun k => match k with
  | _ => ("SideBySide$Stroke", "figure", "I", true)
def tyX3 : Nat → FieldType := fun k => match k with
  | _ => .int
abbrev wsX30 : List Cond := u_ws RX3 TX3 1
theorem nmX3 : ∀ a, a < 1 → ∀ b, b < 1 → a ≠ b → (TX3 a).2.1 ≠ (TX3 b).2.1 := by decide +kernel
theorem tyX3_ok : ∀ k, k < 1 → parseFieldDescriptor (TX3 k).2.2.1 = some (tyX3 k) := by decide +kernel
abbrev cX3_init : ByteArray := prog_5_method_1_code
def yX3_init : MethodName := ⟨RX3, "<init>", "(I)V"⟩
abbrev cX3_kind : ByteArray := prog_5_method_2_code
def yX3_kind : MethodName := ⟨RX3, "kind", "()I"⟩
abbrev cX3_timeTo : ByteArray := prog_5_method_3_code
def yX3_timeTo : MethodName := ⟨RX3, "timeTo", "(I)I"⟩
abbrev cX3_effort : ByteArray := prog_5_method_4_code
def yX3_effort : MethodName := ⟨RX3, "effort", "()I"⟩
abbrev cX3_price : ByteArray := prog_5_method_5_code
def yX3_price : MethodName := ⟨RX3, "price", "()I"⟩
abbrev cX3_fail : ByteArray := prog_5_method_6_code
def yX3_fail : MethodName := ⟨RX3, "fail", "()V"⟩
def RX4 : String := "SideBySide$Flick"
def TX4 : u_T := fun k => match k with
  | _ => ("SideBySide$Stroke", "figure", "I", true)
def tyX4 : Nat → FieldType := fun k => match k with
  | _ => .int
abbrev wsX40 : List Cond := u_ws RX4 TX4 1
theorem nmX4 : ∀ a, a < 1 → ∀ b, b < 1 → a ≠ b → (TX4 a).2.1 ≠ (TX4 b).2.1 := by decide +kernel
theorem tyX4_ok : ∀ k, k < 1 → parseFieldDescriptor (TX4 k).2.2.1 = some (tyX4 k) := by decide +kernel
abbrev cX4_init : ByteArray := prog_6_method_1_code
def yX4_init : MethodName := ⟨RX4, "<init>", "(I)V"⟩
abbrev cX4_kind : ByteArray := prog_6_method_2_code
def yX4_kind : MethodName := ⟨RX4, "kind", "()I"⟩
abbrev cX4_timeTo : ByteArray := prog_6_method_3_code
def yX4_timeTo : MethodName := ⟨RX4, "timeTo", "(I)I"⟩
abbrev cX4_effort : ByteArray := prog_6_method_4_code
def yX4_effort : MethodName := ⟨RX4, "effort", "()I"⟩
abbrev cX4_price : ByteArray := prog_6_method_5_code
def yX4_price : MethodName := ⟨RX4, "price", "()I"⟩
def RX5 : String := "SideBySide$Lift"
def TX5 : u_T := fun k => match k with
  | _ => ("SideBySide$Stroke", "figure", "I", true)
def tyX5 : Nat → FieldType := fun k => match k with
  | _ => .int
abbrev wsX50 : List Cond := u_ws RX5 TX5 1
theorem nmX5 : ∀ a, a < 1 → ∀ b, b < 1 → a ≠ b → (TX5 a).2.1 ≠ (TX5 b).2.1 := by decide +kernel
theorem tyX5_ok : ∀ k, k < 1 → parseFieldDescriptor (TX5 k).2.2.1 = some (tyX5 k) := by decide +kernel
abbrev cX5_init : ByteArray := prog_7_method_1_code
def yX5_init : MethodName := ⟨RX5, "<init>", "(I)V"⟩
abbrev cX5_kind : ByteArray := prog_7_method_2_code
def yX5_kind : MethodName := ⟨RX5, "kind", "()I"⟩
abbrev cX5_timeTo : ByteArray := prog_7_method_3_code
def yX5_timeTo : MethodName := ⟨RX5, "timeTo", "(I)I"⟩
abbrev cX5_effort : ByteArray := prog_7_method_4_code
def yX5_effort : MethodName := ⟨RX5, "effort", "()I"⟩
abbrev cX5_price : ByteArray := prog_7_method_5_code
def yX5_price : MethodName := ⟨RX5, "price", "()I"⟩
abbrev cX5_fail : ByteArray := prog_7_method_6_code
def yX5_fail : MethodName := ⟨RX5, "fail", "()V"⟩
def RX6 : String := "SideBySide$Push"
def TX6 : u_T := fun k => match k with
  | _ => ("SideBySide$Stroke", "figure", "I", true)
def tyX6 : Nat → FieldType := fun k => match k with
  | _ => .int
abbrev wsX60 : List Cond := u_ws RX6 TX6 1
theorem nmX6 : ∀ a, a < 1 → ∀ b, b < 1 → a ≠ b → (TX6 a).2.1 ≠ (TX6 b).2.1 := by decide +kernel
theorem tyX6_ok : ∀ k, k < 1 → parseFieldDescriptor (TX6 k).2.2.1 = some (tyX6 k) := by decide +kernel
abbrev cX6_init : ByteArray := prog_8_method_1_code
def yX6_init : MethodName := ⟨RX6, "<init>", "(I)V"⟩
abbrev cX6_kind : ByteArray := prog_8_method_2_code
def yX6_kind : MethodName := ⟨RX6, "kind", "()I"⟩
abbrev cX6_timeTo : ByteArray := prog_8_method_3_code
def yX6_timeTo : MethodName := ⟨RX6, "timeTo", "(I)I"⟩
abbrev cX6_price : ByteArray := prog_8_method_4_code
def yX6_price : MethodName := ⟨RX6, "price", "()I"⟩
abbrev cX6_fail : ByteArray := prog_8_method_5_code
def yX6_fail : MethodName := ⟨RX6, "fail", "()V"⟩
def RX7 : String := "SideBySide$Shelf"
def TX7 : u_T := fun k => match k with
  | 0 => ("SideBySide$Shelf", "elements", "[I", true)
  | 1 => ("SideBySide$Shelf", "held", "LSideBySide$Stroke;", false)
  | 2 => ("SideBySide$Shelf", "sort", "I", false)
  | _ => ("SideBySide$Shelf", "size", "I", false)
def tyX7 : Nat → FieldType := fun k => match k with
  | 0 => .array .int
  | 1 => .object "SideBySide$Stroke"
  | 2 => .int
  | _ => .int
abbrev wsX70 : List Cond := u_ws RX7 TX7 4
theorem nmX7 : ∀ a, a < 4 → ∀ b, b < 4 → a ≠ b → (TX7 a).2.1 ≠ (TX7 b).2.1 := by decide +kernel
theorem tyX7_ok : ∀ k, k < 4 → parseFieldDescriptor (TX7 k).2.2.1 = some (tyX7 k) := by decide +kernel
abbrev cX7_init : ByteArray := prog_9_method_1_code
def yX7_init : MethodName := ⟨RX7, "<init>", "()V"⟩
abbrev cX7_isRow : ByteArray := prog_9_method_2_code
def yX7_isRow : MethodName := ⟨RX7, "isRow", "()Z"⟩
abbrev cX7_isBare : ByteArray := prog_9_method_3_code
def yX7_isBare : MethodName := ⟨RX7, "isBare", "()Z"⟩
abbrev cX7_clear : ByteArray := prog_9_method_4_code
def yX7_clear : MethodName := ⟨RX7, "clear", "()V"⟩
abbrev cX7_hold : ByteArray := prog_9_method_5_code
def yX7_hold : MethodName := ⟨RX7, "hold", "(LSideBySide$Stroke;)V"⟩
abbrev cX7_lay : ByteArray := prog_9_method_6_code
def yX7_lay : MethodName := ⟨RX7, "lay", "(II)V"⟩
abbrev cX7_fitted : ByteArray := prog_9_method_7_code
def yX7_fitted : MethodName := ⟨RX7, "fitted", "(I)I"⟩
abbrev cX7_least : ByteArray := prog_9_method_8_code
def yX7_least : MethodName := ⟨RX7, "least", "()I"⟩
abbrev cX7_spans : ByteArray := prog_9_method_9_code
def yX7_spans : MethodName := ⟨RX7, "spans", "(II)Z"⟩
abbrev cX7_allows : ByteArray := prog_9_method_10_code
def yX7_allows : MethodName := ⟨RX7, "allows", "(II)Z"⟩
abbrev cX7_byteAt : ByteArray := prog_9_method_11_code
def yX7_byteAt : MethodName := ⟨RX7, "byteAt", "(I)I"⟩
abbrev cX7_digitAt : ByteArray := prog_9_method_12_code
def yX7_digitAt : MethodName := ⟨RX7, "digitAt", "(I)I"⟩
def RX8 : String := "SideBySide$Smash"
def TX8 : u_T := fun k => match k with
  | _ => ("SideBySide$Stroke", "figure", "I", true)
def tyX8 : Nat → FieldType := fun k => match k with
  | _ => .int
abbrev wsX80 : List Cond := u_ws RX8 TX8 1
theorem nmX8 : ∀ a, a < 1 → ∀ b, b < 1 → a ≠ b → (TX8 a).2.1 ≠ (TX8 b).2.1 := by decide +kernel
theorem tyX8_ok : ∀ k, k < 1 → parseFieldDescriptor (TX8 k).2.2.1 = some (tyX8 k) := by decide +kernel
abbrev cX8_init : ByteArray := prog_10_method_1_code
def yX8_init : MethodName := ⟨RX8, "<init>", "(I)V"⟩
abbrev cX8_kind : ByteArray := prog_10_method_2_code
def yX8_kind : MethodName := ⟨RX8, "kind", "()I"⟩
abbrev cX8_timeTo : ByteArray := prog_10_method_3_code
def yX8_timeTo : MethodName := ⟨RX8, "timeTo", "(I)I"⟩
abbrev cX8_effort : ByteArray := prog_10_method_4_code
def yX8_effort : MethodName := ⟨RX8, "effort", "()I"⟩
abbrev cX8_price : ByteArray := prog_10_method_5_code
def yX8_price : MethodName := ⟨RX8, "price", "()I"⟩
def RX9 : String := "SideBySide$Stroke"
def TX9 : u_T := fun k => match k with
  | _ => ("SideBySide$Stroke", "figure", "I", true)
def tyX9 : Nat → FieldType := fun k => match k with
  | _ => .int
abbrev wsX90 : List Cond := u_ws RX9 TX9 1
theorem nmX9 : ∀ a, a < 1 → ∀ b, b < 1 → a ≠ b → (TX9 a).2.1 ≠ (TX9 b).2.1 := by decide +kernel
theorem tyX9_ok : ∀ k, k < 1 → parseFieldDescriptor (TX9 k).2.2.1 = some (tyX9 k) := by decide +kernel
abbrev cX9_init : ByteArray := prog_11_method_1_code
def yX9_init : MethodName := ⟨RX9, "<init>", "(I)V"⟩
abbrev cX9_of : ByteArray := prog_11_method_2_code
def yX9_of : MethodName := ⟨RX9, "of", "(II)LSideBySide$Stroke;"⟩
abbrev cX9_kind : ByteArray := prog_11_method_3_code
def yX9_kind : MethodName := ⟨RX9, "kind", "()I"⟩
abbrev cX9_timeTo : ByteArray := prog_11_method_4_code
def yX9_timeTo : MethodName := ⟨RX9, "timeTo", "(I)I"⟩
abbrev cX9_effort : ByteArray := prog_11_method_5_code
def yX9_effort : MethodName := ⟨RX9, "effort", "()I"⟩
abbrev cX9_landing : ByteArray := prog_11_method_6_code
def yX9_landing : MethodName := ⟨RX9, "landing", "(II)I"⟩
abbrev cX9_price : ByteArray := prog_11_method_7_code
def yX9_price : MethodName := ⟨RX9, "price", "()I"⟩
abbrev cX9_fail : ByteArray := prog_11_method_8_code
def yX9_fail : MethodName := ⟨RX9, "fail", "()V"⟩
def RX10 : String := "SideBySide$Wander"
def TX10 : u_T := fun k => match k with
  | _ => ("SideBySide$Stroke", "figure", "I", true)
def tyX10 : Nat → FieldType := fun k => match k with
  | _ => .int
abbrev wsX100 : List Cond := u_ws RX10 TX10 1
theorem nmX10 : ∀ a, a < 1 → ∀ b, b < 1 → a ≠ b → (TX10 a).2.1 ≠ (TX10 b).2.1 := by decide +kernel
theorem tyX10_ok : ∀ k, k < 1 → parseFieldDescriptor (TX10 k).2.2.1 = some (tyX10 k) := by decide +kernel
abbrev cX10_init : ByteArray := prog_12_method_1_code
def yX10_init : MethodName := ⟨RX10, "<init>", "(I)V"⟩
abbrev cX10_kind : ByteArray := prog_12_method_2_code
def yX10_kind : MethodName := ⟨RX10, "kind", "()I"⟩
abbrev cX10_timeTo : ByteArray := prog_12_method_3_code
def yX10_timeTo : MethodName := ⟨RX10, "timeTo", "(I)I"⟩
abbrev cX10_landing : ByteArray := prog_12_method_4_code
def yX10_landing : MethodName := ⟨RX10, "landing", "(II)I"⟩
abbrev cX10_price : ByteArray := prog_12_method_5_code
def yX10_price : MethodName := ⟨RX10, "price", "()I"⟩
def RX11 : String := "SideBySide"
def TX11 : u_T := fun k => match k with
  | 0 => ("SideBySide", "now", "LSideBySide$Court;", true)
  | 1 => ("SideBySide", "mind", "LSideBySide$Court;", true)
  | 2 => ("SideBySide", "pictured", "LSideBySide$Court;", true)
  | 3 => ("SideBySide", "hasPicture", "Z", false)
  | 4 => ("SideBySide", "shelves", "[LSideBySide$Shelf;", true)
  | 5 => ("SideBySide", "samples", "[LSideBySide$Stroke;", true)
  | 6 => ("SideBySide", "stood", "[I", true)
  | 7 => ("SideBySide", "gone", "[I", true)
  | _ => ("SideBySide", "seed", "I", false)
def tyX11 : Nat → FieldType := fun k => match k with
  | 0 => .object "SideBySide$Court"
  | 1 => .object "SideBySide$Court"
  | 2 => .object "SideBySide$Court"
  | 3 => .boolean
  | 4 => .array (.object "SideBySide$Shelf")
  | 5 => .array (.object "SideBySide$Stroke")
  | 6 => .array .int
  | 7 => .array .int
  | _ => .int
abbrev wsX110 : List Cond := u_ws RX11 TX11 9
theorem nmX11 : ∀ a, a < 9 → ∀ b, b < 9 → a ≠ b → (TX11 a).2.1 ≠ (TX11 b).2.1 := by decide +kernel
theorem tyX11_ok : ∀ k, k < 9 → parseFieldDescriptor (TX11 k).2.2.1 = some (tyX11 k) := by decide +kernel
abbrev cX11_init : ByteArray := prog_1_method_1_code
def yX11_init : MethodName := ⟨RX11, "<init>", "()V"⟩
abbrev cX11_court : ByteArray := prog_1_method_2_code
def yX11_court : MethodName := ⟨RX11, "court", "(I)I"⟩
abbrev cX11_stroke : ByteArray := prog_1_method_3_code
def yX11_stroke : MethodName := ⟨RX11, "stroke", "(II)I"⟩
abbrev cX11_player : ByteArray := prog_1_method_4_code
def yX11_player : MethodName := ⟨RX11, "player", "(II)I"⟩
abbrev cX11_side : ByteArray := prog_1_method_5_code
def yX11_side : MethodName := ⟨RX11, "side", "(II)I"⟩
abbrev cX11_learns : ByteArray := prog_1_method_6_code
def yX11_learns : MethodName := ⟨RX11, "learns", "(I)I"⟩
abbrev cX11_stands : ByteArray := prog_1_method_7_code
def yX11_stands : MethodName := ⟨RX11, "stands", "(III)I"⟩
abbrev cX11_tires : ByteArray := prog_1_method_8_code
def yX11_tires : MethodName := ⟨RX11, "tires", "(II)I"⟩
abbrev cX11_hands : ByteArray := prog_1_method_9_code
def yX11_hands : MethodName := ⟨RX11, "hands", "(I)I"⟩
abbrev cX11_forms : ByteArray := prog_1_method_10_code
def yX11_forms : MethodName := ⟨RX11, "forms", "(III)I"⟩
abbrev cX11_blows : ByteArray := prog_1_method_11_code
def yX11_blows : MethodName := ⟨RX11, "blows", "(I)I"⟩
abbrev cX11_hit : ByteArray := prog_1_method_12_code
def yX11_hit : MethodName := ⟨RX11, "hit", "(II)I"⟩
abbrev cX11_whose : ByteArray := prog_1_method_13_code
def yX11_whose : MethodName := ⟨RX11, "whose", "(II)I"⟩
abbrev cX11_wins : ByteArray := prog_1_method_14_code
def yX11_wins : MethodName := ⟨RX11, "wins", "(II)I"⟩
abbrev cX11_falls : ByteArray := prog_1_method_15_code
def yX11_falls : MethodName := ⟨RX11, "falls", "(II)I"⟩
abbrev cX11_open : ByteArray := prog_1_method_16_code
def yX11_open : MethodName := ⟨RX11, "open", "(I)I"⟩
abbrev cX11_forced : ByteArray := prog_1_method_17_code
def yX11_forced : MethodName := ⟨RX11, "forced", "()I"⟩
abbrev cX11_farthest : ByteArray := prog_1_method_18_code
def yX11_farthest : MethodName := ⟨RX11, "farthest", "(II)I"⟩
abbrev cX11_atWhom : ByteArray := prog_1_method_19_code
def yX11_atWhom : MethodName := ⟨RX11, "atWhom", "(I)I"⟩
abbrev cX11_fewest : ByteArray := prog_1_method_20_code
def yX11_fewest : MethodName := ⟨RX11, "fewest", "(I)I"⟩
abbrev cX11_bestForm : ByteArray := prog_1_method_21_code
def yX11_bestForm : MethodName := ⟨RX11, "bestForm", "(II)I"⟩
abbrev cX11_bestHabit : ByteArray := prog_1_method_22_code
def yX11_bestHabit : MethodName := ⟨RX11, "bestHabit", "(II)I"⟩
abbrev cX11_change : ByteArray := prog_1_method_23_code
def yX11_change : MethodName := ⟨RX11, "change", "(IIII)I"⟩
abbrev cX11_rally : ByteArray := prog_1_method_24_code
def yX11_rally : MethodName := ⟨RX11, "rally", "(II)I"⟩
abbrev cX11_ways : ByteArray := prog_1_method_25_code
def yX11_ways : MethodName := ⟨RX11, "ways", "(II)I"⟩
abbrev cX11_spent : ByteArray := prog_1_method_26_code
def yX11_spent : MethodName := ⟨RX11, "spent", "(I)I"⟩
abbrev cX11_whatIs : ByteArray := prog_1_method_27_code
def yX11_whatIs : MethodName := ⟨RX11, "whatIs", "(III)I"⟩
abbrev cX11_habits : ByteArray := prog_1_method_28_code
def yX11_habits : MethodName := ⟨RX11, "habits", "(I)I"⟩
abbrev cX11_two : ByteArray := prog_1_method_29_code
def yX11_two : MethodName := ⟨RX11, "two", "()I"⟩
abbrev cX11_draughts : ByteArray := prog_1_method_30_code
def yX11_draughts : MethodName := ⟨RX11, "draughts", "(III)J"⟩
abbrev cX11_mean : ByteArray := prog_1_method_31_code
def yX11_mean : MethodName := ⟨RX11, "mean", "(I)J"⟩
abbrev cX11_forged : ByteArray := prog_1_method_32_code
def yX11_forged : MethodName := ⟨RX11, "forged", "(I)I"⟩
abbrev cX11_judge : ByteArray := prog_1_method_33_code
def yX11_judge : MethodName := ⟨RX11, "judge", "(I)I"⟩
abbrev cX11_nights : ByteArray := prog_1_method_34_code
def yX11_nights : MethodName := ⟨RX11, "nights", "(III)I"⟩
abbrev cX11_image : ByteArray := prog_1_method_35_code
def yX11_image : MethodName := ⟨RX11, "image", "()I"⟩
abbrev cX11_restore : ByteArray := prog_1_method_36_code
def yX11_restore : MethodName := ⟨RX11, "restore", "()I"⟩
abbrev cX11_count : ByteArray := prog_1_method_37_code
def yX11_count : MethodName := ⟨RX11, "count", "(I)I"⟩
abbrev cX11_keep : ByteArray := prog_1_method_38_code
def yX11_keep : MethodName := ⟨RX11, "keep", "(IIII)I"⟩
abbrev cX11_row : ByteArray := prog_1_method_39_code
def yX11_row : MethodName := ⟨RX11, "row", "(III)I"⟩
abbrev cX11_put : ByteArray := prog_1_method_40_code
def yX11_put : MethodName := ⟨RX11, "put", "(III)I"⟩
abbrev cX11_element : ByteArray := prog_1_method_41_code
def yX11_element : MethodName := ⟨RX11, "element", "(II)J"⟩
abbrev cX11_copy : ByteArray := prog_1_method_42_code
def yX11_copy : MethodName := ⟨RX11, "copy", "(IIIII)I"⟩
abbrev cX11_cost : ByteArray := prog_1_method_43_code
def yX11_cost : MethodName := ⟨RX11, "cost", "(I)I"⟩
abbrev cX11_toss : ByteArray := prog_1_method_44_code
def yX11_toss : MethodName := ⟨RX11, "toss", "(I)I"⟩
abbrev cX11_isBelow : ByteArray := prog_1_method_45_code
def yX11_isBelow : MethodName := ⟨RX11, "isBelow", "(II)Z"⟩
abbrev cX11_way : ByteArray := prog_1_method_46_code
def yX11_way : MethodName := ⟨RX11, "way", "(II)I"⟩
abbrev cX11_endCell : ByteArray := prog_1_method_47_code
def yX11_endCell : MethodName := ⟨RX11, "endCell", "(I)I"⟩
abbrev cX11_refusalOf : ByteArray := prog_1_method_48_code
def yX11_refusalOf : MethodName := ⟨RX11, "refusalOf", "(IZ)I"⟩
abbrev cX11_refusalOfHits : ByteArray := prog_1_method_49_code
def yX11_refusalOfHits : MethodName := ⟨RX11, "refusalOfHits", "(I)I"⟩
abbrev cX11_refusalOfRally : ByteArray := prog_1_method_50_code
def yX11_refusalOfRally : MethodName := ⟨RX11, "refusalOfRally", "(I)I"⟩
abbrev cX11_refusalOfCells : ByteArray := prog_1_method_51_code
def yX11_refusalOfCells : MethodName := ⟨RX11, "refusalOfCells", "(I)I"⟩
abbrev cX11_playRally : ByteArray := prog_1_method_52_code
def yX11_playRally : MethodName := ⟨RX11, "playRally", "(LSideBySide$Shelf;)I"⟩
abbrev cX11_addWaysGone : ByteArray := prog_1_method_53_code
def yX11_addWaysGone : MethodName := ⟨RX11, "addWaysGone", "()V"⟩
abbrev cX11_sideWithMorePoints : ByteArray := prog_1_method_54_code
def yX11_sideWithMorePoints : MethodName := ⟨RX11, "sideWithMorePoints", "()I"⟩
abbrev cX11_firstOpening : ByteArray := prog_1_method_55_code
def yX11_firstOpening : MethodName := ⟨RX11, "firstOpening", "()I"⟩
abbrev cX11_bestTrait : ByteArray := prog_1_method_56_code
def yX11_bestTrait : MethodName := ⟨RX11, "bestTrait", "(III)I"⟩
abbrev cX11_cellsHeld : ByteArray := prog_1_method_57_code
def yX11_cellsHeld : MethodName := ⟨RX11, "cellsHeld", "(III)I"⟩
abbrev cX11_isBroken : ByteArray := prog_1_method_58_code
def yX11_isBroken : MethodName := ⟨RX11, "isBroken", "(I)Z"⟩
abbrev cX11_kindsThatFell : ByteArray := prog_1_method_59_code
def yX11_kindsThatFell : MethodName := ⟨RX11, "kindsThatFell", "(LSideBySide$Shelf;)I"⟩
abbrev cX11_draughtsThatBlew : ByteArray := prog_1_method_60_code
def yX11_draughtsThatBlew : MethodName := ⟨RX11, "draughtsThatBlew", "(LSideBySide$Shelf;LSideBySide$Stroke;)I"⟩
abbrev cX11_tellsFalls : ByteArray := prog_1_method_61_code
def yX11_tellsFalls : MethodName := ⟨RX11, "tellsFalls", "(LSideBySide$Shelf;LSideBySide$Stroke;I)Z"⟩
abbrev cX11_tellsTakers : ByteArray := prog_1_method_62_code
def yX11_tellsTakers : MethodName := ⟨RX11, "tellsTakers", "(LSideBySide$Shelf;LSideBySide$Court;)Z"⟩
abbrev cX11_outlay : ByteArray := prog_1_method_63_code
def yX11_outlay : MethodName := ⟨RX11, "outlay", "(III)I"⟩
abbrev cX11_staysInPlay : ByteArray := prog_1_method_64_code
def yX11_staysInPlay : MethodName := ⟨RX11, "staysInPlay", "(II)Z"⟩
abbrev cX11_power : ByteArray := prog_1_method_65_code
def yX11_power : MethodName := ⟨RX11, "power", "(II)J"⟩
abbrev cX11_inLeastTerms : ByteArray := prog_1_method_66_code
def yX11_inLeastTerms : MethodName := ⟨RX11, "inLeastTerms", "(JJI)J"⟩
abbrev cX11_commonDivisor : ByteArray := prog_1_method_67_code
def yX11_commonDivisor : MethodName := ⟨RX11, "commonDivisor", "(JJ)J"⟩
abbrev cX11_draw : ByteArray := prog_1_method_68_code
def yX11_draw : MethodName := ⟨RX11, "draw", "(I)I"⟩
def RX12 : String := "SideBySideModel"
def TX12 : u_T := fun k => match k with
  | 0 => ("SideBySideModel", "s", "[I", true)
  | 1 => ("SideBySideModel", "m", "[I", true)
  | 2 => ("SideBySideModel", "image", "[I", true)
  | 3 => ("SideBySideModel", "was", "[I", true)
  | 4 => ("SideBySideModel", "gone", "[I", true)
  | 5 => ("SideBySideModel", "hasImage", "Z", false)
  | 6 => ("SideBySideModel", "place", "I", false)
  | 7 => ("SideBySideModel", "rowAt", "I", false)
  | 8 => ("SideBySideModel", "rowEnd", "I", false)
  | 9 => ("SideBySideModel", "numbers", "[I", true)
  | 10 => ("SideBySideModel", "rallied", "I", false)
  | 11 => ("SideBySideModel", "scored", "I", false)
  | 12 => ("SideBySideModel", "seed", "I", false)
  | 13 => ("SideBySideModel", "kept", "[I", true)
  | 14 => ("SideBySideModel", "keptKind", "[I", true)
  | 15 => ("SideBySideModel", "keptFigure", "[I", true)
  | 16 => ("SideBySideModel", "sort", "[I", true)
  | 17 => ("SideBySideModel", "size", "[I", true)
  | 18 => ("SideBySideModel", "element", "[I", true)
  | _ => ("SideBySideModel", "thrown", "I", false)
def tyX12 : Nat → FieldType := fun k => match k with
  | 0 => .array .int
  | 1 => .array .int
  | 2 => .array .int
  | 3 => .array .int
  | 4 => .array .int
  | 5 => .boolean
  | 6 => .int
  | 7 => .int
  | 8 => .int
  | 9 => .array .int
  | 10 => .int
  | 11 => .int
  | 12 => .int
  | 13 => .array .int
  | 14 => .array .int
  | 15 => .array .int
  | 16 => .array .int
  | 17 => .array .int
  | 18 => .array .int
  | _ => .int
abbrev wsX120 : List Cond := u_ws RX12 TX12 20
theorem nmX12 : ∀ a, a < 20 → ∀ b, b < 20 → a ≠ b → (TX12 a).2.1 ≠ (TX12 b).2.1 := by decide +kernel
theorem tyX12_ok : ∀ k, k < 20 → parseFieldDescriptor (TX12 k).2.2.1 = some (tyX12 k) := by decide +kernel
abbrev cX12_init : ByteArray := prog_14_method_1_code
def yX12_init : MethodName := ⟨RX12, "<init>", "()V"⟩
abbrev cX12_isIn : ByteArray := prog_14_method_2_code
def yX12_isIn : MethodName := ⟨RX12, "isIn", "(III)Z"⟩
abbrev cX12_least : ByteArray := prog_14_method_3_code
def yX12_least : MethodName := ⟨RX12, "least", "(II)I"⟩
abbrev cX12_copies : ByteArray := prog_14_method_4_code
def yX12_copies : MethodName := ⟨RX12, "copies", "([I[I)V"⟩
abbrev cX12_ofS : ByteArray := prog_14_method_5_code
def yX12_ofS : MethodName := ⟨RX12, "ofS", "(II)I"⟩
abbrev cX12_ofP : ByteArray := prog_14_method_6_code
def yX12_ofP : MethodName := ⟨RX12, "ofP", "(II)I"⟩
abbrev cX12_ofSide : ByteArray := prog_14_method_7_code
def yX12_ofSide : MethodName := ⟨RX12, "ofSide", "(II)I"⟩
abbrev cX12_isStroke : ByteArray := prog_14_method_8_code
def yX12_isStroke : MethodName := ⟨RX12, "isStroke", "(I)Z"⟩
abbrev cX12_isCell : ByteArray := prog_14_method_9_code
def yX12_isCell : MethodName := ⟨RX12, "isCell", "(I)Z"⟩
abbrev cX12_isPlayer : ByteArray := prog_14_method_10_code
def yX12_isPlayer : MethodName := ⟨RX12, "isPlayer", "(I)Z"⟩
abbrev cX12_has : ByteArray := prog_14_method_11_code
def yX12_has : MethodName := ⟨RX12, "has", "(II)Z"⟩
abbrev cX12_apart : ByteArray := prog_14_method_13_code
def yX12_apart : MethodName := ⟨RX12, "apart", "(II)I"⟩
abbrev cX12_wayOf : ByteArray := prog_14_method_14_code
def yX12_wayOf : MethodName := ⟨RX12, "wayOf", "(II)I"⟩
abbrev cX12_timeBy : ByteArray := prog_14_method_15_code
def yX12_timeBy : MethodName := ⟨RX12, "timeBy", "(III)I"⟩
abbrev cX12_tiresBy : ByteArray := prog_14_method_16_code
def yX12_tiresBy : MethodName := ⟨RX12, "tiresBy", "(II)I"⟩
abbrev cX12_fallsIn : ByteArray := prog_14_method_17_code
def yX12_fallsIn : MethodName := ⟨RX12, "fallsIn", "([III)I"⟩
abbrev cX12_timeIn : ByteArray := prog_14_method_18_code
def yX12_timeIn : MethodName := ⟨RX12, "timeIn", "([III)I"⟩
abbrev cX12_sideOf : ByteArray := prog_14_method_19_code
def yX12_sideOf : MethodName := ⟨RX12, "sideOf", "(I)I"⟩
abbrev cX12_partner : ByteArray := prog_14_method_20_code
def yX12_partner : MethodName := ⟨RX12, "partner", "(I)I"⟩
abbrev cX12_stepsIn : ByteArray := prog_14_method_21_code
def yX12_stepsIn : MethodName := ⟨RX12, "stepsIn", "([III)I"⟩
abbrev cX12_isTired : ByteArray := prog_14_method_22_code
def yX12_isTired : MethodName := ⟨RX12, "isTired", "([III)V"⟩
abbrev cX12_whoseIn : ByteArray := prog_14_method_23_code
def yX12_whoseIn : MethodName := ⟨RX12, "whoseIn", "([III)I"⟩
abbrev cX12_isBoths : ByteArray := prog_14_method_24_code
def yX12_isBoths : MethodName := ⟨RX12, "isBoths", "([III)Z"⟩
abbrev cX12_placeFor : ByteArray := prog_14_method_25_code
def yX12_placeFor : MethodName := ⟨RX12, "placeFor", "(II)I"⟩
abbrev cX12_towards : ByteArray := prog_14_method_26_code
def yX12_towards : MethodName := ⟨RX12, "towards", "(III)I"⟩
abbrev cX12_moves : ByteArray := prog_14_method_27_code
def yX12_moves : MethodName := ⟨RX12, "moves", "([III)V"⟩
abbrev cX12_hits : ByteArray := prog_14_method_28_code
def yX12_hits : MethodName := ⟨RX12, "hits", "([III)Z"⟩
abbrev cX12_here : ByteArray := prog_14_method_29_code
def yX12_here : MethodName := ⟨RX12, "here", "()I"⟩
abbrev cX12_readsNumber : ByteArray := prog_14_method_30_code
def yX12_readsNumber : MethodName := ⟨RX12, "readsNumber", "(II)Z"⟩
abbrev cX12_readsStatement : ByteArray := prog_14_method_31_code
def yX12_readsStatement : MethodName := ⟨RX12, "readsStatement", "()Z"⟩
abbrev cX12_adds : ByteArray := prog_14_method_32_code
def yX12_adds : MethodName := ⟨RX12, "adds", "(II)V"⟩
abbrev cX12_isOver : ByteArray := prog_14_method_33_code
def yX12_isOver : MethodName := ⟨RX12, "isOver", "()Z"⟩
abbrev cX12_isDone : ByteArray := prog_14_method_34_code
def yX12_isDone : MethodName := ⟨RX12, "isDone", "(I)Z"⟩
abbrev cX12_court : ByteArray := prog_14_method_35_code
def yX12_court : MethodName := ⟨RX12, "court", "(I)I"⟩
abbrev cX12_stroke : ByteArray := prog_14_method_36_code
def yX12_stroke : MethodName := ⟨RX12, "stroke", "(II)I"⟩
abbrev cX12_player : ByteArray := prog_14_method_37_code
def yX12_player : MethodName := ⟨RX12, "player", "(II)I"⟩
abbrev cX12_outOfPlace : ByteArray := prog_14_method_38_code
def yX12_outOfPlace : MethodName := ⟨RX12, "outOfPlace", "(I)I"⟩
abbrev cX12_side : ByteArray := prog_14_method_39_code
def yX12_side : MethodName := ⟨RX12, "side", "(II)I"⟩
abbrev cX12_learns : ByteArray := prog_14_method_40_code
def yX12_learns : MethodName := ⟨RX12, "learns", "(I)I"⟩
abbrev cX12_stands : ByteArray := prog_14_method_41_code
def yX12_stands : MethodName := ⟨RX12, "stands", "(III)I"⟩
abbrev cX12_tires : ByteArray := prog_14_method_42_code
def yX12_tires : MethodName := ⟨RX12, "tires", "(II)I"⟩
abbrev cX12_hands : ByteArray := prog_14_method_43_code
def yX12_hands : MethodName := ⟨RX12, "hands", "(I)I"⟩
abbrev cX12_forms : ByteArray := prog_14_method_44_code
def yX12_forms : MethodName := ⟨RX12, "forms", "(III)I"⟩
abbrev cX12_blows : ByteArray := prog_14_method_45_code
def yX12_blows : MethodName := ⟨RX12, "blows", "(I)I"⟩
abbrev cX12_hit : ByteArray := prog_14_method_46_code
def yX12_hit : MethodName := ⟨RX12, "hit", "(II)I"⟩
abbrev cX12_otherSide : ByteArray := prog_14_method_47_code
def yX12_otherSide : MethodName := ⟨RX12, "otherSide", "()I"⟩
abbrev cX12_whoseNow : ByteArray := prog_14_method_48_code
def yX12_whoseNow : MethodName := ⟨RX12, "whoseNow", "(II)I"⟩
abbrev cX12_isWon : ByteArray := prog_14_method_49_code
def yX12_isWon : MethodName := ⟨RX12, "isWon", "(II)Z"⟩
abbrev cX12_isHit : ByteArray := prog_14_method_50_code
def yX12_isHit : MethodName := ⟨RX12, "isHit", "(II)Z"⟩
abbrev cX12_whose : ByteArray := prog_14_method_51_code
def yX12_whose : MethodName := ⟨RX12, "whose", "(II)I"⟩
abbrev cX12_wins : ByteArray := prog_14_method_52_code
def yX12_wins : MethodName := ⟨RX12, "wins", "(II)I"⟩
abbrev cX12_falls : ByteArray := prog_14_method_53_code
def yX12_falls : MethodName := ⟨RX12, "falls", "(II)I"⟩
abbrev cX12_openTo : ByteArray := prog_14_method_54_code
def yX12_openTo : MethodName := ⟨RX12, "openTo", "(I)I"⟩
abbrev cX12_open : ByteArray := prog_14_method_55_code
def yX12_open : MethodName := ⟨RX12, "open", "(I)I"⟩
abbrev cX12_forced : ByteArray := prog_14_method_56_code
def yX12_forced : MethodName := ⟨RX12, "forced", "()I"⟩
abbrev cX12_leads : ByteArray := prog_14_method_57_code
def yX12_leads : MethodName := ⟨RX12, "leads", "(II)I"⟩
abbrev cX12_farthest : ByteArray := prog_14_method_58_code
def yX12_farthest : MethodName := ⟨RX12, "farthest", "(II)I"⟩
abbrev cX12_atWhom : ByteArray := prog_14_method_59_code
def yX12_atWhom : MethodName := ⟨RX12, "atWhom", "(I)I"⟩
abbrev cX12_isWonInThree : ByteArray := prog_14_method_60_code
def yX12_isWonInThree : MethodName := ⟨RX12, "isWonInThree", "(II)Z"⟩
abbrev cX12_fewest : ByteArray := prog_14_method_61_code
def yX12_fewest : MethodName := ⟨RX12, "fewest", "(I)I"⟩
abbrev cX12_isHeld : ByteArray := prog_14_method_62_code
def yX12_isHeld : MethodName := ⟨RX12, "isHeld", "(IIII)Z"⟩
abbrev cX12_bestOf : ByteArray := prog_14_method_63_code
def yX12_bestOf : MethodName := ⟨RX12, "bestOf", "(IIII)I"⟩
abbrev cX12_bestForm : ByteArray := prog_14_method_64_code
def yX12_bestForm : MethodName := ⟨RX12, "bestForm", "(II)I"⟩
abbrev cX12_bestHabit : ByteArray := prog_14_method_65_code
def yX12_bestHabit : MethodName := ⟨RX12, "bestHabit", "(II)I"⟩
abbrev cX12_change : ByteArray := prog_14_method_66_code
def yX12_change : MethodName := ⟨RX12, "change", "(IIII)I"⟩
abbrev cX12_wrongRally : ByteArray := prog_14_method_67_code
def yX12_wrongRally : MethodName := ⟨RX12, "wrongRally", "(I)I"⟩
abbrev cX12_rallies : ByteArray := prog_14_method_68_code
def yX12_rallies : MethodName := ⟨RX12, "rallies", "(I)V"⟩
abbrev cX12_rally : ByteArray := prog_14_method_69_code
def yX12_rally : MethodName := ⟨RX12, "rally", "(II)I"⟩
abbrev cX12_ways : ByteArray := prog_14_method_70_code
def yX12_ways : MethodName := ⟨RX12, "ways", "(II)I"⟩
abbrev cX12_spent : ByteArray := prog_14_method_71_code
def yX12_spent : MethodName := ⟨RX12, "spent", "(I)I"⟩
abbrev cX12_leastOf : ByteArray := prog_14_method_72_code
def yX12_leastOf : MethodName := ⟨RX12, "leastOf", "(I)I"⟩
abbrev cX12_isSkipped : ByteArray := prog_14_method_73_code
def yX12_isSkipped : MethodName := ⟨RX12, "isSkipped", "(II)Z"⟩
abbrev cX12_whatIs : ByteArray := prog_14_method_74_code
def yX12_whatIs : MethodName := ⟨RX12, "whatIs", "(III)I"⟩
abbrev cX12_habits : ByteArray := prog_14_method_75_code
def yX12_habits : MethodName := ⟨RX12, "habits", "(I)I"⟩
abbrev cX12_costBy2 : ByteArray := prog_14_method_76_code
def yX12_costBy2 : MethodName := ⟨RX12, "costBy2", "(III)I"⟩
abbrev cX12_two : ByteArray := prog_14_method_77_code
def yX12_two : MethodName := ⟨RX12, "two", "()I"⟩
abbrev cX12_gcd : ByteArray := prog_14_method_78_code
def yX12_gcd : MethodName := ⟨RX12, "gcd", "(JJ)J"⟩
abbrev cX12_partOf : ByteArray := prog_14_method_79_code
def yX12_partOf : MethodName := ⟨RX12, "partOf", "(JJI)J"⟩
abbrev cX12_isPointless : ByteArray := prog_14_method_80_code
def yX12_isPointless : MethodName := ⟨RX12, "isPointless", "(II)Z"⟩
abbrev cX12_draughts : ByteArray := prog_14_method_81_code
def yX12_draughts : MethodName := ⟨RX12, "draughts", "(III)J"⟩
abbrev cX12_allTired : ByteArray := prog_14_method_82_code
def yX12_allTired : MethodName := ⟨RX12, "allTired", "()I"⟩
abbrev cX12_mean : ByteArray := prog_14_method_83_code
def yX12_mean : MethodName := ⟨RX12, "mean", "(I)J"⟩
abbrev cX12_forged : ByteArray := prog_14_method_84_code
def yX12_forged : MethodName := ⟨RX12, "forged", "(I)I"⟩
abbrev cX12_judge : ByteArray := prog_14_method_85_code
def yX12_judge : MethodName := ⟨RX12, "judge", "(I)I"⟩
abbrev cX12_drawn : ByteArray := prog_14_method_86_code
def yX12_drawn : MethodName := ⟨RX12, "drawn", "(I)I"⟩
abbrev cX12_nights : ByteArray := prog_14_method_87_code
def yX12_nights : MethodName := ⟨RX12, "nights", "(III)I"⟩
abbrev cX12_image : ByteArray := prog_14_method_88_code
def yX12_image : MethodName := ⟨RX12, "image", "()I"⟩
abbrev cX12_restore : ByteArray := prog_14_method_89_code
def yX12_restore : MethodName := ⟨RX12, "restore", "()I"⟩
abbrev cX12_count : ByteArray := prog_14_method_90_code
def yX12_count : MethodName := ⟨RX12, "count", "(I)I"⟩
abbrev cX12_thrown : ByteArray := prog_14_method_91_code
def yX12_thrown : MethodName := ⟨RX12, "thrown", "()I"⟩
abbrev cX12_isShelf : ByteArray := prog_14_method_92_code
def yX12_isShelf : MethodName := ⟨RX12, "isShelf", "(I)Z"⟩
abbrev cX12_wrongRow : ByteArray := prog_14_method_93_code
def yX12_wrongRow : MethodName := ⟨RX12, "wrongRow", "(II)I"⟩
abbrev cX12_wrongKept : ByteArray := prog_14_method_94_code
def yX12_wrongKept : MethodName := ⟨RX12, "wrongKept", "(I)I"⟩
abbrev cX12_keep : ByteArray := prog_14_method_95_code
def yX12_keep : MethodName := ⟨RX12, "keep", "(IIII)I"⟩
abbrev cX12_row : ByteArray := prog_14_method_96_code
def yX12_row : MethodName := ⟨RX12, "row", "(III)I"⟩
abbrev cX12_put : ByteArray := prog_14_method_97_code
def yX12_put : MethodName := ⟨RX12, "put", "(III)I"⟩
abbrev cX12_element : ByteArray := prog_14_method_98_code
def yX12_element : MethodName := ⟨RX12, "element", "(II)J"⟩
abbrev cX12_copy : ByteArray := prog_14_method_99_code
def yX12_copy : MethodName := ⟨RX12, "copy", "(IIIII)I"⟩
abbrev cX12_costBy : ByteArray := prog_14_method_100_code
def yX12_costBy : MethodName := ⟨RX12, "costBy", "(II)I"⟩
abbrev cX12_cost : ByteArray := prog_14_method_101_code
def yX12_cost : MethodName := ⟨RX12, "cost", "(I)I"⟩
abbrev cX12_toss : ByteArray := prog_14_method_102_code
def yX12_toss : MethodName := ⟨RX12, "toss", "(I)I"⟩
def RJ6 : String := "java/lang/Integer"
def TJ6 : u_T := fun k => match k with
  | _ => ("", "", "", false)
def tyJ6 : Nat → FieldType := fun k => match k with
  | _ => .int
abbrev wsJ60 : List Cond := u_ws RJ6 TJ6 0
theorem nmJ6 : ∀ a, a < 0 → ∀ b, b < 0 → a ≠ b → (TJ6 a).2.1 ≠ (TJ6 b).2.1 := by decide +kernel
theorem tyJ6_ok : ∀ k, k < 0 → parseFieldDescriptor (TJ6 k).2.2.1 = some (tyJ6 k) := by decide +kernel
abbrev cJ6_bitCount_0f7a4 : ByteArray := prog_18_method_49_code
def yJ6_bitCount_0f7a4 : MethodName := ⟨RJ6, "bitCount", "(I)I"⟩
def RJ9 : String := "java/lang/Math"
def TJ9 : u_T := fun k => match k with
  | _ => ("", "", "", false)
def tyJ9 : Nat → FieldType := fun k => match k with
  | _ => .int
abbrev wsJ90 : List Cond := u_ws RJ9 TJ9 0
theorem nmJ9 : ∀ a, a < 0 → ∀ b, b < 0 → a ≠ b → (TJ9 a).2.1 ≠ (TJ9 b).2.1 := by decide +kernel
theorem tyJ9_ok : ∀ k, k < 0 → parseFieldDescriptor (TJ9 k).2.2.1 = some (tyJ9 k) := by decide +kernel
abbrev cJ9_abs_0f7a4 : ByteArray := prog_19_method_59_code
def yJ9_abs_0f7a4 : MethodName := ⟨RJ9, "abs", "(I)I"⟩
abbrev cJ9_max_7cf53 : ByteArray := prog_19_method_65_code
def yJ9_max_7cf53 : MethodName := ⟨RJ9, "max", "(II)I"⟩
abbrev cJ9_max_f86c9 : ByteArray := prog_19_method_66_code
def yJ9_max_f86c9 : MethodName := ⟨RJ9, "max", "(JJ)J"⟩
abbrev cJ9_min_7cf53 : ByteArray := prog_19_method_69_code
def yJ9_min_7cf53 : MethodName := ⟨RJ9, "min", "(II)I"⟩
def RJ0 : String := "java/lang/String"
def TJ0 : u_T := fun k => match k with
  | _ => ("", "", "", false)
def tyJ0 : Nat → FieldType := fun k => match k with
  | _ => .int
abbrev wsJ00 : List Cond := u_ws RJ0 TJ0 0
theorem nmJ0 : ∀ a, a < 0 → ∀ b, b < 0 → a ≠ b → (TJ0 a).2.1 ≠ (TJ0 b).2.1 := by decide +kernel
theorem tyJ0_ok : ∀ k, k < 0 → parseFieldDescriptor (TJ0 k).2.2.1 = some (tyJ0 k) := by decide +kernel
def RJ10 : String := "java/lang/System"
def TJ10 : u_T := fun k => match k with
  | _ => ("", "", "", false)
def tyJ10 : Nat → FieldType := fun k => match k with
  | _ => .int
abbrev wsJ100 : List Cond := u_ws RJ10 TJ10 0
theorem nmJ10 : ∀ a, a < 0 → ∀ b, b < 0 → a ≠ b → (TJ10 a).2.1 ≠ (TJ10 b).2.1 := by decide +kernel
theorem tyJ10_ok : ∀ k, k < 0 → parseFieldDescriptor (TJ10 k).2.2.1 = some (tyJ10 k) := by decide +kernel
def RL : String := "SideBySideLaw"
abbrev cL_element : ByteArray := method_3_code
def yL_element : MethodName := ⟨RL, "element", "(LSideBySide;II[J)I"⟩
abbrev cL_law : ByteArray := code
def yL_law : MethodName := ⟨RL, "law", "([I)Z"⟩

/-- all the good words of the tables -/
def UL : List Cond := lw_tbl.filter goodWord
theorem ul_in {w : Cond} (h : w ∈ lw_tbl) (hg : goodWord w = true) : w ∈ UL := List.mem_filter.mpr ⟨h, hg⟩
theorem ul_t {w : Cond} (h : w ∈ tables_1) (hg : goodWord w = true) : w ∈ UL := ul_in (List.mem_append_right _ h) hg
theorem ul_1 {w : Cond} (i : Nat) (h : tables_1_1[i]? = some w) (hg : goodWord w = true) : w ∈ UL := ul_t (List.mem_append_left _ (List.mem_of_getElem? h)) hg
theorem ul_2 {w : Cond} (i : Nat) (h : tables_1_2[i]? = some w) (hg : goodWord w = true) : w ∈ UL := ul_t (List.mem_append_right _ (List.mem_append_left _ (List.mem_of_getElem? h))) hg
theorem ul_3 {w : Cond} (i : Nat) (h : tables_1_3[i]? = some w) (hg : goodWord w = true) : w ∈ UL := ul_t (List.mem_append_right _ (List.mem_append_right _ (List.mem_append_left _ (List.mem_of_getElem? h)))) hg
theorem ul_4 {w : Cond} (i : Nat) (h : tables_1_4[i]? = some w) (hg : goodWord w = true) : w ∈ UL := ul_t (List.mem_append_right _ (List.mem_append_right _ (List.mem_append_right _ (List.mem_append_left _ (List.mem_of_getElem? h))))) hg
theorem ul_5 {w : Cond} (i : Nat) (h : tables_1_5[i]? = some w) (hg : goodWord w = true) : w ∈ UL := ul_t (List.mem_append_right _ (List.mem_append_right _ (List.mem_append_right _ (List.mem_append_right _ (List.mem_append_left _ (List.mem_of_getElem? h)))))) hg
theorem ul_6 {w : Cond} (i : Nat) (h : tables_1_6[i]? = some w) (hg : goodWord w = true) : w ∈ UL := ul_t (List.mem_append_right _ (List.mem_append_right _ (List.mem_append_right _ (List.mem_append_right _ (List.mem_append_right _ (List.mem_of_getElem? h)))))) hg

