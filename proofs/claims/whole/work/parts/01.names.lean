-- ===== PART A: goes FIRST, ahead of the names: the tables' words, and 'selects' of the private methods out of them =====
/-- a private method of a class that the tables say can be made, by its rows of tables_1 -/
def lw_okq (q : MethodName × Nat) : Prop := (q.1.cls ≠ "java/lang/invoke/MethodHandle" ∧ q.1.cls ≠ "java/lang/invoke/VarHandle") ∧ Cond.instantiable q.1.cls q.2 ∈ tables_1 ∧ Cond.privateMethod q.1 ∈ tables_1 ∧ Cond.instanceMethod q.1 ∈ tables_1
theorem lw_p0 : lw_okq (⟨"GreyHair$Reader", "chain", "(LGreyHair$Formula;II)Z"⟩, 10) := ⟨⟨by decide +kernel, by decide +kernel⟩, List.mem_of_getElem? (i := 27) (by decide +kernel), List.mem_of_getElem? (i := 574) (by decide +kernel), List.mem_of_getElem? (i := 575) (by decide +kernel)⟩
theorem lw_p1 : lw_okq (⟨"GreyHair$Reader", "part", "(LGreyHair$Formula;II)Z"⟩, 10) := ⟨⟨by decide +kernel, by decide +kernel⟩, List.mem_of_getElem? (i := 27) (by decide +kernel), List.mem_of_getElem? (i := 578) (by decide +kernel), List.mem_of_getElem? (i := 579) (by decide +kernel)⟩
theorem lw_p2 : lw_okq (⟨"GreyHair$Reader", "one", "(LGreyHair$Formula;I)Z"⟩, 10) := ⟨⟨by decide +kernel, by decide +kernel⟩, List.mem_of_getElem? (i := 27) (by decide +kernel), List.mem_of_getElem? (i := 582) (by decide +kernel), List.mem_of_getElem? (i := 583) (by decide +kernel)⟩
theorem lw_p3 : lw_okq (⟨"GreyHair$Reader", "unit", "(LGreyHair$Formula;I)Z"⟩, 10) := ⟨⟨by decide +kernel, by decide +kernel⟩, List.mem_of_getElem? (i := 27) (by decide +kernel), List.mem_of_getElem? (i := 597) (by decide +kernel), List.mem_of_getElem? (i := 598) (by decide +kernel)⟩
theorem lw_p4 : lw_okq (⟨"GreyHair", "isPerson", "(I)Z"⟩, 11) := ⟨⟨by decide +kernel, by decide +kernel⟩, List.mem_of_getElem? (i := 19) (by decide +kernel), List.mem_of_getElem? (i := 669) (by decide +kernel), List.mem_of_getElem? (i := 670) (by decide +kernel)⟩
theorem lw_p5 : lw_okq (⟨"GreyHair", "areTwo", "(II)Z"⟩, 11) := ⟨⟨by decide +kernel, by decide +kernel⟩, List.mem_of_getElem? (i := 19) (by decide +kernel), List.mem_of_getElem? (i := 747) (by decide +kernel), List.mem_of_getElem? (i := 748) (by decide +kernel)⟩
theorem lw_p6 : lw_okq (⟨"GreyHairModel", "four", "(I)V"⟩, 70) := ⟨⟨by decide +kernel, by decide +kernel⟩, List.mem_of_getElem? (i := 1109) (by decide +kernel), List.mem_of_getElem? (i := 1330) (by decide +kernel), List.mem_of_getElem? (i := 1331) (by decide +kernel)⟩
theorem lw_p7 : lw_okq (⟨"GreyHairModel", "readAll", "()V"⟩, 70) := ⟨⟨by decide +kernel, by decide +kernel⟩, List.mem_of_getElem? (i := 1109) (by decide +kernel), List.mem_of_getElem? (i := 1342) (by decide +kernel), List.mem_of_getElem? (i := 1343) (by decide +kernel)⟩
theorem lw_p8 : lw_okq (⟨"GreyHairModel", "token", "()V"⟩, 70) := ⟨⟨by decide +kernel, by decide +kernel⟩, List.mem_of_getElem? (i := 1109) (by decide +kernel), List.mem_of_getElem? (i := 1346) (by decide +kernel), List.mem_of_getElem? (i := 1347) (by decide +kernel)⟩
theorem lw_p9 : lw_okq (⟨"GreyHairModel", "here", "(I)I"⟩, 70) := ⟨⟨by decide +kernel, by decide +kernel⟩, List.mem_of_getElem? (i := 1109) (by decide +kernel), List.mem_of_getElem? (i := 1350) (by decide +kernel), List.mem_of_getElem? (i := 1351) (by decide +kernel)⟩
theorem lw_p10 : lw_okq (⟨"GreyHairModel", "readLine", "()V"⟩, 70) := ⟨⟨by decide +kernel, by decide +kernel⟩, List.mem_of_getElem? (i := 1109) (by decide +kernel), List.mem_of_getElem? (i := 1363) (by decide +kernel), List.mem_of_getElem? (i := 1364) (by decide +kernel)⟩
theorem lw_p11 : lw_okq (⟨"GreyHairModel", "isWord", "(J)Z"⟩, 70) := ⟨⟨by decide +kernel, by decide +kernel⟩, List.mem_of_getElem? (i := 1109) (by decide +kernel), List.mem_of_getElem? (i := 1368) (by decide +kernel), List.mem_of_getElem? (i := 1369) (by decide +kernel)⟩
theorem lw_p12 : lw_okq (⟨"GreyHairModel", "readPerson", "()V"⟩, 70) := ⟨⟨by decide +kernel, by decide +kernel⟩, List.mem_of_getElem? (i := 1109) (by decide +kernel), List.mem_of_getElem? (i := 1372) (by decide +kernel), List.mem_of_getElem? (i := 1373) (by decide +kernel)⟩
theorem lw_p13 : lw_okq (⟨"GreyHairModel", "isName", "()Z"⟩, 70) := ⟨⟨by decide +kernel, by decide +kernel⟩, List.mem_of_getElem? (i := 1109) (by decide +kernel), List.mem_of_getElem? (i := 1376) (by decide +kernel), List.mem_of_getElem? (i := 1377) (by decide +kernel)⟩
theorem lw_p14 : lw_okq (⟨"GreyHairModel", "isOwn", "()Z"⟩, 70) := ⟨⟨by decide +kernel, by decide +kernel⟩, List.mem_of_getElem? (i := 1109) (by decide +kernel), List.mem_of_getElem? (i := 1380) (by decide +kernel), List.mem_of_getElem? (i := 1381) (by decide +kernel)⟩
theorem lw_p15 : lw_okq (⟨"GreyHairModel", "wrong", "(I)V"⟩, 70) := ⟨⟨by decide +kernel, by decide +kernel⟩, List.mem_of_getElem? (i := 1109) (by decide +kernel), List.mem_of_getElem? (i := 1400) (by decide +kernel), List.mem_of_getElem? (i := 1401) (by decide +kernel)⟩
def lw_privs_1 : List (MethodName × Nat) := [(⟨"GreyHair$Reader", "chain", "(LGreyHair$Formula;II)Z"⟩, 10), (⟨"GreyHair$Reader", "part", "(LGreyHair$Formula;II)Z"⟩, 10), (⟨"GreyHair$Reader", "one", "(LGreyHair$Formula;I)Z"⟩, 10), (⟨"GreyHair$Reader", "unit", "(LGreyHair$Formula;I)Z"⟩, 10), (⟨"GreyHair", "isPerson", "(I)Z"⟩, 11), (⟨"GreyHair", "areTwo", "(II)Z"⟩, 11), (⟨"GreyHairModel", "four", "(I)V"⟩, 70), (⟨"GreyHairModel", "readAll", "()V"⟩, 70), (⟨"GreyHairModel", "token", "()V"⟩, 70), (⟨"GreyHairModel", "here", "(I)I"⟩, 70), (⟨"GreyHairModel", "readLine", "()V"⟩, 70), (⟨"GreyHairModel", "isWord", "(J)Z"⟩, 70), (⟨"GreyHairModel", "readPerson", "()V"⟩, 70), (⟨"GreyHairModel", "isName", "()Z"⟩, 70), (⟨"GreyHairModel", "isOwn", "()Z"⟩, 70), (⟨"GreyHairModel", "wrong", "(I)V"⟩, 70)]
theorem lw_r1 : ∀ q ∈ lw_privs_1, lw_okq q := List.forall_mem_cons.mpr ⟨lw_p0, List.forall_mem_cons.mpr ⟨lw_p1, List.forall_mem_cons.mpr ⟨lw_p2, List.forall_mem_cons.mpr ⟨lw_p3, List.forall_mem_cons.mpr ⟨lw_p4, List.forall_mem_cons.mpr ⟨lw_p5, List.forall_mem_cons.mpr ⟨lw_p6, List.forall_mem_cons.mpr ⟨lw_p7, List.forall_mem_cons.mpr ⟨lw_p8, List.forall_mem_cons.mpr ⟨lw_p9, List.forall_mem_cons.mpr ⟨lw_p10, List.forall_mem_cons.mpr ⟨lw_p11, List.forall_mem_cons.mpr ⟨lw_p12, List.forall_mem_cons.mpr ⟨lw_p13, List.forall_mem_cons.mpr ⟨lw_p14, List.forall_mem_cons.mpr ⟨lw_p15, fun _ h => absurd h List.not_mem_nil⟩⟩⟩⟩⟩⟩⟩⟩⟩⟩⟩⟩⟩⟩⟩⟩
theorem lw_p16 : lw_okq (⟨"GreyHairModel", "find", "()I"⟩, 70) := ⟨⟨by decide +kernel, by decide +kernel⟩, List.mem_of_getElem? (i := 1109) (by decide +kernel), List.mem_of_getElem? (i := 1404) (by decide +kernel), List.mem_of_getElem? (i := 1405) (by decide +kernel)⟩
theorem lw_p17 : lw_okq (⟨"GreyHairModel", "told", "(JII)I"⟩, 70) := ⟨⟨by decide +kernel, by decide +kernel⟩, List.mem_of_getElem? (i := 1109) (by decide +kernel), List.mem_of_getElem? (i := 1408) (by decide +kernel), List.mem_of_getElem? (i := 1409) (by decide +kernel)⟩
theorem lw_p18 : lw_okq (⟨"GreyHairModel", "want", "(J)V"⟩, 70) := ⟨⟨by decide +kernel, by decide +kernel⟩, List.mem_of_getElem? (i := 1109) (by decide +kernel), List.mem_of_getElem? (i := 1412) (by decide +kernel), List.mem_of_getElem? (i := 1413) (by decide +kernel)⟩
theorem lw_p19 : lw_okq (⟨"GreyHairModel", "toldNumber", "(II)I"⟩, 70) := ⟨⟨by decide +kernel, by decide +kernel⟩, List.mem_of_getElem? (i := 1109) (by decide +kernel), List.mem_of_getElem? (i := 1416) (by decide +kernel), List.mem_of_getElem? (i := 1417) (by decide +kernel)⟩
theorem lw_p20 : lw_okq (⟨"GreyHairModel", "readKnows", "()V"⟩, 70) := ⟨⟨by decide +kernel, by decide +kernel⟩, List.mem_of_getElem? (i := 1109) (by decide +kernel), List.mem_of_getElem? (i := 1420) (by decide +kernel), List.mem_of_getElem? (i := 1421) (by decide +kernel)⟩
theorem lw_p21 : lw_okq (⟨"GreyHairModel", "oldPerson", "()I"⟩, 70) := ⟨⟨by decide +kernel, by decide +kernel⟩, List.mem_of_getElem? (i := 1109) (by decide +kernel), List.mem_of_getElem? (i := 1424) (by decide +kernel), List.mem_of_getElem? (i := 1425) (by decide +kernel)⟩
theorem lw_p22 : lw_okq (⟨"GreyHairModel", "formula", "(I)V"⟩, 70) := ⟨⟨by decide +kernel, by decide +kernel⟩, List.mem_of_getElem? (i := 1109) (by decide +kernel), List.mem_of_getElem? (i := 1428) (by decide +kernel), List.mem_of_getElem? (i := 1429) (by decide +kernel)⟩
theorem lw_p23 : lw_okq (⟨"GreyHairModel", "unit", "()V"⟩, 70) := ⟨⟨by decide +kernel, by decide +kernel⟩, List.mem_of_getElem? (i := 1109) (by decide +kernel), List.mem_of_getElem? (i := 1432) (by decide +kernel), List.mem_of_getElem? (i := 1433) (by decide +kernel)⟩
theorem lw_p24 : lw_okq (⟨"GreyHairModel", "mayNot", "()Z"⟩, 70) := ⟨⟨by decide +kernel, by decide +kernel⟩, List.mem_of_getElem? (i := 1109) (by decide +kernel), List.mem_of_getElem? (i := 1436) (by decide +kernel), List.mem_of_getElem? (i := 1437) (by decide +kernel)⟩
theorem lw_p25 : lw_okq (⟨"GreyHairModel", "openUp", "(I)V"⟩, 70) := ⟨⟨by decide +kernel, by decide +kernel⟩, List.mem_of_getElem? (i := 1109) (by decide +kernel), List.mem_of_getElem? (i := 1443) (by decide +kernel), List.mem_of_getElem? (i := 1444) (by decide +kernel)⟩
theorem lw_p26 : lw_okq (⟨"GreyHairModel", "isFull", "()Z"⟩, 70) := ⟨⟨by decide +kernel, by decide +kernel⟩, List.mem_of_getElem? (i := 1109) (by decide +kernel), List.mem_of_getElem? (i := 1447) (by decide +kernel), List.mem_of_getElem? (i := 1448) (by decide +kernel)⟩
theorem lw_p27 : lw_okq (⟨"GreyHairModel", "countUnit", "()V"⟩, 70) := ⟨⟨by decide +kernel, by decide +kernel⟩, List.mem_of_getElem? (i := 1109) (by decide +kernel), List.mem_of_getElem? (i := 1451) (by decide +kernel), List.mem_of_getElem? (i := 1452) (by decide +kernel)⟩
theorem lw_p28 : lw_okq (⟨"GreyHairModel", "asked", "()I"⟩, 70) := ⟨⟨by decide +kernel, by decide +kernel⟩, List.mem_of_getElem? (i := 1109) (by decide +kernel), List.mem_of_getElem? (i := 1455) (by decide +kernel), List.mem_of_getElem? (i := 1456) (by decide +kernel)⟩
theorem lw_p29 : lw_okq (⟨"GreyHairModel", "add", "(II)V"⟩, 70) := ⟨⟨by decide +kernel, by decide +kernel⟩, List.mem_of_getElem? (i := 1109) (by decide +kernel), List.mem_of_getElem? (i := 1459) (by decide +kernel), List.mem_of_getElem? (i := 1460) (by decide +kernel)⟩
theorem lw_p30 : lw_okq (⟨"GreyHairModel", "sign", "()I"⟩, 70) := ⟨⟨by decide +kernel, by decide +kernel⟩, List.mem_of_getElem? (i := 1109) (by decide +kernel), List.mem_of_getElem? (i := 1463) (by decide +kernel), List.mem_of_getElem? (i := 1464) (by decide +kernel)⟩
theorem lw_p31 : lw_okq (⟨"GreyHairModel", "hasBracket", "()Z"⟩, 70) := ⟨⟨by decide +kernel, by decide +kernel⟩, List.mem_of_getElem? (i := 1109) (by decide +kernel), List.mem_of_getElem? (i := 1467) (by decide +kernel), List.mem_of_getElem? (i := 1468) (by decide +kernel)⟩
def lw_privs_2 : List (MethodName × Nat) := [(⟨"GreyHairModel", "find", "()I"⟩, 70), (⟨"GreyHairModel", "told", "(JII)I"⟩, 70), (⟨"GreyHairModel", "want", "(J)V"⟩, 70), (⟨"GreyHairModel", "toldNumber", "(II)I"⟩, 70), (⟨"GreyHairModel", "readKnows", "()V"⟩, 70), (⟨"GreyHairModel", "oldPerson", "()I"⟩, 70), (⟨"GreyHairModel", "formula", "(I)V"⟩, 70), (⟨"GreyHairModel", "unit", "()V"⟩, 70), (⟨"GreyHairModel", "mayNot", "()Z"⟩, 70), (⟨"GreyHairModel", "openUp", "(I)V"⟩, 70), (⟨"GreyHairModel", "isFull", "()Z"⟩, 70), (⟨"GreyHairModel", "countUnit", "()V"⟩, 70), (⟨"GreyHairModel", "asked", "()I"⟩, 70), (⟨"GreyHairModel", "add", "(II)V"⟩, 70), (⟨"GreyHairModel", "sign", "()I"⟩, 70), (⟨"GreyHairModel", "hasBracket", "()Z"⟩, 70)]
theorem lw_r2 : ∀ q ∈ lw_privs_2, lw_okq q := List.forall_mem_cons.mpr ⟨lw_p16, List.forall_mem_cons.mpr ⟨lw_p17, List.forall_mem_cons.mpr ⟨lw_p18, List.forall_mem_cons.mpr ⟨lw_p19, List.forall_mem_cons.mpr ⟨lw_p20, List.forall_mem_cons.mpr ⟨lw_p21, List.forall_mem_cons.mpr ⟨lw_p22, List.forall_mem_cons.mpr ⟨lw_p23, List.forall_mem_cons.mpr ⟨lw_p24, List.forall_mem_cons.mpr ⟨lw_p25, List.forall_mem_cons.mpr ⟨lw_p26, List.forall_mem_cons.mpr ⟨lw_p27, List.forall_mem_cons.mpr ⟨lw_p28, List.forall_mem_cons.mpr ⟨lw_p29, List.forall_mem_cons.mpr ⟨lw_p30, List.forall_mem_cons.mpr ⟨lw_p31, fun _ h => absurd h List.not_mem_nil⟩⟩⟩⟩⟩⟩⟩⟩⟩⟩⟩⟩⟩⟩⟩⟩
theorem lw_p32 : lw_okq (⟨"GreyHairModel", "close", "(I)V"⟩, 70) := ⟨⟨by decide +kernel, by decide +kernel⟩, List.mem_of_getElem? (i := 1109) (by decide +kernel), List.mem_of_getElem? (i := 1471) (by decide +kernel), List.mem_of_getElem? (i := 1472) (by decide +kernel)⟩
theorem lw_p33 : lw_okq (⟨"GreyHairModel", "hasRelation", "()Z"⟩, 70) := ⟨⟨by decide +kernel, by decide +kernel⟩, List.mem_of_getElem? (i := 1109) (by decide +kernel), List.mem_of_getElem? (i := 1475) (by decide +kernel), List.mem_of_getElem? (i := 1476) (by decide +kernel)⟩
theorem lw_p34 : lw_okq (⟨"GreyHairModel", "begin", "()V"⟩, 70) := ⟨⟨by decide +kernel, by decide +kernel⟩, List.mem_of_getElem? (i := 1109) (by decide +kernel), List.mem_of_getElem? (i := 1479) (by decide +kernel), List.mem_of_getElem? (i := 1480) (by decide +kernel)⟩
theorem lw_p35 : lw_okq (⟨"GreyHairModel", "goHair", "(I)V"⟩, 70) := ⟨⟨by decide +kernel, by decide +kernel⟩, List.mem_of_getElem? (i := 1109) (by decide +kernel), List.mem_of_getElem? (i := 1483) (by decide +kernel), List.mem_of_getElem? (i := 1484) (by decide +kernel)⟩
theorem lw_p36 : lw_okq (⟨"GreyHairModel", "worryOf", "(I)I"⟩, 70) := ⟨⟨by decide +kernel, by decide +kernel⟩, List.mem_of_getElem? (i := 1109) (by decide +kernel), List.mem_of_getElem? (i := 1487) (by decide +kernel), List.mem_of_getElem? (i := 1488) (by decide +kernel)⟩
theorem lw_p37 : lw_okq (⟨"GreyHairModel", "knownTo", "(I)I"⟩, 70) := ⟨⟨by decide +kernel, by decide +kernel⟩, List.mem_of_getElem? (i := 1109) (by decide +kernel), List.mem_of_getElem? (i := 1491) (by decide +kernel), List.mem_of_getElem? (i := 1492) (by decide +kernel)⟩
theorem lw_p38 : lw_okq (⟨"GreyHairModel", "worked", "(III)I"⟩, 70) := ⟨⟨by decide +kernel, by decide +kernel⟩, List.mem_of_getElem? (i := 1109) (by decide +kernel), List.mem_of_getElem? (i := 1495) (by decide +kernel), List.mem_of_getElem? (i := 1496) (by decide +kernel)⟩
theorem lw_p39 : lw_okq (⟨"GreyHairModel", "keepAir", "()V"⟩, 70) := ⟨⟨by decide +kernel, by decide +kernel⟩, List.mem_of_getElem? (i := 1109) (by decide +kernel), List.mem_of_getElem? (i := 1508) (by decide +kernel), List.mem_of_getElem? (i := 1509) (by decide +kernel)⟩
theorem lw_p40 : lw_okq (⟨"GreyHairModel", "isPerson", "(I)Z"⟩, 70) := ⟨⟨by decide +kernel, by decide +kernel⟩, List.mem_of_getElem? (i := 1109) (by decide +kernel), List.mem_of_getElem? (i := 1520) (by decide +kernel), List.mem_of_getElem? (i := 1521) (by decide +kernel)⟩
theorem lw_p41 : lw_okq (⟨"GreyHairModel", "load", "()V"⟩, 70) := ⟨⟨by decide +kernel, by decide +kernel⟩, List.mem_of_getElem? (i := 1109) (by decide +kernel), List.mem_of_getElem? (i := 1527) (by decide +kernel), List.mem_of_getElem? (i := 1528) (by decide +kernel)⟩
theorem lw_p42 : lw_okq (⟨"GreyHairModel", "knownBy", "(I)I"⟩, 70) := ⟨⟨by decide +kernel, by decide +kernel⟩, List.mem_of_getElem? (i := 1109) (by decide +kernel), List.mem_of_getElem? (i := 1531) (by decide +kernel), List.mem_of_getElem? (i := 1532) (by decide +kernel)⟩
theorem lw_p43 : lw_okq (⟨"GreyHairModel", "act", "()V"⟩, 70) := ⟨⟨by decide +kernel, by decide +kernel⟩, List.mem_of_getElem? (i := 1109) (by decide +kernel), List.mem_of_getElem? (i := 1543) (by decide +kernel), List.mem_of_getElem? (i := 1544) (by decide +kernel)⟩
theorem lw_p44 : lw_okq (⟨"GreyHairModel", "goNewsDay", "()V"⟩, 70) := ⟨⟨by decide +kernel, by decide +kernel⟩, List.mem_of_getElem? (i := 1109) (by decide +kernel), List.mem_of_getElem? (i := 1547) (by decide +kernel), List.mem_of_getElem? (i := 1548) (by decide +kernel)⟩
theorem lw_p45 : lw_okq (⟨"GreyHairModel", "growAll", "()V"⟩, 70) := ⟨⟨by decide +kernel, by decide +kernel⟩, List.mem_of_getElem? (i := 1109) (by decide +kernel), List.mem_of_getElem? (i := 1551) (by decide +kernel), List.mem_of_getElem? (i := 1552) (by decide +kernel)⟩
theorem lw_p46 : lw_okq (⟨"GreyHairModel", "endDay", "()V"⟩, 70) := ⟨⟨by decide +kernel, by decide +kernel⟩, List.mem_of_getElem? (i := 1109) (by decide +kernel), List.mem_of_getElem? (i := 1555) (by decide +kernel), List.mem_of_getElem? (i := 1556) (by decide +kernel)⟩
theorem lw_p47 : lw_okq (⟨"GreyHairModel", "careBy", "(II)I"⟩, 70) := ⟨⟨by decide +kernel, by decide +kernel⟩, List.mem_of_getElem? (i := 1109) (by decide +kernel), List.mem_of_getElem? (i := 1563) (by decide +kernel), List.mem_of_getElem? (i := 1564) (by decide +kernel)⟩
def lw_privs_3 : List (MethodName × Nat) := [(⟨"GreyHairModel", "close", "(I)V"⟩, 70), (⟨"GreyHairModel", "hasRelation", "()Z"⟩, 70), (⟨"GreyHairModel", "begin", "()V"⟩, 70), (⟨"GreyHairModel", "goHair", "(I)V"⟩, 70), (⟨"GreyHairModel", "worryOf", "(I)I"⟩, 70), (⟨"GreyHairModel", "knownTo", "(I)I"⟩, 70), (⟨"GreyHairModel", "worked", "(III)I"⟩, 70), (⟨"GreyHairModel", "keepAir", "()V"⟩, 70), (⟨"GreyHairModel", "isPerson", "(I)Z"⟩, 70), (⟨"GreyHairModel", "load", "()V"⟩, 70), (⟨"GreyHairModel", "knownBy", "(I)I"⟩, 70), (⟨"GreyHairModel", "act", "()V"⟩, 70), (⟨"GreyHairModel", "goNewsDay", "()V"⟩, 70), (⟨"GreyHairModel", "growAll", "()V"⟩, 70), (⟨"GreyHairModel", "endDay", "()V"⟩, 70), (⟨"GreyHairModel", "careBy", "(II)I"⟩, 70)]
theorem lw_r3 : ∀ q ∈ lw_privs_3, lw_okq q := List.forall_mem_cons.mpr ⟨lw_p32, List.forall_mem_cons.mpr ⟨lw_p33, List.forall_mem_cons.mpr ⟨lw_p34, List.forall_mem_cons.mpr ⟨lw_p35, List.forall_mem_cons.mpr ⟨lw_p36, List.forall_mem_cons.mpr ⟨lw_p37, List.forall_mem_cons.mpr ⟨lw_p38, List.forall_mem_cons.mpr ⟨lw_p39, List.forall_mem_cons.mpr ⟨lw_p40, List.forall_mem_cons.mpr ⟨lw_p41, List.forall_mem_cons.mpr ⟨lw_p42, List.forall_mem_cons.mpr ⟨lw_p43, List.forall_mem_cons.mpr ⟨lw_p44, List.forall_mem_cons.mpr ⟨lw_p45, List.forall_mem_cons.mpr ⟨lw_p46, List.forall_mem_cons.mpr ⟨lw_p47, fun _ h => absurd h List.not_mem_nil⟩⟩⟩⟩⟩⟩⟩⟩⟩⟩⟩⟩⟩⟩⟩⟩
theorem lw_p48 : lw_okq (⟨"GreyHairModel", "areTwo", "(II)Z"⟩, 70) := ⟨⟨by decide +kernel, by decide +kernel⟩, List.mem_of_getElem? (i := 1109) (by decide +kernel), List.mem_of_getElem? (i := 1575) (by decide +kernel), List.mem_of_getElem? (i := 1576) (by decide +kernel)⟩
theorem lw_p49 : lw_okq (⟨"GreyHairModel", "isKnown", "(II)Z"⟩, 70) := ⟨⟨by decide +kernel, by decide +kernel⟩, List.mem_of_getElem? (i := 1109) (by decide +kernel), List.mem_of_getElem? (i := 1579) (by decide +kernel), List.mem_of_getElem? (i := 1580) (by decide +kernel)⟩
theorem lw_p50 : lw_okq (⟨"GreyHairModel", "allKnows", "()I"⟩, 70) := ⟨⟨by decide +kernel, by decide +kernel⟩, List.mem_of_getElem? (i := 1109) (by decide +kernel), List.mem_of_getElem? (i := 1583) (by decide +kernel), List.mem_of_getElem? (i := 1584) (by decide +kernel)⟩
theorem lw_p51 : lw_okq (⟨"GreyHairModel", "turnKnows", "(II)I"⟩, 70) := ⟨⟨by decide +kernel, by decide +kernel⟩, List.mem_of_getElem? (i := 1109) (by decide +kernel), List.mem_of_getElem? (i := 1590) (by decide +kernel), List.mem_of_getElem? (i := 1591) (by decide +kernel)⟩
theorem lw_p52 : lw_okq (⟨"GreyHairModel", "exchange", "(I)V"⟩, 70) := ⟨⟨by decide +kernel, by decide +kernel⟩, List.mem_of_getElem? (i := 1109) (by decide +kernel), List.mem_of_getElem? (i := 1610) (by decide +kernel), List.mem_of_getElem? (i := 1611) (by decide +kernel)⟩
theorem lw_p53 : lw_okq (⟨"GreyHairModel", "goFar", "(I)V"⟩, 70) := ⟨⟨by decide +kernel, by decide +kernel⟩, List.mem_of_getElem? (i := 1109) (by decide +kernel), List.mem_of_getElem? (i := 1626) (by decide +kernel), List.mem_of_getElem? (i := 1627) (by decide +kernel)⟩
theorem lw_p54 : lw_okq (⟨"GreyHairModel", "goDay", "()V"⟩, 70) := ⟨⟨by decide +kernel, by decide +kernel⟩, List.mem_of_getElem? (i := 1109) (by decide +kernel), List.mem_of_getElem? (i := 1630) (by decide +kernel), List.mem_of_getElem? (i := 1631) (by decide +kernel)⟩
theorem lw_p55 : lw_okq (⟨"GreyHairModel", "isSpared", "(II)Z"⟩, 70) := ⟨⟨by decide +kernel, by decide +kernel⟩, List.mem_of_getElem? (i := 1109) (by decide +kernel), List.mem_of_getElem? (i := 1642) (by decide +kernel), List.mem_of_getElem? (i := 1643) (by decide +kernel)⟩
theorem lw_p56 : lw_okq (⟨"GreyHairModel", "layKnows", "()I"⟩, 70) := ⟨⟨by decide +kernel, by decide +kernel⟩, List.mem_of_getElem? (i := 1109) (by decide +kernel), List.mem_of_getElem? (i := 1654) (by decide +kernel), List.mem_of_getElem? (i := 1655) (by decide +kernel)⟩
theorem lw_p57 : lw_okq (⟨"GreyHairModel", "layRow", "(I)I"⟩, 70) := ⟨⟨by decide +kernel, by decide +kernel⟩, List.mem_of_getElem? (i := 1109) (by decide +kernel), List.mem_of_getElem? (i := 1670) (by decide +kernel), List.mem_of_getElem? (i := 1671) (by decide +kernel)⟩
theorem lw_p58 : lw_okq (⟨"GreyHairModel", "shareOf", "(I)I"⟩, 70) := ⟨⟨by decide +kernel, by decide +kernel⟩, List.mem_of_getElem? (i := 1109) (by decide +kernel), List.mem_of_getElem? (i := 1711) (by decide +kernel), List.mem_of_getElem? (i := 1712) (by decide +kernel)⟩
theorem lw_p59 : lw_okq (⟨"GreyHairModel", "isRest", "(IIII)Z"⟩, 70) := ⟨⟨by decide +kernel, by decide +kernel⟩, List.mem_of_getElem? (i := 1109) (by decide +kernel), List.mem_of_getElem? (i := 1722) (by decide +kernel), List.mem_of_getElem? (i := 1723) (by decide +kernel)⟩
theorem lw_p60 : lw_okq (⟨"GreyHairModel", "layFits", "(I)I"⟩, 70) := ⟨⟨by decide +kernel, by decide +kernel⟩, List.mem_of_getElem? (i := 1109) (by decide +kernel), List.mem_of_getElem? (i := 1766) (by decide +kernel), List.mem_of_getElem? (i := 1767) (by decide +kernel)⟩
theorem lw_p61 : lw_okq (⟨"GreyHairModel", "fitsCare", "(II)Z"⟩, 70) := ⟨⟨by decide +kernel, by decide +kernel⟩, List.mem_of_getElem? (i := 1109) (by decide +kernel), List.mem_of_getElem? (i := 1770) (by decide +kernel), List.mem_of_getElem? (i := 1771) (by decide +kernel)⟩
theorem lw_p62 : lw_okq (⟨"GreyHairModel", "leftBy", "(I)I"⟩, 70) := ⟨⟨by decide +kernel, by decide +kernel⟩, List.mem_of_getElem? (i := 1109) (by decide +kernel), List.mem_of_getElem? (i := 1782) (by decide +kernel), List.mem_of_getElem? (i := 1783) (by decide +kernel)⟩
def lw_privs_4 : List (MethodName × Nat) := [(⟨"GreyHairModel", "areTwo", "(II)Z"⟩, 70), (⟨"GreyHairModel", "isKnown", "(II)Z"⟩, 70), (⟨"GreyHairModel", "allKnows", "()I"⟩, 70), (⟨"GreyHairModel", "turnKnows", "(II)I"⟩, 70), (⟨"GreyHairModel", "exchange", "(I)V"⟩, 70), (⟨"GreyHairModel", "goFar", "(I)V"⟩, 70), (⟨"GreyHairModel", "goDay", "()V"⟩, 70), (⟨"GreyHairModel", "isSpared", "(II)Z"⟩, 70), (⟨"GreyHairModel", "layKnows", "()I"⟩, 70), (⟨"GreyHairModel", "layRow", "(I)I"⟩, 70), (⟨"GreyHairModel", "shareOf", "(I)I"⟩, 70), (⟨"GreyHairModel", "isRest", "(IIII)Z"⟩, 70), (⟨"GreyHairModel", "layFits", "(I)I"⟩, 70), (⟨"GreyHairModel", "fitsCare", "(II)Z"⟩, 70), (⟨"GreyHairModel", "leftBy", "(I)I"⟩, 70)]
theorem lw_r4 : ∀ q ∈ lw_privs_4, lw_okq q := List.forall_mem_cons.mpr ⟨lw_p48, List.forall_mem_cons.mpr ⟨lw_p49, List.forall_mem_cons.mpr ⟨lw_p50, List.forall_mem_cons.mpr ⟨lw_p51, List.forall_mem_cons.mpr ⟨lw_p52, List.forall_mem_cons.mpr ⟨lw_p53, List.forall_mem_cons.mpr ⟨lw_p54, List.forall_mem_cons.mpr ⟨lw_p55, List.forall_mem_cons.mpr ⟨lw_p56, List.forall_mem_cons.mpr ⟨lw_p57, List.forall_mem_cons.mpr ⟨lw_p58, List.forall_mem_cons.mpr ⟨lw_p59, List.forall_mem_cons.mpr ⟨lw_p60, List.forall_mem_cons.mpr ⟨lw_p61, List.forall_mem_cons.mpr ⟨lw_p62, fun _ h => absurd h List.not_mem_nil⟩⟩⟩⟩⟩⟩⟩⟩⟩⟩⟩⟩⟩⟩⟩
def lw_privs : List (MethodName × Nat) := lw_privs_1 ++ (lw_privs_2 ++ (lw_privs_3 ++ (lw_privs_4)))
def lw_tbl : List Cond := k2_sels lw_privs ++ tables_1
theorem lw_privs_ok : ∀ q ∈ lw_privs, lw_okq q := by
  show ∀ q ∈ lw_privs_1 ++ (lw_privs_2 ++ (lw_privs_3 ++ (lw_privs_4))), lw_okq q
  exact List.forall_mem_append.mpr ⟨lw_r1, List.forall_mem_append.mpr ⟨lw_r2, List.forall_mem_append.mpr ⟨lw_r3, lw_r4⟩⟩⟩
def RX0 : String := "GreyHair$Boxes"
def TX0 : u_T := fun k => match k with
  | 0 => ("GreyHair$Boxes", "rows", "[I", true)
  | _ => ("GreyHair$Boxes", "isFull", "[Z", true)
def tyX0 : Nat → FieldType := fun k => match k with
  | 0 => .array .int
  | _ => .array .boolean
abbrev wsX00 : List Cond := u_ws RX0 TX0 2
theorem nmX0 : ∀ a, a < 2 → ∀ b, b < 2 → a ≠ b → (TX0 a).2.1 ≠ (TX0 b).2.1 := by decide +kernel
theorem tyX0_ok : ∀ k, k < 2 → parseFieldDescriptor (TX0 k).2.2.1 = some (tyX0 k) := by decide +kernel
abbrev cX0_init : ByteArray := prog_2_method_1_code
def yX0_init : MethodName := ⟨RX0, "<init>", "()V"⟩
abbrev cX0_clear : ByteArray := prog_2_method_2_code
def yX0_clear : MethodName := ⟨RX0, "clear", "()V"⟩
abbrev cX0_store : ByteArray := prog_2_method_3_code
def yX0_store : MethodName := ⟨RX0, "store", "(LGreyHair$State;I)Z"⟩
abbrev cX0_load : ByteArray := prog_2_method_4_code
def yX0_load : MethodName := ⟨RX0, "load", "(LGreyHair$State;I)Z"⟩
def RX1 : String := "GreyHair$Family"
def TX1 : u_T := fun k => match k with
  | 0 => ("GreyHair$Family", "names", "[J", true)
  | 1 => ("GreyHair$Family", "houses", "[I", true)
  | 2 => ("GreyHair$Family", "firstCares", "[I", true)
  | 3 => ("GreyHair$Family", "firstKnows", "[I", true)
  | 4 => ("GreyHair$Family", "chances", "[I", true)
  | 5 => ("GreyHair$Family", "amounts", "[I", true)
  | 6 => ("GreyHair$Family", "grown", "[I", true)
  | 7 => ("GreyHair$Family", "worry", "LGreyHair$Formula;", true)
  | 8 => ("GreyHair$Family", "grows", "LGreyHair$Formula;", true)
  | 9 => ("GreyHair$Family", "persons", "I", false)
  | 10 => ("GreyHair$Family", "knowsTold", "I", false)
  | 11 => ("GreyHair$Family", "newsTold", "I", false)
  | 12 => ("GreyHair$Family", "ease", "I", false)
  | 13 => ("GreyHair$Family", "draw", "I", false)
  | 14 => ("GreyHair$Family", "units", "I", false)
  | 15 => ("GreyHair$Family", "easeIsTold", "Z", false)
  | _ => ("GreyHair$Family", "drawIsTold", "Z", false)
def tyX1 : Nat → FieldType := fun k => match k with
  | 0 => .array .long
  | 1 => .array .int
  | 2 => .array .int
  | 3 => .array .int
  | 4 => .array .int
  | 5 => .array .int
  | 6 => .array .int
  | 7 => .object "GreyHair$Formula"
  | 8 => .object "GreyHair$Formula"
  | 9 => .int
  | 10 => .int
  | 11 => .int
  | 12 => .int
  | 13 => .int
  | 14 => .int
  | 15 => .boolean
  | _ => .boolean
abbrev wsX10 : List Cond := u_ws RX1 TX1 17
theorem nmX1 : ∀ a, a < 17 → ∀ b, b < 17 → a ≠ b → (TX1 a).2.1 ≠ (TX1 b).2.1 := by decide +kernel
theorem tyX1_ok : ∀ k, k < 17 → parseFieldDescriptor (TX1 k).2.2.1 = some (tyX1 k) := by decide +kernel
abbrev cX1_init : ByteArray := prog_3_method_1_code
def yX1_init : MethodName := ⟨RX1, "<init>", "()V"⟩
abbrev cX1_clear : ByteArray := prog_3_method_2_code
def yX1_clear : MethodName := ⟨RX1, "clear", "()V"⟩
abbrev cX1_hearsNews : ByteArray := prog_3_method_3_code
def yX1_hearsNews : MethodName := ⟨RX1, "hearsNews", "(I)Z"⟩
abbrev cX1_begin : ByteArray := prog_3_method_4_code
def yX1_begin : MethodName := ⟨RX1, "begin", "(LGreyHair$State;II)V"⟩
abbrev cX1_worryOf : ByteArray := prog_3_method_5_code
def yX1_worryOf : MethodName := ⟨RX1, "worryOf", "(LGreyHair$State;I)I"⟩
abbrev cX1_mostWorried : ByteArray := prog_3_method_6_code
def yX1_mostWorried : MethodName := ⟨RX1, "mostWorried", "(LGreyHair$State;I)I"⟩
abbrev cX1_grownCare : ByteArray := prog_3_method_7_code
def yX1_grownCare : MethodName := ⟨RX1, "grownCare", "(LGreyHair$State;II)I"⟩
abbrev cX1_grow : ByteArray := prog_3_method_8_code
def yX1_grow : MethodName := ⟨RX1, "grow", "(LGreyHair$State;)V"⟩
abbrev cX1_drawNews : ByteArray := prog_3_method_9_code
def yX1_drawNews : MethodName := ⟨RX1, "drawNews", "(LGreyHair$State;)I"⟩
abbrev cX1_pass : ByteArray := prog_3_method_10_code
def yX1_pass : MethodName := ⟨RX1, "pass", "(LGreyHair$State;I)V"⟩
def RX2 : String := "GreyHair$Formula"
def TX2 : u_T := fun k => match k with
  | 0 => ("GreyHair$Formula", "code", "[I", true)
  | 1 => ("GreyHair$Formula", "given", "[I", true)
  | 2 => ("GreyHair$Formula", "stack", "[I", true)
  | 3 => ("GreyHair$Formula", "length", "I", false)
  | 4 => ("GreyHair$Formula", "units", "I", false)
  | _ => ("GreyHair$Formula", "isTold", "Z", false)
def tyX2 : Nat → FieldType := fun k => match k with
  | 0 => .array .int
  | 1 => .array .int
  | 2 => .array .int
  | 3 => .int
  | 4 => .int
  | _ => .boolean
abbrev wsX20 : List Cond := u_ws RX2 TX2 6
theorem nmX2 : ∀ a, a < 6 → ∀ b, b < 6 → a ≠ b → (TX2 a).2.1 ≠ (TX2 b).2.1 := by decide +kernel
theorem tyX2_ok : ∀ k, k < 6 → parseFieldDescriptor (TX2 k).2.2.1 = some (tyX2 k) := by decide +kernel
abbrev cX2_init : ByteArray := prog_4_method_1_code
def yX2_init : MethodName := ⟨RX2, "<init>", "()V"⟩
abbrev cX2_clear : ByteArray := prog_4_method_2_code
def yX2_clear : MethodName := ⟨RX2, "clear", "()V"⟩
abbrev cX2_append : ByteArray := prog_4_method_3_code
def yX2_append : MethodName := ⟨RX2, "append", "(I)V"⟩
abbrev cX2_value : ByteArray := prog_4_method_4_code
def yX2_value : MethodName := ⟨RX2, "value", "(IIIII)I"⟩
abbrev cX2_join : ByteArray := prog_4_method_5_code
def yX2_join : MethodName := ⟨RX2, "join", "(III)I"⟩
def RX3 : String := "GreyHair$History"
def TX3 : u_T := fun k => match k with
  | 0 => ("GreyHair$History", "rows", "[I", true)
  | 1 => ("GreyHair$History", "first", "I", false)
  | 2 => ("GreyHair$History", "behind", "I", false)
  | _ => ("GreyHair$History", "last", "I", false)
def tyX3 : Nat → FieldType := fun k => match k with
  | 0 => .array .int
  | 1 => .int
  | 2 => .int
  | _ => .int
abbrev wsX30 : List Cond := u_ws RX3 TX3 4
theorem nmX3 : ∀ a, a < 4 → ∀ b, b < 4 → a ≠ b → (TX3 a).2.1 ≠ (TX3 b).2.1 := by decide +kernel
theorem tyX3_ok : ∀ k, k < 4 → parseFieldDescriptor (TX3 k).2.2.1 = some (tyX3 k) := by decide +kernel
abbrev cX3_init : ByteArray := prog_5_method_1_code
def yX3_init : MethodName := ⟨RX3, "<init>", "()V"⟩
abbrev cX3_clear : ByteArray := prog_5_method_2_code
def yX3_clear : MethodName := ⟨RX3, "clear", "()V"⟩
abbrev cX3_countAhead : ByteArray := prog_5_method_3_code
def yX3_countAhead : MethodName := ⟨RX3, "countAhead", "()I"⟩
abbrev cX3_slot : ByteArray := prog_5_method_4_code
def yX3_slot : MethodName := ⟨RX3, "slot", "()I"⟩
abbrev cX3_keep : ByteArray := prog_5_method_5_code
def yX3_keep : MethodName := ⟨RX3, "keep", "(LGreyHair$State;)V"⟩
abbrev cX3_stepBack : ByteArray := prog_5_method_6_code
def yX3_stepBack : MethodName := ⟨RX3, "stepBack", "(LGreyHair$State;)Z"⟩
abbrev cX3_stepOn : ByteArray := prog_5_method_7_code
def yX3_stepOn : MethodName := ⟨RX3, "stepOn", "(LGreyHair$State;)Z"⟩
def RX4 : String := "GreyHair$Outlook"
def TX4 : u_T := fun k => match k with
  | 0 => ("GreyHair$Outlook", "trial", "LGreyHair$State;", true)
  | 1 => ("GreyHair$Outlook", "who", "[I", true)
  | 2 => ("GreyHair$Outlook", "whom", "[I", true)
  | 3 => ("GreyHair$Outlook", "knownThen", "[I", true)
  | 4 => ("GreyHair$Outlook", "careThen", "[I", true)
  | 5 => ("GreyHair$Outlook", "winners", "[I", true)
  | 6 => ("GreyHair$Outlook", "grooms", "[I", true)
  | 7 => ("GreyHair$Outlook", "brides", "[I", true)
  | 8 => ("GreyHair$Outlook", "knowsCount", "I", false)
  | _ => ("GreyHair$Outlook", "suspect", "I", false)
def tyX4 : Nat → FieldType := fun k => match k with
  | 0 => .object "GreyHair$State"
  | 1 => .array .int
  | 2 => .array .int
  | 3 => .array .int
  | 4 => .array .int
  | 5 => .array .int
  | 6 => .array .int
  | 7 => .array .int
  | 8 => .int
  | _ => .int
abbrev wsX40 : List Cond := u_ws RX4 TX4 10
theorem nmX4 : ∀ a, a < 10 → ∀ b, b < 10 → a ≠ b → (TX4 a).2.1 ≠ (TX4 b).2.1 := by decide +kernel
theorem tyX4_ok : ∀ k, k < 10 → parseFieldDescriptor (TX4 k).2.2.1 = some (tyX4 k) := by decide +kernel
abbrev cX4_init : ByteArray := prog_6_method_1_code
def yX4_init : MethodName := ⟨RX4, "<init>", "()V"⟩
abbrev cX4_after : ByteArray := prog_6_method_2_code
def yX4_after : MethodName := ⟨RX4, "after", "(LGreyHair$Family;LGreyHair$State;II)LGreyHair$State;"⟩
abbrev cX4_findSpare : ByteArray := prog_6_method_3_code
def yX4_findSpare : MethodName := ⟨RX4, "findSpare", "(LGreyHair$Family;LGreyHair$State;III)I"⟩
abbrev cX4_isSpared : ByteArray := prog_6_method_4_code
def yX4_isSpared : MethodName := ⟨RX4, "isSpared", "(LGreyHair$Family;LGreyHair$State;IIII)Z"⟩
abbrev cX4_findEasing : ByteArray := prog_6_method_5_code
def yX4_findEasing : MethodName := ⟨RX4, "findEasing", "(LGreyHair$Family;LGreyHair$State;I)I"⟩
abbrev cX4_findHush : ByteArray := prog_6_method_6_code
def yX4_findHush : MethodName := ⟨RX4, "findHush", "(LGreyHair$Family;LGreyHair$State;)I"⟩
abbrev cX4_nextOfSameSize : ByteArray := prog_6_method_7_code
def yX4_nextOfSameSize : MethodName := ⟨RX4, "nextOfSameSize", "(I)I"⟩
abbrev cX4_listKnows : ByteArray := prog_6_method_8_code
def yX4_listKnows : MethodName := ⟨RX4, "listKnows", "(LGreyHair$State;)V"⟩
abbrev cX4_foreseeCares : ByteArray := prog_6_method_9_code
def yX4_foreseeCares : MethodName := ⟨RX4, "foreseeCares", "(LGreyHair$Family;LGreyHair$State;)V"⟩
abbrev cX4_isHushed : ByteArray := prog_6_method_10_code
def yX4_isHushed : MethodName := ⟨RX4, "isHushed", "(LGreyHair$Family;LGreyHair$State;I)Z"⟩
abbrev cX4_findWedding : ByteArray := prog_6_method_11_code
def yX4_findWedding : MethodName := ⟨RX4, "findWedding", "(LGreyHair$Family;LGreyHair$State;[I)I"⟩
abbrev cX4_listHouse : ByteArray := prog_6_method_12_code
def yX4_listHouse : MethodName := ⟨RX4, "listHouse", "(LGreyHair$Family;I[I)I"⟩
abbrev cX4_mostOfWay : ByteArray := prog_6_method_13_code
def yX4_mostOfWay : MethodName := ⟨RX4, "mostOfWay", "(LGreyHair$State;IIII)I"⟩
abbrev cX4_putWedding : ByteArray := prog_6_method_14_code
def yX4_putWedding : MethodName := ⟨RX4, "putWedding", "(LGreyHair$Family;III[I)V"⟩
abbrev cX4_countNights : ByteArray := prog_6_method_15_code
def yX4_countNights : MethodName := ⟨RX4, "countNights", "(LGreyHair$Family;LGreyHair$State;II)I"⟩
abbrev cX4_firstNight : ByteArray := prog_6_method_16_code
def yX4_firstNight : MethodName := ⟨RX4, "firstNight", "(LGreyHair$Family;LGreyHair$State;I)I"⟩
abbrev cX4_putInOrder : ByteArray := prog_6_method_17_code
def yX4_putInOrder : MethodName := ⟨RX4, "putInOrder", "(LGreyHair$Family;LGreyHair$State;[I)V"⟩
abbrev cX4_countWords : ByteArray := prog_6_method_18_code
def yX4_countWords : MethodName := ⟨RX4, "countWords", "(LGreyHair$Family;LGreyHair$State;)I"⟩
abbrev cX4_findCalm : ByteArray := prog_6_method_19_code
def yX4_findCalm : MethodName := ⟨RX4, "findCalm", "(LGreyHair$Family;LGreyHair$State;)I"⟩
abbrev cX4_findOdds : ByteArray := prog_6_method_20_code
def yX4_findOdds : MethodName := ⟨RX4, "findOdds", "(LGreyHair$Family;LGreyHair$State;II)I"⟩
abbrev cX4_weightOf : ByteArray := prog_6_method_21_code
def yX4_weightOf : MethodName := ⟨RX4, "weightOf", "(LGreyHair$Family;I)I"⟩
abbrev cX4_commonDivisor : ByteArray := prog_6_method_22_code
def yX4_commonDivisor : MethodName := ⟨RX4, "commonDivisor", "(II)I"⟩
abbrev cX4_countRests : ByteArray := prog_6_method_23_code
def yX4_countRests : MethodName := ⟨RX4, "countRests", "(LGreyHair$Family;LGreyHair$State;II[I)I"⟩
abbrev cX4_bestStake : ByteArray := prog_6_method_24_code
def yX4_bestStake : MethodName := ⟨RX4, "bestStake", "(III)I"⟩
abbrev cX4_followPath : ByteArray := prog_6_method_25_code
def yX4_followPath : MethodName := ⟨RX4, "followPath", "(LGreyHair$Family;LGreyHair$State;I[I)I"⟩
abbrev cX4_findSilence : ByteArray := prog_6_method_26_code
def yX4_findSilence : MethodName := ⟨RX4, "findSilence", "(LGreyHair$Family;LGreyHair$State;I)I"⟩
def RX5 : String := "GreyHair$Reader"
def TX5 : u_T := fun k => match k with
  | 0 => ("GreyHair$Reader", "tape", "[B", true)
  | 1 => ("GreyHair$Reader", "length", "I", false)
  | 2 => ("GreyHair$Reader", "fault", "I", false)
  | 3 => ("GreyHair$Reader", "place", "I", false)
  | 4 => ("GreyHair$Reader", "at", "I", false)
  | 5 => ("GreyHair$Reader", "kind", "I", false)
  | 6 => ("GreyHair$Reader", "start", "I", false)
  | 7 => ("GreyHair$Reader", "word", "J", false)
  | 8 => ("GreyHair$Reader", "number", "I", false)
  | _ => ("GreyHair$Reader", "sign", "C", false)
def tyX5 : Nat → FieldType := fun k => match k with
  | 0 => .array .byte
  | 1 => .int
  | 2 => .int
  | 3 => .int
  | 4 => .int
  | 5 => .int
  | 6 => .int
  | 7 => .long
  | 8 => .int
  | _ => .char
abbrev wsX50 : List Cond := u_ws RX5 TX5 10
theorem nmX5 : ∀ a, a < 10 → ∀ b, b < 10 → a ≠ b → (TX5 a).2.1 ≠ (TX5 b).2.1 := by decide +kernel
theorem tyX5_ok : ∀ k, k < 10 → parseFieldDescriptor (TX5 k).2.2.1 = some (tyX5 k) := by decide +kernel
abbrev cX5_init : ByteArray := prog_7_method_1_code
def yX5_init : MethodName := ⟨RX5, "<init>", "()V"⟩
abbrev cX5_hasRoom : ByteArray := prog_7_method_2_code
def yX5_hasRoom : MethodName := ⟨RX5, "hasRoom", "()Z"⟩
abbrev cX5_put : ByteArray := prog_7_method_3_code
def yX5_put : MethodName := ⟨RX5, "put", "(I)V"⟩
abbrev cX5_read : ByteArray := prog_7_method_4_code
def yX5_read : MethodName := ⟨RX5, "read", "(LGreyHair$Family;)Z"⟩
abbrev cX5_readLine : ByteArray := prog_7_method_5_code
def yX5_readLine : MethodName := ⟨RX5, "readLine", "(LGreyHair$Family;)Z"⟩
abbrev cX5_readPerson : ByteArray := prog_7_method_6_code
def yX5_readPerson : MethodName := ⟨RX5, "readPerson", "(LGreyHair$Family;)Z"⟩
abbrev cX5_readKnows : ByteArray := prog_7_method_7_code
def yX5_readKnows : MethodName := ⟨RX5, "readKnows", "(LGreyHair$Family;)Z"⟩
abbrev cX5_readFormula : ByteArray := prog_7_method_8_code
def yX5_readFormula : MethodName := ⟨RX5, "readFormula", "(LGreyHair$Formula;)Z"⟩
abbrev cX5_readEase : ByteArray := prog_7_method_9_code
def yX5_readEase : MethodName := ⟨RX5, "readEase", "(LGreyHair$Family;)Z"⟩
abbrev cX5_readDraw : ByteArray := prog_7_method_10_code
def yX5_readDraw : MethodName := ⟨RX5, "readDraw", "(LGreyHair$Family;)Z"⟩
abbrev cX5_chain : ByteArray := prog_7_method_11_code
def yX5_chain : MethodName := ⟨RX5, "chain", "(LGreyHair$Formula;II)Z"⟩
abbrev cX5_part : ByteArray := prog_7_method_12_code
def yX5_part : MethodName := ⟨RX5, "part", "(LGreyHair$Formula;II)Z"⟩
abbrev cX5_one : ByteArray := prog_7_method_13_code
def yX5_one : MethodName := ⟨RX5, "one", "(LGreyHair$Formula;I)Z"⟩
abbrev cX5_unit : ByteArray := prog_7_method_14_code
def yX5_unit : MethodName := ⟨RX5, "unit", "(LGreyHair$Formula;I)Z"⟩
abbrev cX5_jointAt : ByteArray := prog_7_method_15_code
def yX5_jointAt : MethodName := ⟨RX5, "jointAt", "(I)I"⟩
abbrev cX5_givenAt : ByteArray := prog_7_method_16_code
def yX5_givenAt : MethodName := ⟨RX5, "givenAt", "()I"⟩
abbrev cX5_isName : ByteArray := prog_7_method_17_code
def yX5_isName : MethodName := ⟨RX5, "isName", "()Z"⟩
abbrev cX5_findPerson : ByteArray := prog_7_method_18_code
def yX5_findPerson : MethodName := ⟨RX5, "findPerson", "(LGreyHair$Family;)I"⟩
abbrev cX5_readKnownName : ByteArray := prog_7_method_19_code
def yX5_readKnownName : MethodName := ⟨RX5, "readKnownName", "(LGreyHair$Family;)I"⟩
abbrev cX5_readNumber : ByteArray := prog_7_method_20_code
def yX5_readNumber : MethodName := ⟨RX5, "readNumber", "(JII)I"⟩
abbrev cX5_readSign : ByteArray := prog_7_method_21_code
def yX5_readSign : MethodName := ⟨RX5, "readSign", "(C)Z"⟩
abbrev cX5_isWord : ByteArray := prog_7_method_22_code
def yX5_isWord : MethodName := ⟨RX5, "isWord", "(J)Z"⟩
abbrev cX5_isSign : ByteArray := prog_7_method_23_code
def yX5_isSign : MethodName := ⟨RX5, "isSign", "(C)Z"⟩
abbrev cX5_refuse : ByteArray := prog_7_method_24_code
def yX5_refuse : MethodName := ⟨RX5, "refuse", "()Z"⟩
abbrev cX5_fail : ByteArray := prog_7_method_25_code
def yX5_fail : MethodName := ⟨RX5, "fail", "(I)Z"⟩
abbrev cX5_advance : ByteArray := prog_7_method_26_code
def yX5_advance : MethodName := ⟨RX5, "advance", "()V"⟩
abbrev cX5_scanWord : ByteArray := prog_7_method_27_code
def yX5_scanWord : MethodName := ⟨RX5, "scanWord", "()V"⟩
abbrev cX5_scanNumber : ByteArray := prog_7_method_28_code
def yX5_scanNumber : MethodName := ⟨RX5, "scanNumber", "()V"⟩
abbrev cX5_isLetter : ByteArray := prog_7_method_29_code
def yX5_isLetter : MethodName := ⟨RX5, "isLetter", "(I)Z"⟩
abbrev cX5_isDigit : ByteArray := prog_7_method_30_code
def yX5_isDigit : MethodName := ⟨RX5, "isDigit", "(I)Z"⟩
def RX6 : String := "GreyHair$Sights"
def TX6 : u_T := fun k => match k with
  | 0 => ("GreyHair$Sights", "days", "[I", true)
  | 1 => ("GreyHair$Sights", "persons", "[I", true)
  | 2 => ("GreyHair$Sights", "was", "[Z", true)
  | 3 => ("GreyHair$Sights", "toldAt", "[I", true)
  | 4 => ("GreyHair$Sights", "untoldAt", "[I", true)
  | 5 => ("GreyHair$Sights", "trial", "LGreyHair$State;", true)
  | 6 => ("GreyHair$Sights", "hairs", "[B", true)
  | 7 => ("GreyHair$Sights", "isFitting", "[Z", true)
  | 8 => ("GreyHair$Sights", "left", "[I", true)
  | 9 => ("GreyHair$Sights", "count", "I", false)
  | _ => ("GreyHair$Sights", "hairsAreMade", "Z", false)
def tyX6 : Nat → FieldType := fun k => match k with
  | 0 => .array .int
  | 1 => .array .int
  | 2 => .array .boolean
  | 3 => .array .int
  | 4 => .array .int
  | 5 => .object "GreyHair$State"
  | 6 => .array .byte
  | 7 => .array .boolean
  | 8 => .array .int
  | 9 => .int
  | _ => .boolean
abbrev wsX60 : List Cond := u_ws RX6 TX6 11
theorem nmX6 : ∀ a, a < 11 → ∀ b, b < 11 → a ≠ b → (TX6 a).2.1 ≠ (TX6 b).2.1 := by decide +kernel
theorem tyX6_ok : ∀ k, k < 11 → parseFieldDescriptor (TX6 k).2.2.1 = some (tyX6 k) := by decide +kernel
abbrev cX6_init : ByteArray := prog_8_method_1_code
def yX6_init : MethodName := ⟨RX6, "<init>", "()V"⟩
abbrev cX6_clear : ByteArray := prog_8_method_2_code
def yX6_clear : MethodName := ⟨RX6, "clear", "()V"⟩
abbrev cX6_add : ByteArray := prog_8_method_3_code
def yX6_add : MethodName := ⟨RX6, "add", "(IIZI)I"⟩
abbrev cX6_takeBack : ByteArray := prog_8_method_4_code
def yX6_takeBack : MethodName := ⟨RX6, "takeBack", "(II)Z"⟩
abbrev cX6_makeHairs : ByteArray := prog_8_method_5_code
def yX6_makeHairs : MethodName := ⟨RX6, "makeHairs", "(LGreyHair$Family;)V"⟩
abbrev cX6_countFitting : ByteArray := prog_8_method_6_code
def yX6_countFitting : MethodName := ⟨RX6, "countFitting", "(LGreyHair$Family;I)I"⟩
abbrev cX6_fitsAll : ByteArray := prog_8_method_7_code
def yX6_fitsAll : MethodName := ⟨RX6, "fitsAll", "(II)Z"⟩
abbrev cX6_counts : ByteArray := prog_8_method_8_code
def yX6_counts : MethodName := ⟨RX6, "counts", "(II)Z"⟩
abbrev cX6_leastFitting : ByteArray := prog_8_method_9_code
def yX6_leastFitting : MethodName := ⟨RX6, "leastFitting", "()I"⟩
abbrev cX6_greatestFitting : ByteArray := prog_8_method_10_code
def yX6_greatestFitting : MethodName := ⟨RX6, "greatestFitting", "()I"⟩
abbrev cX6_bestDay : ByteArray := prog_8_method_11_code
def yX6_bestDay : MethodName := ⟨RX6, "bestDay", "()I"⟩
abbrev cX6_mostLeft : ByteArray := prog_8_method_12_code
def yX6_mostLeft : MethodName := ⟨RX6, "mostLeft", "(I)I"⟩
def RX7 : String := "GreyHair$State"
def TX7 : u_T := fun k => match k with
  | 0 => ("GreyHair$State", "cares", "[I", true)
  | 1 => ("GreyHair$State", "knows", "[I", true)
  | 2 => ("GreyHair$State", "hair", "I", false)
  | 3 => ("GreyHair$State", "day", "I", false)
  | 4 => ("GreyHair$State", "seed", "I", false)
  | _ => ("GreyHair$State", "dyed", "Z", false)
def tyX7 : Nat → FieldType := fun k => match k with
  | 0 => .array .int
  | 1 => .array .int
  | 2 => .int
  | 3 => .int
  | 4 => .int
  | _ => .boolean
abbrev wsX70 : List Cond := u_ws RX7 TX7 6
theorem nmX7 : ∀ a, a < 6 → ∀ b, b < 6 → a ≠ b → (TX7 a).2.1 ≠ (TX7 b).2.1 := by decide +kernel
theorem tyX7_ok : ∀ k, k < 6 → parseFieldDescriptor (TX7 k).2.2.1 = some (tyX7 k) := by decide +kernel
abbrev cX7_init : ByteArray := prog_9_method_1_code
def yX7_init : MethodName := ⟨RX7, "<init>", "()V"⟩
abbrev cX7_copy : ByteArray := prog_9_method_2_code
def yX7_copy : MethodName := ⟨RX7, "copy", "(LGreyHair$State;)V"⟩
abbrev cX7_write : ByteArray := prog_9_method_3_code
def yX7_write : MethodName := ⟨RX7, "write", "([II)V"⟩
abbrev cX7_read : ByteArray := prog_9_method_4_code
def yX7_read : MethodName := ⟨RX7, "read", "([II)V"⟩
abbrev cX7_change : ByteArray := prog_9_method_5_code
def yX7_change : MethodName := ⟨RX7, "change", "(II)I"⟩
abbrev cX7_isKnown : ByteArray := prog_9_method_6_code
def yX7_isKnown : MethodName := ⟨RX7, "isKnown", "(II)Z"⟩
abbrev cX7_countKnows : ByteArray := prog_9_method_7_code
def yX7_countKnows : MethodName := ⟨RX7, "countKnows", "()I"⟩
abbrev cX7_knowersOf : ByteArray := prog_9_method_8_code
def yX7_knowersOf : MethodName := ⟨RX7, "knowersOf", "(I)I"⟩
abbrev cX7_sumCares : ByteArray := prog_9_method_9_code
def yX7_sumCares : MethodName := ⟨RX7, "sumCares", "()I"⟩
abbrev cX7_sumOf : ByteArray := prog_9_method_10_code
def yX7_sumOf : MethodName := ⟨RX7, "sumOf", "(I)I"⟩
abbrev cX7_holdsFast : ByteArray := prog_9_method_11_code
def yX7_holdsFast : MethodName := ⟨RX7, "holdsFast", "()Z"⟩
def RX8 : String := "GreyHair"
def TX8 : u_T := fun k => match k with
  | 0 => ("GreyHair", "reader", "LGreyHair$Reader;", true)
  | 1 => ("GreyHair", "outlook", "LGreyHair$Outlook;", true)
  | 2 => ("GreyHair", "history", "LGreyHair$History;", true)
  | 3 => ("GreyHair", "boxes", "LGreyHair$Boxes;", true)
  | 4 => ("GreyHair", "sights", "LGreyHair$Sights;", true)
  | 5 => ("GreyHair", "now", "LGreyHair$State;", true)
  | 6 => ("GreyHair", "lying", "[I", true)
  | 7 => ("GreyHair", "lyingCount", "I", false)
  | 8 => ("GreyHair", "told", "LGreyHair$Family;", false)
  | 9 => ("GreyHair", "draft", "LGreyHair$Family;", false)
  | _ => ("GreyHair", "time", "I", false)
def tyX8 : Nat → FieldType := fun k => match k with
  | 0 => .object "GreyHair$Reader"
  | 1 => .object "GreyHair$Outlook"
  | 2 => .object "GreyHair$History"
  | 3 => .object "GreyHair$Boxes"
  | 4 => .object "GreyHair$Sights"
  | 5 => .object "GreyHair$State"
  | 6 => .array .int
  | 7 => .int
  | 8 => .object "GreyHair$Family"
  | 9 => .object "GreyHair$Family"
  | _ => .int
abbrev wsX80 : List Cond := u_ws RX8 TX8 11
theorem nmX8 : ∀ a, a < 11 → ∀ b, b < 11 → a ≠ b → (TX8 a).2.1 ≠ (TX8 b).2.1 := by decide +kernel
theorem tyX8_ok : ∀ k, k < 11 → parseFieldDescriptor (TX8 k).2.2.1 = some (tyX8 k) := by decide +kernel
abbrev cX8_init : ByteArray := prog_1_method_1_code
def yX8_init : MethodName := ⟨RX8, "<init>", "()V"⟩
abbrev cX8_feed : ByteArray := prog_1_method_2_code
def yX8_feed : MethodName := ⟨RX8, "feed", "(IIIII)I"⟩
abbrev cX8_end : ByteArray := prog_1_method_3_code
def yX8_end : MethodName := ⟨RX8, "end", "(I)I"⟩
abbrev cX8_family : ByteArray := prog_1_method_4_code
def yX8_family : MethodName := ⟨RX8, "family", "()I"⟩
abbrev cX8_fault : ByteArray := prog_1_method_5_code
def yX8_fault : MethodName := ⟨RX8, "fault", "(I)I"⟩
abbrev cX8_person : ByteArray := prog_1_method_6_code
def yX8_person : MethodName := ⟨RX8, "person", "(II)I"⟩
abbrev cX8_hair : ByteArray := prog_1_method_7_code
def yX8_hair : MethodName := ⟨RX8, "hair", "()I"⟩
abbrev cX8_day : ByteArray := prog_1_method_8_code
def yX8_day : MethodName := ⟨RX8, "day", "()I"⟩
abbrev cX8_ease : ByteArray := prog_1_method_9_code
def yX8_ease : MethodName := ⟨RX8, "ease", "(II)I"⟩
abbrev cX8_take : ByteArray := prog_1_method_10_code
def yX8_take : MethodName := ⟨RX8, "take", "(II)I"⟩
abbrev cX8_tell : ByteArray := prog_1_method_11_code
def yX8_tell : MethodName := ⟨RX8, "tell", "(II)I"⟩
abbrev cX8_forget : ByteArray := prog_1_method_12_code
def yX8_forget : MethodName := ⟨RX8, "forget", "(II)I"⟩
abbrev cX8_pluck : ByteArray := prog_1_method_13_code
def yX8_pluck : MethodName := ⟨RX8, "pluck", "()I"⟩
abbrev cX8_dye : ByteArray := prog_1_method_14_code
def yX8_dye : MethodName := ⟨RX8, "dye", "()I"⟩
abbrev cX8_undo : ByteArray := prog_1_method_15_code
def yX8_undo : MethodName := ⟨RX8, "undo", "()Z"⟩
abbrev cX8_redo : ByteArray := prog_1_method_16_code
def yX8_redo : MethodName := ⟨RX8, "redo", "()Z"⟩
abbrev cX8_will : ByteArray := prog_1_method_17_code
def yX8_will : MethodName := ⟨RX8, "will", "(I)I"⟩
abbrev cX8_cares : ByteArray := prog_1_method_18_code
def yX8_cares : MethodName := ⟨RX8, "cares", "(II)I"⟩
abbrev cX8_next : ByteArray := prog_1_method_19_code
def yX8_next : MethodName := ⟨RX8, "next", "()I"⟩
abbrev cX8_spare : ByteArray := prog_1_method_20_code
def yX8_spare : MethodName := ⟨RX8, "spare", "(III)I"⟩
abbrev cX8_easing : ByteArray := prog_1_method_21_code
def yX8_easing : MethodName := ⟨RX8, "easing", "(I)I"⟩
abbrev cX8_hush : ByteArray := prog_1_method_22_code
def yX8_hush : MethodName := ⟨RX8, "hush", "(I)I"⟩
abbrev cX8_knows : ByteArray := prog_1_method_23_code
def yX8_knows : MethodName := ⟨RX8, "knows", "(II)I"⟩
abbrev cX8_wed : ByteArray := prog_1_method_24_code
def yX8_wed : MethodName := ⟨RX8, "wed", "()I"⟩
abbrev cX8_nights : ByteArray := prog_1_method_25_code
def yX8_nights : MethodName := ⟨RX8, "nights", "(II)I"⟩
abbrev cX8_returns : ByteArray := prog_1_method_26_code
def yX8_returns : MethodName := ⟨RX8, "returns", "(I)I"⟩
abbrev cX8_rank : ByteArray := prog_1_method_27_code
def yX8_rank : MethodName := ⟨RX8, "rank", "()I"⟩
abbrev cX8_words : ByteArray := prog_1_method_28_code
def yX8_words : MethodName := ⟨RX8, "words", "()I"⟩
abbrev cX8_peace : ByteArray := prog_1_method_29_code
def yX8_peace : MethodName := ⟨RX8, "peace", "()I"⟩
abbrev cX8_burden : ByteArray := prog_1_method_30_code
def yX8_burden : MethodName := ⟨RX8, "burden", "(I)I"⟩
abbrev cX8_calm : ByteArray := prog_1_method_31_code
def yX8_calm : MethodName := ⟨RX8, "calm", "()I"⟩
abbrev cX8_law : ByteArray := prog_1_method_32_code
def yX8_law : MethodName := ⟨RX8, "law", "(I)I"⟩
abbrev cX8_odds : ByteArray := prog_1_method_33_code
def yX8_odds : MethodName := ⟨RX8, "odds", "(II)I"⟩
abbrev cX8_duel : ByteArray := prog_1_method_34_code
def yX8_duel : MethodName := ⟨RX8, "duel", "(II)I"⟩
abbrev cX8_path : ByteArray := prog_1_method_35_code
def yX8_path : MethodName := ⟨RX8, "path", "(I)I"⟩
abbrev cX8_silence : ByteArray := prog_1_method_36_code
def yX8_silence : MethodName := ⟨RX8, "silence", "(II)I"⟩
abbrev cX8_alone : ByteArray := prog_1_method_37_code
def yX8_alone : MethodName := ⟨RX8, "alone", "()I"⟩
abbrev cX8_heaviest : ByteArray := prog_1_method_38_code
def yX8_heaviest : MethodName := ⟨RX8, "heaviest", "()I"⟩
abbrev cX8_lies : ByteArray := prog_1_method_39_code
def yX8_lies : MethodName := ⟨RX8, "lies", "(I)I"⟩
abbrev cX8_seen : ByteArray := prog_1_method_40_code
def yX8_seen : MethodName := ⟨RX8, "seen", "(IIZ)I"⟩
abbrev cX8_untell : ByteArray := prog_1_method_41_code
def yX8_untell : MethodName := ⟨RX8, "untell", "(I)Z"⟩
abbrev cX8_later : ByteArray := prog_1_method_42_code
def yX8_later : MethodName := ⟨RX8, "later", "(I)I"⟩
abbrev cX8_fits : ByteArray := prog_1_method_43_code
def yX8_fits : MethodName := ⟨RX8, "fits", "(I)I"⟩
abbrev cX8_sure : ByteArray := prog_1_method_44_code
def yX8_sure : MethodName := ⟨RX8, "sure", "(II)I"⟩
abbrev cX8_ask : ByteArray := prog_1_method_45_code
def yX8_ask : MethodName := ⟨RX8, "ask", "(II)I"⟩
abbrev cX8_image : ByteArray := prog_1_method_46_code
def yX8_image : MethodName := ⟨RX8, "image", "(I)I"⟩
abbrev cX8_back : ByteArray := prog_1_method_47_code
def yX8_back : MethodName := ⟨RX8, "back", "(I)I"⟩
abbrev cX8_about : ByteArray := prog_1_method_48_code
def yX8_about : MethodName := ⟨RX8, "about", "(I)I"⟩
abbrev cX8_isPerson : ByteArray := prog_1_method_49_code
def yX8_isPerson : MethodName := ⟨RX8, "isPerson", "(I)Z"⟩
abbrev cX8_areTwo : ByteArray := prog_1_method_50_code
def yX8_areTwo : MethodName := ⟨RX8, "areTwo", "(II)Z"⟩
abbrev cX8_isSomeCare : ByteArray := prog_1_method_51_code
def yX8_isSomeCare : MethodName := ⟨RX8, "isSomeCare", "(I)Z"⟩
abbrev cX8_isAhead : ByteArray := prog_1_method_52_code
def yX8_isAhead : MethodName := ⟨RX8, "isAhead", "(I)Z"⟩
abbrev cX8_isOneOfTwo : ByteArray := prog_1_method_53_code
def yX8_isOneOfTwo : MethodName := ⟨RX8, "isOneOfTwo", "(I)Z"⟩
abbrev cX8_countOrSet : ByteArray := prog_1_method_54_code
def yX8_countOrSet : MethodName := ⟨RX8, "countOrSet", "(II)I"⟩
abbrev cX8_within : ByteArray := prog_1_method_55_code
def yX8_within : MethodName := ⟨RX8, "within", "(II)I"⟩
def RX9 : String := "GreyHairModel"
def TX9 : u_T := fun k => match k with
  | 0 => ("GreyHairModel", "tape", "[I", true)
  | 1 => ("GreyHairModel", "taped", "I", false)
  | 2 => ("GreyHairModel", "fault", "I", false)
  | 3 => ("GreyHairModel", "faultPlace", "I", false)
  | 4 => ("GreyHairModel", "at", "I", false)
  | 5 => ("GreyHairModel", "size", "I", false)
  | 6 => ("GreyHairModel", "sort", "I", false)
  | 7 => ("GreyHairModel", "place", "I", false)
  | 8 => ("GreyHairModel", "number", "I", false)
  | 9 => ("GreyHairModel", "word", "J", false)
  | 10 => ("GreyHairModel", "nName", "[J", true)
  | 11 => ("GreyHairModel", "nStep", "[I", true)
  | 12 => ("GreyHairModel", "nArg", "[I", true)
  | 13 => ("GreyHairModel", "nMany", "[I", true)
  | 14 => ("GreyHairModel", "step", "[I", true)
  | 15 => ("GreyHairModel", "arg", "[I", true)
  | 16 => ("GreyHairModel", "steps", "[I", true)
  | 17 => ("GreyHairModel", "open", "[I", true)
  | 18 => ("GreyHairModel", "values", "[I", true)
  | 19 => ("GreyHairModel", "nHasForm", "[Z", true)
  | 20 => ("GreyHairModel", "form", "I", false)
  | 21 => ("GreyHairModel", "opens", "I", false)
  | 22 => ("GreyHairModel", "nUnits", "I", false)
  | 23 => ("GreyHairModel", "units", "I", false)
  | 24 => ("GreyHairModel", "ownUnits", "I", false)
  | 25 => ("GreyHairModel", "deep", "I", false)
  | 26 => ("GreyHairModel", "asks", "[I", true)
  | 27 => ("GreyHairModel", "nHouse", "[I", true)
  | 28 => ("GreyHairModel", "nCare", "[I", true)
  | 29 => ("GreyHairModel", "nOdds", "[I", true)
  | 30 => ("GreyHairModel", "nOf", "[I", true)
  | 31 => ("GreyHairModel", "nKnows", "[I", true)
  | 32 => ("GreyHairModel", "house", "[I", true)
  | 33 => ("GreyHairModel", "first", "[I", true)
  | 34 => ("GreyHairModel", "newsOdds", "[I", true)
  | 35 => ("GreyHairModel", "newsOf", "[I", true)
  | 36 => ("GreyHairModel", "firstKnows", "[I", true)
  | 37 => ("GreyHairModel", "nPersons", "I", false)
  | 38 => ("GreyHairModel", "nAllKnows", "I", false)
  | 39 => ("GreyHairModel", "nEase", "I", false)
  | 40 => ("GreyHairModel", "nDraw", "I", false)
  | 41 => ("GreyHairModel", "nNewsmen", "I", false)
  | 42 => ("GreyHairModel", "persons", "I", false)
  | 43 => ("GreyHairModel", "ease", "I", false)
  | 44 => ("GreyHairModel", "nHasEase", "Z", false)
  | 45 => ("GreyHairModel", "nHasDraw", "Z", false)
  | 46 => ("GreyHairModel", "now", "[I", true)
  | 47 => ("GreyHairModel", "air", "[I", true)
  | 48 => ("GreyHairModel", "grown", "[I", true)
  | 49 => ("GreyHairModel", "were", "[I", true)
  | 50 => ("GreyHairModel", "acts", "I", false)
  | 51 => ("GreyHairModel", "undone", "I", false)
  | 52 => ("GreyHairModel", "knower", "[I", true)
  | 53 => ("GreyHairModel", "knownOf", "[I", true)
  | 54 => ("GreyHairModel", "row", "[I", true)
  | 55 => ("GreyHairModel", "lies", "[I", true)
  | 56 => ("GreyHairModel", "lain", "I", false)
  | 57 => ("GreyHairModel", "wedMany", "I", false)
  | 58 => ("GreyHairModel", "duel", "[I", true)
  | 59 => ("GreyHairModel", "sightDay", "[I", true)
  | 60 => ("GreyHairModel", "sightOf", "[I", true)
  | 61 => ("GreyHairModel", "sightTold", "[I", true)
  | 62 => ("GreyHairModel", "sightUntold", "[I", true)
  | 63 => ("GreyHairModel", "sightIs", "[Z", true)
  | 64 => ("GreyHairModel", "sights", "I", false)
  | 65 => ("GreyHairModel", "time", "I", false)
  | 66 => ("GreyHairModel", "wasOn", "[I", true)
  | 67 => ("GreyHairModel", "isFit", "[Z", true)
  | 68 => ("GreyHairModel", "hasBox", "[Z", true)
  | _ => ("GreyHairModel", "boxes", "[I", true)
def tyX9 : Nat → FieldType := fun k => match k with
  | 0 => .array .int
  | 1 => .int
  | 2 => .int
  | 3 => .int
  | 4 => .int
  | 5 => .int
  | 6 => .int
  | 7 => .int
  | 8 => .int
  | 9 => .long
  | 10 => .array .long
  | 11 => .array .int
  | 12 => .array .int
  | 13 => .array .int
  | 14 => .array .int
  | 15 => .array .int
  | 16 => .array .int
  | 17 => .array .int
  | 18 => .array .int
  | 19 => .array .boolean
  | 20 => .int
  | 21 => .int
  | 22 => .int
  | 23 => .int
  | 24 => .int
  | 25 => .int
  | 26 => .array .int
  | 27 => .array .int
  | 28 => .array .int
  | 29 => .array .int
  | 30 => .array .int
  | 31 => .array .int
  | 32 => .array .int
  | 33 => .array .int
  | 34 => .array .int
  | 35 => .array .int
  | 36 => .array .int
  | 37 => .int
  | 38 => .int
  | 39 => .int
  | 40 => .int
  | 41 => .int
  | 42 => .int
  | 43 => .int
  | 44 => .boolean
  | 45 => .boolean
  | 46 => .array .int
  | 47 => .array .int
  | 48 => .array .int
  | 49 => .array .int
  | 50 => .int
  | 51 => .int
  | 52 => .array .int
  | 53 => .array .int
  | 54 => .array .int
  | 55 => .array .int
  | 56 => .int
  | 57 => .int
  | 58 => .array .int
  | 59 => .array .int
  | 60 => .array .int
  | 61 => .array .int
  | 62 => .array .int
  | 63 => .array .boolean
  | 64 => .int
  | 65 => .int
  | 66 => .array .int
  | 67 => .array .boolean
  | 68 => .array .boolean
  | _ => .array .int
abbrev wsX90 : List Cond := u_ws RX9 TX9 70
theorem nmX9 : ∀ a, a < 70 → ∀ b, b < 70 → a ≠ b → (TX9 a).2.1 ≠ (TX9 b).2.1 := by decide +kernel
theorem tyX9_ok : ∀ k, k < 70 → parseFieldDescriptor (TX9 k).2.2.1 = some (tyX9 k) := by decide +kernel
abbrev cX9_init : ByteArray := prog_11_method_1_code
def yX9_init : MethodName := ⟨RX9, "<init>", "()V"⟩
abbrev cX9_feed : ByteArray := prog_11_method_2_code
def yX9_feed : MethodName := ⟨RX9, "feed", "(IIIII)I"⟩
abbrev cX9_four : ByteArray := prog_11_method_3_code
def yX9_four : MethodName := ⟨RX9, "four", "(I)V"⟩
abbrev cX9_end : ByteArray := prog_11_method_4_code
def yX9_end : MethodName := ⟨RX9, "end", "(I)I"⟩
abbrev cX9_here : ByteArray := prog_11_method_5_code
def yX9_here : MethodName := ⟨RX9, "here", "(I)I"⟩
abbrev cX9_isLetter : ByteArray := prog_11_method_6_code
def yX9_isLetter : MethodName := ⟨RX9, "isLetter", "(I)Z"⟩
abbrev cX9_isDigit : ByteArray := prog_11_method_7_code
def yX9_isDigit : MethodName := ⟨RX9, "isDigit", "(I)Z"⟩
abbrev cX9_isSign : ByteArray := prog_11_method_8_code
def yX9_isSign : MethodName := ⟨RX9, "isSign", "(I)Z"⟩
abbrev cX9_token : ByteArray := prog_11_method_9_code
def yX9_token : MethodName := ⟨RX9, "token", "()V"⟩
abbrev cX9_wrong : ByteArray := prog_11_method_10_code
def yX9_wrong : MethodName := ⟨RX9, "wrong", "(I)V"⟩
abbrev cX9_isWord : ByteArray := prog_11_method_11_code
def yX9_isWord : MethodName := ⟨RX9, "isWord", "(J)Z"⟩
abbrev cX9_isOwn : ByteArray := prog_11_method_12_code
def yX9_isOwn : MethodName := ⟨RX9, "isOwn", "()Z"⟩
abbrev cX9_isName : ByteArray := prog_11_method_13_code
def yX9_isName : MethodName := ⟨RX9, "isName", "()Z"⟩
abbrev cX9_want : ByteArray := prog_11_method_14_code
def yX9_want : MethodName := ⟨RX9, "want", "(J)V"⟩
abbrev cX9_toldNumber : ByteArray := prog_11_method_15_code
def yX9_toldNumber : MethodName := ⟨RX9, "toldNumber", "(II)I"⟩
abbrev cX9_told : ByteArray := prog_11_method_16_code
def yX9_told : MethodName := ⟨RX9, "told", "(JII)I"⟩
abbrev cX9_find : ByteArray := prog_11_method_17_code
def yX9_find : MethodName := ⟨RX9, "find", "()I"⟩
abbrev cX9_oldPerson : ByteArray := prog_11_method_18_code
def yX9_oldPerson : MethodName := ⟨RX9, "oldPerson", "()I"⟩
abbrev cX9_add : ByteArray := prog_11_method_19_code
def yX9_add : MethodName := ⟨RX9, "add", "(II)V"⟩
abbrev cX9_tight : ByteArray := prog_11_method_20_code
def yX9_tight : MethodName := ⟨RX9, "tight", "(I)I"⟩
abbrev cX9_close : ByteArray := prog_11_method_21_code
def yX9_close : MethodName := ⟨RX9, "close", "(I)V"⟩
abbrev cX9_hasRelation : ByteArray := prog_11_method_22_code
def yX9_hasRelation : MethodName := ⟨RX9, "hasRelation", "()Z"⟩
abbrev cX9_mayNot : ByteArray := prog_11_method_23_code
def yX9_mayNot : MethodName := ⟨RX9, "mayNot", "()Z"⟩
abbrev cX9_asked : ByteArray := prog_11_method_24_code
def yX9_asked : MethodName := ⟨RX9, "asked", "()I"⟩
abbrev cX9_isFull : ByteArray := prog_11_method_25_code
def yX9_isFull : MethodName := ⟨RX9, "isFull", "()Z"⟩
abbrev cX9_countUnit : ByteArray := prog_11_method_26_code
def yX9_countUnit : MethodName := ⟨RX9, "countUnit", "()V"⟩
abbrev cX9_openUp : ByteArray := prog_11_method_27_code
def yX9_openUp : MethodName := ⟨RX9, "openUp", "(I)V"⟩
abbrev cX9_unit : ByteArray := prog_11_method_28_code
def yX9_unit : MethodName := ⟨RX9, "unit", "()V"⟩
abbrev cX9_sign : ByteArray := prog_11_method_29_code
def yX9_sign : MethodName := ⟨RX9, "sign", "()I"⟩
abbrev cX9_hasBracket : ByteArray := prog_11_method_30_code
def yX9_hasBracket : MethodName := ⟨RX9, "hasBracket", "()Z"⟩
abbrev cX9_formula : ByteArray := prog_11_method_31_code
def yX9_formula : MethodName := ⟨RX9, "formula", "(I)V"⟩
abbrev cX9_truth : ByteArray := prog_11_method_32_code
def yX9_truth : MethodName := ⟨RX9, "truth", "(Z)I"⟩
abbrev cX9_done : ByteArray := prog_11_method_33_code
def yX9_done : MethodName := ⟨RX9, "done", "(III)I"⟩
abbrev cX9_knownTo : ByteArray := prog_11_method_34_code
def yX9_knownTo : MethodName := ⟨RX9, "knownTo", "(I)I"⟩
abbrev cX9_worked : ByteArray := prog_11_method_35_code
def yX9_worked : MethodName := ⟨RX9, "worked", "(III)I"⟩
abbrev cX9_within : ByteArray := prog_11_method_36_code
def yX9_within : MethodName := ⟨RX9, "within", "(II)I"⟩
abbrev cX9_readPerson : ByteArray := prog_11_method_37_code
def yX9_readPerson : MethodName := ⟨RX9, "readPerson", "()V"⟩
abbrev cX9_readKnows : ByteArray := prog_11_method_38_code
def yX9_readKnows : MethodName := ⟨RX9, "readKnows", "()V"⟩
abbrev cX9_readLine : ByteArray := prog_11_method_39_code
def yX9_readLine : MethodName := ⟨RX9, "readLine", "()V"⟩
abbrev cX9_readAll : ByteArray := prog_11_method_40_code
def yX9_readAll : MethodName := ⟨RX9, "readAll", "()V"⟩
abbrev cX9_family : ByteArray := prog_11_method_41_code
def yX9_family : MethodName := ⟨RX9, "family", "()I"⟩
abbrev cX9_fault : ByteArray := prog_11_method_42_code
def yX9_fault : MethodName := ⟨RX9, "fault", "(I)I"⟩
abbrev cX9_isIn : ByteArray := prog_11_method_43_code
def yX9_isIn : MethodName := ⟨RX9, "isIn", "(III)Z"⟩
abbrev cX9_isPerson : ByteArray := prog_11_method_44_code
def yX9_isPerson : MethodName := ⟨RX9, "isPerson", "(I)Z"⟩
abbrev cX9_members : ByteArray := prog_11_method_45_code
def yX9_members : MethodName := ⟨RX9, "members", "(I)I"⟩
abbrev cX9_load : ByteArray := prog_11_method_46_code
def yX9_load : MethodName := ⟨RX9, "load", "()V"⟩
abbrev cX9_keepAir : ByteArray := prog_11_method_47_code
def yX9_keepAir : MethodName := ⟨RX9, "keepAir", "()V"⟩
abbrev cX9_begin : ByteArray := prog_11_method_48_code
def yX9_begin : MethodName := ⟨RX9, "begin", "()V"⟩
abbrev cX9_worryOf : ByteArray := prog_11_method_49_code
def yX9_worryOf : MethodName := ⟨RX9, "worryOf", "(I)I"⟩
abbrev cX9_goHair : ByteArray := prog_11_method_50_code
def yX9_goHair : MethodName := ⟨RX9, "goHair", "(I)V"⟩
abbrev cX9_growAll : ByteArray := prog_11_method_51_code
def yX9_growAll : MethodName := ⟨RX9, "growAll", "()V"⟩
abbrev cX9_endDay : ByteArray := prog_11_method_52_code
def yX9_endDay : MethodName := ⟨RX9, "endDay", "()V"⟩
abbrev cX9_goDay : ByteArray := prog_11_method_53_code
def yX9_goDay : MethodName := ⟨RX9, "goDay", "()V"⟩
abbrev cX9_goNewsDay : ByteArray := prog_11_method_54_code
def yX9_goNewsDay : MethodName := ⟨RX9, "goNewsDay", "()V"⟩
abbrev cX9_knownBy : ByteArray := prog_11_method_55_code
def yX9_knownBy : MethodName := ⟨RX9, "knownBy", "(I)I"⟩
abbrev cX9_person : ByteArray := prog_11_method_56_code
def yX9_person : MethodName := ⟨RX9, "person", "(II)I"⟩
abbrev cX9_hair : ByteArray := prog_11_method_57_code
def yX9_hair : MethodName := ⟨RX9, "hair", "()I"⟩
abbrev cX9_act : ByteArray := prog_11_method_58_code
def yX9_act : MethodName := ⟨RX9, "act", "()V"⟩
abbrev cX9_exchange : ByteArray := prog_11_method_59_code
def yX9_exchange : MethodName := ⟨RX9, "exchange", "(I)V"⟩
abbrev cX9_day : ByteArray := prog_11_method_60_code
def yX9_day : MethodName := ⟨RX9, "day", "()I"⟩
abbrev cX9_careBy : ByteArray := prog_11_method_61_code
def yX9_careBy : MethodName := ⟨RX9, "careBy", "(II)I"⟩
abbrev cX9_ease : ByteArray := prog_11_method_62_code
def yX9_ease : MethodName := ⟨RX9, "ease", "(II)I"⟩
abbrev cX9_take : ByteArray := prog_11_method_63_code
def yX9_take : MethodName := ⟨RX9, "take", "(II)I"⟩
abbrev cX9_allKnows : ByteArray := prog_11_method_64_code
def yX9_allKnows : MethodName := ⟨RX9, "allKnows", "()I"⟩
abbrev cX9_areTwo : ByteArray := prog_11_method_65_code
def yX9_areTwo : MethodName := ⟨RX9, "areTwo", "(II)Z"⟩
abbrev cX9_isKnown : ByteArray := prog_11_method_66_code
def yX9_isKnown : MethodName := ⟨RX9, "isKnown", "(II)Z"⟩
abbrev cX9_turnKnows : ByteArray := prog_11_method_67_code
def yX9_turnKnows : MethodName := ⟨RX9, "turnKnows", "(II)I"⟩
abbrev cX9_tell : ByteArray := prog_11_method_68_code
def yX9_tell : MethodName := ⟨RX9, "tell", "(II)I"⟩
abbrev cX9_forget : ByteArray := prog_11_method_69_code
def yX9_forget : MethodName := ⟨RX9, "forget", "(II)I"⟩
abbrev cX9_pluck : ByteArray := prog_11_method_70_code
def yX9_pluck : MethodName := ⟨RX9, "pluck", "()I"⟩
abbrev cX9_dye : ByteArray := prog_11_method_71_code
def yX9_dye : MethodName := ⟨RX9, "dye", "()I"⟩
abbrev cX9_undo : ByteArray := prog_11_method_72_code
def yX9_undo : MethodName := ⟨RX9, "undo", "()Z"⟩
abbrev cX9_redo : ByteArray := prog_11_method_73_code
def yX9_redo : MethodName := ⟨RX9, "redo", "()Z"⟩
abbrev cX9_goFar : ByteArray := prog_11_method_74_code
def yX9_goFar : MethodName := ⟨RX9, "goFar", "(I)V"⟩
abbrev cX9_will : ByteArray := prog_11_method_75_code
def yX9_will : MethodName := ⟨RX9, "will", "(I)I"⟩
abbrev cX9_cares : ByteArray := prog_11_method_76_code
def yX9_cares : MethodName := ⟨RX9, "cares", "(II)I"⟩
abbrev cX9_next : ByteArray := prog_11_method_77_code
def yX9_next : MethodName := ⟨RX9, "next", "()I"⟩
abbrev cX9_isSpared : ByteArray := prog_11_method_78_code
def yX9_isSpared : MethodName := ⟨RX9, "isSpared", "(II)Z"⟩
abbrev cX9_spare : ByteArray := prog_11_method_79_code
def yX9_spare : MethodName := ⟨RX9, "spare", "(III)I"⟩
abbrev cX9_easing : ByteArray := prog_11_method_80_code
def yX9_easing : MethodName := ⟨RX9, "easing", "(I)I"⟩
abbrev cX9_layKnows : ByteArray := prog_11_method_81_code
def yX9_layKnows : MethodName := ⟨RX9, "layKnows", "()I"⟩
abbrev cX9_hush : ByteArray := prog_11_method_82_code
def yX9_hush : MethodName := ⟨RX9, "hush", "(I)I"⟩
abbrev cX9_knows : ByteArray := prog_11_method_83_code
def yX9_knows : MethodName := ⟨RX9, "knows", "(II)I"⟩
abbrev cX9_power : ByteArray := prog_11_method_84_code
def yX9_power : MethodName := ⟨RX9, "power", "(II)I"⟩
abbrev cX9_layRow : ByteArray := prog_11_method_85_code
def yX9_layRow : MethodName := ⟨RX9, "layRow", "(I)I"⟩
abbrev cX9_wed : ByteArray := prog_11_method_86_code
def yX9_wed : MethodName := ⟨RX9, "wed", "()I"⟩
abbrev cX9_nights : ByteArray := prog_11_method_87_code
def yX9_nights : MethodName := ⟨RX9, "nights", "(II)I"⟩
abbrev cX9_returns : ByteArray := prog_11_method_88_code
def yX9_returns : MethodName := ⟨RX9, "returns", "(I)I"⟩
abbrev cX9_rank : ByteArray := prog_11_method_89_code
def yX9_rank : MethodName := ⟨RX9, "rank", "()I"⟩
abbrev cX9_words : ByteArray := prog_11_method_90_code
def yX9_words : MethodName := ⟨RX9, "words", "()I"⟩
abbrev cX9_peace : ByteArray := prog_11_method_91_code
def yX9_peace : MethodName := ⟨RX9, "peace", "()I"⟩
abbrev cX9_burden : ByteArray := prog_11_method_92_code
def yX9_burden : MethodName := ⟨RX9, "burden", "(I)I"⟩
abbrev cX9_calm : ByteArray := prog_11_method_93_code
def yX9_calm : MethodName := ⟨RX9, "calm", "()I"⟩
abbrev cX9_law : ByteArray := prog_11_method_94_code
def yX9_law : MethodName := ⟨RX9, "law", "(I)I"⟩
abbrev cX9_divisor : ByteArray := prog_11_method_95_code
def yX9_divisor : MethodName := ⟨RX9, "divisor", "(II)I"⟩
abbrev cX9_shareOf : ByteArray := prog_11_method_96_code
def yX9_shareOf : MethodName := ⟨RX9, "shareOf", "(I)I"⟩
abbrev cX9_odds : ByteArray := prog_11_method_97_code
def yX9_odds : MethodName := ⟨RX9, "odds", "(II)I"⟩
abbrev cX9_good : ByteArray := prog_11_method_98_code
def yX9_good : MethodName := ⟨RX9, "good", "(ZI)I"⟩
abbrev cX9_isRest : ByteArray := prog_11_method_99_code
def yX9_isRest : MethodName := ⟨RX9, "isRest", "(IIII)Z"⟩
abbrev cX9_duel : ByteArray := prog_11_method_100_code
def yX9_duel : MethodName := ⟨RX9, "duel", "(II)I"⟩
abbrev cX9_path : ByteArray := prog_11_method_101_code
def yX9_path : MethodName := ⟨RX9, "path", "(I)I"⟩
abbrev cX9_silence : ByteArray := prog_11_method_102_code
def yX9_silence : MethodName := ⟨RX9, "silence", "(II)I"⟩
abbrev cX9_alone : ByteArray := prog_11_method_103_code
def yX9_alone : MethodName := ⟨RX9, "alone", "()I"⟩
abbrev cX9_heaviest : ByteArray := prog_11_method_104_code
def yX9_heaviest : MethodName := ⟨RX9, "heaviest", "()I"⟩
abbrev cX9_lies : ByteArray := prog_11_method_105_code
def yX9_lies : MethodName := ⟨RX9, "lies", "(I)I"⟩
abbrev cX9_seen : ByteArray := prog_11_method_106_code
def yX9_seen : MethodName := ⟨RX9, "seen", "(IIZ)I"⟩
abbrev cX9_untell : ByteArray := prog_11_method_107_code
def yX9_untell : MethodName := ⟨RX9, "untell", "(I)Z"⟩
abbrev cX9_later : ByteArray := prog_11_method_108_code
def yX9_later : MethodName := ⟨RX9, "later", "(I)I"⟩
abbrev cX9_fitsCare : ByteArray := prog_11_method_109_code
def yX9_fitsCare : MethodName := ⟨RX9, "fitsCare", "(II)Z"⟩
abbrev cX9_layFits : ByteArray := prog_11_method_110_code
def yX9_layFits : MethodName := ⟨RX9, "layFits", "(I)I"⟩
abbrev cX9_fits : ByteArray := prog_11_method_111_code
def yX9_fits : MethodName := ⟨RX9, "fits", "(I)I"⟩
abbrev cX9_sure : ByteArray := prog_11_method_112_code
def yX9_sure : MethodName := ⟨RX9, "sure", "(II)I"⟩
abbrev cX9_leftBy : ByteArray := prog_11_method_113_code
def yX9_leftBy : MethodName := ⟨RX9, "leftBy", "(I)I"⟩
abbrev cX9_ask : ByteArray := prog_11_method_114_code
def yX9_ask : MethodName := ⟨RX9, "ask", "(II)I"⟩
abbrev cX9_isBox : ByteArray := prog_11_method_115_code
def yX9_isBox : MethodName := ⟨RX9, "isBox", "(I)Z"⟩
abbrev cX9_image : ByteArray := prog_11_method_116_code
def yX9_image : MethodName := ⟨RX9, "image", "(I)I"⟩
abbrev cX9_back : ByteArray := prog_11_method_117_code
def yX9_back : MethodName := ⟨RX9, "back", "(I)I"⟩
abbrev cX9_about : ByteArray := prog_11_method_118_code
def yX9_about : MethodName := ⟨RX9, "about", "(I)I"⟩
def RJ11 : String := "java/lang/Character"
abbrev cJ11_isValidCodePoint_9a6ad : ByteArray := prog_12_method_11_code
def yJ11_isValidCodePoint_9a6ad : MethodName := ⟨RJ11, "isValidCodePoint", "(I)Z"⟩
abbrev cJ11_highSurrogate_5068e : ByteArray := prog_12_method_28_code
def yJ11_highSurrogate_5068e : MethodName := ⟨RJ11, "highSurrogate", "(I)C"⟩
abbrev cJ11_lowSurrogate_5068e : ByteArray := prog_12_method_29_code
def yJ11_lowSurrogate_5068e : MethodName := ⟨RJ11, "lowSurrogate", "(I)C"⟩
def RJ6 : String := "java/lang/Integer"
abbrev cJ6_bitCount_0f7a4 : ByteArray := prog_13_method_49_code
def yJ6_bitCount_0f7a4 : MethodName := ⟨RJ6, "bitCount", "(I)I"⟩
def RJ9 : String := "java/lang/Math"
abbrev cJ9_max_7cf53 : ByteArray := prog_14_method_65_code
def yJ9_max_7cf53 : MethodName := ⟨RJ9, "max", "(II)I"⟩
abbrev cJ9_min_7cf53 : ByteArray := prog_14_method_69_code
def yJ9_min_7cf53 : MethodName := ⟨RJ9, "min", "(II)I"⟩
def RJ0 : String := "java/lang/String"
abbrev cJ0_length_8abf5 : ByteArray := prog_15_method_54_code
def yJ0_length_8abf5 : MethodName := ⟨RJ0, "length", "()I"⟩
abbrev cJ0_indexOf_0f7a4 : ByteArray := prog_15_method_79_code
def yJ0_indexOf_0f7a4 : MethodName := ⟨RJ0, "indexOf", "(I)I"⟩
abbrev cJ0_indexOf_7cf53 : ByteArray := prog_15_method_80_code
def yJ0_indexOf_7cf53 : MethodName := ⟨RJ0, "indexOf", "(II)I"⟩
abbrev cJ0_coder_7d493 : ByteArray := prog_15_method_152_code
def yJ0_coder_7d493 : MethodName := ⟨RJ0, "coder", "()B"⟩
abbrev cJ0_isLatin1_aae02 : ByteArray := prog_15_method_154_code
def yJ0_isLatin1_aae02 : MethodName := ⟨RJ0, "isLatin1", "()Z"⟩
abbrev cJ0_checkBoundsBeginEnd_23922 : ByteArray := prog_15_method_158_code
def yJ0_checkBoundsBeginEnd_23922 : MethodName := ⟨RJ0, "checkBoundsBeginEnd", "(III)V"⟩
def RJ1 : String := "java/lang/StringLatin1"
abbrev cJ1_canEncode_9a6ad : ByteArray := prog_16_method_4_code
def yJ1_canEncode_9a6ad : MethodName := ⟨RJ1, "canEncode", "(I)Z"⟩
abbrev cJ1_indexOf_4cfef : ByteArray := prog_16_method_22_code
def yJ1_indexOf_4cfef : MethodName := ⟨RJ1, "indexOf", "([BIII)I"⟩
abbrev cJ1_indexOfChar_4cfef : ByteArray := prog_16_method_23_code
def yJ1_indexOfChar_4cfef : MethodName := ⟨RJ1, "indexOfChar", "([BIII)I"⟩
def RJ2 : String := "java/lang/StringUTF16"
abbrev cJ2_getChar_3b067 : ByteArray := prog_17_method_5_code
def yJ2_getChar_3b067 : MethodName := ⟨RJ2, "getChar", "([BI)C"⟩
abbrev cJ2_length_9d52b : ByteArray := prog_17_method_6_code
def yJ2_length_9d52b : MethodName := ⟨RJ2, "length", "([B)I"⟩
abbrev cJ2_indexOf_4cfef : ByteArray := prog_17_method_40_code
def yJ2_indexOf_4cfef : MethodName := ⟨RJ2, "indexOf", "([BIII)I"⟩
abbrev cJ2_indexOfChar_4cfef : ByteArray := prog_17_method_47_code
def yJ2_indexOfChar_4cfef : MethodName := ⟨RJ2, "indexOfChar", "([BIII)I"⟩
abbrev cJ2_indexOfCharUnsafe_4cfef : ByteArray := prog_17_method_48_code
def yJ2_indexOfCharUnsafe_4cfef : MethodName := ⟨RJ2, "indexOfCharUnsafe", "([BIII)I"⟩
abbrev cJ2_indexOfSupplementary_4cfef : ByteArray := prog_17_method_49_code
def yJ2_indexOfSupplementary_4cfef : MethodName := ⟨RJ2, "indexOfSupplementary", "([BIII)I"⟩
abbrev cJ2_checkBoundsBeginEnd_d044e : ByteArray := prog_17_method_93_code
def yJ2_checkBoundsBeginEnd_d044e : MethodName := ⟨RJ2, "checkBoundsBeginEnd", "(II[B)V"⟩
def RJ3 : String := "jdk/internal/util/Preconditions"
abbrev cJ3_checkFromToIndex_8c36e : ByteArray := prog_18_method_12_code
def yJ3_checkFromToIndex_8c36e : MethodName := ⟨RJ3, "checkFromToIndex", "(IIILjava/util/function/BiFunction;)I"⟩
def RL : String := "GreyHairLaw"
abbrev cL_law : ByteArray := code
def yL_law : MethodName := ⟨RL, "law", "([I)Z"⟩
abbrev vwCl : List vw_C := [(RX0, TX0, 2), (RX1, TX1, 17), (RX2, TX2, 6), (RX3, TX3, 4), (RX4, TX4, 10), (RX5, TX5, 10), (RX6, TX6, 11), (RX7, TX7, 6), (RX8, TX8, 11), (RX9, TX9, 70)]
def ax_tb : List Cond := lw_tbl.filter goodWord
theorem ax_tb_in {w : Cond} (h : w ∈ ax_tb) : w ∈ lw_tbl := (List.mem_filter.mp h).1
theorem ax_tb_good {w : Cond} (h : w ∈ ax_tb) : goodWord w = true := (List.mem_filter.mp h).2
theorem ax_mem {w : Cond} (i : Nat) (h : lw_tbl[i]? = some w) (g : goodWord w = true) : w ∈ ax_tb := List.mem_filter.mpr ⟨List.mem_of_getElem? h, g⟩
theorem ax_inX0 : ∀ w ∈ wsX00, w ∈ ax_tb := by decide +kernel
theorem ax_inX1 : ∀ w ∈ wsX10, w ∈ ax_tb := by decide +kernel
theorem ax_inX2 : ∀ w ∈ wsX20, w ∈ ax_tb := by decide +kernel
theorem ax_inX3 : ∀ w ∈ wsX30, w ∈ ax_tb := by decide +kernel
theorem ax_inX4 : ∀ w ∈ wsX40, w ∈ ax_tb := by decide +kernel
theorem ax_inX5 : ∀ w ∈ wsX50, w ∈ ax_tb := by decide +kernel
theorem ax_inX6 : ∀ w ∈ wsX60, w ∈ ax_tb := by decide +kernel
theorem ax_inX7 : ∀ w ∈ wsX70, w ∈ ax_tb := by decide +kernel
theorem ax_inX8 : ∀ w ∈ wsX80, w ∈ ax_tb := by decide +kernel
theorem ax_inX9 : ∀ w ∈ wsX90, w ∈ ax_tb := by decide +kernel
theorem ax_s1 {w : Cond} : w ∈ tables_1_1 → w ∈ lw_tbl := fun z => List.mem_append_right _ (List.mem_append_left _ z)
theorem ax_m1 {w : Cond} (i : Nat) (h : tables_1_1[i]? = some w) (g : goodWord w = true) : w ∈ ax_tb := List.mem_filter.mpr ⟨ax_s1 (List.mem_of_getElem? h), g⟩
theorem ax_s2 {w : Cond} : w ∈ tables_1_2 → w ∈ lw_tbl := fun z => List.mem_append_right _ (List.mem_append_right _ (List.mem_append_left _ z))
theorem ax_m2 {w : Cond} (i : Nat) (h : tables_1_2[i]? = some w) (g : goodWord w = true) : w ∈ ax_tb := List.mem_filter.mpr ⟨ax_s2 (List.mem_of_getElem? h), g⟩
theorem ax_s3 {w : Cond} : w ∈ tables_1_3 → w ∈ lw_tbl := fun z => List.mem_append_right _ (List.mem_append_right _ (List.mem_append_right _ (List.mem_append_left _ z)))
theorem ax_m3 {w : Cond} (i : Nat) (h : tables_1_3[i]? = some w) (g : goodWord w = true) : w ∈ ax_tb := List.mem_filter.mpr ⟨ax_s3 (List.mem_of_getElem? h), g⟩
theorem ax_s4 {w : Cond} : w ∈ tables_1_4 → w ∈ lw_tbl := fun z => List.mem_append_right _ (List.mem_append_right _ (List.mem_append_right _ (List.mem_append_right _ (List.mem_append_left _ z))))
theorem ax_m4 {w : Cond} (i : Nat) (h : tables_1_4[i]? = some w) (g : goodWord w = true) : w ∈ ax_tb := List.mem_filter.mpr ⟨ax_s4 (List.mem_of_getElem? h), g⟩
theorem ax_s5 {w : Cond} : w ∈ tables_1_5 → w ∈ lw_tbl := fun z => List.mem_append_right _ (List.mem_append_right _ (List.mem_append_right _ (List.mem_append_right _ (List.mem_append_right _ (List.mem_append_left _ z)))))
theorem ax_m5 {w : Cond} (i : Nat) (h : tables_1_5[i]? = some w) (g : goodWord w = true) : w ∈ ax_tb := List.mem_filter.mpr ⟨ax_s5 (List.mem_of_getElem? h), g⟩
theorem ax_s6 {w : Cond} : w ∈ tables_1_6 → w ∈ lw_tbl := fun z => List.mem_append_right _ (List.mem_append_right _ (List.mem_append_right _ (List.mem_append_right _ (List.mem_append_right _ (List.mem_append_right _ (List.mem_append_left _ z))))))
theorem ax_m6 {w : Cond} (i : Nat) (h : tables_1_6[i]? = some w) (g : goodWord w = true) : w ∈ ax_tb := List.mem_filter.mpr ⟨ax_s6 (List.mem_of_getElem? h), g⟩
theorem ax_s7 {w : Cond} : w ∈ tables_1_7 → w ∈ lw_tbl := fun z => List.mem_append_right _ (List.mem_append_right _ (List.mem_append_right _ (List.mem_append_right _ (List.mem_append_right _ (List.mem_append_right _ (List.mem_append_right _ (List.mem_append_left _ z)))))))
theorem ax_m7 {w : Cond} (i : Nat) (h : tables_1_7[i]? = some w) (g : goodWord w = true) : w ∈ ax_tb := List.mem_filter.mpr ⟨ax_s7 (List.mem_of_getElem? h), g⟩
theorem ax_s8 {w : Cond} : w ∈ tables_1_8 → w ∈ lw_tbl := fun z => List.mem_append_right _ (List.mem_append_right _ (List.mem_append_right _ (List.mem_append_right _ (List.mem_append_right _ (List.mem_append_right _ (List.mem_append_right _ (List.mem_append_right _ (z))))))))
theorem ax_m8 {w : Cond} (i : Nat) (h : tables_1_8[i]? = some w) (g : goodWord w = true) : w ∈ ax_tb := List.mem_filter.mpr ⟨ax_s8 (List.mem_of_getElem? h), g⟩
theorem ax_m0 {w : Cond} (i : Nat) (h : (k2_sels lw_privs)[i]? = some w) (g : goodWord w = true) : w ∈ ax_tb := List.mem_filter.mpr ⟨List.mem_append_left _ (List.mem_of_getElem? h), g⟩
theorem ax_w4 {a b c d : Cond} (ha : a ∈ ax_tb) (hb : b ∈ ax_tb) (hc : c ∈ ax_tb) (hd : d ∈ ax_tb) : ∀ w ∈ ([a, b, c, d] : List Cond), w ∈ ax_tb := fun w h => by
  simp only [List.mem_cons, List.not_mem_nil, or_false] at h
  rcases h with rfl | rfl | rfl | rfl <;> assumption
theorem ax_w3 {a b c : Cond} (ha : a ∈ ax_tb) (hb : b ∈ ax_tb) (hc : c ∈ ax_tb) : ∀ w ∈ ([a, b, c] : List Cond), w ∈ ax_tb := fun w h => by
  simp only [List.mem_cons, List.not_mem_nil, or_false] at h
  rcases h with rfl | rfl | rfl <;> assumption
