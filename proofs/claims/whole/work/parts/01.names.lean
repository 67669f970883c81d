-- ===== PART A: goes FIRST, ahead of the names: the tables' words, and 'selects' of the private methods out of them =====
/-- a private method of a class that the tables say can be made, by its rows of tables_1 -/
def lw_okq (q : MethodName × Nat) : Prop := (q.1.cls ≠ "java/lang/invoke/MethodHandle" ∧ q.1.cls ≠ "java/lang/invoke/VarHandle") ∧ Cond.instantiable q.1.cls q.2 ∈ tables_1 ∧ Cond.privateMethod q.1 ∈ tables_1 ∧ Cond.instanceMethod q.1 ∈ tables_1
theorem lw_p0 : lw_okq (⟨"BasketCap", "putNumber", "(I)V"⟩, 19) := ⟨⟨by decide +kernel, by decide +kernel⟩, List.mem_of_getElem? (i := 25) (by decide +kernel), List.mem_of_getElem? (i := 458) (by decide +kernel), List.mem_of_getElem? (i := 459) (by decide +kernel)⟩
theorem lw_p1 : lw_okq (⟨"BasketCap", "refuse", "(I)I"⟩, 19) := ⟨⟨by decide +kernel, by decide +kernel⟩, List.mem_of_getElem? (i := 25) (by decide +kernel), List.mem_of_getElem? (i := 466) (by decide +kernel), List.mem_of_getElem? (i := 467) (by decide +kernel)⟩
theorem lw_p2 : lw_okq (⟨"BasketCap", "beginText", "()V"⟩, 19) := ⟨⟨by decide +kernel, by decide +kernel⟩, List.mem_of_getElem? (i := 25) (by decide +kernel), List.mem_of_getElem? (i := 612) (by decide +kernel), List.mem_of_getElem? (i := 613) (by decide +kernel)⟩
theorem lw_p3 : lw_okq (⟨"BasketCap", "forgetAll", "()V"⟩, 19) := ⟨⟨by decide +kernel, by decide +kernel⟩, List.mem_of_getElem? (i := 25) (by decide +kernel), List.mem_of_getElem? (i := 639) (by decide +kernel), List.mem_of_getElem? (i := 640) (by decide +kernel)⟩
theorem lw_p4 : lw_okq (⟨"BasketCap", "answer", "(I)I"⟩, 19) := ⟨⟨by decide +kernel, by decide +kernel⟩, List.mem_of_getElem? (i := 25) (by decide +kernel), List.mem_of_getElem? (i := 655) (by decide +kernel), List.mem_of_getElem? (i := 656) (by decide +kernel)⟩
theorem lw_p5 : lw_okq (⟨"BasketCap", "noService", "(I)Z"⟩, 19) := ⟨⟨by decide +kernel, by decide +kernel⟩, List.mem_of_getElem? (i := 25) (by decide +kernel), List.mem_of_getElem? (i := 733) (by decide +kernel), List.mem_of_getElem? (i := 734) (by decide +kernel)⟩
theorem lw_p6 : lw_okq (⟨"BasketCap", "fromTable", "([III)I"⟩, 19) := ⟨⟨by decide +kernel, by decide +kernel⟩, List.mem_of_getElem? (i := 25) (by decide +kernel), List.mem_of_getElem? (i := 755) (by decide +kernel), List.mem_of_getElem? (i := 756) (by decide +kernel)⟩
theorem lw_p7 : lw_okq (⟨"BasketCap", "worthOf", "(LBasketCap$Row;)I"⟩, 19) := ⟨⟨by decide +kernel, by decide +kernel⟩, List.mem_of_getElem? (i := 25) (by decide +kernel), List.mem_of_getElem? (i := 854) (by decide +kernel), List.mem_of_getElem? (i := 855) (by decide +kernel)⟩
theorem lw_p8 : lw_okq (⟨"BasketCap", "priceIn", "(LBasketCap$Row;I)I"⟩, 19) := ⟨⟨by decide +kernel, by decide +kernel⟩, List.mem_of_getElem? (i := 25) (by decide +kernel), List.mem_of_getElem? (i := 862) (by decide +kernel), List.mem_of_getElem? (i := 863) (by decide +kernel)⟩
theorem lw_p9 : lw_okq (⟨"BasketCap", "noBuyer", "(I)Z"⟩, 19) := ⟨⟨by decide +kernel, by decide +kernel⟩, List.mem_of_getElem? (i := 25) (by decide +kernel), List.mem_of_getElem? (i := 960) (by decide +kernel), List.mem_of_getElem? (i := 961) (by decide +kernel)⟩
theorem lw_p10 : lw_okq (⟨"BasketCap", "burdenMore", "(I)I"⟩, 19) := ⟨⟨by decide +kernel, by decide +kernel⟩, List.mem_of_getElem? (i := 25) (by decide +kernel), List.mem_of_getElem? (i := 980) (by decide +kernel), List.mem_of_getElem? (i := 981) (by decide +kernel)⟩
theorem lw_p11 : lw_okq (⟨"BasketCap", "lowestTerms", "(III)I"⟩, 19) := ⟨⟨by decide +kernel, by decide +kernel⟩, List.mem_of_getElem? (i := 25) (by decide +kernel), List.mem_of_getElem? (i := 1025) (by decide +kernel), List.mem_of_getElem? (i := 1026) (by decide +kernel)⟩
theorem lw_p12 : lw_okq (⟨"BasketCap", "putWritten", "(I)V"⟩, 19) := ⟨⟨by decide +kernel, by decide +kernel⟩, List.mem_of_getElem? (i := 25) (by decide +kernel), List.mem_of_getElem? (i := 1077) (by decide +kernel), List.mem_of_getElem? (i := 1078) (by decide +kernel)⟩
theorem lw_p13 : lw_okq (⟨"BasketCap", "forgetFresh", "()V"⟩, 19) := ⟨⟨by decide +kernel, by decide +kernel⟩, List.mem_of_getElem? (i := 25) (by decide +kernel), List.mem_of_getElem? (i := 1091) (by decide +kernel), List.mem_of_getElem? (i := 1092) (by decide +kernel)⟩
theorem lw_p14 : lw_okq (⟨"java/lang/Throwable", "fillInStackTrace", "(I)Ljava/lang/Throwable;"⟩, 6) := ⟨⟨by decide +kernel, by decide +kernel⟩, List.mem_of_getElem? (i := 1212) (by decide +kernel), List.mem_of_getElem? (i := 1210) (by decide +kernel), List.mem_of_getElem? (i := 1211) (by decide +kernel)⟩
theorem lw_p15 : lw_okq (⟨"BasketCapModel", "refused", "(I)I"⟩, 51) := ⟨⟨by decide +kernel, by decide +kernel⟩, List.mem_of_getElem? (i := 1252) (by decide +kernel), List.mem_of_getElem? (i := 1436) (by decide +kernel), List.mem_of_getElem? (i := 1437) (by decide +kernel)⟩
def lw_privs_1 : List (MethodName × Nat) := [(⟨"BasketCap", "putNumber", "(I)V"⟩, 19), (⟨"BasketCap", "refuse", "(I)I"⟩, 19), (⟨"BasketCap", "beginText", "()V"⟩, 19), (⟨"BasketCap", "forgetAll", "()V"⟩, 19), (⟨"BasketCap", "answer", "(I)I"⟩, 19), (⟨"BasketCap", "noService", "(I)Z"⟩, 19), (⟨"BasketCap", "fromTable", "([III)I"⟩, 19), (⟨"BasketCap", "worthOf", "(LBasketCap$Row;)I"⟩, 19), (⟨"BasketCap", "priceIn", "(LBasketCap$Row;I)I"⟩, 19), (⟨"BasketCap", "noBuyer", "(I)Z"⟩, 19), (⟨"BasketCap", "burdenMore", "(I)I"⟩, 19), (⟨"BasketCap", "lowestTerms", "(III)I"⟩, 19), (⟨"BasketCap", "putWritten", "(I)V"⟩, 19), (⟨"BasketCap", "forgetFresh", "()V"⟩, 19), (⟨"java/lang/Throwable", "fillInStackTrace", "(I)Ljava/lang/Throwable;"⟩, 6), (⟨"BasketCapModel", "refused", "(I)I"⟩, 51)]
theorem lw_r1 : ∀ q ∈ lw_privs_1, lw_okq q := List.forall_mem_cons.mpr ⟨lw_p0, List.forall_mem_cons.mpr ⟨lw_p1, List.forall_mem_cons.mpr ⟨lw_p2, List.forall_mem_cons.mpr ⟨lw_p3, List.forall_mem_cons.mpr ⟨lw_p4, List.forall_mem_cons.mpr ⟨lw_p5, List.forall_mem_cons.mpr ⟨lw_p6, List.forall_mem_cons.mpr ⟨lw_p7, List.forall_mem_cons.mpr ⟨lw_p8, List.forall_mem_cons.mpr ⟨lw_p9, List.forall_mem_cons.mpr ⟨lw_p10, List.forall_mem_cons.mpr ⟨lw_p11, List.forall_mem_cons.mpr ⟨lw_p12, List.forall_mem_cons.mpr ⟨lw_p13, List.forall_mem_cons.mpr ⟨lw_p14, List.forall_mem_cons.mpr ⟨lw_p15, fun _ h => absurd h List.not_mem_nil⟩⟩⟩⟩⟩⟩⟩⟩⟩⟩⟩⟩⟩⟩⟩⟩
theorem lw_p16 : lw_okq (⟨"BasketCapModel", "goOn", "()V"⟩, 51) := ⟨⟨by decide +kernel, by decide +kernel⟩, List.mem_of_getElem? (i := 1252) (by decide +kernel), List.mem_of_getElem? (i := 1440) (by decide +kernel), List.mem_of_getElem? (i := 1441) (by decide +kernel)⟩
theorem lw_p17 : lw_okq (⟨"BasketCapModel", "isLetterAt", "(I)Z"⟩, 51) := ⟨⟨by decide +kernel, by decide +kernel⟩, List.mem_of_getElem? (i := 1252) (by decide +kernel), List.mem_of_getElem? (i := 1444) (by decide +kernel), List.mem_of_getElem? (i := 1445) (by decide +kernel)⟩
theorem lw_p18 : lw_okq (⟨"BasketCapModel", "isDigitAt", "(I)Z"⟩, 51) := ⟨⟨by decide +kernel, by decide +kernel⟩, List.mem_of_getElem? (i := 1252) (by decide +kernel), List.mem_of_getElem? (i := 1450) (by decide +kernel), List.mem_of_getElem? (i := 1451) (by decide +kernel)⟩
theorem lw_p19 : lw_okq (⟨"BasketCapModel", "readLine", "()V"⟩, 51) := ⟨⟨by decide +kernel, by decide +kernel⟩, List.mem_of_getElem? (i := 1252) (by decide +kernel), List.mem_of_getElem? (i := 1454) (by decide +kernel), List.mem_of_getElem? (i := 1455) (by decide +kernel)⟩
theorem lw_p20 : lw_okq (⟨"BasketCapModel", "isWord", "(Ljava/lang/String;)Z"⟩, 51) := ⟨⟨by decide +kernel, by decide +kernel⟩, List.mem_of_getElem? (i := 1252) (by decide +kernel), List.mem_of_getElem? (i := 1459) (by decide +kernel), List.mem_of_getElem? (i := 1460) (by decide +kernel)⟩
theorem lw_p21 : lw_okq (⟨"BasketCapModel", "readService", "()V"⟩, 51) := ⟨⟨by decide +kernel, by decide +kernel⟩, List.mem_of_getElem? (i := 1252) (by decide +kernel), List.mem_of_getElem? (i := 1468) (by decide +kernel), List.mem_of_getElem? (i := 1469) (by decide +kernel)⟩
theorem lw_p22 : lw_okq (⟨"BasketCapModel", "flaw", "(I)V"⟩, 51) := ⟨⟨by decide +kernel, by decide +kernel⟩, List.mem_of_getElem? (i := 1252) (by decide +kernel), List.mem_of_getElem? (i := 1472) (by decide +kernel), List.mem_of_getElem? (i := 1473) (by decide +kernel)⟩
theorem lw_p23 : lw_okq (⟨"BasketCapModel", "readName", "(I)V"⟩, 51) := ⟨⟨by decide +kernel, by decide +kernel⟩, List.mem_of_getElem? (i := 1252) (by decide +kernel), List.mem_of_getElem? (i := 1476) (by decide +kernel), List.mem_of_getElem? (i := 1477) (by decide +kernel)⟩
theorem lw_p24 : lw_okq (⟨"BasketCapModel", "isOwn", "()Z"⟩, 51) := ⟨⟨by decide +kernel, by decide +kernel⟩, List.mem_of_getElem? (i := 1252) (by decide +kernel), List.mem_of_getElem? (i := 1480) (by decide +kernel), List.mem_of_getElem? (i := 1481) (by decide +kernel)⟩
theorem lw_p25 : lw_okq (⟨"BasketCapModel", "readTold", "(Ljava/lang/String;II)I"⟩, 51) := ⟨⟨by decide +kernel, by decide +kernel⟩, List.mem_of_getElem? (i := 1252) (by decide +kernel), List.mem_of_getElem? (i := 1495) (by decide +kernel), List.mem_of_getElem? (i := 1496) (by decide +kernel)⟩
theorem lw_p26 : lw_okq (⟨"BasketCapModel", "needs", "(Ljava/lang/String;)V"⟩, 51) := ⟨⟨by decide +kernel, by decide +kernel⟩, List.mem_of_getElem? (i := 1252) (by decide +kernel), List.mem_of_getElem? (i := 1499) (by decide +kernel), List.mem_of_getElem? (i := 1500) (by decide +kernel)⟩
theorem lw_p27 : lw_okq (⟨"BasketCapModel", "readWhole", "(II)I"⟩, 51) := ⟨⟨by decide +kernel, by decide +kernel⟩, List.mem_of_getElem? (i := 1252) (by decide +kernel), List.mem_of_getElem? (i := 1503) (by decide +kernel), List.mem_of_getElem? (i := 1504) (by decide +kernel)⟩
theorem lw_p28 : lw_okq (⟨"BasketCapModel", "readBuyer", "()V"⟩, 51) := ⟨⟨by decide +kernel, by decide +kernel⟩, List.mem_of_getElem? (i := 1252) (by decide +kernel), List.mem_of_getElem? (i := 1507) (by decide +kernel), List.mem_of_getElem? (i := 1508) (by decide +kernel)⟩
theorem lw_p29 : lw_okq (⟨"BasketCapModel", "isSign", "(I)Z"⟩, 51) := ⟨⟨by decide +kernel, by decide +kernel⟩, List.mem_of_getElem? (i := 1252) (by decide +kernel), List.mem_of_getElem? (i := 1511) (by decide +kernel), List.mem_of_getElem? (i := 1512) (by decide +kernel)⟩
theorem lw_p30 : lw_okq (⟨"BasketCapModel", "readRule", "(I)V"⟩, 51) := ⟨⟨by decide +kernel, by decide +kernel⟩, List.mem_of_getElem? (i := 1252) (by decide +kernel), List.mem_of_getElem? (i := 1515) (by decide +kernel), List.mem_of_getElem? (i := 1516) (by decide +kernel)⟩
theorem lw_p31 : lw_okq (⟨"BasketCapModel", "tells", "(I)I"⟩, 51) := ⟨⟨by decide +kernel, by decide +kernel⟩, List.mem_of_getElem? (i := 1252) (by decide +kernel), List.mem_of_getElem? (i := 1519) (by decide +kernel), List.mem_of_getElem? (i := 1520) (by decide +kernel)⟩
def lw_privs_2 : List (MethodName × Nat) := [(⟨"BasketCapModel", "goOn", "()V"⟩, 51), (⟨"BasketCapModel", "isLetterAt", "(I)Z"⟩, 51), (⟨"BasketCapModel", "isDigitAt", "(I)Z"⟩, 51), (⟨"BasketCapModel", "readLine", "()V"⟩, 51), (⟨"BasketCapModel", "isWord", "(Ljava/lang/String;)Z"⟩, 51), (⟨"BasketCapModel", "readService", "()V"⟩, 51), (⟨"BasketCapModel", "flaw", "(I)V"⟩, 51), (⟨"BasketCapModel", "readName", "(I)V"⟩, 51), (⟨"BasketCapModel", "isOwn", "()Z"⟩, 51), (⟨"BasketCapModel", "readTold", "(Ljava/lang/String;II)I"⟩, 51), (⟨"BasketCapModel", "needs", "(Ljava/lang/String;)V"⟩, 51), (⟨"BasketCapModel", "readWhole", "(II)I"⟩, 51), (⟨"BasketCapModel", "readBuyer", "()V"⟩, 51), (⟨"BasketCapModel", "isSign", "(I)Z"⟩, 51), (⟨"BasketCapModel", "readRule", "(I)V"⟩, 51), (⟨"BasketCapModel", "tells", "(I)I"⟩, 51)]
theorem lw_r2 : ∀ q ∈ lw_privs_2, lw_okq q := List.forall_mem_cons.mpr ⟨lw_p16, List.forall_mem_cons.mpr ⟨lw_p17, List.forall_mem_cons.mpr ⟨lw_p18, List.forall_mem_cons.mpr ⟨lw_p19, List.forall_mem_cons.mpr ⟨lw_p20, List.forall_mem_cons.mpr ⟨lw_p21, List.forall_mem_cons.mpr ⟨lw_p22, List.forall_mem_cons.mpr ⟨lw_p23, List.forall_mem_cons.mpr ⟨lw_p24, List.forall_mem_cons.mpr ⟨lw_p25, List.forall_mem_cons.mpr ⟨lw_p26, List.forall_mem_cons.mpr ⟨lw_p27, List.forall_mem_cons.mpr ⟨lw_p28, List.forall_mem_cons.mpr ⟨lw_p29, List.forall_mem_cons.mpr ⟨lw_p30, List.forall_mem_cons.mpr ⟨lw_p31, fun _ h => absurd h List.not_mem_nil⟩⟩⟩⟩⟩⟩⟩⟩⟩⟩⟩⟩⟩⟩⟩⟩
theorem lw_p32 : lw_okq (⟨"BasketCapModel", "weight", "(I)I"⟩, 51) := ⟨⟨by decide +kernel, by decide +kernel⟩, List.mem_of_getElem? (i := 1252) (by decide +kernel), List.mem_of_getElem? (i := 1527) (by decide +kernel), List.mem_of_getElem? (i := 1528) (by decide +kernel)⟩
theorem lw_p33 : lw_okq (⟨"BasketCapModel", "of", "(II)I"⟩, 51) := ⟨⟨by decide +kernel, by decide +kernel⟩, List.mem_of_getElem? (i := 1252) (by decide +kernel), List.mem_of_getElem? (i := 1531) (by decide +kernel), List.mem_of_getElem? (i := 1532) (by decide +kernel)⟩
theorem lw_p34 : lw_okq (⟨"BasketCapModel", "boughtAt", "(II)I"⟩, 51) := ⟨⟨by decide +kernel, by decide +kernel⟩, List.mem_of_getElem? (i := 1252) (by decide +kernel), List.mem_of_getElem? (i := 1535) (by decide +kernel), List.mem_of_getElem? (i := 1536) (by decide +kernel)⟩
theorem lw_p35 : lw_okq (⟨"BasketCapModel", "rate", "()I"⟩, 51) := ⟨⟨by decide +kernel, by decide +kernel⟩, List.mem_of_getElem? (i := 1252) (by decide +kernel), List.mem_of_getElem? (i := 1539) (by decide +kernel), List.mem_of_getElem? (i := 1540) (by decide +kernel)⟩
theorem lw_p36 : lw_okq (⟨"BasketCapModel", "base", "()I"⟩, 51) := ⟨⟨by decide +kernel, by decide +kernel⟩, List.mem_of_getElem? (i := 1252) (by decide +kernel), List.mem_of_getElem? (i := 1543) (by decide +kernel), List.mem_of_getElem? (i := 1544) (by decide +kernel)⟩
theorem lw_p37 : lw_okq (⟨"BasketCapModel", "dues", "()I"⟩, 51) := ⟨⟨by decide +kernel, by decide +kernel⟩, List.mem_of_getElem? (i := 1252) (by decide +kernel), List.mem_of_getElem? (i := 1547) (by decide +kernel), List.mem_of_getElem? (i := 1548) (by decide +kernel)⟩
theorem lw_p38 : lw_okq (⟨"BasketCapModel", "allowed", "()I"⟩, 51) := ⟨⟨by decide +kernel, by decide +kernel⟩, List.mem_of_getElem? (i := 1252) (by decide +kernel), List.mem_of_getElem? (i := 1551) (by decide +kernel), List.mem_of_getElem? (i := 1552) (by decide +kernel)⟩
theorem lw_p39 : lw_okq (⟨"BasketCapModel", "spent", "()I"⟩, 51) := ⟨⟨by decide +kernel, by decide +kernel⟩, List.mem_of_getElem? (i := 1252) (by decide +kernel), List.mem_of_getElem? (i := 1555) (by decide +kernel), List.mem_of_getElem? (i := 1556) (by decide +kernel)⟩
theorem lw_p40 : lw_okq (⟨"BasketCapModel", "isKept", "()Z"⟩, 51) := ⟨⟨by decide +kernel, by decide +kernel⟩, List.mem_of_getElem? (i := 1252) (by decide +kernel), List.mem_of_getElem? (i := 1559) (by decide +kernel), List.mem_of_getElem? (i := 1560) (by decide +kernel)⟩
theorem lw_p41 : lw_okq (⟨"BasketCapModel", "off", "(I)I"⟩, 51) := ⟨⟨by decide +kernel, by decide +kernel⟩, List.mem_of_getElem? (i := 1252) (by decide +kernel), List.mem_of_getElem? (i := 1563) (by decide +kernel), List.mem_of_getElem? (i := 1564) (by decide +kernel)⟩
theorem lw_p42 : lw_okq (⟨"BasketCapModel", "isService", "(I)Z"⟩, 51) := ⟨⟨by decide +kernel, by decide +kernel⟩, List.mem_of_getElem? (i := 1252) (by decide +kernel), List.mem_of_getElem? (i := 1571) (by decide +kernel), List.mem_of_getElem? (i := 1572) (by decide +kernel)⟩
theorem lw_p43 : lw_okq (⟨"BasketCapModel", "profitAt", "(II)I"⟩, 51) := ⟨⟨by decide +kernel, by decide +kernel⟩, List.mem_of_getElem? (i := 1252) (by decide +kernel), List.mem_of_getElem? (i := 1594) (by decide +kernel), List.mem_of_getElem? (i := 1595) (by decide +kernel)⟩
theorem lw_p44 : lw_okq (⟨"BasketCapModel", "goodAt", "(II)I"⟩, 51) := ⟨⟨by decide +kernel, by decide +kernel⟩, List.mem_of_getElem? (i := 1252) (by decide +kernel), List.mem_of_getElem? (i := 1602) (by decide +kernel), List.mem_of_getElem? (i := 1603) (by decide +kernel)⟩
theorem lw_p45 : lw_okq (⟨"BasketCapModel", "isKeptBy", "(II)Z"⟩, 51) := ⟨⟨by decide +kernel, by decide +kernel⟩, List.mem_of_getElem? (i := 1252) (by decide +kernel), List.mem_of_getElem? (i := 1610) (by decide +kernel), List.mem_of_getElem? (i := 1611) (by decide +kernel)⟩
theorem lw_p46 : lw_okq (⟨"BasketCapModel", "findsGentle", "()I"⟩, 51) := ⟨⟨by decide +kernel, by decide +kernel⟩, List.mem_of_getElem? (i := 1252) (by decide +kernel), List.mem_of_getElem? (i := 1626) (by decide +kernel), List.mem_of_getElem? (i := 1627) (by decide +kernel)⟩
theorem lw_p47 : lw_okq (⟨"BasketCapModel", "finds", "(Z)I"⟩, 51) := ⟨⟨by decide +kernel, by decide +kernel⟩, List.mem_of_getElem? (i := 1252) (by decide +kernel), List.mem_of_getElem? (i := 1630) (by decide +kernel), List.mem_of_getElem? (i := 1631) (by decide +kernel)⟩
def lw_privs_3 : List (MethodName × Nat) := [(⟨"BasketCapModel", "weight", "(I)I"⟩, 51), (⟨"BasketCapModel", "of", "(II)I"⟩, 51), (⟨"BasketCapModel", "boughtAt", "(II)I"⟩, 51), (⟨"BasketCapModel", "rate", "()I"⟩, 51), (⟨"BasketCapModel", "base", "()I"⟩, 51), (⟨"BasketCapModel", "dues", "()I"⟩, 51), (⟨"BasketCapModel", "allowed", "()I"⟩, 51), (⟨"BasketCapModel", "spent", "()I"⟩, 51), (⟨"BasketCapModel", "isKept", "()Z"⟩, 51), (⟨"BasketCapModel", "off", "(I)I"⟩, 51), (⟨"BasketCapModel", "isService", "(I)Z"⟩, 51), (⟨"BasketCapModel", "profitAt", "(II)I"⟩, 51), (⟨"BasketCapModel", "goodAt", "(II)I"⟩, 51), (⟨"BasketCapModel", "isKeptBy", "(II)Z"⟩, 51), (⟨"BasketCapModel", "findsGentle", "()I"⟩, 51), (⟨"BasketCapModel", "finds", "(Z)I"⟩, 51)]
theorem lw_r3 : ∀ q ∈ lw_privs_3, lw_okq q := List.forall_mem_cons.mpr ⟨lw_p32, List.forall_mem_cons.mpr ⟨lw_p33, List.forall_mem_cons.mpr ⟨lw_p34, List.forall_mem_cons.mpr ⟨lw_p35, List.forall_mem_cons.mpr ⟨lw_p36, List.forall_mem_cons.mpr ⟨lw_p37, List.forall_mem_cons.mpr ⟨lw_p38, List.forall_mem_cons.mpr ⟨lw_p39, List.forall_mem_cons.mpr ⟨lw_p40, List.forall_mem_cons.mpr ⟨lw_p41, List.forall_mem_cons.mpr ⟨lw_p42, List.forall_mem_cons.mpr ⟨lw_p43, List.forall_mem_cons.mpr ⟨lw_p44, List.forall_mem_cons.mpr ⟨lw_p45, List.forall_mem_cons.mpr ⟨lw_p46, List.forall_mem_cons.mpr ⟨lw_p47, fun _ h => absurd h List.not_mem_nil⟩⟩⟩⟩⟩⟩⟩⟩⟩⟩⟩⟩⟩⟩⟩⟩
theorem lw_p48 : lw_okq (⟨"BasketCapModel", "laysWorth", "(Z)V"⟩, 51) := ⟨⟨by decide +kernel, by decide +kernel⟩, List.mem_of_getElem? (i := 1252) (by decide +kernel), List.mem_of_getElem? (i := 1634) (by decide +kernel), List.mem_of_getElem? (i := 1635) (by decide +kernel)⟩
theorem lw_p49 : lw_okq (⟨"BasketCapModel", "burden", "(II)I"⟩, 51) := ⟨⟨by decide +kernel, by decide +kernel⟩, List.mem_of_getElem? (i := 1252) (by decide +kernel), List.mem_of_getElem? (i := 1639) (by decide +kernel), List.mem_of_getElem? (i := 1640) (by decide +kernel)⟩
theorem lw_p50 : lw_okq (⟨"BasketCapModel", "tries", "(III)V"⟩, 51) := ⟨⟨by decide +kernel, by decide +kernel⟩, List.mem_of_getElem? (i := 1252) (by decide +kernel), List.mem_of_getElem? (i := 1643) (by decide +kernel), List.mem_of_getElem? (i := 1644) (by decide +kernel)⟩
theorem lw_p51 : lw_okq (⟨"BasketCapModel", "isNear", "(II)Z"⟩, 51) := ⟨⟨by decide +kernel, by decide +kernel⟩, List.mem_of_getElem? (i := 1252) (by decide +kernel), List.mem_of_getElem? (i := 1647) (by decide +kernel), List.mem_of_getElem? (i := 1648) (by decide +kernel)⟩
theorem lw_p52 : lw_okq (⟨"BasketCapModel", "bears", "(II)Z"⟩, 51) := ⟨⟨by decide +kernel, by decide +kernel⟩, List.mem_of_getElem? (i := 1252) (by decide +kernel), List.mem_of_getElem? (i := 1651) (by decide +kernel), List.mem_of_getElem? (i := 1652) (by decide +kernel)⟩
theorem lw_p53 : lw_okq (⟨"BasketCapModel", "findsSteady", "(I)I"⟩, 51) := ⟨⟨by decide +kernel, by decide +kernel⟩, List.mem_of_getElem? (i := 1252) (by decide +kernel), List.mem_of_getElem? (i := 1663) (by decide +kernel), List.mem_of_getElem? (i := 1664) (by decide +kernel)⟩
theorem lw_p54 : lw_okq (⟨"BasketCapModel", "isBuyer", "(I)Z"⟩, 51) := ⟨⟨by decide +kernel, by decide +kernel⟩, List.mem_of_getElem? (i := 1252) (by decide +kernel), List.mem_of_getElem? (i := 1675) (by decide +kernel), List.mem_of_getElem? (i := 1676) (by decide +kernel)⟩
theorem lw_p55 : lw_okq (⟨"BasketCapModel", "part", "(III)I"⟩, 51) := ⟨⟨by decide +kernel, by decide +kernel⟩, List.mem_of_getElem? (i := 1252) (by decide +kernel), List.mem_of_getElem? (i := 1695) (by decide +kernel), List.mem_of_getElem? (i := 1696) (by decide +kernel)⟩
theorem lw_p56 : lw_okq (⟨"BasketCapModel", "trades", "()Z"⟩, 51) := ⟨⟨by decide +kernel, by decide +kernel⟩, List.mem_of_getElem? (i := 1252) (by decide +kernel), List.mem_of_getElem? (i := 1714) (by decide +kernel), List.mem_of_getElem? (i := 1715) (by decide +kernel)⟩
theorem lw_p57 : lw_okq (⟨"BasketCapModel", "all", "(Z)I"⟩, 51) := ⟨⟨by decide +kernel, by decide +kernel⟩, List.mem_of_getElem? (i := 1252) (by decide +kernel), List.mem_of_getElem? (i := 1718) (by decide +kernel), List.mem_of_getElem? (i := 1719) (by decide +kernel)⟩
theorem lw_p58 : lw_okq (⟨"BasketCapModel", "writes", "(I)V"⟩, 51) := ⟨⟨by decide +kernel, by decide +kernel⟩, List.mem_of_getElem? (i := 1252) (by decide +kernel), List.mem_of_getElem? (i := 1726) (by decide +kernel), List.mem_of_getElem? (i := 1727) (by decide +kernel)⟩
theorem lw_p59 : lw_okq (⟨"BasketCapModel", "countsRows", "(II)V"⟩, 51) := ⟨⟨by decide +kernel, by decide +kernel⟩, List.mem_of_getElem? (i := 1252) (by decide +kernel), List.mem_of_getElem? (i := 1754) (by decide +kernel), List.mem_of_getElem? (i := 1755) (by decide +kernel)⟩
theorem lw_p60 : lw_okq (⟨"BasketCapModel", "plays", "()Z"⟩, 51) := ⟨⟨by decide +kernel, by decide +kernel⟩, List.mem_of_getElem? (i := 1252) (by decide +kernel), List.mem_of_getElem? (i := 1762) (by decide +kernel), List.mem_of_getElem? (i := 1763) (by decide +kernel)⟩
theorem lw_p61 : lw_okq (⟨"BasketCapModel", "keepsAside", "()V"⟩, 51) := ⟨⟨by decide +kernel, by decide +kernel⟩, List.mem_of_getElem? (i := 1252) (by decide +kernel), List.mem_of_getElem? (i := 1766) (by decide +kernel), List.mem_of_getElem? (i := 1767) (by decide +kernel)⟩
theorem lw_p62 : lw_okq (⟨"BasketCapModel", "ends", "()V"⟩, 51) := ⟨⟨by decide +kernel, by decide +kernel⟩, List.mem_of_getElem? (i := 1252) (by decide +kernel), List.mem_of_getElem? (i := 1770) (by decide +kernel), List.mem_of_getElem? (i := 1771) (by decide +kernel)⟩
theorem lw_p63 : lw_okq (⟨"BasketCapModel", "putsBack", "()V"⟩, 51) := ⟨⟨by decide +kernel, by decide +kernel⟩, List.mem_of_getElem? (i := 1252) (by decide +kernel), List.mem_of_getElem? (i := 1774) (by decide +kernel), List.mem_of_getElem? (i := 1775) (by decide +kernel)⟩
def lw_privs_4 : List (MethodName × Nat) := [(⟨"BasketCapModel", "laysWorth", "(Z)V"⟩, 51), (⟨"BasketCapModel", "burden", "(II)I"⟩, 51), (⟨"BasketCapModel", "tries", "(III)V"⟩, 51), (⟨"BasketCapModel", "isNear", "(II)Z"⟩, 51), (⟨"BasketCapModel", "bears", "(II)Z"⟩, 51), (⟨"BasketCapModel", "findsSteady", "(I)I"⟩, 51), (⟨"BasketCapModel", "isBuyer", "(I)Z"⟩, 51), (⟨"BasketCapModel", "part", "(III)I"⟩, 51), (⟨"BasketCapModel", "trades", "()Z"⟩, 51), (⟨"BasketCapModel", "all", "(Z)I"⟩, 51), (⟨"BasketCapModel", "writes", "(I)V"⟩, 51), (⟨"BasketCapModel", "countsRows", "(II)V"⟩, 51), (⟨"BasketCapModel", "plays", "()Z"⟩, 51), (⟨"BasketCapModel", "keepsAside", "()V"⟩, 51), (⟨"BasketCapModel", "ends", "()V"⟩, 51), (⟨"BasketCapModel", "putsBack", "()V"⟩, 51)]
theorem lw_r4 : ∀ q ∈ lw_privs_4, lw_okq q := List.forall_mem_cons.mpr ⟨lw_p48, List.forall_mem_cons.mpr ⟨lw_p49, List.forall_mem_cons.mpr ⟨lw_p50, List.forall_mem_cons.mpr ⟨lw_p51, List.forall_mem_cons.mpr ⟨lw_p52, List.forall_mem_cons.mpr ⟨lw_p53, List.forall_mem_cons.mpr ⟨lw_p54, List.forall_mem_cons.mpr ⟨lw_p55, List.forall_mem_cons.mpr ⟨lw_p56, List.forall_mem_cons.mpr ⟨lw_p57, List.forall_mem_cons.mpr ⟨lw_p58, List.forall_mem_cons.mpr ⟨lw_p59, List.forall_mem_cons.mpr ⟨lw_p60, List.forall_mem_cons.mpr ⟨lw_p61, List.forall_mem_cons.mpr ⟨lw_p62, List.forall_mem_cons.mpr ⟨lw_p63, fun _ h => absurd h List.not_mem_nil⟩⟩⟩⟩⟩⟩⟩⟩⟩⟩⟩⟩⟩⟩⟩⟩
theorem lw_p64 : lw_okq (⟨"BasketCapModel", "takesRow", "()V"⟩, 51) := ⟨⟨by decide +kernel, by decide +kernel⟩, List.mem_of_getElem? (i := 1252) (by decide +kernel), List.mem_of_getElem? (i := 1782) (by decide +kernel), List.mem_of_getElem? (i := 1783) (by decide +kernel)⟩
theorem lw_p65 : lw_okq (⟨"BasketCapModel", "isSame", "()Z"⟩, 51) := ⟨⟨by decide +kernel, by decide +kernel⟩, List.mem_of_getElem? (i := 1252) (by decide +kernel), List.mem_of_getElem? (i := 1786) (by decide +kernel), List.mem_of_getElem? (i := 1787) (by decide +kernel)⟩
theorem lw_p66 : lw_okq (⟨"BasketCapModel", "changes", "(II)I"⟩, 51) := ⟨⟨by decide +kernel, by decide +kernel⟩, List.mem_of_getElem? (i := 1252) (by decide +kernel), List.mem_of_getElem? (i := 1802) (by decide +kernel), List.mem_of_getElem? (i := 1803) (by decide +kernel)⟩
theorem lw_p67 : lw_okq (⟨"BasketCapModel", "remembers", "()V"⟩, 51) := ⟨⟨by decide +kernel, by decide +kernel⟩, List.mem_of_getElem? (i := 1252) (by decide +kernel), List.mem_of_getElem? (i := 1806) (by decide +kernel), List.mem_of_getElem? (i := 1807) (by decide +kernel)⟩
theorem lw_p68 : lw_okq (⟨"BasketCapModel", "granted", "(I)Z"⟩, 51) := ⟨⟨by decide +kernel, by decide +kernel⟩, List.mem_of_getElem? (i := 1252) (by decide +kernel), List.mem_of_getElem? (i := 1834) (by decide +kernel), List.mem_of_getElem? (i := 1835) (by decide +kernel)⟩
def lw_privs_5 : List (MethodName × Nat) := [(⟨"BasketCapModel", "takesRow", "()V"⟩, 51), (⟨"BasketCapModel", "isSame", "()Z"⟩, 51), (⟨"BasketCapModel", "changes", "(II)I"⟩, 51), (⟨"BasketCapModel", "remembers", "()V"⟩, 51), (⟨"BasketCapModel", "granted", "(I)Z"⟩, 51)]
theorem lw_r5 : ∀ q ∈ lw_privs_5, lw_okq q := List.forall_mem_cons.mpr ⟨lw_p64, List.forall_mem_cons.mpr ⟨lw_p65, List.forall_mem_cons.mpr ⟨lw_p66, List.forall_mem_cons.mpr ⟨lw_p67, List.forall_mem_cons.mpr ⟨lw_p68, fun _ h => absurd h List.not_mem_nil⟩⟩⟩⟩⟩
def lw_privs : List (MethodName × Nat) := lw_privs_1 ++ (lw_privs_2 ++ (lw_privs_3 ++ (lw_privs_4 ++ (lw_privs_5))))
def lw_tbl : List Cond := k2_sels lw_privs ++ tables_1
theorem lw_privs_ok : ∀ q ∈ lw_privs, lw_okq q := by
  show ∀ q ∈ lw_privs_1 ++ (lw_privs_2 ++ (lw_privs_3 ++ (lw_privs_4 ++ (lw_privs_5)))), lw_okq q
  exact List.forall_mem_append.mpr ⟨lw_r1, List.forall_mem_append.mpr ⟨lw_r2, List.forall_mem_append.mpr ⟨lw_r3, List.forall_mem_append.mpr ⟨lw_r4, lw_r5⟩⟩⟩⟩
def RX0 : String := "BasketCap$Book"
def TX0 : u_T := fun k => match k with
  | _ => ("BasketCap$Book", "lines", "[I", true)
def tyX0 : Nat → FieldType := fun k => match k with
  | _ => .array .int
theorem nmX0 : ∀ a, a < 1 → ∀ b, b < 1 → a ≠ b → (TX0 a).2.1 ≠ (TX0 b).2.1 := by decide +kernel
theorem tyX0_ok : ∀ k, k < 1 → parseFieldDescriptor (TX0 k).2.2.1 = some (tyX0 k) := by decide +kernel
abbrev cX0_init : ByteArray := prog_2_method_1_code
def yX0_init : MethodName := ⟨RX0, "<init>", "()V"⟩
abbrev cX0_enter : ByteArray := prog_2_method_2_code
def yX0_enter : MethodName := ⟨RX0, "enter", "(LBasketCap$Told;LBasketCap$Year;)V"⟩
abbrev cX0_look : ByteArray := prog_2_method_3_code
def yX0_look : MethodName := ⟨RX0, "look", "(II)I"⟩
abbrev cX0_copy : ByteArray := prog_2_method_4_code
def yX0_copy : MethodName := ⟨RX0, "copy", "(LBasketCap$Book;I)V"⟩
def RX1 : String := "BasketCap$Deal"
def TX1 : u_T := fun k => match k with
  | 0 => ("BasketCap$Deal", "made", "[I", true)
  | _ => ("BasketCap$Deal", "there", "Z", false)
def tyX1 : Nat → FieldType := fun k => match k with
  | 0 => .array .int
  | _ => .boolean
theorem nmX1 : ∀ a, a < 2 → ∀ b, b < 2 → a ≠ b → (TX1 a).2.1 ≠ (TX1 b).2.1 := by decide +kernel
theorem tyX1_ok : ∀ k, k < 2 → parseFieldDescriptor (TX1 k).2.2.1 = some (tyX1 k) := by decide +kernel
abbrev cX1_init : ByteArray := prog_3_method_1_code
def yX1_init : MethodName := ⟨RX1, "<init>", "()V"⟩
abbrev cX1_seek : ByteArray := prog_3_method_2_code
def yX1_seek : MethodName := ⟨RX1, "seek", "(LBasketCap$Told;LBasketCap$Year;)Z"⟩
abbrev cX1_offer : ByteArray := prog_3_method_3_code
def yX1_offer : MethodName := ⟨RX1, "offer", "(LBasketCap$Told;LBasketCap$Year;III)V"⟩
abbrev cX1_profitThen : ByteArray := prog_3_method_4_code
def yX1_profitThen : MethodName := ⟨RX1, "profitThen", "(LBasketCap$Told;LBasketCap$Year;III)I"⟩
def RX2 : String := "BasketCap$Finder"
def TX2 : u_T := fun k => match k with
  | 0 => ("BasketCap$Finder", "search", "LBasketCap$Search;", true)
  | 1 => ("BasketCap$Finder", "best", "LBasketCap$Row;", true)
  | 2 => ("BasketCap$Finder", "fair", "LBasketCap$Row;", true)
  | 3 => ("BasketCap$Finder", "gentle", "LBasketCap$Row;", true)
  | 4 => ("BasketCap$Finder", "steady", "LBasketCap$Row;", true)
  | 5 => ("BasketCap$Finder", "steadyBy", "I", false)
  | _ => ("BasketCap$Finder", "counted", "I", false)
def tyX2 : Nat → FieldType := fun k => match k with
  | 0 => .object "BasketCap$Search"
  | 1 => .object "BasketCap$Row"
  | 2 => .object "BasketCap$Row"
  | 3 => .object "BasketCap$Row"
  | 4 => .object "BasketCap$Row"
  | 5 => .int
  | _ => .int
theorem nmX2 : ∀ a, a < 7 → ∀ b, b < 7 → a ≠ b → (TX2 a).2.1 ≠ (TX2 b).2.1 := by decide +kernel
theorem tyX2_ok : ∀ k, k < 7 → parseFieldDescriptor (TX2 k).2.2.1 = some (tyX2 k) := by decide +kernel
abbrev cX2_init : ByteArray := prog_4_method_1_code
def yX2_init : MethodName := ⟨RX2, "<init>", "(LBasketCap$Search;)V"⟩
abbrev cX2_forget : ByteArray := prog_4_method_2_code
def yX2_forget : MethodName := ⟨RX2, "forget", "()V"⟩
abbrev cX2_findBest : ByteArray := prog_4_method_3_code
def yX2_findBest : MethodName := ⟨RX2, "findBest", "(LBasketCap$Told;LBasketCap$Year;)LBasketCap$Row;"⟩
abbrev cX2_findFair : ByteArray := prog_4_method_4_code
def yX2_findFair : MethodName := ⟨RX2, "findFair", "(LBasketCap$Told;LBasketCap$Year;)LBasketCap$Row;"⟩
abbrev cX2_findGentle : ByteArray := prog_4_method_5_code
def yX2_findGentle : MethodName := ⟨RX2, "findGentle", "(LBasketCap$Told;LBasketCap$Year;)LBasketCap$Row;"⟩
abbrev cX2_findSteady : ByteArray := prog_4_method_6_code
def yX2_findSteady : MethodName := ⟨RX2, "findSteady", "(LBasketCap$Told;LBasketCap$Year;I)LBasketCap$Row;"⟩
abbrev cX2_countRows : ByteArray := prog_4_method_7_code
def yX2_countRows : MethodName := ⟨RX2, "countRows", "(LBasketCap$Told;LBasketCap$Year;)I"⟩
def RX3 : String := "BasketCap$Image"
def TX3 : u_T := fun k => match k with
  | 0 => ("BasketCap$Image", "there", "Z", false)
  | 1 => ("BasketCap$Image", "year", "LBasketCap$Year;", true)
  | _ => ("BasketCap$Image", "book", "LBasketCap$Book;", true)
def tyX3 : Nat → FieldType := fun k => match k with
  | 0 => .boolean
  | 1 => .object "BasketCap$Year"
  | _ => .object "BasketCap$Book"
theorem nmX3 : ∀ a, a < 3 → ∀ b, b < 3 → a ≠ b → (TX3 a).2.1 ≠ (TX3 b).2.1 := by decide +kernel
theorem tyX3_ok : ∀ k, k < 3 → parseFieldDescriptor (TX3 k).2.2.1 = some (tyX3 k) := by decide +kernel
abbrev cX3_init : ByteArray := prog_5_method_1_code
def yX3_init : MethodName := ⟨RX3, "<init>", "()V"⟩
abbrev cX3_take : ByteArray := prog_5_method_2_code
def yX3_take : MethodName := ⟨RX3, "take", "(LBasketCap$Year;LBasketCap$Book;)V"⟩
abbrev cX3_give : ByteArray := prog_5_method_3_code
def yX3_give : MethodName := ⟨RX3, "give", "(LBasketCap$Year;LBasketCap$Book;)V"⟩
def RX4 : String := "BasketCap$Paper"
def TX4 : u_T := fun k => match k with
  | 0 => ("BasketCap$Paper", "search", "LBasketCap$Search;", true)
  | 1 => ("BasketCap$Paper", "row", "LBasketCap$Row;", true)
  | 2 => ("BasketCap$Paper", "ahead", "LBasketCap$Year;", true)
  | 3 => ("BasketCap$Paper", "trial", "LBasketCap$Year;", true)
  | 4 => ("BasketCap$Paper", "walked", "[I", true)
  | 5 => ("BasketCap$Paper", "played", "[I", true)
  | 6 => ("BasketCap$Paper", "years", "I", false)
  | 7 => ("BasketCap$Paper", "gameKnown", "Z", false)
  | 8 => ("BasketCap$Paper", "gameThere", "Z", false)
  | 9 => ("BasketCap$Paper", "nextKnown", "Z", false)
  | _ => ("BasketCap$Paper", "nextFound", "I", false)
def tyX4 : Nat → FieldType := fun k => match k with
  | 0 => .object "BasketCap$Search"
  | 1 => .object "BasketCap$Row"
  | 2 => .object "BasketCap$Year"
  | 3 => .object "BasketCap$Year"
  | 4 => .array .int
  | 5 => .array .int
  | 6 => .int
  | 7 => .boolean
  | 8 => .boolean
  | 9 => .boolean
  | _ => .int
theorem nmX4 : ∀ a, a < 11 → ∀ b, b < 11 → a ≠ b → (TX4 a).2.1 ≠ (TX4 b).2.1 := by decide +kernel
theorem tyX4_ok : ∀ k, k < 11 → parseFieldDescriptor (TX4 k).2.2.1 = some (tyX4 k) := by decide +kernel
abbrev cX4_init : ByteArray := prog_6_method_1_code
def yX4_init : MethodName := ⟨RX4, "<init>", "(LBasketCap$Search;)V"⟩
abbrev cX4_forgetFresh : ByteArray := prog_6_method_2_code
def yX4_forgetFresh : MethodName := ⟨RX4, "forgetFresh", "()V"⟩
abbrev cX4_forgetAll : ByteArray := prog_6_method_3_code
def yX4_forgetAll : MethodName := ⟨RX4, "forgetAll", "()V"⟩
abbrev cX4_walk : ByteArray := prog_6_method_4_code
def yX4_walk : MethodName := ⟨RX4, "walk", "(LBasketCap$Told;LBasketCap$Year;I)V"⟩
abbrev cX4_step : ByteArray := prog_6_method_5_code
def yX4_step : MethodName := ⟨RX4, "step", "(LBasketCap$Told;I)V"⟩
abbrev cX4_nextProfit : ByteArray := prog_6_method_6_code
def yX4_nextProfit : MethodName := ⟨RX4, "nextProfit", "(LBasketCap$Told;LBasketCap$Year;)I"⟩
abbrev cX4_play : ByteArray := prog_6_method_7_code
def yX4_play : MethodName := ⟨RX4, "play", "(LBasketCap$Told;LBasketCap$Year;)Z"⟩
abbrev cX4_playService : ByteArray := prog_6_method_8_code
def yX4_playService : MethodName := ⟨RX4, "playService", "(LBasketCap$Told;LBasketCap$Year;I)V"⟩
abbrev cX4_playNext : ByteArray := prog_6_method_9_code
def yX4_playNext : MethodName := ⟨RX4, "playNext", "(LBasketCap$Told;III)V"⟩
abbrev cX4_noteGame : ByteArray := prog_6_method_10_code
def yX4_noteGame : MethodName := ⟨RX4, "noteGame", "(IIII)V"⟩
abbrev cX4_freeProfit : ByteArray := prog_6_method_11_code
def yX4_freeProfit : MethodName := ⟨RX4, "freeProfit", "(LBasketCap$Told;)I"⟩
def RX5 : String := "BasketCap$Past"
def TX5 : u_T := fun k => match k with
  | 0 => ("BasketCap$Past", "ring", "[LBasketCap$Year;", true)
  | 1 => ("BasketCap$Past", "head", "I", false)
  | _ => ("BasketCap$Past", "count", "I", false)
def tyX5 : Nat → FieldType := fun k => match k with
  | 0 => .array (.object "BasketCap$Year")
  | 1 => .int
  | _ => .int
theorem nmX5 : ∀ a, a < 3 → ∀ b, b < 3 → a ≠ b → (TX5 a).2.1 ≠ (TX5 b).2.1 := by decide +kernel
theorem tyX5_ok : ∀ k, k < 3 → parseFieldDescriptor (TX5 k).2.2.1 = some (tyX5 k) := by decide +kernel
abbrev cX5_init : ByteArray := prog_7_method_1_code
def yX5_init : MethodName := ⟨RX5, "<init>", "()V"⟩
abbrev cX5_clear : ByteArray := prog_7_method_2_code
def yX5_clear : MethodName := ⟨RX5, "clear", "()V"⟩
abbrev cX5_push : ByteArray := prog_7_method_3_code
def yX5_push : MethodName := ⟨RX5, "push", "(LBasketCap$Year;)V"⟩
abbrev cX5_pop : ByteArray := prog_7_method_4_code
def yX5_pop : MethodName := ⟨RX5, "pop", "(LBasketCap$Year;)V"⟩
def RX6 : String := "BasketCap$Reader"
def TX6 : u_T := fun k => match k with
  | 0 => ("BasketCap$Reader", "source", "[I", false)
  | 1 => ("BasketCap$Reader", "end", "I", false)
  | 2 => ("BasketCap$Reader", "at", "I", false)
  | 3 => ("BasketCap$Reader", "kind", "I", false)
  | 4 => ("BasketCap$Reader", "start", "I", false)
  | 5 => ("BasketCap$Reader", "whole", "I", false)
  | 6 => ("BasketCap$Reader", "word", "J", false)
  | 7 => ("BasketCap$Reader", "rulesSeen", "I", false)
  | 8 => ("BasketCap$Reader", "faultFound", "I", false)
  | 9 => ("BasketCap$Reader", "placeFound", "I", false)
  | _ => ("BasketCap$Reader", "into", "LBasketCap$Told;", false)
def tyX6 : Nat → FieldType := fun k => match k with
  | 0 => .array .int
  | 1 => .int
  | 2 => .int
  | 3 => .int
  | 4 => .int
  | 5 => .int
  | 6 => .long
  | 7 => .int
  | 8 => .int
  | 9 => .int
  | _ => .object "BasketCap$Told"
theorem nmX6 : ∀ a, a < 11 → ∀ b, b < 11 → a ≠ b → (TX6 a).2.1 ≠ (TX6 b).2.1 := by decide +kernel
theorem tyX6_ok : ∀ k, k < 11 → parseFieldDescriptor (TX6 k).2.2.1 = some (tyX6 k) := by decide +kernel
abbrev cX6_init : ByteArray := prog_8_method_1_code
def yX6_init : MethodName := ⟨RX6, "<init>", "()V"⟩
abbrev cX6_readText : ByteArray := prog_8_method_2_code
def yX6_readText : MethodName := ⟨RX6, "readText", "([IILBasketCap$Told;)Z"⟩
abbrev cX6_fail : ByteArray := prog_8_method_3_code
def yX6_fail : MethodName := ⟨RX6, "fail", "(I)Z"⟩
abbrev cX6_advance : ByteArray := prog_8_method_4_code
def yX6_advance : MethodName := ⟨RX6, "advance", "()V"⟩
abbrev cX6_takeWord : ByteArray := prog_8_method_5_code
def yX6_takeWord : MethodName := ⟨RX6, "takeWord", "()V"⟩
abbrev cX6_takeWhole : ByteArray := prog_8_method_6_code
def yX6_takeWhole : MethodName := ⟨RX6, "takeWhole", "()V"⟩
abbrev cX6_isLetter : ByteArray := prog_8_method_7_code
def yX6_isLetter : MethodName := ⟨RX6, "isLetter", "(I)Z"⟩
abbrev cX6_isDigit : ByteArray := prog_8_method_8_code
def yX6_isDigit : MethodName := ⟨RX6, "isDigit", "(I)Z"⟩
abbrev cX6_isWord : ByteArray := prog_8_method_9_code
def yX6_isWord : MethodName := ⟨RX6, "isWord", "(Ljava/lang/String;)Z"⟩
abbrev cX6_wordOfRule : ByteArray := prog_8_method_10_code
def yX6_wordOfRule : MethodName := ⟨RX6, "wordOfRule", "(I)Ljava/lang/String;"⟩
abbrev cX6_wordOfValue : ByteArray := prog_8_method_11_code
def yX6_wordOfValue : MethodName := ⟨RX6, "wordOfValue", "(I)Ljava/lang/String;"⟩
abbrev cX6_isReserved : ByteArray := prog_8_method_12_code
def yX6_isReserved : MethodName := ⟨RX6, "isReserved", "()Z"⟩
abbrev cX6_readLine : ByteArray := prog_8_method_13_code
def yX6_readLine : MethodName := ⟨RX6, "readLine", "()Z"⟩
abbrev cX6_readService : ByteArray := prog_8_method_14_code
def yX6_readService : MethodName := ⟨RX6, "readService", "()Z"⟩
abbrev cX6_readValues : ByteArray := prog_8_method_15_code
def yX6_readValues : MethodName := ⟨RX6, "readValues", "(III)Z"⟩
abbrev cX6_readBuyer : ByteArray := prog_8_method_16_code
def yX6_readBuyer : MethodName := ⟨RX6, "readBuyer", "()Z"⟩
abbrev cX6_readRule : ByteArray := prog_8_method_17_code
def yX6_readRule : MethodName := ⟨RX6, "readRule", "(I)Z"⟩
abbrev cX6_readName : ByteArray := prog_8_method_18_code
def yX6_readName : MethodName := ⟨RX6, "readName", "(I)Z"⟩
abbrev cX6_readWhole : ByteArray := prog_8_method_19_code
def yX6_readWhole : MethodName := ⟨RX6, "readWhole", "(I)Z"⟩
def RX7 : String := "BasketCap$Row"
def TX7 : u_T := fun k => match k with
  | 0 => ("BasketCap$Row", "known", "Z", false)
  | 1 => ("BasketCap$Row", "there", "Z", false)
  | 2 => ("BasketCap$Row", "worth", "I", false)
  | _ => ("BasketCap$Row", "prices", "[I", true)
def tyX7 : Nat → FieldType := fun k => match k with
  | 0 => .boolean
  | 1 => .boolean
  | 2 => .int
  | _ => .array .int
theorem nmX7 : ∀ a, a < 4 → ∀ b, b < 4 → a ≠ b → (TX7 a).2.1 ≠ (TX7 b).2.1 := by decide +kernel
theorem tyX7_ok : ∀ k, k < 4 → parseFieldDescriptor (TX7 k).2.2.1 = some (tyX7 k) := by decide +kernel
abbrev cX7_init : ByteArray := prog_9_method_1_code
def yX7_init : MethodName := ⟨RX7, "<init>", "()V"⟩
def RX8 : String := "BasketCap$Search"
def TX8 : u_T := fun k => match k with
  | 0 => ("BasketCap$Search", "services", "I", false)
  | 1 => ("BasketCap$Search", "lines", "I", false)
  | 2 => ("BasketCap$Search", "load", "[I", true)
  | 3 => ("BasketCap$Search", "room", "[I", true)
  | 4 => ("BasketCap$Search", "low", "[I", true)
  | 5 => ("BasketCap$Search", "high", "[I", true)
  | 6 => ("BasketCap$Search", "stairs", "[I", true)
  | 7 => ("BasketCap$Search", "rise", "[I", true)
  | 8 => ("BasketCap$Search", "worth", "[I", true)
  | 9 => ("BasketCap$Search", "under", "[I", true)
  | 10 => ("BasketCap$Search", "pick", "[I", true)
  | 11 => ("BasketCap$Search", "found", "[I", true)
  | 12 => ("BasketCap$Search", "rest", "[I", true)
  | 13 => ("BasketCap$Search", "toll", "I", false)
  | _ => ("BasketCap$Search", "greatest", "I", false)
def tyX8 : Nat → FieldType := fun k => match k with
  | 0 => .int
  | 1 => .int
  | 2 => .array .int
  | 3 => .array .int
  | 4 => .array .int
  | 5 => .array .int
  | 6 => .array .int
  | 7 => .array .int
  | 8 => .array .int
  | 9 => .array .int
  | 10 => .array .int
  | 11 => .array .int
  | 12 => .array .int
  | 13 => .int
  | _ => .int
theorem nmX8 : ∀ a, a < 15 → ∀ b, b < 15 → a ≠ b → (TX8 a).2.1 ≠ (TX8 b).2.1 := by decide +kernel
theorem tyX8_ok : ∀ k, k < 15 → parseFieldDescriptor (TX8 k).2.2.1 = some (tyX8 k) := by decide +kernel
abbrev cX8_init : ByteArray := prog_10_method_1_code
def yX8_init : MethodName := ⟨RX8, "<init>", "()V"⟩
abbrev cX8_begin : ByteArray := prog_10_method_2_code
def yX8_begin : MethodName := ⟨RX8, "begin", "(LBasketCap$Told;LBasketCap$Year;)V"⟩
abbrev cX8_addBuyer : ByteArray := prog_10_method_3_code
def yX8_addBuyer : MethodName := ⟨RX8, "addBuyer", "(LBasketCap$Told;LBasketCap$Year;I)V"⟩
abbrev cX8_holdNear : ByteArray := prog_10_method_4_code
def yX8_holdNear : MethodName := ⟨RX8, "holdNear", "([II)V"⟩
abbrev cX8_find : ByteArray := prog_10_method_5_code
def yX8_find : MethodName := ⟨RX8, "find", "([ILBasketCap$Row;)V"⟩
abbrev cX8_prepare : ByteArray := prog_10_method_6_code
def yX8_prepare : MethodName := ⟨RX8, "prepare", "([I)Z"⟩
abbrev cX8_bound : ByteArray := prog_10_method_7_code
def yX8_bound : MethodName := ⟨RX8, "bound", "()I"⟩
abbrev cX8_seek : ByteArray := prog_10_method_8_code
def yX8_seek : MethodName := ⟨RX8, "seek", "(LBasketCap$Row;)V"⟩
abbrev cX8_takeLowest : ByteArray := prog_10_method_9_code
def yX8_takeLowest : MethodName := ⟨RX8, "takeLowest", "()Z"⟩
abbrev cX8_setStairs : ByteArray := prog_10_method_10_code
def yX8_setStairs : MethodName := ⟨RX8, "setStairs", "([II)V"⟩
abbrev cX8_setToll : ByteArray := prog_10_method_11_code
def yX8_setToll : MethodName := ⟨RX8, "setToll", "()V"⟩
abbrev cX8_chooseAt : ByteArray := prog_10_method_12_code
def yX8_chooseAt : MethodName := ⟨RX8, "chooseAt", "(I)I"⟩
abbrev cX8_startGreedily : ByteArray := prog_10_method_13_code
def yX8_startGreedily : MethodName := ⟨RX8, "startGreedily", "()V"⟩
abbrev cX8_take : ByteArray := prog_10_method_14_code
def yX8_take : MethodName := ⟨RX8, "take", "(III)V"⟩
abbrev cX8_highestStair : ByteArray := prog_10_method_15_code
def yX8_highestStair : MethodName := ⟨RX8, "highestStair", "(I)I"⟩
abbrev cX8_descend : ByteArray := prog_10_method_16_code
def yX8_descend : MethodName := ⟨RX8, "descend", "(II)V"⟩
abbrev cX8_end : ByteArray := prog_10_method_17_code
def yX8_end : MethodName := ⟨RX8, "end", "(III)V"⟩
abbrev cX8_count : ByteArray := prog_10_method_18_code
def yX8_count : MethodName := ⟨RX8, "count", "()I"⟩
abbrev cX8_countFrom : ByteArray := prog_10_method_19_code
def yX8_countFrom : MethodName := ⟨RX8, "countFrom", "(II)I"⟩
def RX9 : String := "BasketCap$Told"
def TX9 : u_T := fun k => match k with
  | 0 => ("BasketCap$Told", "services", "I", false)
  | 1 => ("BasketCap$Told", "buyers", "I", false)
  | 2 => ("BasketCap$Told", "names", "[J", true)
  | 3 => ("BasketCap$Told", "values", "[I", true)
  | 4 => ("BasketCap$Told", "wants", "[I", true)
  | 5 => ("BasketCap$Told", "rules", "[I", true)
  | 6 => ("BasketCap$Told", "boughtAt", "[I", true)
  | 7 => ("BasketCap$Told", "profitAt", "[I", true)
  | _ => ("BasketCap$Told", "goodAt", "[I", true)
def tyX9 : Nat → FieldType := fun k => match k with
  | 0 => .int
  | 1 => .int
  | 2 => .array .long
  | 3 => .array .int
  | 4 => .array .int
  | 5 => .array .int
  | 6 => .array .int
  | 7 => .array .int
  | _ => .array .int
theorem nmX9 : ∀ a, a < 9 → ∀ b, b < 9 → a ≠ b → (TX9 a).2.1 ≠ (TX9 b).2.1 := by decide +kernel
theorem tyX9_ok : ∀ k, k < 9 → parseFieldDescriptor (TX9 k).2.2.1 = some (tyX9 k) := by decide +kernel
abbrev cX9_init : ByteArray := prog_11_method_1_code
def yX9_init : MethodName := ⟨RX9, "<init>", "()V"⟩
abbrev cX9_clear : ByteArray := prog_11_method_2_code
def yX9_clear : MethodName := ⟨RX9, "clear", "()V"⟩
abbrev cX9_mostOfRule : ByteArray := prog_11_method_3_code
def yX9_mostOfRule : MethodName := ⟨RX9, "mostOfRule", "(I)I"⟩
abbrev cX9_mostOfValue : ByteArray := prog_11_method_4_code
def yX9_mostOfValue : MethodName := ⟨RX9, "mostOfValue", "(I)I"⟩
abbrev cX9_valueOf : ByteArray := prog_11_method_5_code
def yX9_valueOf : MethodName := ⟨RX9, "valueOf", "(II)I"⟩
abbrev cX9_lengthOf : ByteArray := prog_11_method_6_code
def yX9_lengthOf : MethodName := ⟨RX9, "lengthOf", "(J)I"⟩
abbrev cX9_letterOf : ByteArray := prog_11_method_7_code
def yX9_letterOf : MethodName := ⟨RX9, "letterOf", "(JI)I"⟩
abbrev cX9_hasName : ByteArray := prog_11_method_8_code
def yX9_hasName : MethodName := ⟨RX9, "hasName", "(J)Z"⟩
abbrev cX9_fillTables : ByteArray := prog_11_method_9_code
def yX9_fillTables : MethodName := ⟨RX9, "fillTables", "()V"⟩
abbrev cX9_freePrice : ByteArray := prog_11_method_10_code
def yX9_freePrice : MethodName := ⟨RX9, "freePrice", "(I)I"⟩
abbrev cX9_together : ByteArray := prog_11_method_11_code
def yX9_together : MethodName := ⟨RX9, "together", "([I[I)I"⟩
abbrev cX9_costing : ByteArray := prog_11_method_12_code
def yX9_costing : MethodName := ⟨RX9, "costing", "([I[I)I"⟩
abbrev cX9_off : ByteArray := prog_11_method_13_code
def yX9_off : MethodName := ⟨RX9, "off", "([I)I"⟩
abbrev cX9_burden : ByteArray := prog_11_method_14_code
def yX9_burden : MethodName := ⟨RX9, "burden", "(I[I)I"⟩
abbrev cX9_unitsTogether : ByteArray := prog_11_method_15_code
def yX9_unitsTogether : MethodName := ⟨RX9, "unitsTogether", "(I)I"⟩
def RX10 : String := "BasketCap$Year"
def TX10 : u_T := fun k => match k with
  | 0 => ("BasketCap$Year", "number", "I", false)
  | 1 => ("BasketCap$Year", "brought", "I", false)
  | 2 => ("BasketCap$Year", "prices", "[I", true)
  | 3 => ("BasketCap$Year", "fresh", "[I", true)
  | 4 => ("BasketCap$Year", "grade", "[I", true)
  | _ => ("BasketCap$Year", "rules", "[I", true)
def tyX10 : Nat → FieldType := fun k => match k with
  | 0 => .int
  | 1 => .int
  | 2 => .array .int
  | 3 => .array .int
  | 4 => .array .int
  | _ => .array .int
theorem nmX10 : ∀ a, a < 6 → ∀ b, b < 6 → a ≠ b → (TX10 a).2.1 ≠ (TX10 b).2.1 := by decide +kernel
theorem tyX10_ok : ∀ k, k < 6 → parseFieldDescriptor (TX10 k).2.2.1 = some (tyX10 k) := by decide +kernel
abbrev cX10_init : ByteArray := prog_12_method_1_code
def yX10_init : MethodName := ⟨RX10, "<init>", "()V"⟩
abbrev cX10_begin : ByteArray := prog_12_method_2_code
def yX10_begin : MethodName := ⟨RX10, "begin", "(LBasketCap$Told;)V"⟩
abbrev cX10_copy : ByteArray := prog_12_method_3_code
def yX10_copy : MethodName := ⟨RX10, "copy", "(LBasketCap$Year;)V"⟩
abbrev cX10_rate : ByteArray := prog_12_method_4_code
def yX10_rate : MethodName := ⟨RX10, "rate", "()I"⟩
abbrev cX10_weight : ByteArray := prog_12_method_5_code
def yX10_weight : MethodName := ⟨RX10, "weight", "(LBasketCap$Told;I)I"⟩
abbrev cX10_weights : ByteArray := prog_12_method_6_code
def yX10_weights : MethodName := ⟨RX10, "weights", "(LBasketCap$Told;)I"⟩
abbrev cX10_duesOf : ByteArray := prog_12_method_7_code
def yX10_duesOf : MethodName := ⟨RX10, "duesOf", "(LBasketCap$Told;I)I"⟩
abbrev cX10_dues : ByteArray := prog_12_method_8_code
def yX10_dues : MethodName := ⟨RX10, "dues", "(LBasketCap$Told;)I"⟩
abbrev cX10_allowedWith : ByteArray := prog_12_method_9_code
def yX10_allowedWith : MethodName := ⟨RX10, "allowedWith", "(LBasketCap$Told;I)I"⟩
abbrev cX10_allowed : ByteArray := prog_12_method_10_code
def yX10_allowed : MethodName := ⟨RX10, "allowed", "(LBasketCap$Told;)I"⟩
abbrev cX10_spent : ByteArray := prog_12_method_11_code
def yX10_spent : MethodName := ⟨RX10, "spent", "(LBasketCap$Told;)I"⟩
abbrev cX10_spentWith : ByteArray := prog_12_method_12_code
def yX10_spentWith : MethodName := ⟨RX10, "spentWith", "(LBasketCap$Told;II)I"⟩
abbrev cX10_left : ByteArray := prog_12_method_13_code
def yX10_left : MethodName := ⟨RX10, "left", "(LBasketCap$Told;)I"⟩
abbrev cX10_isKept : ByteArray := prog_12_method_14_code
def yX10_isKept : MethodName := ⟨RX10, "isKept", "(LBasketCap$Told;)Z"⟩
abbrev cX10_end : ByteArray := prog_12_method_15_code
def yX10_end : MethodName := ⟨RX10, "end", "(LBasketCap$Told;)V"⟩
def RX11 : String := "BasketCap"
def TX11 : u_T := fun k => match k with
  | 0 => ("BasketCap", "tape", "[I", true)
  | 1 => ("BasketCap", "reader", "LBasketCap$Reader;", true)
  | 2 => ("BasketCap", "now", "LBasketCap$Year;", true)
  | 3 => ("BasketCap", "ended", "LBasketCap$Book;", true)
  | 4 => ("BasketCap", "past", "LBasketCap$Past;", true)
  | 5 => ("BasketCap", "images", "[LBasketCap$Image;", true)
  | 6 => ("BasketCap", "search", "LBasketCap$Search;", true)
  | 7 => ("BasketCap", "finder", "LBasketCap$Finder;", true)
  | 8 => ("BasketCap", "paper", "LBasketCap$Paper;", true)
  | 9 => ("BasketCap", "deal", "LBasketCap$Deal;", true)
  | 10 => ("BasketCap", "written", "[I", true)
  | 11 => ("BasketCap", "told", "LBasketCap$Told;", false)
  | 12 => ("BasketCap", "spare", "LBasketCap$Told;", false)
  | 13 => ("BasketCap", "loaded", "Z", false)
  | 14 => ("BasketCap", "tapeLength", "I", false)
  | 15 => ("BasketCap", "writtenLength", "I", false)
  | 16 => ("BasketCap", "faultNow", "I", false)
  | 17 => ("BasketCap", "placeNow", "I", false)
  | _ => ("BasketCap", "troubleNow", "I", false)
def tyX11 : Nat → FieldType := fun k => match k with
  | 0 => .array .int
  | 1 => .object "BasketCap$Reader"
  | 2 => .object "BasketCap$Year"
  | 3 => .object "BasketCap$Book"
  | 4 => .object "BasketCap$Past"
  | 5 => .array (.object "BasketCap$Image")
  | 6 => .object "BasketCap$Search"
  | 7 => .object "BasketCap$Finder"
  | 8 => .object "BasketCap$Paper"
  | 9 => .object "BasketCap$Deal"
  | 10 => .array .int
  | 11 => .object "BasketCap$Told"
  | 12 => .object "BasketCap$Told"
  | 13 => .boolean
  | 14 => .int
  | 15 => .int
  | 16 => .int
  | 17 => .int
  | _ => .int
theorem nmX11 : ∀ a, a < 19 → ∀ b, b < 19 → a ≠ b → (TX11 a).2.1 ≠ (TX11 b).2.1 := by decide +kernel
theorem tyX11_ok : ∀ k, k < 19 → parseFieldDescriptor (TX11 k).2.2.1 = some (tyX11 k) := by decide +kernel
abbrev cX11_init : ByteArray := prog_1_method_1_code
def yX11_init : MethodName := ⟨RX11, "<init>", "()V"⟩
abbrev cX11_feed : ByteArray := prog_1_method_2_code
def yX11_feed : MethodName := ⟨RX11, "feed", "(IIIII)I"⟩
abbrev cX11_text : ByteArray := prog_1_method_3_code
def yX11_text : MethodName := ⟨RX11, "text", "(I)I"⟩
abbrev cX11_fault : ByteArray := prog_1_method_4_code
def yX11_fault : MethodName := ⟨RX11, "fault", "()I"⟩
abbrev cX11_where : ByteArray := prog_1_method_5_code
def yX11_where : MethodName := ⟨RX11, "where", "()I"⟩
abbrev cX11_about : ByteArray := prog_1_method_6_code
def yX11_about : MethodName := ⟨RX11, "about", "(I)I"⟩
abbrev cX11_service : ByteArray := prog_1_method_7_code
def yX11_service : MethodName := ⟨RX11, "service", "(II)I"⟩
abbrev cX11_rule : ByteArray := prog_1_method_8_code
def yX11_rule : MethodName := ⟨RX11, "rule", "(I)I"⟩
abbrev cX11_carried : ByteArray := prog_1_method_9_code
def yX11_carried : MethodName := ⟨RX11, "carried", "(I)I"⟩
abbrev cX11_bought : ByteArray := prog_1_method_10_code
def yX11_bought : MethodName := ⟨RX11, "bought", "(II)I"⟩
abbrev cX11_profit : ByteArray := prog_1_method_11_code
def yX11_profit : MethodName := ⟨RX11, "profit", "(II)I"⟩
abbrev cX11_good : ByteArray := prog_1_method_12_code
def yX11_good : MethodName := ⟨RX11, "good", "(II)I"⟩
abbrev cX11_most : ByteArray := prog_1_method_13_code
def yX11_most : MethodName := ⟨RX11, "most", "(I)I"⟩
abbrev cX11_free : ByteArray := prog_1_method_14_code
def yX11_free : MethodName := ⟨RX11, "free", "(I)I"⟩
abbrev cX11_best : ByteArray := prog_1_method_15_code
def yX11_best : MethodName := ⟨RX11, "best", "()I"⟩
abbrev cX11_bestOf : ByteArray := prog_1_method_16_code
def yX11_bestOf : MethodName := ⟨RX11, "bestOf", "(I)I"⟩
abbrev cX11_fair : ByteArray := prog_1_method_17_code
def yX11_fair : MethodName := ⟨RX11, "fair", "()I"⟩
abbrev cX11_fairOf : ByteArray := prog_1_method_18_code
def yX11_fairOf : MethodName := ⟨RX11, "fairOf", "(I)I"⟩
abbrev cX11_rows : ByteArray := prog_1_method_19_code
def yX11_rows : MethodName := ⟨RX11, "rows", "()I"⟩
abbrev cX11_freely : ByteArray := prog_1_method_20_code
def yX11_freely : MethodName := ⟨RX11, "freely", "(I)I"⟩
abbrev cX11_game : ByteArray := prog_1_method_21_code
def yX11_game : MethodName := ⟨RX11, "game", "(I)I"⟩
abbrev cX11_path : ByteArray := prog_1_method_22_code
def yX11_path : MethodName := ⟨RX11, "path", "(II)I"⟩
abbrev cX11_buyer : ByteArray := prog_1_method_23_code
def yX11_buyer : MethodName := ⟨RX11, "buyer", "(II)I"⟩
abbrev cX11_units : ByteArray := prog_1_method_24_code
def yX11_units : MethodName := ⟨RX11, "units", "(II)I"⟩
abbrev cX11_hurt : ByteArray := prog_1_method_25_code
def yX11_hurt : MethodName := ⟨RX11, "hurt", "()I"⟩
abbrev cX11_hardest : ByteArray := prog_1_method_26_code
def yX11_hardest : MethodName := ⟨RX11, "hardest", "()I"⟩
abbrev cX11_gentle : ByteArray := prog_1_method_27_code
def yX11_gentle : MethodName := ⟨RX11, "gentle", "()I"⟩
abbrev cX11_gentleOf : ByteArray := prog_1_method_28_code
def yX11_gentleOf : MethodName := ⟨RX11, "gentleOf", "(I)I"⟩
abbrev cX11_steady : ByteArray := prog_1_method_29_code
def yX11_steady : MethodName := ⟨RX11, "steady", "(I)I"⟩
abbrev cX11_steadyOf : ByteArray := prog_1_method_30_code
def yX11_steadyOf : MethodName := ⟨RX11, "steadyOf", "(II)I"⟩
abbrev cX11_level : ByteArray := prog_1_method_31_code
def yX11_level : MethodName := ⟨RX11, "level", "(II)I"⟩
abbrev cX11_trade : ByteArray := prog_1_method_32_code
def yX11_trade : MethodName := ⟨RX11, "trade", "(I)I"⟩
abbrev cX11_reach : ByteArray := prog_1_method_33_code
def yX11_reach : MethodName := ⟨RX11, "reach", "(I)I"⟩
abbrev cX11_next : ByteArray := prog_1_method_34_code
def yX11_next : MethodName := ⟨RX11, "next", "()I"⟩
abbrev cX11_gains : ByteArray := prog_1_method_35_code
def yX11_gains : MethodName := ⟨RX11, "gains", "(I)I"⟩
abbrev cX11_share : ByteArray := prog_1_method_36_code
def yX11_share : MethodName := ⟨RX11, "share", "(II)I"⟩
abbrev cX11_write : ByteArray := prog_1_method_37_code
def yX11_write : MethodName := ⟨RX11, "write", "()I"⟩
abbrev cX11_octet : ByteArray := prog_1_method_38_code
def yX11_octet : MethodName := ⟨RX11, "octet", "(I)I"⟩
abbrev cX11_price : ByteArray := prog_1_method_39_code
def yX11_price : MethodName := ⟨RX11, "price", "(II)I"⟩
abbrev cX11_lay : ByteArray := prog_1_method_40_code
def yX11_lay : MethodName := ⟨RX11, "lay", "(Z)I"⟩
abbrev cX11_quality : ByteArray := prog_1_method_41_code
def yX11_quality : MethodName := ⟨RX11, "quality", "(II)I"⟩
abbrev cX11_become : ByteArray := prog_1_method_42_code
def yX11_become : MethodName := ⟨RX11, "become", "(II)I"⟩
abbrev cX11_year : ByteArray := prog_1_method_43_code
def yX11_year : MethodName := ⟨RX11, "year", "(Z)I"⟩
abbrev cX11_undo : ByteArray := prog_1_method_44_code
def yX11_undo : MethodName := ⟨RX11, "undo", "()I"⟩
abbrev cX11_keep : ByteArray := prog_1_method_45_code
def yX11_keep : MethodName := ⟨RX11, "keep", "(I)Z"⟩
abbrev cX11_back : ByteArray := prog_1_method_46_code
def yX11_back : MethodName := ⟨RX11, "back", "(I)Z"⟩
abbrev cX11_book : ByteArray := prog_1_method_47_code
def yX11_book : MethodName := ⟨RX11, "book", "(II)I"⟩
abbrev cX11_letter : ByteArray := prog_1_method_48_code
def yX11_letter : MethodName := ⟨RX11, "letter", "(II)I"⟩
abbrev cX11_bytes : ByteArray := prog_1_method_49_code
def yX11_bytes : MethodName := ⟨RX11, "bytes", "()I"⟩
abbrev cX11_trouble : ByteArray := prog_1_method_50_code
def yX11_trouble : MethodName := ⟨RX11, "trouble", "()I"⟩
abbrev cX11_answer : ByteArray := prog_1_method_51_code
def yX11_answer : MethodName := ⟨RX11, "answer", "(I)I"⟩
abbrev cX11_refuse : ByteArray := prog_1_method_52_code
def yX11_refuse : MethodName := ⟨RX11, "refuse", "(I)I"⟩
abbrev cX11_noService : ByteArray := prog_1_method_53_code
def yX11_noService : MethodName := ⟨RX11, "noService", "(I)Z"⟩
abbrev cX11_noBuyer : ByteArray := prog_1_method_54_code
def yX11_noBuyer : MethodName := ⟨RX11, "noBuyer", "(I)Z"⟩
abbrev cX11_noPrice : ByteArray := prog_1_method_55_code
def yX11_noPrice : MethodName := ⟨RX11, "noPrice", "(I)Z"⟩
abbrev cX11_putNumber : ByteArray := prog_1_method_56_code
def yX11_putNumber : MethodName := ⟨RX11, "putNumber", "(I)V"⟩
abbrev cX11_putWritten : ByteArray := prog_1_method_57_code
def yX11_putWritten : MethodName := ⟨RX11, "putWritten", "(I)V"⟩
abbrev cX11_beginText : ByteArray := prog_1_method_58_code
def yX11_beginText : MethodName := ⟨RX11, "beginText", "()V"⟩
abbrev cX11_forgetFresh : ByteArray := prog_1_method_59_code
def yX11_forgetFresh : MethodName := ⟨RX11, "forgetFresh", "()V"⟩
abbrev cX11_forgetAll : ByteArray := prog_1_method_60_code
def yX11_forgetAll : MethodName := ⟨RX11, "forgetAll", "()V"⟩
abbrev cX11_fromTable : ByteArray := prog_1_method_61_code
def yX11_fromTable : MethodName := ⟨RX11, "fromTable", "([III)I"⟩
abbrev cX11_worthOf : ByteArray := prog_1_method_62_code
def yX11_worthOf : MethodName := ⟨RX11, "worthOf", "(LBasketCap$Row;)I"⟩
abbrev cX11_priceIn : ByteArray := prog_1_method_63_code
def yX11_priceIn : MethodName := ⟨RX11, "priceIn", "(LBasketCap$Row;I)I"⟩
abbrev cX11_burdenMore : ByteArray := prog_1_method_64_code
def yX11_burdenMore : MethodName := ⟨RX11, "burdenMore", "(I)I"⟩
abbrev cX11_lowestTerms : ByteArray := prog_1_method_65_code
def yX11_lowestTerms : MethodName := ⟨RX11, "lowestTerms", "(III)I"⟩
abbrev cX11_commonDivisor : ByteArray := prog_1_method_66_code
def yX11_commonDivisor : MethodName := ⟨RX11, "commonDivisor", "(II)I"⟩
def RX12 : String := "BasketCapModel"
def TX12 : u_T := fun k => match k with
  | 0 => ("BasketCapModel", "thrown", "I", false)
  | 1 => ("BasketCapModel", "trouble", "I", false)
  | 2 => ("BasketCapModel", "wrongAt", "I", false)
  | 3 => ("BasketCapModel", "tape", "[I", true)
  | 4 => ("BasketCapModel", "taped", "I", false)
  | 5 => ("BasketCapModel", "size", "I", false)
  | 6 => ("BasketCapModel", "spot", "I", false)
  | 7 => ("BasketCapModel", "fault", "I", false)
  | 8 => ("BasketCapModel", "faultAt", "I", false)
  | 9 => ("BasketCapModel", "token", "I", false)
  | 10 => ("BasketCapModel", "at", "I", false)
  | 11 => ("BasketCapModel", "sign", "I", false)
  | 12 => ("BasketCapModel", "number", "I", false)
  | 13 => ("BasketCapModel", "word", "J", false)
  | 14 => ("BasketCapModel", "now", "[I", true)
  | 15 => ("BasketCapModel", "read", "[I", true)
  | 16 => ("BasketCapModel", "aside", "[I", true)
  | 17 => ("BasketCapModel", "past", "[I", true)
  | 18 => ("BasketCapModel", "images", "[I", true)
  | 19 => ("BasketCapModel", "names", "[J", true)
  | 20 => ("BasketCapModel", "readNames", "[J", true)
  | 21 => ("BasketCapModel", "kept", "[Z", true)
  | 22 => ("BasketCapModel", "many", "I", false)
  | 23 => ("BasketCapModel", "readMany", "I", false)
  | 24 => ("BasketCapModel", "acts", "I", false)
  | 25 => ("BasketCapModel", "hasText", "Z", false)
  | 26 => ("BasketCapModel", "units", "[I", true)
  | 27 => ("BasketCapModel", "readUnits", "[I", true)
  | 28 => ("BasketCapModel", "buyers", "I", false)
  | 29 => ("BasketCapModel", "readBuyers", "I", false)
  | 30 => ("BasketCapModel", "once", "I", false)
  | 31 => ("BasketCapModel", "worth", "[I", true)
  | 32 => ("BasketCapModel", "behind", "[I", true)
  | 33 => ("BasketCapModel", "weights", "[I", true)
  | 34 => ("BasketCapModel", "row", "[I", true)
  | 35 => ("BasketCapModel", "bestRow", "[I", true)
  | 36 => ("BasketCapModel", "most", "I", false)
  | 37 => ("BasketCapModel", "rows", "I", false)
  | 38 => ("BasketCapModel", "farthest", "I", false)
  | 39 => ("BasketCapModel", "isGentle", "Z", false)
  | 40 => ("BasketCapModel", "bears", "[I", true)
  | 41 => ("BasketCapModel", "tradeWorth", "I", false)
  | 42 => ("BasketCapModel", "tradeUp", "I", false)
  | 43 => ("BasketCapModel", "tradeDown", "I", false)
  | 44 => ("BasketCapModel", "tradeBy", "I", false)
  | 45 => ("BasketCapModel", "ink", "[I", true)
  | 46 => ("BasketCapModel", "inked", "I", false)
  | 47 => ("BasketCapModel", "gameWorth", "I", false)
  | 48 => ("BasketCapModel", "gameService", "I", false)
  | 49 => ("BasketCapModel", "gamePrice", "I", false)
  | _ => ("BasketCapModel", "gameFirst", "I", false)
def tyX12 : Nat → FieldType := fun k => match k with
  | 0 => .int
  | 1 => .int
  | 2 => .int
  | 3 => .array .int
  | 4 => .int
  | 5 => .int
  | 6 => .int
  | 7 => .int
  | 8 => .int
  | 9 => .int
  | 10 => .int
  | 11 => .int
  | 12 => .int
  | 13 => .long
  | 14 => .array .int
  | 15 => .array .int
  | 16 => .array .int
  | 17 => .array .int
  | 18 => .array .int
  | 19 => .array .long
  | 20 => .array .long
  | 21 => .array .boolean
  | 22 => .int
  | 23 => .int
  | 24 => .int
  | 25 => .boolean
  | 26 => .array .int
  | 27 => .array .int
  | 28 => .int
  | 29 => .int
  | 30 => .int
  | 31 => .array .int
  | 32 => .array .int
  | 33 => .array .int
  | 34 => .array .int
  | 35 => .array .int
  | 36 => .int
  | 37 => .int
  | 38 => .int
  | 39 => .boolean
  | 40 => .array .int
  | 41 => .int
  | 42 => .int
  | 43 => .int
  | 44 => .int
  | 45 => .array .int
  | 46 => .int
  | 47 => .int
  | 48 => .int
  | 49 => .int
  | _ => .int
theorem nmX12 : ∀ a, a < 51 → ∀ b, b < 51 → a ≠ b → (TX12 a).2.1 ≠ (TX12 b).2.1 := by decide +kernel
theorem tyX12_ok : ∀ k, k < 51 → parseFieldDescriptor (TX12 k).2.2.1 = some (tyX12 k) := by decide +kernel
abbrev cX12_init : ByteArray := prog_14_method_1_code
def yX12_init : MethodName := ⟨RX12, "<init>", "()V"⟩
abbrev cX12_thrown : ByteArray := prog_14_method_2_code
def yX12_thrown : MethodName := ⟨RX12, "thrown", "()I"⟩
abbrev cX12_refused : ByteArray := prog_14_method_3_code
def yX12_refused : MethodName := ⟨RX12, "refused", "(I)I"⟩
abbrev cX12_tells : ByteArray := prog_14_method_4_code
def yX12_tells : MethodName := ⟨RX12, "tells", "(I)I"⟩
abbrev cX12_granted : ByteArray := prog_14_method_5_code
def yX12_granted : MethodName := ⟨RX12, "granted", "(I)Z"⟩
abbrev cX12_in : ByteArray := prog_14_method_6_code
def yX12_in : MethodName := ⟨RX12, "in", "(III)Z"⟩
abbrev cX12_feed : ByteArray := prog_14_method_7_code
def yX12_feed : MethodName := ⟨RX12, "feed", "(IIIII)I"⟩
abbrev cX12_flaw : ByteArray := prog_14_method_8_code
def yX12_flaw : MethodName := ⟨RX12, "flaw", "(I)V"⟩
abbrev cX12_isLetterAt : ByteArray := prog_14_method_9_code
def yX12_isLetterAt : MethodName := ⟨RX12, "isLetterAt", "(I)Z"⟩
abbrev cX12_isDigitAt : ByteArray := prog_14_method_10_code
def yX12_isDigitAt : MethodName := ⟨RX12, "isDigitAt", "(I)Z"⟩
abbrev cX12_goOn : ByteArray := prog_14_method_11_code
def yX12_goOn : MethodName := ⟨RX12, "goOn", "()V"⟩
abbrev cX12_wordOf : ByteArray := prog_14_method_12_code
def yX12_wordOf : MethodName := ⟨RX12, "wordOf", "(Ljava/lang/String;)J"⟩
abbrev cX12_isWord : ByteArray := prog_14_method_13_code
def yX12_isWord : MethodName := ⟨RX12, "isWord", "(Ljava/lang/String;)Z"⟩
abbrev cX12_isSign : ByteArray := prog_14_method_14_code
def yX12_isSign : MethodName := ⟨RX12, "isSign", "(I)Z"⟩
abbrev cX12_needs : ByteArray := prog_14_method_15_code
def yX12_needs : MethodName := ⟨RX12, "needs", "(Ljava/lang/String;)V"⟩
abbrev cX12_isOwn : ByteArray := prog_14_method_16_code
def yX12_isOwn : MethodName := ⟨RX12, "isOwn", "()Z"⟩
abbrev cX12_readWhole : ByteArray := prog_14_method_17_code
def yX12_readWhole : MethodName := ⟨RX12, "readWhole", "(II)I"⟩
abbrev cX12_readTold : ByteArray := prog_14_method_18_code
def yX12_readTold : MethodName := ⟨RX12, "readTold", "(Ljava/lang/String;II)I"⟩
abbrev cX12_fault : ByteArray := prog_14_method_19_code
def yX12_fault : MethodName := ⟨RX12, "fault", "()I"⟩
abbrev cX12_where : ByteArray := prog_14_method_20_code
def yX12_where : MethodName := ⟨RX12, "where", "()I"⟩
abbrev cX12_of : ByteArray := prog_14_method_21_code
def yX12_of : MethodName := ⟨RX12, "of", "(II)I"⟩
abbrev cX12_readName : ByteArray := prog_14_method_22_code
def yX12_readName : MethodName := ⟨RX12, "readName", "(I)V"⟩
abbrev cX12_readBuyer : ByteArray := prog_14_method_23_code
def yX12_readBuyer : MethodName := ⟨RX12, "readBuyer", "()V"⟩
abbrev cX12_readService : ByteArray := prog_14_method_24_code
def yX12_readService : MethodName := ⟨RX12, "readService", "()V"⟩
abbrev cX12_readRule : ByteArray := prog_14_method_25_code
def yX12_readRule : MethodName := ⟨RX12, "readRule", "(I)V"⟩
abbrev cX12_readLine : ByteArray := prog_14_method_26_code
def yX12_readLine : MethodName := ⟨RX12, "readLine", "()V"⟩
abbrev cX12_text : ByteArray := prog_14_method_27_code
def yX12_text : MethodName := ⟨RX12, "text", "(I)I"⟩
abbrev cX12_boughtAt : ByteArray := prog_14_method_28_code
def yX12_boughtAt : MethodName := ⟨RX12, "boughtAt", "(II)I"⟩
abbrev cX12_profitAt : ByteArray := prog_14_method_29_code
def yX12_profitAt : MethodName := ⟨RX12, "profitAt", "(II)I"⟩
abbrev cX12_goodAt : ByteArray := prog_14_method_30_code
def yX12_goodAt : MethodName := ⟨RX12, "goodAt", "(II)I"⟩
abbrev cX12_weight : ByteArray := prog_14_method_31_code
def yX12_weight : MethodName := ⟨RX12, "weight", "(I)I"⟩
abbrev cX12_rate : ByteArray := prog_14_method_32_code
def yX12_rate : MethodName := ⟨RX12, "rate", "()I"⟩
abbrev cX12_base : ByteArray := prog_14_method_33_code
def yX12_base : MethodName := ⟨RX12, "base", "()I"⟩
abbrev cX12_dues : ByteArray := prog_14_method_34_code
def yX12_dues : MethodName := ⟨RX12, "dues", "()I"⟩
abbrev cX12_allowed : ByteArray := prog_14_method_35_code
def yX12_allowed : MethodName := ⟨RX12, "allowed", "()I"⟩
abbrev cX12_spent : ByteArray := prog_14_method_36_code
def yX12_spent : MethodName := ⟨RX12, "spent", "()I"⟩
abbrev cX12_isKept : ByteArray := prog_14_method_37_code
def yX12_isKept : MethodName := ⟨RX12, "isKept", "()Z"⟩
abbrev cX12_off : ByteArray := prog_14_method_38_code
def yX12_off : MethodName := ⟨RX12, "off", "(I)I"⟩
abbrev cX12_all : ByteArray := prog_14_method_39_code
def yX12_all : MethodName := ⟨RX12, "all", "(Z)I"⟩
abbrev cX12_isService : ByteArray := prog_14_method_40_code
def yX12_isService : MethodName := ⟨RX12, "isService", "(I)Z"⟩
abbrev cX12_isPrice : ByteArray := prog_14_method_41_code
def yX12_isPrice : MethodName := ⟨RX12, "isPrice", "(I)Z"⟩
abbrev cX12_about : ByteArray := prog_14_method_42_code
def yX12_about : MethodName := ⟨RX12, "about", "(I)I"⟩
abbrev cX12_service : ByteArray := prog_14_method_43_code
def yX12_service : MethodName := ⟨RX12, "service", "(II)I"⟩
abbrev cX12_rule : ByteArray := prog_14_method_44_code
def yX12_rule : MethodName := ⟨RX12, "rule", "(I)I"⟩
abbrev cX12_carried : ByteArray := prog_14_method_45_code
def yX12_carried : MethodName := ⟨RX12, "carried", "(I)I"⟩
abbrev cX12_bought : ByteArray := prog_14_method_46_code
def yX12_bought : MethodName := ⟨RX12, "bought", "(II)I"⟩
abbrev cX12_profit : ByteArray := prog_14_method_47_code
def yX12_profit : MethodName := ⟨RX12, "profit", "(II)I"⟩
abbrev cX12_good : ByteArray := prog_14_method_48_code
def yX12_good : MethodName := ⟨RX12, "good", "(II)I"⟩
abbrev cX12_isKeptBy : ByteArray := prog_14_method_49_code
def yX12_isKeptBy : MethodName := ⟨RX12, "isKeptBy", "(II)Z"⟩
abbrev cX12_most : ByteArray := prog_14_method_50_code
def yX12_most : MethodName := ⟨RX12, "most", "(I)I"⟩
abbrev cX12_free : ByteArray := prog_14_method_51_code
def yX12_free : MethodName := ⟨RX12, "free", "(I)I"⟩
abbrev cX12_freely : ByteArray := prog_14_method_52_code
def yX12_freely : MethodName := ⟨RX12, "freely", "(I)I"⟩
abbrev cX12_laysWorth : ByteArray := prog_14_method_53_code
def yX12_laysWorth : MethodName := ⟨RX12, "laysWorth", "(Z)V"⟩
abbrev cX12_burden : ByteArray := prog_14_method_54_code
def yX12_burden : MethodName := ⟨RX12, "burden", "(II)I"⟩
abbrev cX12_bears : ByteArray := prog_14_method_55_code
def yX12_bears : MethodName := ⟨RX12, "bears", "(II)Z"⟩
abbrev cX12_isNear : ByteArray := prog_14_method_56_code
def yX12_isNear : MethodName := ⟨RX12, "isNear", "(II)Z"⟩
abbrev cX12_tries : ByteArray := prog_14_method_57_code
def yX12_tries : MethodName := ⟨RX12, "tries", "(III)V"⟩
abbrev cX12_finds : ByteArray := prog_14_method_58_code
def yX12_finds : MethodName := ⟨RX12, "finds", "(Z)I"⟩
abbrev cX12_findsGentle : ByteArray := prog_14_method_59_code
def yX12_findsGentle : MethodName := ⟨RX12, "findsGentle", "()I"⟩
abbrev cX12_findsSteady : ByteArray := prog_14_method_60_code
def yX12_findsSteady : MethodName := ⟨RX12, "findsSteady", "(I)I"⟩
abbrev cX12_gentle : ByteArray := prog_14_method_61_code
def yX12_gentle : MethodName := ⟨RX12, "gentle", "()I"⟩
abbrev cX12_gentleOf : ByteArray := prog_14_method_62_code
def yX12_gentleOf : MethodName := ⟨RX12, "gentleOf", "(I)I"⟩
abbrev cX12_steady : ByteArray := prog_14_method_63_code
def yX12_steady : MethodName := ⟨RX12, "steady", "(I)I"⟩
abbrev cX12_steadyOf : ByteArray := prog_14_method_64_code
def yX12_steadyOf : MethodName := ⟨RX12, "steadyOf", "(II)I"⟩
abbrev cX12_isBuyer : ByteArray := prog_14_method_65_code
def yX12_isBuyer : MethodName := ⟨RX12, "isBuyer", "(I)Z"⟩
abbrev cX12_buyer : ByteArray := prog_14_method_66_code
def yX12_buyer : MethodName := ⟨RX12, "buyer", "(II)I"⟩
abbrev cX12_units : ByteArray := prog_14_method_67_code
def yX12_units : MethodName := ⟨RX12, "units", "(II)I"⟩
abbrev cX12_hurt : ByteArray := prog_14_method_68_code
def yX12_hurt : MethodName := ⟨RX12, "hurt", "()I"⟩
abbrev cX12_hardest : ByteArray := prog_14_method_69_code
def yX12_hardest : MethodName := ⟨RX12, "hardest", "()I"⟩
abbrev cX12_common : ByteArray := prog_14_method_70_code
def yX12_common : MethodName := ⟨RX12, "common", "(II)I"⟩
abbrev cX12_part : ByteArray := prog_14_method_71_code
def yX12_part : MethodName := ⟨RX12, "part", "(III)I"⟩
abbrev cX12_level : ByteArray := prog_14_method_72_code
def yX12_level : MethodName := ⟨RX12, "level", "(II)I"⟩
abbrev cX12_share : ByteArray := prog_14_method_73_code
def yX12_share : MethodName := ⟨RX12, "share", "(II)I"⟩
abbrev cX12_gains : ByteArray := prog_14_method_74_code
def yX12_gains : MethodName := ⟨RX12, "gains", "(I)I"⟩
abbrev cX12_trades : ByteArray := prog_14_method_75_code
def yX12_trades : MethodName := ⟨RX12, "trades", "()Z"⟩
abbrev cX12_trade : ByteArray := prog_14_method_76_code
def yX12_trade : MethodName := ⟨RX12, "trade", "(I)I"⟩
abbrev cX12_writes : ByteArray := prog_14_method_77_code
def yX12_writes : MethodName := ⟨RX12, "writes", "(I)V"⟩
abbrev cX12_write : ByteArray := prog_14_method_78_code
def yX12_write : MethodName := ⟨RX12, "write", "()I"⟩
abbrev cX12_octet : ByteArray := prog_14_method_79_code
def yX12_octet : MethodName := ⟨RX12, "octet", "(I)I"⟩
abbrev cX12_countsRows : ByteArray := prog_14_method_80_code
def yX12_countsRows : MethodName := ⟨RX12, "countsRows", "(II)V"⟩
abbrev cX12_best : ByteArray := prog_14_method_81_code
def yX12_best : MethodName := ⟨RX12, "best", "()I"⟩
abbrev cX12_bestOf : ByteArray := prog_14_method_82_code
def yX12_bestOf : MethodName := ⟨RX12, "bestOf", "(I)I"⟩
abbrev cX12_fair : ByteArray := prog_14_method_83_code
def yX12_fair : MethodName := ⟨RX12, "fair", "()I"⟩
abbrev cX12_fairOf : ByteArray := prog_14_method_84_code
def yX12_fairOf : MethodName := ⟨RX12, "fairOf", "(I)I"⟩
abbrev cX12_rows : ByteArray := prog_14_method_85_code
def yX12_rows : MethodName := ⟨RX12, "rows", "()I"⟩
abbrev cX12_keepsAside : ByteArray := prog_14_method_86_code
def yX12_keepsAside : MethodName := ⟨RX12, "keepsAside", "()V"⟩
abbrev cX12_putsBack : ByteArray := prog_14_method_87_code
def yX12_putsBack : MethodName := ⟨RX12, "putsBack", "()V"⟩
abbrev cX12_ends : ByteArray := prog_14_method_88_code
def yX12_ends : MethodName := ⟨RX12, "ends", "()V"⟩
abbrev cX12_plays : ByteArray := prog_14_method_89_code
def yX12_plays : MethodName := ⟨RX12, "plays", "()Z"⟩
abbrev cX12_game : ByteArray := prog_14_method_90_code
def yX12_game : MethodName := ⟨RX12, "game", "(I)I"⟩
abbrev cX12_takesRow : ByteArray := prog_14_method_91_code
def yX12_takesRow : MethodName := ⟨RX12, "takesRow", "()V"⟩
abbrev cX12_isSame : ByteArray := prog_14_method_92_code
def yX12_isSame : MethodName := ⟨RX12, "isSame", "()Z"⟩
abbrev cX12_path : ByteArray := prog_14_method_93_code
def yX12_path : MethodName := ⟨RX12, "path", "(II)I"⟩
abbrev cX12_reach : ByteArray := prog_14_method_94_code
def yX12_reach : MethodName := ⟨RX12, "reach", "(I)I"⟩
abbrev cX12_next : ByteArray := prog_14_method_95_code
def yX12_next : MethodName := ⟨RX12, "next", "()I"⟩
abbrev cX12_remembers : ByteArray := prog_14_method_96_code
def yX12_remembers : MethodName := ⟨RX12, "remembers", "()V"⟩
abbrev cX12_changes : ByteArray := prog_14_method_97_code
def yX12_changes : MethodName := ⟨RX12, "changes", "(II)I"⟩
abbrev cX12_price : ByteArray := prog_14_method_98_code
def yX12_price : MethodName := ⟨RX12, "price", "(II)I"⟩
abbrev cX12_lay : ByteArray := prog_14_method_99_code
def yX12_lay : MethodName := ⟨RX12, "lay", "(Z)I"⟩
abbrev cX12_quality : ByteArray := prog_14_method_100_code
def yX12_quality : MethodName := ⟨RX12, "quality", "(II)I"⟩
abbrev cX12_become : ByteArray := prog_14_method_101_code
def yX12_become : MethodName := ⟨RX12, "become", "(II)I"⟩
abbrev cX12_year : ByteArray := prog_14_method_102_code
def yX12_year : MethodName := ⟨RX12, "year", "(Z)I"⟩
abbrev cX12_undo : ByteArray := prog_14_method_103_code
def yX12_undo : MethodName := ⟨RX12, "undo", "()I"⟩
abbrev cX12_keep : ByteArray := prog_14_method_104_code
def yX12_keep : MethodName := ⟨RX12, "keep", "(I)Z"⟩
abbrev cX12_back : ByteArray := prog_14_method_105_code
def yX12_back : MethodName := ⟨RX12, "back", "(I)Z"⟩
abbrev cX12_book : ByteArray := prog_14_method_106_code
def yX12_book : MethodName := ⟨RX12, "book", "(II)I"⟩
abbrev cX12_letter : ByteArray := prog_14_method_107_code
def yX12_letter : MethodName := ⟨RX12, "letter", "(II)I"⟩
abbrev cX12_bytes : ByteArray := prog_14_method_108_code
def yX12_bytes : MethodName := ⟨RX12, "bytes", "()I"⟩
abbrev cX12_trouble : ByteArray := prog_14_method_109_code
def yX12_trouble : MethodName := ⟨RX12, "trouble", "()I"⟩
def RJx145de : String := "java/io/Serializable"
def RJx9f9b0 : String := "java/lang/CharSequence"
def RJxb160c : String := "java/lang/Comparable"
def RJ9 : String := "java/lang/Math"
abbrev cJ9_abs_0f7a4 : ByteArray := prog_19_method_59_code
def yJ9_abs_0f7a4 : MethodName := ⟨RJ9, "abs", "(I)I"⟩
abbrev cJ9_max_7cf53 : ByteArray := prog_19_method_65_code
def yJ9_max_7cf53 : MethodName := ⟨RJ9, "max", "(II)I"⟩
abbrev cJ9_min_7cf53 : ByteArray := prog_19_method_69_code
def yJ9_min_7cf53 : MethodName := ⟨RJ9, "min", "(II)I"⟩
def RJ0 : String := "java/lang/String"
abbrev cJ0_length_8abf5 : ByteArray := prog_21_method_54_code
def yJ0_length_8abf5 : MethodName := ⟨RJ0, "length", "()I"⟩
abbrev cJ0_charAt_5068e : ByteArray := prog_21_method_56_code
def yJ0_charAt_5068e : MethodName := ⟨RJ0, "charAt", "(I)C"⟩
abbrev cJ0_coder_7d493 : ByteArray := prog_21_method_152_code
def yJ0_coder_7d493 : MethodName := ⟨RJ0, "coder", "()B"⟩
abbrev cJ0_isLatin1_aae02 : ByteArray := prog_21_method_154_code
def yJ0_isLatin1_aae02 : MethodName := ⟨RJ0, "isLatin1", "()Z"⟩
abbrev cJ0_checkIndex_df160 : ByteArray := prog_21_method_155_code
def yJ0_checkIndex_df160 : MethodName := ⟨RJ0, "checkIndex", "(II)V"⟩
def RJ1 : String := "java/lang/StringLatin1"
abbrev cJ1_charAt_3b067 : ByteArray := prog_22_method_2_code
def yJ1_charAt_3b067 : MethodName := ⟨RJ1, "charAt", "([BI)C"⟩
def RJ2 : String := "java/lang/StringUTF16"
abbrev cJ2_getChar_3b067 : ByteArray := prog_23_method_5_code
def yJ2_getChar_3b067 : MethodName := ⟨RJ2, "getChar", "([BI)C"⟩
abbrev cJ2_length_9d52b : ByteArray := prog_23_method_6_code
def yJ2_length_9d52b : MethodName := ⟨RJ2, "length", "([B)I"⟩
abbrev cJ2_charAt_3b067 : ByteArray := prog_23_method_83_code
def yJ2_charAt_3b067 : MethodName := ⟨RJ2, "charAt", "([BI)C"⟩
abbrev cJ2_checkIndex_2214a : ByteArray := prog_23_method_91_code
def yJ2_checkIndex_2214a : MethodName := ⟨RJ2, "checkIndex", "(I[B)V"⟩
def RJ10 : String := "java/lang/System"
def RJxfd54e : String := "java/lang/constant/Constable"
def RJx3cf43 : String := "java/lang/constant/ConstantDesc"
def RJ3 : String := "jdk/internal/util/Preconditions"
abbrev cJ3_checkIndex_8e157 : ByteArray := prog_29_method_11_code
def yJ3_checkIndex_8e157 : MethodName := ⟨RJ3, "checkIndex", "(IILjava/util/function/BiFunction;)I"⟩
def RL : String := "BasketCapLaw"
abbrev cL_octet : ByteArray := method_3_code
def yL_octet : MethodName := ⟨RL, "octet", "(LBasketCap;I[J)I"⟩
abbrev cL_letter : ByteArray := method_4_code
def yL_letter : MethodName := ⟨RL, "letter", "(LBasketCap;II[J)I"⟩
abbrev cL_law : ByteArray := code
def yL_law : MethodName := ⟨RL, "law", "([I)Z"⟩
abbrev vwCl : List vw_C := [(RX0, TX0, 1), (RX1, TX1, 2), (RX2, TX2, 7), (RX3, TX3, 3), (RX4, TX4, 11), (RX5, TX5, 3), (RX6, TX6, 11), (RX7, TX7, 4), (RX8, TX8, 15), (RX9, TX9, 9), (RX10, TX10, 6), (RX11, TX11, 19), (RX12, TX12, 51)]
/-- the words that every method takes: all that stay true as the tables warm -/
def WS : List Cond := lw_tbl.filter goodWord
theorem ws_tbl : ∀ w ∈ WS, w ∈ lw_tbl := fun _ h => (List.mem_filter.mp h).1
theorem ws_good : ∀ w ∈ WS, goodWord w = true := fun _ h => (List.mem_filter.mp h).2
theorem ws_t {w : Cond} (h : w ∈ tables_1) (g : goodWord w = true) : w ∈ WS := List.mem_filter.mpr ⟨List.mem_append_right _ h, g⟩
theorem ws_s {q : MethodName × Nat} (h : q ∈ lw_privs) (g : goodWord (Cond.selects q.1.cls q.1 q.1) = true) : Cond.selects q.1.cls q.1 q.1 ∈ WS := List.mem_filter.mpr ⟨List.mem_append_left _ (List.mem_map.mpr ⟨q, h, rfl⟩), g⟩
theorem tb1 {w : Cond} (h : w ∈ tables_1_1) (g : goodWord w = true) : w ∈ WS := ws_t (List.mem_append_left _ h) g
theorem tb2 {w : Cond} (h : w ∈ tables_1_2) (g : goodWord w = true) : w ∈ WS := ws_t (List.mem_append_right _ (List.mem_append_left _ h)) g
theorem tb3 {w : Cond} (h : w ∈ tables_1_3) (g : goodWord w = true) : w ∈ WS := ws_t (List.mem_append_right _ (List.mem_append_right _ (List.mem_append_left _ h))) g
theorem tb4 {w : Cond} (h : w ∈ tables_1_4) (g : goodWord w = true) : w ∈ WS := ws_t (List.mem_append_right _ (List.mem_append_right _ (List.mem_append_right _ (List.mem_append_left _ h)))) g
theorem tb5 {w : Cond} (h : w ∈ tables_1_5) (g : goodWord w = true) : w ∈ WS := ws_t (List.mem_append_right _ (List.mem_append_right _ (List.mem_append_right _ (List.mem_append_right _ (List.mem_append_left _ h))))) g
theorem tb6 {w : Cond} (h : w ∈ tables_1_6) (g : goodWord w = true) : w ∈ WS := ws_t (List.mem_append_right _ (List.mem_append_right _ (List.mem_append_right _ (List.mem_append_right _ (List.mem_append_right _ (List.mem_append_left _ h)))))) g
theorem tb7 {w : Cond} (h : w ∈ tables_1_7) (g : goodWord w = true) : w ∈ WS := ws_t (List.mem_append_right _ (List.mem_append_right _ (List.mem_append_right _ (List.mem_append_right _ (List.mem_append_right _ (List.mem_append_right _ (List.mem_append_left _ h))))))) g
theorem tb8 {w : Cond} (h : w ∈ tables_1_8) (g : goodWord w = true) : w ∈ WS := ws_t (List.mem_append_right _ (List.mem_append_right _ (List.mem_append_right _ (List.mem_append_right _ (List.mem_append_right _ (List.mem_append_right _ (List.mem_append_right _ (h)))))))) g
theorem ws_GoodIn {ws : List Cond} (h : ∀ w ∈ ws, w ∈ WS) : GoodIn WS ws := fun w hw => ⟨h w hw, good_of_word (ws_good w (h w hw))⟩
