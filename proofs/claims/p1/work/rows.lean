section
-- ===== PART A: goes FIRST, ahead of the names: the tables' words, and 'selects' of the private methods out of them =====
/-- a private method of a class that the tables say can be made, by its rows of tables_1 -/
def lw_okq (q : MethodName × Nat) : Prop := (q.1.cls ≠ "java/lang/invoke/MethodHandle" ∧ q.1.cls ≠ "java/lang/invoke/VarHandle") ∧ Cond.instantiable q.1.cls q.2 ∈ tables_1 ∧ Cond.privateMethod q.1 ∈ tables_1 ∧ Cond.instanceMethod q.1 ∈ tables_1
theorem lw_p0 : lw_okq (⟨"MarkHouse$Teller", "writeOrder", "(LMarkHouse$Order;)V"⟩, 7) := ⟨⟨by decide +kernel, by decide +kernel⟩, List.mem_of_getElem? (i := 784) (by decide +kernel), List.mem_of_getElem? (i := 873) (by decide +kernel), List.mem_of_getElem? (i := 874) (by decide +kernel)⟩
theorem lw_p1 : lw_okq (⟨"MarkHouse$Teller", "putWord", "(I)V"⟩, 7) := ⟨⟨by decide +kernel, by decide +kernel⟩, List.mem_of_getElem? (i := 784) (by decide +kernel), List.mem_of_getElem? (i := 877) (by decide +kernel), List.mem_of_getElem? (i := 878) (by decide +kernel)⟩
theorem lw_p2 : lw_okq (⟨"MarkHouse$Teller", "putName", "(J)V"⟩, 7) := ⟨⟨by decide +kernel, by decide +kernel⟩, List.mem_of_getElem? (i := 784) (by decide +kernel), List.mem_of_getElem? (i := 881) (by decide +kernel), List.mem_of_getElem? (i := 882) (by decide +kernel)⟩
theorem lw_p3 : lw_okq (⟨"MarkHouse$Teller", "put", "(I)V"⟩, 7) := ⟨⟨by decide +kernel, by decide +kernel⟩, List.mem_of_getElem? (i := 784) (by decide +kernel), List.mem_of_getElem? (i := 885) (by decide +kernel), List.mem_of_getElem? (i := 886) (by decide +kernel)⟩
theorem lw_p4 : lw_okq (⟨"MarkHouse$Teller", "putSigns", "(J)V"⟩, 7) := ⟨⟨by decide +kernel, by decide +kernel⟩, List.mem_of_getElem? (i := 784) (by decide +kernel), List.mem_of_getElem? (i := 889) (by decide +kernel), List.mem_of_getElem? (i := 890) (by decide +kernel)⟩
theorem lw_p5 : lw_okq (⟨"MarkHouse$Teller", "putSign", "(C)V"⟩, 7) := ⟨⟨by decide +kernel, by decide +kernel⟩, List.mem_of_getElem? (i := 784) (by decide +kernel), List.mem_of_getElem? (i := 893) (by decide +kernel), List.mem_of_getElem? (i := 894) (by decide +kernel)⟩
theorem lw_p6 : lw_okq (⟨"MarkHouse$Teller", "writeKind", "(ILMarkHouse$Kind;)V"⟩, 7) := ⟨⟨by decide +kernel, by decide +kernel⟩, List.mem_of_getElem? (i := 784) (by decide +kernel), List.mem_of_getElem? (i := 905) (by decide +kernel), List.mem_of_getElem? (i := 906) (by decide +kernel)⟩
theorem lw_p7 : lw_okq (⟨"MarkHouse$Teller", "putValue", "(IJ)V"⟩, 7) := ⟨⟨by decide +kernel, by decide +kernel⟩, List.mem_of_getElem? (i := 784) (by decide +kernel), List.mem_of_getElem? (i := 909) (by decide +kernel), List.mem_of_getElem? (i := 910) (by decide +kernel)⟩
theorem lw_p8 : lw_okq (⟨"MarkHouse$Teller", "putDigits", "(J)V"⟩, 7) := ⟨⟨by decide +kernel, by decide +kernel⟩, List.mem_of_getElem? (i := 784) (by decide +kernel), List.mem_of_getElem? (i := 913) (by decide +kernel), List.mem_of_getElem? (i := 914) (by decide +kernel)⟩
theorem lw_p9 : lw_okq (⟨"MarkHouse$Teller", "writeSorts", "(I)V"⟩, 7) := ⟨⟨by decide +kernel, by decide +kernel⟩, List.mem_of_getElem? (i := 784) (by decide +kernel), List.mem_of_getElem? (i := 919) (by decide +kernel), List.mem_of_getElem? (i := 920) (by decide +kernel)⟩
theorem lw_p10 : lw_okq (⟨"MarkHouse$Teller", "writeMarks", "(I)V"⟩, 7) := ⟨⟨by decide +kernel, by decide +kernel⟩, List.mem_of_getElem? (i := 784) (by decide +kernel), List.mem_of_getElem? (i := 923) (by decide +kernel), List.mem_of_getElem? (i := 924) (by decide +kernel)⟩
theorem lw_p11 : lw_okq (⟨"MarkHouse$Teller", "isWhole", "(I)Z"⟩, 7) := ⟨⟨by decide +kernel, by decide +kernel⟩, List.mem_of_getElem? (i := 784) (by decide +kernel), List.mem_of_getElem? (i := 927) (by decide +kernel), List.mem_of_getElem? (i := 928) (by decide +kernel)⟩
theorem lw_p12 : lw_okq (⟨"MarkHouse$Teller", "writeMark", "(I)V"⟩, 7) := ⟨⟨by decide +kernel, by decide +kernel⟩, List.mem_of_getElem? (i := 784) (by decide +kernel), List.mem_of_getElem? (i := 957) (by decide +kernel), List.mem_of_getElem? (i := 958) (by decide +kernel)⟩
theorem lw_p13 : lw_okq (⟨"MarkHouse$Teller", "writeClassHead", "(I)V"⟩, 7) := ⟨⟨by decide +kernel, by decide +kernel⟩, List.mem_of_getElem? (i := 784) (by decide +kernel), List.mem_of_getElem? (i := 966) (by decide +kernel), List.mem_of_getElem? (i := 967) (by decide +kernel)⟩
theorem lw_p14 : lw_okq (⟨"MarkHouse$Teller", "writeMethodHead", "(I)V"⟩, 7) := ⟨⟨by decide +kernel, by decide +kernel⟩, List.mem_of_getElem? (i := 784) (by decide +kernel), List.mem_of_getElem? (i := 970) (by decide +kernel), List.mem_of_getElem? (i := 971) (by decide +kernel)⟩
theorem lw_p15 : lw_okq (⟨"MarkHouse$Teller", "writeAct", "(III)V"⟩, 7) := ⟨⟨by decide +kernel, by decide +kernel⟩, List.mem_of_getElem? (i := 784) (by decide +kernel), List.mem_of_getElem? (i := 978) (by decide +kernel), List.mem_of_getElem? (i := 979) (by decide +kernel)⟩
def lw_privs_1 : List (MethodName × Nat) := [(⟨"MarkHouse$Teller", "writeOrder", "(LMarkHouse$Order;)V"⟩, 7), (⟨"MarkHouse$Teller", "putWord", "(I)V"⟩, 7), (⟨"MarkHouse$Teller", "putName", "(J)V"⟩, 7), (⟨"MarkHouse$Teller", "put", "(I)V"⟩, 7), (⟨"MarkHouse$Teller", "putSigns", "(J)V"⟩, 7), (⟨"MarkHouse$Teller", "putSign", "(C)V"⟩, 7), (⟨"MarkHouse$Teller", "writeKind", "(ILMarkHouse$Kind;)V"⟩, 7), (⟨"MarkHouse$Teller", "putValue", "(IJ)V"⟩, 7), (⟨"MarkHouse$Teller", "putDigits", "(J)V"⟩, 7), (⟨"MarkHouse$Teller", "writeSorts", "(I)V"⟩, 7), (⟨"MarkHouse$Teller", "writeMarks", "(I)V"⟩, 7), (⟨"MarkHouse$Teller", "isWhole", "(I)Z"⟩, 7), (⟨"MarkHouse$Teller", "writeMark", "(I)V"⟩, 7), (⟨"MarkHouse$Teller", "writeClassHead", "(I)V"⟩, 7), (⟨"MarkHouse$Teller", "writeMethodHead", "(I)V"⟩, 7), (⟨"MarkHouse$Teller", "writeAct", "(III)V"⟩, 7)]
theorem lw_r1 : ∀ q ∈ lw_privs_1, lw_okq q := List.forall_mem_cons.mpr ⟨lw_p0, List.forall_mem_cons.mpr ⟨lw_p1, List.forall_mem_cons.mpr ⟨lw_p2, List.forall_mem_cons.mpr ⟨lw_p3, List.forall_mem_cons.mpr ⟨lw_p4, List.forall_mem_cons.mpr ⟨lw_p5, List.forall_mem_cons.mpr ⟨lw_p6, List.forall_mem_cons.mpr ⟨lw_p7, List.forall_mem_cons.mpr ⟨lw_p8, List.forall_mem_cons.mpr ⟨lw_p9, List.forall_mem_cons.mpr ⟨lw_p10, List.forall_mem_cons.mpr ⟨lw_p11, List.forall_mem_cons.mpr ⟨lw_p12, List.forall_mem_cons.mpr ⟨lw_p13, List.forall_mem_cons.mpr ⟨lw_p14, List.forall_mem_cons.mpr ⟨lw_p15, fun _ h => absurd h List.not_mem_nil⟩⟩⟩⟩⟩⟩⟩⟩⟩⟩⟩⟩⟩⟩⟩⟩
theorem lw_p16 : lw_okq (⟨"MarkHouse$Teller", "writeOrderElement", "(II)V"⟩, 7) := ⟨⟨by decide +kernel, by decide +kernel⟩, List.mem_of_getElem? (i := 784) (by decide +kernel), List.mem_of_getElem? (i := 982) (by decide +kernel), List.mem_of_getElem? (i := 983) (by decide +kernel)⟩
theorem lw_p17 : lw_okq (⟨"MarkHouse", "methodSize", "(II)I"⟩, 10) := ⟨⟨by decide +kernel, by decide +kernel⟩, List.mem_of_getElem? (i := 35) (by decide +kernel), List.mem_of_getElem? (i := 999) (by decide +kernel), List.mem_of_getElem? (i := 1000) (by decide +kernel)⟩
theorem lw_p18 : lw_okq (⟨"MarkHouse$Reader", "fileByte", "(II)I"⟩, 12) := ⟨⟨by decide +kernel, by decide +kernel⟩, List.mem_of_getElem? (i := 546) (by decide +kernel), List.mem_of_getElem? (i := 1042) (by decide +kernel), List.mem_of_getElem? (i := 1043) (by decide +kernel)⟩
theorem lw_p19 : lw_okq (⟨"MarkHouse$Reader", "readFileMark", "(I)V"⟩, 12) := ⟨⟨by decide +kernel, by decide +kernel⟩, List.mem_of_getElem? (i := 546) (by decide +kernel), List.mem_of_getElem? (i := 1046) (by decide +kernel), List.mem_of_getElem? (i := 1047) (by decide +kernel)⟩
theorem lw_p20 : lw_okq (⟨"MarkHouse$Reader", "fileName", "()J"⟩, 12) := ⟨⟨by decide +kernel, by decide +kernel⟩, List.mem_of_getElem? (i := 546) (by decide +kernel), List.mem_of_getElem? (i := 1050) (by decide +kernel), List.mem_of_getElem? (i := 1051) (by decide +kernel)⟩
theorem lw_p21 : lw_okq (⟨"MarkHouse$Reader", "fileValue", "(I)J"⟩, 12) := ⟨⟨by decide +kernel, by decide +kernel⟩, List.mem_of_getElem? (i := 546) (by decide +kernel), List.mem_of_getElem? (i := 1064) (by decide +kernel), List.mem_of_getElem? (i := 1065) (by decide +kernel)⟩
theorem lw_p22 : lw_okq (⟨"MarkHouse$Reader", "fileText", "()J"⟩, 12) := ⟨⟨by decide +kernel, by decide +kernel⟩, List.mem_of_getElem? (i := 546) (by decide +kernel), List.mem_of_getElem? (i := 1068) (by decide +kernel), List.mem_of_getElem? (i := 1069) (by decide +kernel)⟩
theorem lw_p23 : lw_okq (⟨"MarkHouse$Effects", "howMany", "(II)I"⟩, 10) := ⟨⟨by decide +kernel, by decide +kernel⟩, List.mem_of_getElem? (i := 592) (by decide +kernel), List.mem_of_getElem? (i := 1108) (by decide +kernel), List.mem_of_getElem? (i := 1109) (by decide +kernel)⟩
theorem lw_p24 : lw_okq (⟨"MarkHouse", "forget", "()V"⟩, 10) := ⟨⟨by decide +kernel, by decide +kernel⟩, List.mem_of_getElem? (i := 35) (by decide +kernel), List.mem_of_getElem? (i := 1112) (by decide +kernel), List.mem_of_getElem? (i := 1113) (by decide +kernel)⟩
theorem lw_p25 : lw_okq (⟨"java/lang/Throwable", "fillInStackTrace", "(I)Ljava/lang/Throwable;"⟩, 6) := ⟨⟨by decide +kernel, by decide +kernel⟩, List.mem_of_getElem? (i := 1164) (by decide +kernel), List.mem_of_getElem? (i := 1162) (by decide +kernel), List.mem_of_getElem? (i := 1163) (by decide +kernel)⟩
theorem lw_p26 : lw_okq (⟨"MarkHouse$Teller", "putCounted", "(J)V"⟩, 7) := ⟨⟨by decide +kernel, by decide +kernel⟩, List.mem_of_getElem? (i := 784) (by decide +kernel), List.mem_of_getElem? (i := 1433) (by decide +kernel), List.mem_of_getElem? (i := 1434) (by decide +kernel)⟩
theorem lw_p27 : lw_okq (⟨"MarkHouse$Teller", "putFour", "(J)V"⟩, 7) := ⟨⟨by decide +kernel, by decide +kernel⟩, List.mem_of_getElem? (i := 784) (by decide +kernel), List.mem_of_getElem? (i := 1437) (by decide +kernel), List.mem_of_getElem? (i := 1438) (by decide +kernel)⟩
theorem lw_p28 : lw_okq (⟨"MarkHouse", "isAskable", "(II)Z"⟩, 10) := ⟨⟨by decide +kernel, by decide +kernel⟩, List.mem_of_getElem? (i := 35) (by decide +kernel), List.mem_of_getElem? (i := 1445) (by decide +kernel), List.mem_of_getElem? (i := 1446) (by decide +kernel)⟩
theorem lw_p29 : lw_okq (⟨"MarkHouse$Effects", "ownCount", "(II)I"⟩, 10) := ⟨⟨by decide +kernel, by decide +kernel⟩, List.mem_of_getElem? (i := 592) (by decide +kernel), List.mem_of_getElem? (i := 1457) (by decide +kernel), List.mem_of_getElem? (i := 1458) (by decide +kernel)⟩
theorem lw_p30 : lw_okq (⟨"MarkHouse$Effects", "givenAt", "(II)I"⟩, 10) := ⟨⟨by decide +kernel, by decide +kernel⟩, List.mem_of_getElem? (i := 592) (by decide +kernel), List.mem_of_getElem? (i := 1463) (by decide +kernel), List.mem_of_getElem? (i := 1464) (by decide +kernel)⟩
theorem lw_p31 : lw_okq (⟨"MarkHouse$Effects", "givenBy", "(II)I"⟩, 10) := ⟨⟨by decide +kernel, by decide +kernel⟩, List.mem_of_getElem? (i := 592) (by decide +kernel), List.mem_of_getElem? (i := 1467) (by decide +kernel), List.mem_of_getElem? (i := 1468) (by decide +kernel)⟩
def lw_privs_2 : List (MethodName × Nat) := [(⟨"MarkHouse$Teller", "writeOrderElement", "(II)V"⟩, 7), (⟨"MarkHouse", "methodSize", "(II)I"⟩, 10), (⟨"MarkHouse$Reader", "fileByte", "(II)I"⟩, 12), (⟨"MarkHouse$Reader", "readFileMark", "(I)V"⟩, 12), (⟨"MarkHouse$Reader", "fileName", "()J"⟩, 12), (⟨"MarkHouse$Reader", "fileValue", "(I)J"⟩, 12), (⟨"MarkHouse$Reader", "fileText", "()J"⟩, 12), (⟨"MarkHouse$Effects", "howMany", "(II)I"⟩, 10), (⟨"MarkHouse", "forget", "()V"⟩, 10), (⟨"java/lang/Throwable", "fillInStackTrace", "(I)Ljava/lang/Throwable;"⟩, 6), (⟨"MarkHouse$Teller", "putCounted", "(J)V"⟩, 7), (⟨"MarkHouse$Teller", "putFour", "(J)V"⟩, 7), (⟨"MarkHouse", "isAskable", "(II)Z"⟩, 10), (⟨"MarkHouse$Effects", "ownCount", "(II)I"⟩, 10), (⟨"MarkHouse$Effects", "givenAt", "(II)I"⟩, 10), (⟨"MarkHouse$Effects", "givenBy", "(II)I"⟩, 10)]
theorem lw_r2 : ∀ q ∈ lw_privs_2, lw_okq q := List.forall_mem_cons.mpr ⟨lw_p16, List.forall_mem_cons.mpr ⟨lw_p17, List.forall_mem_cons.mpr ⟨lw_p18, List.forall_mem_cons.mpr ⟨lw_p19, List.forall_mem_cons.mpr ⟨lw_p20, List.forall_mem_cons.mpr ⟨lw_p21, List.forall_mem_cons.mpr ⟨lw_p22, List.forall_mem_cons.mpr ⟨lw_p23, List.forall_mem_cons.mpr ⟨lw_p24, List.forall_mem_cons.mpr ⟨lw_p25, List.forall_mem_cons.mpr ⟨lw_p26, List.forall_mem_cons.mpr ⟨lw_p27, List.forall_mem_cons.mpr ⟨lw_p28, List.forall_mem_cons.mpr ⟨lw_p29, List.forall_mem_cons.mpr ⟨lw_p30, List.forall_mem_cons.mpr ⟨lw_p31, fun _ h => absurd h List.not_mem_nil⟩⟩⟩⟩⟩⟩⟩⟩⟩⟩⟩⟩⟩⟩⟩⟩
theorem lw_p32 : lw_okq (⟨"MarkHouse$Effects", "above", "(I)I"⟩, 10) := ⟨⟨by decide +kernel, by decide +kernel⟩, List.mem_of_getElem? (i := 592) (by decide +kernel), List.mem_of_getElem? (i := 1475) (by decide +kernel), List.mem_of_getElem? (i := 1476) (by decide +kernel)⟩
theorem lw_p33 : lw_okq (⟨"MarkHouse$Effects", "isAlike", "(III)Z"⟩, 10) := ⟨⟨by decide +kernel, by decide +kernel⟩, List.mem_of_getElem? (i := 592) (by decide +kernel), List.mem_of_getElem? (i := 1497) (by decide +kernel), List.mem_of_getElem? (i := 1498) (by decide +kernel)⟩
theorem lw_p34 : lw_okq (⟨"MarkHouse$Effects", "elementAt", "(II)I"⟩, 10) := ⟨⟨by decide +kernel, by decide +kernel⟩, List.mem_of_getElem? (i := 592) (by decide +kernel), List.mem_of_getElem? (i := 1528) (by decide +kernel), List.mem_of_getElem? (i := 1529) (by decide +kernel)⟩
theorem lw_p35 : lw_okq (⟨"MarkHouse$Effects", "makeRound", "()Z"⟩, 10) := ⟨⟨by decide +kernel, by decide +kernel⟩, List.mem_of_getElem? (i := 592) (by decide +kernel), List.mem_of_getElem? (i := 1546) (by decide +kernel), List.mem_of_getElem? (i := 1547) (by decide +kernel)⟩
theorem lw_p36 : lw_okq (⟨"MarkHouse$Effects", "addMarks", "(II)Z"⟩, 10) := ⟨⟨by decide +kernel, by decide +kernel⟩, List.mem_of_getElem? (i := 592) (by decide +kernel), List.mem_of_getElem? (i := 1550) (by decide +kernel), List.mem_of_getElem? (i := 1551) (by decide +kernel)⟩
theorem lw_p37 : lw_okq (⟨"MarkHouse$Flow", "followMethod", "(I)V"⟩, 17) := ⟨⟨by decide +kernel, by decide +kernel⟩, List.mem_of_getElem? (i := 632) (by decide +kernel), List.mem_of_getElem? (i := 1581) (by decide +kernel), List.mem_of_getElem? (i := 1582) (by decide +kernel)⟩
theorem lw_p38 : lw_okq (⟨"MarkHouse$Flow", "entry", "(I)J"⟩, 17) := ⟨⟨by decide +kernel, by decide +kernel⟩, List.mem_of_getElem? (i := 632) (by decide +kernel), List.mem_of_getElem? (i := 1589) (by decide +kernel), List.mem_of_getElem? (i := 1590) (by decide +kernel)⟩
theorem lw_p39 : lw_okq (⟨"MarkHouse$Flow", "lead", "(II)J"⟩, 17) := ⟨⟨by decide +kernel, by decide +kernel⟩, List.mem_of_getElem? (i := 632) (by decide +kernel), List.mem_of_getElem? (i := 1608) (by decide +kernel), List.mem_of_getElem? (i := 1609) (by decide +kernel)⟩
theorem lw_p40 : lw_okq (⟨"MarkHouse$Flow", "behind", "(IJ)J"⟩, 17) := ⟨⟨by decide +kernel, by decide +kernel⟩, List.mem_of_getElem? (i := 632) (by decide +kernel), List.mem_of_getElem? (i := 1612) (by decide +kernel), List.mem_of_getElem? (i := 1613) (by decide +kernel)⟩
theorem lw_p41 : lw_okq (⟨"MarkHouse$Flow", "behindCall", "(IJI)J"⟩, 17) := ⟨⟨by decide +kernel, by decide +kernel⟩, List.mem_of_getElem? (i := 632) (by decide +kernel), List.mem_of_getElem? (i := 1619) (by decide +kernel), List.mem_of_getElem? (i := 1620) (by decide +kernel)⟩
theorem lw_p42 : lw_okq (⟨"MarkHouse$Flow", "bring", "(IIJ)J"⟩, 17) := ⟨⟨by decide +kernel, by decide +kernel⟩, List.mem_of_getElem? (i := 632) (by decide +kernel), List.mem_of_getElem? (i := 1628) (by decide +kernel), List.mem_of_getElem? (i := 1629) (by decide +kernel)⟩
theorem lw_p43 : lw_okq (⟨"MarkHouse$Flow", "joinStates", "(JJ)J"⟩, 17) := ⟨⟨by decide +kernel, by decide +kernel⟩, List.mem_of_getElem? (i := 632) (by decide +kernel), List.mem_of_getElem? (i := 1632) (by decide +kernel), List.mem_of_getElem? (i := 1633) (by decide +kernel)⟩
theorem lw_p44 : lw_okq (⟨"MarkHouse$Flow", "atLabel", "(IJ)J"⟩, 17) := ⟨⟨by decide +kernel, by decide +kernel⟩, List.mem_of_getElem? (i := 632) (by decide +kernel), List.mem_of_getElem? (i := 1636) (by decide +kernel), List.mem_of_getElem? (i := 1637) (by decide +kernel)⟩
theorem lw_p45 : lw_okq (⟨"MarkHouse$Flow", "addErrors", "(I)V"⟩, 17) := ⟨⟨by decide +kernel, by decide +kernel⟩, List.mem_of_getElem? (i := 632) (by decide +kernel), List.mem_of_getElem? (i := 1641) (by decide +kernel), List.mem_of_getElem? (i := 1642) (by decide +kernel)⟩
theorem lw_p46 : lw_okq (⟨"MarkHouse$Flow", "isWrong", "(IIIJ)Z"⟩, 17) := ⟨⟨by decide +kernel, by decide +kernel⟩, List.mem_of_getElem? (i := 632) (by decide +kernel), List.mem_of_getElem? (i := 1649) (by decide +kernel), List.mem_of_getElem? (i := 1650) (by decide +kernel)⟩
theorem lw_p47 : lw_okq (⟨"MarkHouse$Flow", "meetSituation", "(IJI)V"⟩, 17) := ⟨⟨by decide +kernel, by decide +kernel⟩, List.mem_of_getElem? (i := 632) (by decide +kernel), List.mem_of_getElem? (i := 1684) (by decide +kernel), List.mem_of_getElem? (i := 1685) (by decide +kernel)⟩
def lw_privs_3 : List (MethodName × Nat) := [(⟨"MarkHouse$Effects", "above", "(I)I"⟩, 10), (⟨"MarkHouse$Effects", "isAlike", "(III)Z"⟩, 10), (⟨"MarkHouse$Effects", "elementAt", "(II)I"⟩, 10), (⟨"MarkHouse$Effects", "makeRound", "()Z"⟩, 10), (⟨"MarkHouse$Effects", "addMarks", "(II)Z"⟩, 10), (⟨"MarkHouse$Flow", "followMethod", "(I)V"⟩, 17), (⟨"MarkHouse$Flow", "entry", "(I)J"⟩, 17), (⟨"MarkHouse$Flow", "lead", "(II)J"⟩, 17), (⟨"MarkHouse$Flow", "behind", "(IJ)J"⟩, 17), (⟨"MarkHouse$Flow", "behindCall", "(IJI)J"⟩, 17), (⟨"MarkHouse$Flow", "bring", "(IIJ)J"⟩, 17), (⟨"MarkHouse$Flow", "joinStates", "(JJ)J"⟩, 17), (⟨"MarkHouse$Flow", "atLabel", "(IJ)J"⟩, 17), (⟨"MarkHouse$Flow", "addErrors", "(I)V"⟩, 17), (⟨"MarkHouse$Flow", "isWrong", "(IIIJ)Z"⟩, 17), (⟨"MarkHouse$Flow", "meetSituation", "(IJI)V"⟩, 17)]
theorem lw_r3 : ∀ q ∈ lw_privs_3, lw_okq q := List.forall_mem_cons.mpr ⟨lw_p32, List.forall_mem_cons.mpr ⟨lw_p33, List.forall_mem_cons.mpr ⟨lw_p34, List.forall_mem_cons.mpr ⟨lw_p35, List.forall_mem_cons.mpr ⟨lw_p36, List.forall_mem_cons.mpr ⟨lw_p37, List.forall_mem_cons.mpr ⟨lw_p38, List.forall_mem_cons.mpr ⟨lw_p39, List.forall_mem_cons.mpr ⟨lw_p40, List.forall_mem_cons.mpr ⟨lw_p41, List.forall_mem_cons.mpr ⟨lw_p42, List.forall_mem_cons.mpr ⟨lw_p43, List.forall_mem_cons.mpr ⟨lw_p44, List.forall_mem_cons.mpr ⟨lw_p45, List.forall_mem_cons.mpr ⟨lw_p46, List.forall_mem_cons.mpr ⟨lw_p47, fun _ h => absurd h List.not_mem_nil⟩⟩⟩⟩⟩⟩⟩⟩⟩⟩⟩⟩⟩⟩⟩⟩
theorem lw_p48 : lw_okq (⟨"MarkHouse$Flow", "showsError", "(IJ)Z"⟩, 17) := ⟨⟨by decide +kernel, by decide +kernel⟩, List.mem_of_getElem? (i := 632) (by decide +kernel), List.mem_of_getElem? (i := 1688) (by decide +kernel), List.mem_of_getElem? (i := 1689) (by decide +kernel)⟩
theorem lw_p49 : lw_okq (⟨"MarkHouse$Flow", "goOnFrom", "(II)V"⟩, 17) := ⟨⟨by decide +kernel, by decide +kernel⟩, List.mem_of_getElem? (i := 632) (by decide +kernel), List.mem_of_getElem? (i := 1692) (by decide +kernel), List.mem_of_getElem? (i := 1693) (by decide +kernel)⟩
theorem lw_p50 : lw_okq (⟨"MarkHouse$Flow", "keepSteps", "()I"⟩, 17) := ⟨⟨by decide +kernel, by decide +kernel⟩, List.mem_of_getElem? (i := 632) (by decide +kernel), List.mem_of_getElem? (i := 1696) (by decide +kernel), List.mem_of_getElem? (i := 1697) (by decide +kernel)⟩
theorem lw_p51 : lw_okq (⟨"MarkHouse$Flow", "raiseBy", "(I)Z"⟩, 17) := ⟨⟨by decide +kernel, by decide +kernel⟩, List.mem_of_getElem? (i := 632) (by decide +kernel), List.mem_of_getElem? (i := 1724) (by decide +kernel), List.mem_of_getElem? (i := 1725) (by decide +kernel)⟩
theorem lw_p52 : lw_okq (⟨"MarkHouse$Teller", "writeChecks", "(II)V"⟩, 7) := ⟨⟨by decide +kernel, by decide +kernel⟩, List.mem_of_getElem? (i := 784) (by decide +kernel), List.mem_of_getElem? (i := 1757) (by decide +kernel), List.mem_of_getElem? (i := 1758) (by decide +kernel)⟩
theorem lw_p53 : lw_okq (⟨"MarkHouse$Teller", "writtenAhead", "(IIZ)I"⟩, 7) := ⟨⟨by decide +kernel, by decide +kernel⟩, List.mem_of_getElem? (i := 784) (by decide +kernel), List.mem_of_getElem? (i := 1766) (by decide +kernel), List.mem_of_getElem? (i := 1767) (by decide +kernel)⟩
theorem lw_p54 : lw_okq (⟨"MarkHouse$Wiring", "seekParts", "()V"⟩, 10) := ⟨⟨by decide +kernel, by decide +kernel⟩, List.mem_of_getElem? (i := 747) (by decide +kernel), List.mem_of_getElem? (i := 1820) (by decide +kernel), List.mem_of_getElem? (i := 1821) (by decide +kernel)⟩
theorem lw_p55 : lw_okq (⟨"MarkHouse$Wiring", "textOf", "(IJ)J"⟩, 10) := ⟨⟨by decide +kernel, by decide +kernel⟩, List.mem_of_getElem? (i := 747) (by decide +kernel), List.mem_of_getElem? (i := 1829) (by decide +kernel), List.mem_of_getElem? (i := 1830) (by decide +kernel)⟩
theorem lw_p56 : lw_okq (⟨"MarkHouse$Wiring", "valueOf", "(IJI)J"⟩, 10) := ⟨⟨by decide +kernel, by decide +kernel⟩, List.mem_of_getElem? (i := 747) (by decide +kernel), List.mem_of_getElem? (i := 1833) (by decide +kernel), List.mem_of_getElem? (i := 1834) (by decide +kernel)⟩
theorem lw_p57 : lw_okq (⟨"MarkHouse$Wiring", "make", "(III)I"⟩, 10) := ⟨⟨by decide +kernel, by decide +kernel⟩, List.mem_of_getElem? (i := 747) (by decide +kernel), List.mem_of_getElem? (i := 1845) (by decide +kernel), List.mem_of_getElem? (i := 1846) (by decide +kernel)⟩
theorem lw_p58 : lw_okq (⟨"MarkHouse$Wiring", "meetWant", "(IIII)I"⟩, 10) := ⟨⟨by decide +kernel, by decide +kernel⟩, List.mem_of_getElem? (i := 747) (by decide +kernel), List.mem_of_getElem? (i := 1853) (by decide +kernel), List.mem_of_getElem? (i := 1854) (by decide +kernel)⟩
theorem lw_p59 : lw_okq (⟨"MarkHouse$Wiring", "note", "(III)I"⟩, 10) := ⟨⟨by decide +kernel, by decide +kernel⟩, List.mem_of_getElem? (i := 747) (by decide +kernel), List.mem_of_getElem? (i := 1868) (by decide +kernel), List.mem_of_getElem? (i := 1869) (by decide +kernel)⟩
theorem lw_p60 : lw_okq (⟨"MarkHouse$Cutter", "skipBlanks", "()V"⟩, 8) := ⟨⟨by decide +kernel, by decide +kernel⟩, List.mem_of_getElem? (i := 43) (by decide +kernel), List.mem_of_getElem? (i := 1905) (by decide +kernel), List.mem_of_getElem? (i := 1906) (by decide +kernel)⟩
theorem lw_p61 : lw_okq (⟨"MarkHouse$Cutter", "cutOne", "()Z"⟩, 8) := ⟨⟨by decide +kernel, by decide +kernel⟩, List.mem_of_getElem? (i := 43) (by decide +kernel), List.mem_of_getElem? (i := 1909) (by decide +kernel), List.mem_of_getElem? (i := 1910) (by decide +kernel)⟩
theorem lw_p62 : lw_okq (⟨"MarkHouse$Cutter", "cutName", "()Z"⟩, 8) := ⟨⟨by decide +kernel, by decide +kernel⟩, List.mem_of_getElem? (i := 43) (by decide +kernel), List.mem_of_getElem? (i := 1914) (by decide +kernel), List.mem_of_getElem? (i := 1915) (by decide +kernel)⟩
theorem lw_p63 : lw_okq (⟨"MarkHouse$Cutter", "sortOfName", "(J)I"⟩, 8) := ⟨⟨by decide +kernel, by decide +kernel⟩, List.mem_of_getElem? (i := 43) (by decide +kernel), List.mem_of_getElem? (i := 1919) (by decide +kernel), List.mem_of_getElem? (i := 1920) (by decide +kernel)⟩
def lw_privs_4 : List (MethodName × Nat) := [(⟨"MarkHouse$Flow", "showsError", "(IJ)Z"⟩, 17), (⟨"MarkHouse$Flow", "goOnFrom", "(II)V"⟩, 17), (⟨"MarkHouse$Flow", "keepSteps", "()I"⟩, 17), (⟨"MarkHouse$Flow", "raiseBy", "(I)Z"⟩, 17), (⟨"MarkHouse$Teller", "writeChecks", "(II)V"⟩, 7), (⟨"MarkHouse$Teller", "writtenAhead", "(IIZ)I"⟩, 7), (⟨"MarkHouse$Wiring", "seekParts", "()V"⟩, 10), (⟨"MarkHouse$Wiring", "textOf", "(IJ)J"⟩, 10), (⟨"MarkHouse$Wiring", "valueOf", "(IJI)J"⟩, 10), (⟨"MarkHouse$Wiring", "make", "(III)I"⟩, 10), (⟨"MarkHouse$Wiring", "meetWant", "(IIII)I"⟩, 10), (⟨"MarkHouse$Wiring", "note", "(III)I"⟩, 10), (⟨"MarkHouse$Cutter", "skipBlanks", "()V"⟩, 8), (⟨"MarkHouse$Cutter", "cutOne", "()Z"⟩, 8), (⟨"MarkHouse$Cutter", "cutName", "()Z"⟩, 8), (⟨"MarkHouse$Cutter", "sortOfName", "(J)I"⟩, 8)]
theorem lw_r4 : ∀ q ∈ lw_privs_4, lw_okq q := List.forall_mem_cons.mpr ⟨lw_p48, List.forall_mem_cons.mpr ⟨lw_p49, List.forall_mem_cons.mpr ⟨lw_p50, List.forall_mem_cons.mpr ⟨lw_p51, List.forall_mem_cons.mpr ⟨lw_p52, List.forall_mem_cons.mpr ⟨lw_p53, List.forall_mem_cons.mpr ⟨lw_p54, List.forall_mem_cons.mpr ⟨lw_p55, List.forall_mem_cons.mpr ⟨lw_p56, List.forall_mem_cons.mpr ⟨lw_p57, List.forall_mem_cons.mpr ⟨lw_p58, List.forall_mem_cons.mpr ⟨lw_p59, List.forall_mem_cons.mpr ⟨lw_p60, List.forall_mem_cons.mpr ⟨lw_p61, List.forall_mem_cons.mpr ⟨lw_p62, List.forall_mem_cons.mpr ⟨lw_p63, fun _ h => absurd h List.not_mem_nil⟩⟩⟩⟩⟩⟩⟩⟩⟩⟩⟩⟩⟩⟩⟩⟩
theorem lw_p64 : lw_okq (⟨"MarkHouse$Cutter", "cutNumber", "()Z"⟩, 8) := ⟨⟨by decide +kernel, by decide +kernel⟩, List.mem_of_getElem? (i := 43) (by decide +kernel), List.mem_of_getElem? (i := 1923) (by decide +kernel), List.mem_of_getElem? (i := 1924) (by decide +kernel)⟩
theorem lw_p65 : lw_okq (⟨"MarkHouse$Cutter", "cutText", "()Z"⟩, 8) := ⟨⟨by decide +kernel, by decide +kernel⟩, List.mem_of_getElem? (i := 43) (by decide +kernel), List.mem_of_getElem? (i := 1929) (by decide +kernel), List.mem_of_getElem? (i := 1930) (by decide +kernel)⟩
theorem lw_p66 : lw_okq (⟨"MarkHouse$Reader", "fail", "(II)V"⟩, 12) := ⟨⟨by decide +kernel, by decide +kernel⟩, List.mem_of_getElem? (i := 546) (by decide +kernel), List.mem_of_getElem? (i := 1983) (by decide +kernel), List.mem_of_getElem? (i := 1984) (by decide +kernel)⟩
theorem lw_p67 : lw_okq (⟨"MarkHouse$Reader", "next", "()I"⟩, 12) := ⟨⟨by decide +kernel, by decide +kernel⟩, List.mem_of_getElem? (i := 546) (by decide +kernel), List.mem_of_getElem? (i := 1994) (by decide +kernel), List.mem_of_getElem? (i := 1995) (by decide +kernel)⟩
theorem lw_p68 : lw_okq (⟨"MarkHouse$Reader", "readOrder", "()V"⟩, 12) := ⟨⟨by decide +kernel, by decide +kernel⟩, List.mem_of_getElem? (i := 546) (by decide +kernel), List.mem_of_getElem? (i := 1998) (by decide +kernel), List.mem_of_getElem? (i := 1999) (by decide +kernel)⟩
theorem lw_p69 : lw_okq (⟨"MarkHouse$Reader", "here", "()I"⟩, 12) := ⟨⟨by decide +kernel, by decide +kernel⟩, List.mem_of_getElem? (i := 546) (by decide +kernel), List.mem_of_getElem? (i := 2002) (by decide +kernel), List.mem_of_getElem? (i := 2003) (by decide +kernel)⟩
theorem lw_p70 : lw_okq (⟨"MarkHouse$Reader", "isNamedHere", "()Z"⟩, 12) := ⟨⟨by decide +kernel, by decide +kernel⟩, List.mem_of_getElem? (i := 546) (by decide +kernel), List.mem_of_getElem? (i := 2006) (by decide +kernel), List.mem_of_getElem? (i := 2007) (by decide +kernel)⟩
theorem lw_p71 : lw_okq (⟨"MarkHouse$Program", "isMaker", "(J)Z"⟩, 15) := ⟨⟨by decide +kernel, by decide +kernel⟩, List.mem_of_getElem? (i := 134) (by decide +kernel), List.mem_of_getElem? (i := 2015) (by decide +kernel), List.mem_of_getElem? (i := 2016) (by decide +kernel)⟩
theorem lw_p72 : lw_okq (⟨"MarkHouse$Reader", "newName", "(ZZ)J"⟩, 12) := ⟨⟨by decide +kernel, by decide +kernel⟩, List.mem_of_getElem? (i := 546) (by decide +kernel), List.mem_of_getElem? (i := 2020) (by decide +kernel), List.mem_of_getElem? (i := 2021) (by decide +kernel)⟩
theorem lw_p73 : lw_okq (⟨"MarkHouse$Reader", "nameHere", "()J"⟩, 12) := ⟨⟨by decide +kernel, by decide +kernel⟩, List.mem_of_getElem? (i := 546) (by decide +kernel), List.mem_of_getElem? (i := 2024) (by decide +kernel), List.mem_of_getElem? (i := 2025) (by decide +kernel)⟩
theorem lw_p74 : lw_okq (⟨"MarkHouse$Reader", "pass", "(I)V"⟩, 12) := ⟨⟨by decide +kernel, by decide +kernel⟩, List.mem_of_getElem? (i := 546) (by decide +kernel), List.mem_of_getElem? (i := 2032) (by decide +kernel), List.mem_of_getElem? (i := 2033) (by decide +kernel)⟩
theorem lw_p75 : lw_okq (⟨"MarkHouse$Reader", "readNewElement", "(LMarkHouse$Order;)I"⟩, 12) := ⟨⟨by decide +kernel, by decide +kernel⟩, List.mem_of_getElem? (i := 546) (by decide +kernel), List.mem_of_getElem? (i := 2036) (by decide +kernel), List.mem_of_getElem? (i := 2037) (by decide +kernel)⟩
theorem lw_p76 : lw_okq (⟨"MarkHouse$Reader", "passIf", "(I)Z"⟩, 12) := ⟨⟨by decide +kernel, by decide +kernel⟩, List.mem_of_getElem? (i := 546) (by decide +kernel), List.mem_of_getElem? (i := 2045) (by decide +kernel), List.mem_of_getElem? (i := 2046) (by decide +kernel)⟩
theorem lw_p77 : lw_okq (⟨"MarkHouse$Order", "close", "()V"⟩, 9) := ⟨⟨by decide +kernel, by decide +kernel⟩, List.mem_of_getElem? (i := 143) (by decide +kernel), List.mem_of_getElem? (i := 2053) (by decide +kernel), List.mem_of_getElem? (i := 2054) (by decide +kernel)⟩
theorem lw_p78 : lw_okq (⟨"MarkHouse$Order", "least", "(I[I)I"⟩, 9) := ⟨⟨by decide +kernel, by decide +kernel⟩, List.mem_of_getElem? (i := 143) (by decide +kernel), List.mem_of_getElem? (i := 2057) (by decide +kernel), List.mem_of_getElem? (i := 2058) (by decide +kernel)⟩
theorem lw_p79 : lw_okq (⟨"MarkHouse$Reader", "readKind", "()V"⟩, 12) := ⟨⟨by decide +kernel, by decide +kernel⟩, List.mem_of_getElem? (i := 546) (by decide +kernel), List.mem_of_getElem? (i := 2063) (by decide +kernel), List.mem_of_getElem? (i := 2064) (by decide +kernel)⟩
def lw_privs_5 : List (MethodName × Nat) := [(⟨"MarkHouse$Cutter", "cutNumber", "()Z"⟩, 8), (⟨"MarkHouse$Cutter", "cutText", "()Z"⟩, 8), (⟨"MarkHouse$Reader", "fail", "(II)V"⟩, 12), (⟨"MarkHouse$Reader", "next", "()I"⟩, 12), (⟨"MarkHouse$Reader", "readOrder", "()V"⟩, 12), (⟨"MarkHouse$Reader", "here", "()I"⟩, 12), (⟨"MarkHouse$Reader", "isNamedHere", "()Z"⟩, 12), (⟨"MarkHouse$Program", "isMaker", "(J)Z"⟩, 15), (⟨"MarkHouse$Reader", "newName", "(ZZ)J"⟩, 12), (⟨"MarkHouse$Reader", "nameHere", "()J"⟩, 12), (⟨"MarkHouse$Reader", "pass", "(I)V"⟩, 12), (⟨"MarkHouse$Reader", "readNewElement", "(LMarkHouse$Order;)I"⟩, 12), (⟨"MarkHouse$Reader", "passIf", "(I)Z"⟩, 12), (⟨"MarkHouse$Order", "close", "()V"⟩, 9), (⟨"MarkHouse$Order", "least", "(I[I)I"⟩, 9), (⟨"MarkHouse$Reader", "readKind", "()V"⟩, 12)]
theorem lw_r5 : ∀ q ∈ lw_privs_5, lw_okq q := List.forall_mem_cons.mpr ⟨lw_p64, List.forall_mem_cons.mpr ⟨lw_p65, List.forall_mem_cons.mpr ⟨lw_p66, List.forall_mem_cons.mpr ⟨lw_p67, List.forall_mem_cons.mpr ⟨lw_p68, List.forall_mem_cons.mpr ⟨lw_p69, List.forall_mem_cons.mpr ⟨lw_p70, List.forall_mem_cons.mpr ⟨lw_p71, List.forall_mem_cons.mpr ⟨lw_p72, List.forall_mem_cons.mpr ⟨lw_p73, List.forall_mem_cons.mpr ⟨lw_p74, List.forall_mem_cons.mpr ⟨lw_p75, List.forall_mem_cons.mpr ⟨lw_p76, List.forall_mem_cons.mpr ⟨lw_p77, List.forall_mem_cons.mpr ⟨lw_p78, List.forall_mem_cons.mpr ⟨lw_p79, fun _ h => absurd h List.not_mem_nil⟩⟩⟩⟩⟩⟩⟩⟩⟩⟩⟩⟩⟩⟩⟩⟩
theorem lw_p80 : lw_okq (⟨"MarkHouse$Reader", "readMembers", "(LMarkHouse$Kind;)V"⟩, 12) := ⟨⟨by decide +kernel, by decide +kernel⟩, List.mem_of_getElem? (i := 546) (by decide +kernel), List.mem_of_getElem? (i := 2072) (by decide +kernel), List.mem_of_getElem? (i := 2073) (by decide +kernel)⟩
theorem lw_p81 : lw_okq (⟨"MarkHouse$Reader", "readValue", "(I)J"⟩, 12) := ⟨⟨by decide +kernel, by decide +kernel⟩, List.mem_of_getElem? (i := 546) (by decide +kernel), List.mem_of_getElem? (i := 2077) (by decide +kernel), List.mem_of_getElem? (i := 2078) (by decide +kernel)⟩
theorem lw_p82 : lw_okq (⟨"MarkHouse$Reader", "readSorts", "(LMarkHouse$Kind;)V"⟩, 12) := ⟨⟨by decide +kernel, by decide +kernel⟩, List.mem_of_getElem? (i := 546) (by decide +kernel), List.mem_of_getElem? (i := 2081) (by decide +kernel), List.mem_of_getElem? (i := 2082) (by decide +kernel)⟩
theorem lw_p83 : lw_okq (⟨"MarkHouse$Reader", "readSomeMarks", "(II)V"⟩, 12) := ⟨⟨by decide +kernel, by decide +kernel⟩, List.mem_of_getElem? (i := 546) (by decide +kernel), List.mem_of_getElem? (i := 2085) (by decide +kernel), List.mem_of_getElem? (i := 2086) (by decide +kernel)⟩
theorem lw_p84 : lw_okq (⟨"MarkHouse$Reader", "readMarks", "(II)V"⟩, 12) := ⟨⟨by decide +kernel, by decide +kernel⟩, List.mem_of_getElem? (i := 546) (by decide +kernel), List.mem_of_getElem? (i := 2089) (by decide +kernel), List.mem_of_getElem? (i := 2090) (by decide +kernel)⟩
theorem lw_p85 : lw_okq (⟨"MarkHouse$Reader", "readMarkName", "(II)I"⟩, 12) := ⟨⟨by decide +kernel, by decide +kernel⟩, List.mem_of_getElem? (i := 546) (by decide +kernel), List.mem_of_getElem? (i := 2093) (by decide +kernel), List.mem_of_getElem? (i := 2094) (by decide +kernel)⟩
theorem lw_p86 : lw_okq (⟨"MarkHouse$Reader", "fits", "(II)Z"⟩, 12) := ⟨⟨by decide +kernel, by decide +kernel⟩, List.mem_of_getElem? (i := 546) (by decide +kernel), List.mem_of_getElem? (i := 2100) (by decide +kernel), List.mem_of_getElem? (i := 2101) (by decide +kernel)⟩
theorem lw_p87 : lw_okq (⟨"MarkHouse$Reader", "readElement", "(LMarkHouse$Order;)I"⟩, 12) := ⟨⟨by decide +kernel, by decide +kernel⟩, List.mem_of_getElem? (i := 546) (by decide +kernel), List.mem_of_getElem? (i := 2106) (by decide +kernel), List.mem_of_getElem? (i := 2107) (by decide +kernel)⟩
theorem lw_p88 : lw_okq (⟨"MarkHouse$Reader", "readPairs", "(ILMarkHouse$Kind;)V"⟩, 12) := ⟨⟨by decide +kernel, by decide +kernel⟩, List.mem_of_getElem? (i := 546) (by decide +kernel), List.mem_of_getElem? (i := 2112) (by decide +kernel), List.mem_of_getElem? (i := 2113) (by decide +kernel)⟩
theorem lw_p89 : lw_okq (⟨"MarkHouse$Reader", "settleGives", "(LMarkHouse$Kind;I)V"⟩, 12) := ⟨⟨by decide +kernel, by decide +kernel⟩, List.mem_of_getElem? (i := 546) (by decide +kernel), List.mem_of_getElem? (i := 2118) (by decide +kernel), List.mem_of_getElem? (i := 2119) (by decide +kernel)⟩
theorem lw_p90 : lw_okq (⟨"MarkHouse$Reader", "readMaker", "()V"⟩, 12) := ⟨⟨by decide +kernel, by decide +kernel⟩, List.mem_of_getElem? (i := 546) (by decide +kernel), List.mem_of_getElem? (i := 2130) (by decide +kernel), List.mem_of_getElem? (i := 2131) (by decide +kernel)⟩
theorem lw_p91 : lw_okq (⟨"MarkHouse$Reader", "readClassHead", "()V"⟩, 12) := ⟨⟨by decide +kernel, by decide +kernel⟩, List.mem_of_getElem? (i := 546) (by decide +kernel), List.mem_of_getElem? (i := 2139) (by decide +kernel), List.mem_of_getElem? (i := 2140) (by decide +kernel)⟩
theorem lw_p92 : lw_okq (⟨"MarkHouse$Reader", "readField", "()V"⟩, 12) := ⟨⟨by decide +kernel, by decide +kernel⟩, List.mem_of_getElem? (i := 546) (by decide +kernel), List.mem_of_getElem? (i := 2144) (by decide +kernel), List.mem_of_getElem? (i := 2145) (by decide +kernel)⟩
theorem lw_p93 : lw_okq (⟨"MarkHouse$Reader", "readMethodHead", "()V"⟩, 12) := ⟨⟨by decide +kernel, by decide +kernel⟩, List.mem_of_getElem? (i := 546) (by decide +kernel), List.mem_of_getElem? (i := 2152) (by decide +kernel), List.mem_of_getElem? (i := 2153) (by decide +kernel)⟩
theorem lw_p94 : lw_okq (⟨"MarkHouse$Reader", "readAct", "()V"⟩, 12) := ⟨⟨by decide +kernel, by decide +kernel⟩, List.mem_of_getElem? (i := 546) (by decide +kernel), List.mem_of_getElem? (i := 2166) (by decide +kernel), List.mem_of_getElem? (i := 2167) (by decide +kernel)⟩
theorem lw_p95 : lw_okq (⟨"MarkHouse$Reader", "readOperands", "(I)V"⟩, 12) := ⟨⟨by decide +kernel, by decide +kernel⟩, List.mem_of_getElem? (i := 546) (by decide +kernel), List.mem_of_getElem? (i := 2181) (by decide +kernel), List.mem_of_getElem? (i := 2182) (by decide +kernel)⟩
def lw_privs_6 : List (MethodName × Nat) := [(⟨"MarkHouse$Reader", "readMembers", "(LMarkHouse$Kind;)V"⟩, 12), (⟨"MarkHouse$Reader", "readValue", "(I)J"⟩, 12), (⟨"MarkHouse$Reader", "readSorts", "(LMarkHouse$Kind;)V"⟩, 12), (⟨"MarkHouse$Reader", "readSomeMarks", "(II)V"⟩, 12), (⟨"MarkHouse$Reader", "readMarks", "(II)V"⟩, 12), (⟨"MarkHouse$Reader", "readMarkName", "(II)I"⟩, 12), (⟨"MarkHouse$Reader", "fits", "(II)Z"⟩, 12), (⟨"MarkHouse$Reader", "readElement", "(LMarkHouse$Order;)I"⟩, 12), (⟨"MarkHouse$Reader", "readPairs", "(ILMarkHouse$Kind;)V"⟩, 12), (⟨"MarkHouse$Reader", "settleGives", "(LMarkHouse$Kind;I)V"⟩, 12), (⟨"MarkHouse$Reader", "readMaker", "()V"⟩, 12), (⟨"MarkHouse$Reader", "readClassHead", "()V"⟩, 12), (⟨"MarkHouse$Reader", "readField", "()V"⟩, 12), (⟨"MarkHouse$Reader", "readMethodHead", "()V"⟩, 12), (⟨"MarkHouse$Reader", "readAct", "()V"⟩, 12), (⟨"MarkHouse$Reader", "readOperands", "(I)V"⟩, 12)]
theorem lw_r6 : ∀ q ∈ lw_privs_6, lw_okq q := List.forall_mem_cons.mpr ⟨lw_p80, List.forall_mem_cons.mpr ⟨lw_p81, List.forall_mem_cons.mpr ⟨lw_p82, List.forall_mem_cons.mpr ⟨lw_p83, List.forall_mem_cons.mpr ⟨lw_p84, List.forall_mem_cons.mpr ⟨lw_p85, List.forall_mem_cons.mpr ⟨lw_p86, List.forall_mem_cons.mpr ⟨lw_p87, List.forall_mem_cons.mpr ⟨lw_p88, List.forall_mem_cons.mpr ⟨lw_p89, List.forall_mem_cons.mpr ⟨lw_p90, List.forall_mem_cons.mpr ⟨lw_p91, List.forall_mem_cons.mpr ⟨lw_p92, List.forall_mem_cons.mpr ⟨lw_p93, List.forall_mem_cons.mpr ⟨lw_p94, List.forall_mem_cons.mpr ⟨lw_p95, fun _ h => absurd h List.not_mem_nil⟩⟩⟩⟩⟩⟩⟩⟩⟩⟩⟩⟩⟩⟩⟩⟩
theorem lw_p96 : lw_okq (⟨"MarkHouse$Reader", "elementsTold", "(I)I"⟩, 12) := ⟨⟨by decide +kernel, by decide +kernel⟩, List.mem_of_getElem? (i := 546) (by decide +kernel), List.mem_of_getElem? (i := 2185) (by decide +kernel), List.mem_of_getElem? (i := 2186) (by decide +kernel)⟩
theorem lw_p97 : lw_okq (⟨"MarkHouse$Reader", "readLocal", "(I)V"⟩, 12) := ⟨⟨by decide +kernel, by decide +kernel⟩, List.mem_of_getElem? (i := 546) (by decide +kernel), List.mem_of_getElem? (i := 2191) (by decide +kernel), List.mem_of_getElem? (i := 2192) (by decide +kernel)⟩
theorem lw_p98 : lw_okq (⟨"MarkHouse$Reader", "readFirstName", "(I)V"⟩, 12) := ⟨⟨by decide +kernel, by decide +kernel⟩, List.mem_of_getElem? (i := 546) (by decide +kernel), List.mem_of_getElem? (i := 2195) (by decide +kernel), List.mem_of_getElem? (i := 2196) (by decide +kernel)⟩
theorem lw_p99 : lw_okq (⟨"MarkHouse$Reader", "readOrderElement", "(I)V"⟩, 12) := ⟨⟨by decide +kernel, by decide +kernel⟩, List.mem_of_getElem? (i := 546) (by decide +kernel), List.mem_of_getElem? (i := 2199) (by decide +kernel), List.mem_of_getElem? (i := 2200) (by decide +kernel)⟩
theorem lw_p100 : lw_okq (⟨"MarkHouse$Reader", "settleNamesOf", "(II)V"⟩, 12) := ⟨⟨by decide +kernel, by decide +kernel⟩, List.mem_of_getElem? (i := 546) (by decide +kernel), List.mem_of_getElem? (i := 2210) (by decide +kernel), List.mem_of_getElem? (i := 2211) (by decide +kernel)⟩
theorem lw_p101 : lw_okq (⟨"MarkHouse$Reader", "settleDepthsOf", "(II)V"⟩, 12) := ⟨⟨by decide +kernel, by decide +kernel⟩, List.mem_of_getElem? (i := 546) (by decide +kernel), List.mem_of_getElem? (i := 2225) (by decide +kernel), List.mem_of_getElem? (i := 2226) (by decide +kernel)⟩
theorem lw_p102 : lw_okq (⟨"MarkHouse$Reader", "goOver", "(III)J"⟩, 12) := ⟨⟨by decide +kernel, by decide +kernel⟩, List.mem_of_getElem? (i := 546) (by decide +kernel), List.mem_of_getElem? (i := 2230) (by decide +kernel), List.mem_of_getElem? (i := 2231) (by decide +kernel)⟩
theorem lw_p103 : lw_okq (⟨"MarkHouse$Reader", "comeTo", "(III)J"⟩, 12) := ⟨⟨by decide +kernel, by decide +kernel⟩, List.mem_of_getElem? (i := 546) (by decide +kernel), List.mem_of_getElem? (i := 2247) (by decide +kernel), List.mem_of_getElem? (i := 2248) (by decide +kernel)⟩
theorem lw_p104 : lw_okq (⟨"MarkHouse$Run", "openFrame", "(I)V"⟩, 15) := ⟨⟨by decide +kernel, by decide +kernel⟩, List.mem_of_getElem? (i := 694) (by decide +kernel), List.mem_of_getElem? (i := 2304) (by decide +kernel), List.mem_of_getElem? (i := 2305) (by decide +kernel)⟩
theorem lw_p105 : lw_okq (⟨"MarkHouse$Run", "goOneAct", "()V"⟩, 15) := ⟨⟨by decide +kernel, by decide +kernel⟩, List.mem_of_getElem? (i := 694) (by decide +kernel), List.mem_of_getElem? (i := 2325) (by decide +kernel), List.mem_of_getElem? (i := 2326) (by decide +kernel)⟩
theorem lw_p106 : lw_okq (⟨"MarkHouse$Run", "passesChecks", "(II)Z"⟩, 15) := ⟨⟨by decide +kernel, by decide +kernel⟩, List.mem_of_getElem? (i := 694) (by decide +kernel), List.mem_of_getElem? (i := 2329) (by decide +kernel), List.mem_of_getElem? (i := 2330) (by decide +kernel)⟩
theorem lw_p107 : lw_okq (⟨"MarkHouse$Run", "keepsMark", "(IIII)Z"⟩, 15) := ⟨⟨by decide +kernel, by decide +kernel⟩, List.mem_of_getElem? (i := 694) (by decide +kernel), List.mem_of_getElem? (i := 2333) (by decide +kernel), List.mem_of_getElem? (i := 2334) (by decide +kernel)⟩
theorem lw_p108 : lw_okq (⟨"MarkHouse$Run", "isLow", "(JII)Z"⟩, 15) := ⟨⟨by decide +kernel, by decide +kernel⟩, List.mem_of_getElem? (i := 694) (by decide +kernel), List.mem_of_getElem? (i := 2340) (by decide +kernel), List.mem_of_getElem? (i := 2341) (by decide +kernel)⟩
theorem lw_p109 : lw_okq (⟨"MarkHouse$Run", "countLeft", "(II)V"⟩, 15) := ⟨⟨by decide +kernel, by decide +kernel⟩, List.mem_of_getElem? (i := 694) (by decide +kernel), List.mem_of_getElem? (i := 2345) (by decide +kernel), List.mem_of_getElem? (i := 2346) (by decide +kernel)⟩
theorem lw_p110 : lw_okq (⟨"MarkHouse$Run", "noteLeft", "(II)V"⟩, 15) := ⟨⟨by decide +kernel, by decide +kernel⟩, List.mem_of_getElem? (i := 694) (by decide +kernel), List.mem_of_getElem? (i := 2350) (by decide +kernel), List.mem_of_getElem? (i := 2351) (by decide +kernel)⟩
theorem lw_p111 : lw_okq (⟨"MarkHouse$Run", "enter", "(II)V"⟩, 15) := ⟨⟨by decide +kernel, by decide +kernel⟩, List.mem_of_getElem? (i := 694) (by decide +kernel), List.mem_of_getElem? (i := 2354) (by decide +kernel), List.mem_of_getElem? (i := 2355) (by decide +kernel)⟩
def lw_privs_7 : List (MethodName × Nat) := [(⟨"MarkHouse$Reader", "elementsTold", "(I)I"⟩, 12), (⟨"MarkHouse$Reader", "readLocal", "(I)V"⟩, 12), (⟨"MarkHouse$Reader", "readFirstName", "(I)V"⟩, 12), (⟨"MarkHouse$Reader", "readOrderElement", "(I)V"⟩, 12), (⟨"MarkHouse$Reader", "settleNamesOf", "(II)V"⟩, 12), (⟨"MarkHouse$Reader", "settleDepthsOf", "(II)V"⟩, 12), (⟨"MarkHouse$Reader", "goOver", "(III)J"⟩, 12), (⟨"MarkHouse$Reader", "comeTo", "(III)J"⟩, 12), (⟨"MarkHouse$Run", "openFrame", "(I)V"⟩, 15), (⟨"MarkHouse$Run", "goOneAct", "()V"⟩, 15), (⟨"MarkHouse$Run", "passesChecks", "(II)Z"⟩, 15), (⟨"MarkHouse$Run", "keepsMark", "(IIII)Z"⟩, 15), (⟨"MarkHouse$Run", "isLow", "(JII)Z"⟩, 15), (⟨"MarkHouse$Run", "countLeft", "(II)V"⟩, 15), (⟨"MarkHouse$Run", "noteLeft", "(II)V"⟩, 15), (⟨"MarkHouse$Run", "enter", "(II)V"⟩, 15)]
theorem lw_r7 : ∀ q ∈ lw_privs_7, lw_okq q := List.forall_mem_cons.mpr ⟨lw_p96, List.forall_mem_cons.mpr ⟨lw_p97, List.forall_mem_cons.mpr ⟨lw_p98, List.forall_mem_cons.mpr ⟨lw_p99, List.forall_mem_cons.mpr ⟨lw_p100, List.forall_mem_cons.mpr ⟨lw_p101, List.forall_mem_cons.mpr ⟨lw_p102, List.forall_mem_cons.mpr ⟨lw_p103, List.forall_mem_cons.mpr ⟨lw_p104, List.forall_mem_cons.mpr ⟨lw_p105, List.forall_mem_cons.mpr ⟨lw_p106, List.forall_mem_cons.mpr ⟨lw_p107, List.forall_mem_cons.mpr ⟨lw_p108, List.forall_mem_cons.mpr ⟨lw_p109, List.forall_mem_cons.mpr ⟨lw_p110, List.forall_mem_cons.mpr ⟨lw_p111, fun _ h => absurd h List.not_mem_nil⟩⟩⟩⟩⟩⟩⟩⟩⟩⟩⟩⟩⟩⟩⟩⟩
theorem lw_p112 : lw_okq (⟨"MarkHouse$Run", "leave", "(II)V"⟩, 15) := ⟨⟨by decide +kernel, by decide +kernel⟩, List.mem_of_getElem? (i := 694) (by decide +kernel), List.mem_of_getElem? (i := 2361) (by decide +kernel), List.mem_of_getElem? (i := 2362) (by decide +kernel)⟩
theorem lw_p113 : lw_okq (⟨"MarkHouse$Run", "doBranch", "(II)Z"⟩, 15) := ⟨⟨by decide +kernel, by decide +kernel⟩, List.mem_of_getElem? (i := 694) (by decide +kernel), List.mem_of_getElem? (i := 2368) (by decide +kernel), List.mem_of_getElem? (i := 2369) (by decide +kernel)⟩
theorem lw_p114 : lw_okq (⟨"MarkHouse$Run", "doPlain", "(II)V"⟩, 15) := ⟨⟨by decide +kernel, by decide +kernel⟩, List.mem_of_getElem? (i := 694) (by decide +kernel), List.mem_of_getElem? (i := 2372) (by decide +kernel), List.mem_of_getElem? (i := 2373) (by decide +kernel)⟩
theorem lw_p115 : lw_okq (⟨"MarkHouse$Run", "takeInput", "()I"⟩, 15) := ⟨⟨by decide +kernel, by decide +kernel⟩, List.mem_of_getElem? (i := 694) (by decide +kernel), List.mem_of_getElem? (i := 2379) (by decide +kernel), List.mem_of_getElem? (i := 2380) (by decide +kernel)⟩
theorem lw_p116 : lw_okq (⟨"MarkHouse$Run", "reckon", "(IJJ)J"⟩, 15) := ⟨⟨by decide +kernel, by decide +kernel⟩, List.mem_of_getElem? (i := 694) (by decide +kernel), List.mem_of_getElem? (i := 2386) (by decide +kernel), List.mem_of_getElem? (i := 2387) (by decide +kernel)⟩
theorem lw_p117 : lw_okq (⟨"MarkHouseModel", "four", "(I)V"⟩, 140) := ⟨⟨by decide +kernel, by decide +kernel⟩, List.mem_of_getElem? (i := 2391) (by decide +kernel), List.mem_of_getElem? (i := 2861) (by decide +kernel), List.mem_of_getElem? (i := 2862) (by decide +kernel)⟩
theorem lw_p118 : lw_okq (⟨"MarkHouseModel", "changed", "()V"⟩, 140) := ⟨⟨by decide +kernel, by decide +kernel⟩, List.mem_of_getElem? (i := 2391) (by decide +kernel), List.mem_of_getElem? (i := 2877) (by decide +kernel), List.mem_of_getElem? (i := 2878) (by decide +kernel)⟩
theorem lw_p119 : lw_okq (⟨"MarkHouseModel", "cut", "(I)V"⟩, 140) := ⟨⟨by decide +kernel, by decide +kernel⟩, List.mem_of_getElem? (i := 2391) (by decide +kernel), List.mem_of_getElem? (i := 2881) (by decide +kernel), List.mem_of_getElem? (i := 2882) (by decide +kernel)⟩
theorem lw_p120 : lw_okq (⟨"MarkHouseModel", "fault", "(II)V"⟩, 140) := ⟨⟨by decide +kernel, by decide +kernel⟩, List.mem_of_getElem? (i := 2391) (by decide +kernel), List.mem_of_getElem? (i := 2891) (by decide +kernel), List.mem_of_getElem? (i := 2892) (by decide +kernel)⟩
theorem lw_p121 : lw_okq (⟨"MarkHouseModel", "wordOf", "(J)I"⟩, 140) := ⟨⟨by decide +kernel, by decide +kernel⟩, List.mem_of_getElem? (i := 2391) (by decide +kernel), List.mem_of_getElem? (i := 2895) (by decide +kernel), List.mem_of_getElem? (i := 2896) (by decide +kernel)⟩
theorem lw_p122 : lw_okq (⟨"MarkHouseModel", "lexeme", "(IIJ)V"⟩, 140) := ⟨⟨by decide +kernel, by decide +kernel⟩, List.mem_of_getElem? (i := 2391) (by decide +kernel), List.mem_of_getElem? (i := 2904) (by decide +kernel), List.mem_of_getElem? (i := 2905) (by decide +kernel)⟩
theorem lw_p123 : lw_okq (⟨"MarkHouseModel", "readProgram", "()V"⟩, 140) := ⟨⟨by decide +kernel, by decide +kernel⟩, List.mem_of_getElem? (i := 2391) (by decide +kernel), List.mem_of_getElem? (i := 2913) (by decide +kernel), List.mem_of_getElem? (i := 2914) (by decide +kernel)⟩
theorem lw_p124 : lw_okq (⟨"MarkHouseModel", "mayWord", "(I)Z"⟩, 140) := ⟨⟨by decide +kernel, by decide +kernel⟩, List.mem_of_getElem? (i := 2391) (by decide +kernel), List.mem_of_getElem? (i := 2917) (by decide +kernel), List.mem_of_getElem? (i := 2918) (by decide +kernel)⟩
theorem lw_p125 : lw_okq (⟨"MarkHouseModel", "isWord", "(I)Z"⟩, 140) := ⟨⟨by decide +kernel, by decide +kernel⟩, List.mem_of_getElem? (i := 2391) (by decide +kernel), List.mem_of_getElem? (i := 2921) (by decide +kernel), List.mem_of_getElem? (i := 2922) (by decide +kernel)⟩
theorem lw_p126 : lw_okq (⟨"MarkHouseModel", "readOrder", "()V"⟩, 140) := ⟨⟨by decide +kernel, by decide +kernel⟩, List.mem_of_getElem? (i := 2391) (by decide +kernel), List.mem_of_getElem? (i := 2925) (by decide +kernel), List.mem_of_getElem? (i := 2926) (by decide +kernel)⟩
theorem lw_p127 : lw_okq (⟨"MarkHouseModel", "newName", "(II)J"⟩, 140) := ⟨⟨by decide +kernel, by decide +kernel⟩, List.mem_of_getElem? (i := 2391) (by decide +kernel), List.mem_of_getElem? (i := 2929) (by decide +kernel), List.mem_of_getElem? (i := 2930) (by decide +kernel)⟩
def lw_privs_8 : List (MethodName × Nat) := [(⟨"MarkHouse$Run", "leave", "(II)V"⟩, 15), (⟨"MarkHouse$Run", "doBranch", "(II)Z"⟩, 15), (⟨"MarkHouse$Run", "doPlain", "(II)V"⟩, 15), (⟨"MarkHouse$Run", "takeInput", "()I"⟩, 15), (⟨"MarkHouse$Run", "reckon", "(IJJ)J"⟩, 15), (⟨"MarkHouseModel", "four", "(I)V"⟩, 140), (⟨"MarkHouseModel", "changed", "()V"⟩, 140), (⟨"MarkHouseModel", "cut", "(I)V"⟩, 140), (⟨"MarkHouseModel", "fault", "(II)V"⟩, 140), (⟨"MarkHouseModel", "wordOf", "(J)I"⟩, 140), (⟨"MarkHouseModel", "lexeme", "(IIJ)V"⟩, 140), (⟨"MarkHouseModel", "readProgram", "()V"⟩, 140), (⟨"MarkHouseModel", "mayWord", "(I)Z"⟩, 140), (⟨"MarkHouseModel", "isWord", "(I)Z"⟩, 140), (⟨"MarkHouseModel", "readOrder", "()V"⟩, 140), (⟨"MarkHouseModel", "newName", "(II)J"⟩, 140)]
theorem lw_r8 : ∀ q ∈ lw_privs_8, lw_okq q := List.forall_mem_cons.mpr ⟨lw_p112, List.forall_mem_cons.mpr ⟨lw_p113, List.forall_mem_cons.mpr ⟨lw_p114, List.forall_mem_cons.mpr ⟨lw_p115, List.forall_mem_cons.mpr ⟨lw_p116, List.forall_mem_cons.mpr ⟨lw_p117, List.forall_mem_cons.mpr ⟨lw_p118, List.forall_mem_cons.mpr ⟨lw_p119, List.forall_mem_cons.mpr ⟨lw_p120, List.forall_mem_cons.mpr ⟨lw_p121, List.forall_mem_cons.mpr ⟨lw_p122, List.forall_mem_cons.mpr ⟨lw_p123, List.forall_mem_cons.mpr ⟨lw_p124, List.forall_mem_cons.mpr ⟨lw_p125, List.forall_mem_cons.mpr ⟨lw_p126, List.forall_mem_cons.mpr ⟨lw_p127, fun _ h => absurd h List.not_mem_nil⟩⟩⟩⟩⟩⟩⟩⟩⟩⟩⟩⟩⟩⟩⟩⟩
theorem lw_p128 : lw_okq (⟨"MarkHouseModel", "wantName", "()J"⟩, 140) := ⟨⟨by decide +kernel, by decide +kernel⟩, List.mem_of_getElem? (i := 2391) (by decide +kernel), List.mem_of_getElem? (i := 2933) (by decide +kernel), List.mem_of_getElem? (i := 2934) (by decide +kernel)⟩
theorem lw_p129 : lw_okq (⟨"MarkHouseModel", "cant", "()V"⟩, 140) := ⟨⟨by decide +kernel, by decide +kernel⟩, List.mem_of_getElem? (i := 2391) (by decide +kernel), List.mem_of_getElem? (i := 2937) (by decide +kernel), List.mem_of_getElem? (i := 2938) (by decide +kernel)⟩
theorem lw_p130 : lw_okq (⟨"MarkHouseModel", "isTaken", "(J)Z"⟩, 140) := ⟨⟨by decide +kernel, by decide +kernel⟩, List.mem_of_getElem? (i := 2391) (by decide +kernel), List.mem_of_getElem? (i := 2941) (by decide +kernel), List.mem_of_getElem? (i := 2942) (by decide +kernel)⟩
theorem lw_p131 : lw_okq (⟨"MarkHouseModel", "orderOf", "(J)I"⟩, 140) := ⟨⟨by decide +kernel, by decide +kernel⟩, List.mem_of_getElem? (i := 2391) (by decide +kernel), List.mem_of_getElem? (i := 2945) (by decide +kernel), List.mem_of_getElem? (i := 2946) (by decide +kernel)⟩
theorem lw_p132 : lw_okq (⟨"MarkHouseModel", "kindOf", "(J)I"⟩, 140) := ⟨⟨by decide +kernel, by decide +kernel⟩, List.mem_of_getElem? (i := 2391) (by decide +kernel), List.mem_of_getElem? (i := 2949) (by decide +kernel), List.mem_of_getElem? (i := 2950) (by decide +kernel)⟩
theorem lw_p133 : lw_okq (⟨"MarkHouseModel", "makerOf", "(J)I"⟩, 140) := ⟨⟨by decide +kernel, by decide +kernel⟩, List.mem_of_getElem? (i := 2391) (by decide +kernel), List.mem_of_getElem? (i := 2953) (by decide +kernel), List.mem_of_getElem? (i := 2954) (by decide +kernel)⟩
theorem lw_p134 : lw_okq (⟨"MarkHouseModel", "classOf", "(J)I"⟩, 140) := ⟨⟨by decide +kernel, by decide +kernel⟩, List.mem_of_getElem? (i := 2391) (by decide +kernel), List.mem_of_getElem? (i := 2957) (by decide +kernel), List.mem_of_getElem? (i := 2958) (by decide +kernel)⟩
theorem lw_p135 : lw_okq (⟨"MarkHouseModel", "wantSign", "(I)V"⟩, 140) := ⟨⟨by decide +kernel, by decide +kernel⟩, List.mem_of_getElem? (i := 2391) (by decide +kernel), List.mem_of_getElem? (i := 2961) (by decide +kernel), List.mem_of_getElem? (i := 2962) (by decide +kernel)⟩
theorem lw_p136 : lw_okq (⟨"MarkHouseModel", "isSignHere", "(I)Z"⟩, 140) := ⟨⟨by decide +kernel, by decide +kernel⟩, List.mem_of_getElem? (i := 2391) (by decide +kernel), List.mem_of_getElem? (i := 2965) (by decide +kernel), List.mem_of_getElem? (i := 2966) (by decide +kernel)⟩
theorem lw_p137 : lw_okq (⟨"MarkHouseModel", "cell", "(III)I"⟩, 140) := ⟨⟨by decide +kernel, by decide +kernel⟩, List.mem_of_getElem? (i := 2391) (by decide +kernel), List.mem_of_getElem? (i := 2969) (by decide +kernel), List.mem_of_getElem? (i := 2970) (by decide +kernel)⟩
theorem lw_p138 : lw_okq (⟨"MarkHouseModel", "element", "(I)I"⟩, 140) := ⟨⟨by decide +kernel, by decide +kernel⟩, List.mem_of_getElem? (i := 2391) (by decide +kernel), List.mem_of_getElem? (i := 2973) (by decide +kernel), List.mem_of_getElem? (i := 2974) (by decide +kernel)⟩
theorem lw_p139 : lw_okq (⟨"MarkHouseModel", "elementOf", "(IJ)I"⟩, 140) := ⟨⟨by decide +kernel, by decide +kernel⟩, List.mem_of_getElem? (i := 2391) (by decide +kernel), List.mem_of_getElem? (i := 2977) (by decide +kernel), List.mem_of_getElem? (i := 2978) (by decide +kernel)⟩
theorem lw_p140 : lw_okq (⟨"MarkHouseModel", "maySign", "(I)Z"⟩, 140) := ⟨⟨by decide +kernel, by decide +kernel⟩, List.mem_of_getElem? (i := 2391) (by decide +kernel), List.mem_of_getElem? (i := 2981) (by decide +kernel), List.mem_of_getElem? (i := 2982) (by decide +kernel)⟩
theorem lw_p141 : lw_okq (⟨"MarkHouseModel", "isLattice", "(I)Z"⟩, 140) := ⟨⟨by decide +kernel, by decide +kernel⟩, List.mem_of_getElem? (i := 2391) (by decide +kernel), List.mem_of_getElem? (i := 2985) (by decide +kernel), List.mem_of_getElem? (i := 2986) (by decide +kernel)⟩
theorem lw_p142 : lw_okq (⟨"MarkHouseModel", "below", "(III)Z"⟩, 140) := ⟨⟨by decide +kernel, by decide +kernel⟩, List.mem_of_getElem? (i := 2391) (by decide +kernel), List.mem_of_getElem? (i := 2989) (by decide +kernel), List.mem_of_getElem? (i := 2990) (by decide +kernel)⟩
theorem lw_p143 : lw_okq (⟨"MarkHouseModel", "least", "(IIIZ)I"⟩, 140) := ⟨⟨by decide +kernel, by decide +kernel⟩, List.mem_of_getElem? (i := 2391) (by decide +kernel), List.mem_of_getElem? (i := 2993) (by decide +kernel), List.mem_of_getElem? (i := 2994) (by decide +kernel)⟩
def lw_privs_9 : List (MethodName × Nat) := [(⟨"MarkHouseModel", "wantName", "()J"⟩, 140), (⟨"MarkHouseModel", "cant", "()V"⟩, 140), (⟨"MarkHouseModel", "isTaken", "(J)Z"⟩, 140), (⟨"MarkHouseModel", "orderOf", "(J)I"⟩, 140), (⟨"MarkHouseModel", "kindOf", "(J)I"⟩, 140), (⟨"MarkHouseModel", "makerOf", "(J)I"⟩, 140), (⟨"MarkHouseModel", "classOf", "(J)I"⟩, 140), (⟨"MarkHouseModel", "wantSign", "(I)V"⟩, 140), (⟨"MarkHouseModel", "isSignHere", "(I)Z"⟩, 140), (⟨"MarkHouseModel", "cell", "(III)I"⟩, 140), (⟨"MarkHouseModel", "element", "(I)I"⟩, 140), (⟨"MarkHouseModel", "elementOf", "(IJ)I"⟩, 140), (⟨"MarkHouseModel", "maySign", "(I)Z"⟩, 140), (⟨"MarkHouseModel", "isLattice", "(I)Z"⟩, 140), (⟨"MarkHouseModel", "below", "(III)Z"⟩, 140), (⟨"MarkHouseModel", "least", "(IIIZ)I"⟩, 140)]
theorem lw_r9 : ∀ q ∈ lw_privs_9, lw_okq q := List.forall_mem_cons.mpr ⟨lw_p128, List.forall_mem_cons.mpr ⟨lw_p129, List.forall_mem_cons.mpr ⟨lw_p130, List.forall_mem_cons.mpr ⟨lw_p131, List.forall_mem_cons.mpr ⟨lw_p132, List.forall_mem_cons.mpr ⟨lw_p133, List.forall_mem_cons.mpr ⟨lw_p134, List.forall_mem_cons.mpr ⟨lw_p135, List.forall_mem_cons.mpr ⟨lw_p136, List.forall_mem_cons.mpr ⟨lw_p137, List.forall_mem_cons.mpr ⟨lw_p138, List.forall_mem_cons.mpr ⟨lw_p139, List.forall_mem_cons.mpr ⟨lw_p140, List.forall_mem_cons.mpr ⟨lw_p141, List.forall_mem_cons.mpr ⟨lw_p142, List.forall_mem_cons.mpr ⟨lw_p143, fun _ h => absurd h List.not_mem_nil⟩⟩⟩⟩⟩⟩⟩⟩⟩⟩⟩⟩⟩⟩⟩⟩
theorem lw_p144 : lw_okq (⟨"MarkHouseModel", "readKind", "()V"⟩, 140) := ⟨⟨by decide +kernel, by decide +kernel⟩, List.mem_of_getElem? (i := 2391) (by decide +kernel), List.mem_of_getElem? (i := 2997) (by decide +kernel), List.mem_of_getElem? (i := 2998) (by decide +kernel)⟩
theorem lw_p145 : lw_okq (⟨"MarkHouseModel", "readMember", "(I)V"⟩, 140) := ⟨⟨by decide +kernel, by decide +kernel⟩, List.mem_of_getElem? (i := 2391) (by decide +kernel), List.mem_of_getElem? (i := 3001) (by decide +kernel), List.mem_of_getElem? (i := 3002) (by decide +kernel)⟩
theorem lw_p146 : lw_okq (⟨"MarkHouseModel", "memberOf", "(IJ)I"⟩, 140) := ⟨⟨by decide +kernel, by decide +kernel⟩, List.mem_of_getElem? (i := 2391) (by decide +kernel), List.mem_of_getElem? (i := 3005) (by decide +kernel), List.mem_of_getElem? (i := 3006) (by decide +kernel)⟩
theorem lw_p147 : lw_okq (⟨"MarkHouseModel", "wantValue", "(ZZ)V"⟩, 140) := ⟨⟨by decide +kernel, by decide +kernel⟩, List.mem_of_getElem? (i := 2391) (by decide +kernel), List.mem_of_getElem? (i := 3009) (by decide +kernel), List.mem_of_getElem? (i := 3010) (by decide +kernel)⟩
theorem lw_p148 : lw_okq (⟨"MarkHouseModel", "readMarks", "(IIZZ)V"⟩, 140) := ⟨⟨by decide +kernel, by decide +kernel⟩, List.mem_of_getElem? (i := 2391) (by decide +kernel), List.mem_of_getElem? (i := 3016) (by decide +kernel), List.mem_of_getElem? (i := 3017) (by decide +kernel)⟩
theorem lw_p149 : lw_okq (⟨"MarkHouseModel", "readMark", "(IIZ)V"⟩, 140) := ⟨⟨by decide +kernel, by decide +kernel⟩, List.mem_of_getElem? (i := 2391) (by decide +kernel), List.mem_of_getElem? (i := 3020) (by decide +kernel), List.mem_of_getElem? (i := 3021) (by decide +kernel)⟩
theorem lw_p150 : lw_okq (⟨"MarkHouseModel", "hasName", "(IIJ)Z"⟩, 140) := ⟨⟨by decide +kernel, by decide +kernel⟩, List.mem_of_getElem? (i := 2391) (by decide +kernel), List.mem_of_getElem? (i := 3024) (by decide +kernel), List.mem_of_getElem? (i := 3025) (by decide +kernel)⟩
theorem lw_p151 : lw_okq (⟨"MarkHouseModel", "place", "(II)I"⟩, 140) := ⟨⟨by decide +kernel, by decide +kernel⟩, List.mem_of_getElem? (i := 2391) (by decide +kernel), List.mem_of_getElem? (i := 3028) (by decide +kernel), List.mem_of_getElem? (i := 3029) (by decide +kernel)⟩
theorem lw_p152 : lw_okq (⟨"MarkHouseModel", "newMark", "(IJZ)V"⟩, 140) := ⟨⟨by decide +kernel, by decide +kernel⟩, List.mem_of_getElem? (i := 2391) (by decide +kernel), List.mem_of_getElem? (i := 3032) (by decide +kernel), List.mem_of_getElem? (i := 3033) (by decide +kernel)⟩
theorem lw_p153 : lw_okq (⟨"MarkHouseModel", "newPair", "(IJIJ)V"⟩, 140) := ⟨⟨by decide +kernel, by decide +kernel⟩, List.mem_of_getElem? (i := 2391) (by decide +kernel), List.mem_of_getElem? (i := 3037) (by decide +kernel), List.mem_of_getElem? (i := 3038) (by decide +kernel)⟩
theorem lw_p154 : lw_okq (⟨"MarkHouseModel", "readPairs", "(II)V"⟩, 140) := ⟨⟨by decide +kernel, by decide +kernel⟩, List.mem_of_getElem? (i := 2391) (by decide +kernel), List.mem_of_getElem? (i := 3041) (by decide +kernel), List.mem_of_getElem? (i := 3042) (by decide +kernel)⟩
theorem lw_p155 : lw_okq (⟨"MarkHouseModel", "readMaker", "()V"⟩, 140) := ⟨⟨by decide +kernel, by decide +kernel⟩, List.mem_of_getElem? (i := 2391) (by decide +kernel), List.mem_of_getElem? (i := 3045) (by decide +kernel), List.mem_of_getElem? (i := 3046) (by decide +kernel)⟩
theorem lw_p156 : lw_okq (⟨"MarkHouseModel", "readClass", "()V"⟩, 140) := ⟨⟨by decide +kernel, by decide +kernel⟩, List.mem_of_getElem? (i := 2391) (by decide +kernel), List.mem_of_getElem? (i := 3049) (by decide +kernel), List.mem_of_getElem? (i := 3050) (by decide +kernel)⟩
theorem lw_p157 : lw_okq (⟨"MarkHouseModel", "readField", "(I)V"⟩, 140) := ⟨⟨by decide +kernel, by decide +kernel⟩, List.mem_of_getElem? (i := 2391) (by decide +kernel), List.mem_of_getElem? (i := 3053) (by decide +kernel), List.mem_of_getElem? (i := 3054) (by decide +kernel)⟩
theorem lw_p158 : lw_okq (⟨"MarkHouseModel", "readMethod", "(I)V"⟩, 140) := ⟨⟨by decide +kernel, by decide +kernel⟩, List.mem_of_getElem? (i := 2391) (by decide +kernel), List.mem_of_getElem? (i := 3057) (by decide +kernel), List.mem_of_getElem? (i := 3058) (by decide +kernel)⟩
theorem lw_p159 : lw_okq (⟨"MarkHouseModel", "readParameter", "(II)V"⟩, 140) := ⟨⟨by decide +kernel, by decide +kernel⟩, List.mem_of_getElem? (i := 2391) (by decide +kernel), List.mem_of_getElem? (i := 3061) (by decide +kernel), List.mem_of_getElem? (i := 3062) (by decide +kernel)⟩
def lw_privs_10 : List (MethodName × Nat) := [(⟨"MarkHouseModel", "readKind", "()V"⟩, 140), (⟨"MarkHouseModel", "readMember", "(I)V"⟩, 140), (⟨"MarkHouseModel", "memberOf", "(IJ)I"⟩, 140), (⟨"MarkHouseModel", "wantValue", "(ZZ)V"⟩, 140), (⟨"MarkHouseModel", "readMarks", "(IIZZ)V"⟩, 140), (⟨"MarkHouseModel", "readMark", "(IIZ)V"⟩, 140), (⟨"MarkHouseModel", "hasName", "(IIJ)Z"⟩, 140), (⟨"MarkHouseModel", "place", "(II)I"⟩, 140), (⟨"MarkHouseModel", "newMark", "(IJZ)V"⟩, 140), (⟨"MarkHouseModel", "newPair", "(IJIJ)V"⟩, 140), (⟨"MarkHouseModel", "readPairs", "(II)V"⟩, 140), (⟨"MarkHouseModel", "readMaker", "()V"⟩, 140), (⟨"MarkHouseModel", "readClass", "()V"⟩, 140), (⟨"MarkHouseModel", "readField", "(I)V"⟩, 140), (⟨"MarkHouseModel", "readMethod", "(I)V"⟩, 140), (⟨"MarkHouseModel", "readParameter", "(II)V"⟩, 140)]
theorem lw_r10 : ∀ q ∈ lw_privs_10, lw_okq q := List.forall_mem_cons.mpr ⟨lw_p144, List.forall_mem_cons.mpr ⟨lw_p145, List.forall_mem_cons.mpr ⟨lw_p146, List.forall_mem_cons.mpr ⟨lw_p147, List.forall_mem_cons.mpr ⟨lw_p148, List.forall_mem_cons.mpr ⟨lw_p149, List.forall_mem_cons.mpr ⟨lw_p150, List.forall_mem_cons.mpr ⟨lw_p151, List.forall_mem_cons.mpr ⟨lw_p152, List.forall_mem_cons.mpr ⟨lw_p153, List.forall_mem_cons.mpr ⟨lw_p154, List.forall_mem_cons.mpr ⟨lw_p155, List.forall_mem_cons.mpr ⟨lw_p156, List.forall_mem_cons.mpr ⟨lw_p157, List.forall_mem_cons.mpr ⟨lw_p158, List.forall_mem_cons.mpr ⟨lw_p159, fun _ h => absurd h List.not_mem_nil⟩⟩⟩⟩⟩⟩⟩⟩⟩⟩⟩⟩⟩⟩⟩⟩
theorem lw_p160 : lw_okq (⟨"MarkHouseModel", "readAct", "(I)V"⟩, 140) := ⟨⟨by decide +kernel, by decide +kernel⟩, List.mem_of_getElem? (i := 2391) (by decide +kernel), List.mem_of_getElem? (i := 3065) (by decide +kernel), List.mem_of_getElem? (i := 3066) (by decide +kernel)⟩
theorem lw_p161 : lw_okq (⟨"MarkHouseModel", "parts", "(II)V"⟩, 140) := ⟨⟨by decide +kernel, by decide +kernel⟩, List.mem_of_getElem? (i := 2391) (by decide +kernel), List.mem_of_getElem? (i := 3070) (by decide +kernel), List.mem_of_getElem? (i := 3071) (by decide +kernel)⟩
theorem lw_p162 : lw_okq (⟨"MarkHouseModel", "toldMarks", "(I)V"⟩, 140) := ⟨⟨by decide +kernel, by decide +kernel⟩, List.mem_of_getElem? (i := 2391) (by decide +kernel), List.mem_of_getElem? (i := 3074) (by decide +kernel), List.mem_of_getElem? (i := 3075) (by decide +kernel)⟩
theorem lw_p163 : lw_okq (⟨"MarkHouseModel", "slot", "(II)V"⟩, 140) := ⟨⟨by decide +kernel, by decide +kernel⟩, List.mem_of_getElem? (i := 2391) (by decide +kernel), List.mem_of_getElem? (i := 3078) (by decide +kernel), List.mem_of_getElem? (i := 3079) (by decide +kernel)⟩
theorem lw_p164 : lw_okq (⟨"MarkHouseModel", "localOf", "(IJ)I"⟩, 140) := ⟨⟨by decide +kernel, by decide +kernel⟩, List.mem_of_getElem? (i := 2391) (by decide +kernel), List.mem_of_getElem? (i := 3082) (by decide +kernel), List.mem_of_getElem? (i := 3083) (by decide +kernel)⟩
theorem lw_p165 : lw_okq (⟨"MarkHouseModel", "elementOfAct", "(I)V"⟩, 140) := ⟨⟨by decide +kernel, by decide +kernel⟩, List.mem_of_getElem? (i := 2391) (by decide +kernel), List.mem_of_getElem? (i := 3086) (by decide +kernel), List.mem_of_getElem? (i := 3087) (by decide +kernel)⟩
theorem lw_p166 : lw_okq (⟨"MarkHouseModel", "findNames", "()V"⟩, 140) := ⟨⟨by decide +kernel, by decide +kernel⟩, List.mem_of_getElem? (i := 2391) (by decide +kernel), List.mem_of_getElem? (i := 3090) (by decide +kernel), List.mem_of_getElem? (i := 3091) (by decide +kernel)⟩
theorem lw_p167 : lw_okq (⟨"MarkHouseModel", "isMethod", "(I)Z"⟩, 140) := ⟨⟨by decide +kernel, by decide +kernel⟩, List.mem_of_getElem? (i := 2391) (by decide +kernel), List.mem_of_getElem? (i := 3094) (by decide +kernel), List.mem_of_getElem? (i := 3095) (by decide +kernel)⟩
theorem lw_p168 : lw_okq (⟨"MarkHouseModel", "findName", "(II)V"⟩, 140) := ⟨⟨by decide +kernel, by decide +kernel⟩, List.mem_of_getElem? (i := 2391) (by decide +kernel), List.mem_of_getElem? (i := 3098) (by decide +kernel), List.mem_of_getElem? (i := 3099) (by decide +kernel)⟩
theorem lw_p169 : lw_okq (⟨"MarkHouseModel", "methodOf", "(IJ)I"⟩, 140) := ⟨⟨by decide +kernel, by decide +kernel⟩, List.mem_of_getElem? (i := 2391) (by decide +kernel), List.mem_of_getElem? (i := 3102) (by decide +kernel), List.mem_of_getElem? (i := 3103) (by decide +kernel)⟩
theorem lw_p170 : lw_okq (⟨"MarkHouseModel", "fieldOf", "(IJ)I"⟩, 140) := ⟨⟨by decide +kernel, by decide +kernel⟩, List.mem_of_getElem? (i := 2391) (by decide +kernel), List.mem_of_getElem? (i := 3106) (by decide +kernel), List.mem_of_getElem? (i := 3107) (by decide +kernel)⟩
theorem lw_p171 : lw_okq (⟨"MarkHouseModel", "findDepths", "(I)V"⟩, 140) := ⟨⟨by decide +kernel, by decide +kernel⟩, List.mem_of_getElem? (i := 2391) (by decide +kernel), List.mem_of_getElem? (i := 3110) (by decide +kernel), List.mem_of_getElem? (i := 3111) (by decide +kernel)⟩
theorem lw_p172 : lw_okq (⟨"MarkHouseModel", "takes", "(I)I"⟩, 140) := ⟨⟨by decide +kernel, by decide +kernel⟩, List.mem_of_getElem? (i := 2391) (by decide +kernel), List.mem_of_getElem? (i := 3114) (by decide +kernel), List.mem_of_getElem? (i := 3115) (by decide +kernel)⟩
theorem lw_p173 : lw_okq (⟨"MarkHouseModel", "gives", "(I)I"⟩, 140) := ⟨⟨by decide +kernel, by decide +kernel⟩, List.mem_of_getElem? (i := 2391) (by decide +kernel), List.mem_of_getElem? (i := 3118) (by decide +kernel), List.mem_of_getElem? (i := 3119) (by decide +kernel)⟩
theorem lw_p174 : lw_okq (⟨"MarkHouseModel", "leads", "(II)V"⟩, 140) := ⟨⟨by decide +kernel, by decide +kernel⟩, List.mem_of_getElem? (i := 2391) (by decide +kernel), List.mem_of_getElem? (i := 3122) (by decide +kernel), List.mem_of_getElem? (i := 3123) (by decide +kernel)⟩
theorem lw_p175 : lw_okq (⟨"MarkHouseModel", "isPlace", "(I)Z"⟩, 140) := ⟨⟨by decide +kernel, by decide +kernel⟩, List.mem_of_getElem? (i := 2391) (by decide +kernel), List.mem_of_getElem? (i := 3134) (by decide +kernel), List.mem_of_getElem? (i := 3135) (by decide +kernel)⟩
def lw_privs_11 : List (MethodName × Nat) := [(⟨"MarkHouseModel", "readAct", "(I)V"⟩, 140), (⟨"MarkHouseModel", "parts", "(II)V"⟩, 140), (⟨"MarkHouseModel", "toldMarks", "(I)V"⟩, 140), (⟨"MarkHouseModel", "slot", "(II)V"⟩, 140), (⟨"MarkHouseModel", "localOf", "(IJ)I"⟩, 140), (⟨"MarkHouseModel", "elementOfAct", "(I)V"⟩, 140), (⟨"MarkHouseModel", "findNames", "()V"⟩, 140), (⟨"MarkHouseModel", "isMethod", "(I)Z"⟩, 140), (⟨"MarkHouseModel", "findName", "(II)V"⟩, 140), (⟨"MarkHouseModel", "methodOf", "(IJ)I"⟩, 140), (⟨"MarkHouseModel", "fieldOf", "(IJ)I"⟩, 140), (⟨"MarkHouseModel", "findDepths", "(I)V"⟩, 140), (⟨"MarkHouseModel", "takes", "(I)I"⟩, 140), (⟨"MarkHouseModel", "gives", "(I)I"⟩, 140), (⟨"MarkHouseModel", "leads", "(II)V"⟩, 140), (⟨"MarkHouseModel", "isPlace", "(I)Z"⟩, 140)]
theorem lw_r11 : ∀ q ∈ lw_privs_11, lw_okq q := List.forall_mem_cons.mpr ⟨lw_p160, List.forall_mem_cons.mpr ⟨lw_p161, List.forall_mem_cons.mpr ⟨lw_p162, List.forall_mem_cons.mpr ⟨lw_p163, List.forall_mem_cons.mpr ⟨lw_p164, List.forall_mem_cons.mpr ⟨lw_p165, List.forall_mem_cons.mpr ⟨lw_p166, List.forall_mem_cons.mpr ⟨lw_p167, List.forall_mem_cons.mpr ⟨lw_p168, List.forall_mem_cons.mpr ⟨lw_p169, List.forall_mem_cons.mpr ⟨lw_p170, List.forall_mem_cons.mpr ⟨lw_p171, List.forall_mem_cons.mpr ⟨lw_p172, List.forall_mem_cons.mpr ⟨lw_p173, List.forall_mem_cons.mpr ⟨lw_p174, List.forall_mem_cons.mpr ⟨lw_p175, fun _ h => absurd h List.not_mem_nil⟩⟩⟩⟩⟩⟩⟩⟩⟩⟩⟩⟩⟩⟩⟩⟩
theorem lw_p176 : lw_okq (⟨"MarkHouseModel", "isKey", "(I)Z"⟩, 140) := ⟨⟨by decide +kernel, by decide +kernel⟩, List.mem_of_getElem? (i := 2391) (by decide +kernel), List.mem_of_getElem? (i := 3138) (by decide +kernel), List.mem_of_getElem? (i := 3139) (by decide +kernel)⟩
theorem lw_p177 : lw_okq (⟨"MarkHouseModel", "effect", "(II)V"⟩, 140) := ⟨⟨by decide +kernel, by decide +kernel⟩, List.mem_of_getElem? (i := 2391) (by decide +kernel), List.mem_of_getElem? (i := 3142) (by decide +kernel), List.mem_of_getElem? (i := 3143) (by decide +kernel)⟩
theorem lw_p178 : lw_okq (⟨"MarkHouseModel", "nameOfKey", "(I)J"⟩, 140) := ⟨⟨by decide +kernel, by decide +kernel⟩, List.mem_of_getElem? (i := 2391) (by decide +kernel), List.mem_of_getElem? (i := 3146) (by decide +kernel), List.mem_of_getElem? (i := 3147) (by decide +kernel)⟩
theorem lw_p179 : lw_okq (⟨"MarkHouseModel", "doesCount", "(II)Z"⟩, 140) := ⟨⟨by decide +kernel, by decide +kernel⟩, List.mem_of_getElem? (i := 2391) (by decide +kernel), List.mem_of_getElem? (i := 3150) (by decide +kernel), List.mem_of_getElem? (i := 3151) (by decide +kernel)⟩
theorem lw_p180 : lw_okq (⟨"MarkHouseModel", "givenBy", "(IIJ)I"⟩, 140) := ⟨⟨by decide +kernel, by decide +kernel⟩, List.mem_of_getElem? (i := 2391) (by decide +kernel), List.mem_of_getElem? (i := 3157) (by decide +kernel), List.mem_of_getElem? (i := 3158) (by decide +kernel)⟩
theorem lw_p181 : lw_okq (⟨"MarkHouseModel", "findGiven", "(J)V"⟩, 140) := ⟨⟨by decide +kernel, by decide +kernel⟩, List.mem_of_getElem? (i := 2391) (by decide +kernel), List.mem_of_getElem? (i := 3161) (by decide +kernel), List.mem_of_getElem? (i := 3162) (by decide +kernel)⟩
theorem lw_p182 : lw_okq (⟨"MarkHouseModel", "above", "(I)I"⟩, 140) := ⟨⟨by decide +kernel, by decide +kernel⟩, List.mem_of_getElem? (i := 2391) (by decide +kernel), List.mem_of_getElem? (i := 3165) (by decide +kernel), List.mem_of_getElem? (i := 3166) (by decide +kernel)⟩
theorem lw_p183 : lw_okq (⟨"MarkHouseModel", "isSame", "(III)Z"⟩, 140) := ⟨⟨by decide +kernel, by decide +kernel⟩, List.mem_of_getElem? (i := 2391) (by decide +kernel), List.mem_of_getElem? (i := 3179) (by decide +kernel), List.mem_of_getElem? (i := 3180) (by decide +kernel)⟩
theorem lw_p184 : lw_okq (⟨"MarkHouseModel", "elementThatCounts", "(II)I"⟩, 140) := ⟨⟨by decide +kernel, by decide +kernel⟩, List.mem_of_getElem? (i := 2391) (by decide +kernel), List.mem_of_getElem? (i := 3183) (by decide +kernel), List.mem_of_getElem? (i := 3184) (by decide +kernel)⟩
theorem lw_p185 : lw_okq (⟨"MarkHouseModel", "elementIn", "(II)I"⟩, 140) := ⟨⟨by decide +kernel, by decide +kernel⟩, List.mem_of_getElem? (i := 2391) (by decide +kernel), List.mem_of_getElem? (i := 3187) (by decide +kernel), List.mem_of_getElem? (i := 3188) (by decide +kernel)⟩
theorem lw_p186 : lw_okq (⟨"MarkHouseModel", "member", "(III)I"⟩, 140) := ⟨⟨by decide +kernel, by decide +kernel⟩, List.mem_of_getElem? (i := 2391) (by decide +kernel), List.mem_of_getElem? (i := 3191) (by decide +kernel), List.mem_of_getElem? (i := 3192) (by decide +kernel)⟩
theorem lw_p187 : lw_okq (⟨"MarkHouseModel", "sayPacked", "(J)V"⟩, 140) := ⟨⟨by decide +kernel, by decide +kernel⟩, List.mem_of_getElem? (i := 2391) (by decide +kernel), List.mem_of_getElem? (i := 3199) (by decide +kernel), List.mem_of_getElem? (i := 3200) (by decide +kernel)⟩
theorem lw_p188 : lw_okq (⟨"MarkHouseModel", "say", "(I)V"⟩, 140) := ⟨⟨by decide +kernel, by decide +kernel⟩, List.mem_of_getElem? (i := 2391) (by decide +kernel), List.mem_of_getElem? (i := 3204) (by decide +kernel), List.mem_of_getElem? (i := 3205) (by decide +kernel)⟩
theorem lw_p189 : lw_okq (⟨"MarkHouseModel", "sayNumber", "(J)V"⟩, 140) := ⟨⟨by decide +kernel, by decide +kernel⟩, List.mem_of_getElem? (i := 2391) (by decide +kernel), List.mem_of_getElem? (i := 3208) (by decide +kernel), List.mem_of_getElem? (i := 3209) (by decide +kernel)⟩
theorem lw_p190 : lw_okq (⟨"MarkHouseModel", "isClass", "(I)Z"⟩, 140) := ⟨⟨by decide +kernel, by decide +kernel⟩, List.mem_of_getElem? (i := 2391) (by decide +kernel), List.mem_of_getElem? (i := 3220) (by decide +kernel), List.mem_of_getElem? (i := 3221) (by decide +kernel)⟩
theorem lw_p191 : lw_okq (⟨"MarkHouseModel", "isMethodPlace", "(I)Z"⟩, 140) := ⟨⟨by decide +kernel, by decide +kernel⟩, List.mem_of_getElem? (i := 2391) (by decide +kernel), List.mem_of_getElem? (i := 3224) (by decide +kernel), List.mem_of_getElem? (i := 3225) (by decide +kernel)⟩
def lw_privs_12 : List (MethodName × Nat) := [(⟨"MarkHouseModel", "isKey", "(I)Z"⟩, 140), (⟨"MarkHouseModel", "effect", "(II)V"⟩, 140), (⟨"MarkHouseModel", "nameOfKey", "(I)J"⟩, 140), (⟨"MarkHouseModel", "doesCount", "(II)Z"⟩, 140), (⟨"MarkHouseModel", "givenBy", "(IIJ)I"⟩, 140), (⟨"MarkHouseModel", "findGiven", "(J)V"⟩, 140), (⟨"MarkHouseModel", "above", "(I)I"⟩, 140), (⟨"MarkHouseModel", "isSame", "(III)Z"⟩, 140), (⟨"MarkHouseModel", "elementThatCounts", "(II)I"⟩, 140), (⟨"MarkHouseModel", "elementIn", "(II)I"⟩, 140), (⟨"MarkHouseModel", "member", "(III)I"⟩, 140), (⟨"MarkHouseModel", "sayPacked", "(J)V"⟩, 140), (⟨"MarkHouseModel", "say", "(I)V"⟩, 140), (⟨"MarkHouseModel", "sayNumber", "(J)V"⟩, 140), (⟨"MarkHouseModel", "isClass", "(I)Z"⟩, 140), (⟨"MarkHouseModel", "isMethodPlace", "(I)Z"⟩, 140)]
theorem lw_r12 : ∀ q ∈ lw_privs_12, lw_okq q := List.forall_mem_cons.mpr ⟨lw_p176, List.forall_mem_cons.mpr ⟨lw_p177, List.forall_mem_cons.mpr ⟨lw_p178, List.forall_mem_cons.mpr ⟨lw_p179, List.forall_mem_cons.mpr ⟨lw_p180, List.forall_mem_cons.mpr ⟨lw_p181, List.forall_mem_cons.mpr ⟨lw_p182, List.forall_mem_cons.mpr ⟨lw_p183, List.forall_mem_cons.mpr ⟨lw_p184, List.forall_mem_cons.mpr ⟨lw_p185, List.forall_mem_cons.mpr ⟨lw_p186, List.forall_mem_cons.mpr ⟨lw_p187, List.forall_mem_cons.mpr ⟨lw_p188, List.forall_mem_cons.mpr ⟨lw_p189, List.forall_mem_cons.mpr ⟨lw_p190, List.forall_mem_cons.mpr ⟨lw_p191, fun _ h => absurd h List.not_mem_nil⟩⟩⟩⟩⟩⟩⟩⟩⟩⟩⟩⟩⟩⟩⟩⟩
theorem lw_p192 : lw_okq (⟨"MarkHouseModel", "isOrder", "(I)Z"⟩, 140) := ⟨⟨by decide +kernel, by decide +kernel⟩, List.mem_of_getElem? (i := 2391) (by decide +kernel), List.mem_of_getElem? (i := 3232) (by decide +kernel), List.mem_of_getElem? (i := 3233) (by decide +kernel)⟩
theorem lw_p193 : lw_okq (⟨"MarkHouseModel", "join", "(III)I"⟩, 140) := ⟨⟨by decide +kernel, by decide +kernel⟩, List.mem_of_getElem? (i := 2391) (by decide +kernel), List.mem_of_getElem? (i := 3236) (by decide +kernel), List.mem_of_getElem? (i := 3237) (by decide +kernel)⟩
theorem lw_p194 : lw_okq (⟨"MarkHouseModel", "meet", "(III)I"⟩, 140) := ⟨⟨by decide +kernel, by decide +kernel⟩, List.mem_of_getElem? (i := 2391) (by decide +kernel), List.mem_of_getElem? (i := 3240) (by decide +kernel), List.mem_of_getElem? (i := 3241) (by decide +kernel)⟩
theorem lw_p195 : lw_okq (⟨"MarkHouseModel", "byteHere", "(II)I"⟩, 140) := ⟨⟨by decide +kernel, by decide +kernel⟩, List.mem_of_getElem? (i := 2391) (by decide +kernel), List.mem_of_getElem? (i := 3248) (by decide +kernel), List.mem_of_getElem? (i := 3249) (by decide +kernel)⟩
theorem lw_p196 : lw_okq (⟨"MarkHouseModel", "fileName", "()J"⟩, 140) := ⟨⟨by decide +kernel, by decide +kernel⟩, List.mem_of_getElem? (i := 2391) (by decide +kernel), List.mem_of_getElem? (i := 3252) (by decide +kernel), List.mem_of_getElem? (i := 3253) (by decide +kernel)⟩
theorem lw_p197 : lw_okq (⟨"MarkHouseModel", "filePair", "(I)V"⟩, 140) := ⟨⟨by decide +kernel, by decide +kernel⟩, List.mem_of_getElem? (i := 2391) (by decide +kernel), List.mem_of_getElem? (i := 3256) (by decide +kernel), List.mem_of_getElem? (i := 3257) (by decide +kernel)⟩
theorem lw_p198 : lw_okq (⟨"MarkHouseModel", "fileText", "()J"⟩, 140) := ⟨⟨by decide +kernel, by decide +kernel⟩, List.mem_of_getElem? (i := 2391) (by decide +kernel), List.mem_of_getElem? (i := 3260) (by decide +kernel), List.mem_of_getElem? (i := 3261) (by decide +kernel)⟩
theorem lw_p199 : lw_okq (⟨"MarkHouseModel", "copyMark", "(II)V"⟩, 140) := ⟨⟨by decide +kernel, by decide +kernel⟩, List.mem_of_getElem? (i := 2391) (by decide +kernel), List.mem_of_getElem? (i := 3264) (by decide +kernel), List.mem_of_getElem? (i := 3265) (by decide +kernel)⟩
theorem lw_p200 : lw_okq (⟨"MarkHouseModel", "sayFileName", "(J)V"⟩, 140) := ⟨⟨by decide +kernel, by decide +kernel⟩, List.mem_of_getElem? (i := 2391) (by decide +kernel), List.mem_of_getElem? (i := 3272) (by decide +kernel), List.mem_of_getElem? (i := 3273) (by decide +kernel)⟩
theorem lw_p201 : lw_okq (⟨"MarkHouseModel", "tellOrder", "(I)V"⟩, 140) := ⟨⟨by decide +kernel, by decide +kernel⟩, List.mem_of_getElem? (i := 2391) (by decide +kernel), List.mem_of_getElem? (i := 3283) (by decide +kernel), List.mem_of_getElem? (i := 3284) (by decide +kernel)⟩
theorem lw_p202 : lw_okq (⟨"MarkHouseModel", "sayWord", "(Ljava/lang/String;)V"⟩, 140) := ⟨⟨by decide +kernel, by decide +kernel⟩, List.mem_of_getElem? (i := 2391) (by decide +kernel), List.mem_of_getElem? (i := 3287) (by decide +kernel), List.mem_of_getElem? (i := 3288) (by decide +kernel)⟩
theorem lw_p203 : lw_okq (⟨"MarkHouseModel", "gap", "()V"⟩, 140) := ⟨⟨by decide +kernel, by decide +kernel⟩, List.mem_of_getElem? (i := 2391) (by decide +kernel), List.mem_of_getElem? (i := 3291) (by decide +kernel), List.mem_of_getElem? (i := 3292) (by decide +kernel)⟩
theorem lw_p204 : lw_okq (⟨"MarkHouseModel", "sayName", "(J)V"⟩, 140) := ⟨⟨by decide +kernel, by decide +kernel⟩, List.mem_of_getElem? (i := 2391) (by decide +kernel), List.mem_of_getElem? (i := 3295) (by decide +kernel), List.mem_of_getElem? (i := 3296) (by decide +kernel)⟩
theorem lw_p205 : lw_okq (⟨"MarkHouseModel", "isNext", "(III)Z"⟩, 140) := ⟨⟨by decide +kernel, by decide +kernel⟩, List.mem_of_getElem? (i := 2391) (by decide +kernel), List.mem_of_getElem? (i := 3301) (by decide +kernel), List.mem_of_getElem? (i := 3302) (by decide +kernel)⟩
theorem lw_p206 : lw_okq (⟨"MarkHouseModel", "tellKind", "(I)V"⟩, 140) := ⟨⟨by decide +kernel, by decide +kernel⟩, List.mem_of_getElem? (i := 2391) (by decide +kernel), List.mem_of_getElem? (i := 3307) (by decide +kernel), List.mem_of_getElem? (i := 3308) (by decide +kernel)⟩
theorem lw_p207 : lw_okq (⟨"MarkHouseModel", "sayText", "(J)V"⟩, 140) := ⟨⟨by decide +kernel, by decide +kernel⟩, List.mem_of_getElem? (i := 2391) (by decide +kernel), List.mem_of_getElem? (i := 3313) (by decide +kernel), List.mem_of_getElem? (i := 3314) (by decide +kernel)⟩
def lw_privs_13 : List (MethodName × Nat) := [(⟨"MarkHouseModel", "isOrder", "(I)Z"⟩, 140), (⟨"MarkHouseModel", "join", "(III)I"⟩, 140), (⟨"MarkHouseModel", "meet", "(III)I"⟩, 140), (⟨"MarkHouseModel", "byteHere", "(II)I"⟩, 140), (⟨"MarkHouseModel", "fileName", "()J"⟩, 140), (⟨"MarkHouseModel", "filePair", "(I)V"⟩, 140), (⟨"MarkHouseModel", "fileText", "()J"⟩, 140), (⟨"MarkHouseModel", "copyMark", "(II)V"⟩, 140), (⟨"MarkHouseModel", "sayFileName", "(J)V"⟩, 140), (⟨"MarkHouseModel", "tellOrder", "(I)V"⟩, 140), (⟨"MarkHouseModel", "sayWord", "(Ljava/lang/String;)V"⟩, 140), (⟨"MarkHouseModel", "gap", "()V"⟩, 140), (⟨"MarkHouseModel", "sayName", "(J)V"⟩, 140), (⟨"MarkHouseModel", "isNext", "(III)Z"⟩, 140), (⟨"MarkHouseModel", "tellKind", "(I)V"⟩, 140), (⟨"MarkHouseModel", "sayText", "(J)V"⟩, 140)]
theorem lw_r13 : ∀ q ∈ lw_privs_13, lw_okq q := List.forall_mem_cons.mpr ⟨lw_p192, List.forall_mem_cons.mpr ⟨lw_p193, List.forall_mem_cons.mpr ⟨lw_p194, List.forall_mem_cons.mpr ⟨lw_p195, List.forall_mem_cons.mpr ⟨lw_p196, List.forall_mem_cons.mpr ⟨lw_p197, List.forall_mem_cons.mpr ⟨lw_p198, List.forall_mem_cons.mpr ⟨lw_p199, List.forall_mem_cons.mpr ⟨lw_p200, List.forall_mem_cons.mpr ⟨lw_p201, List.forall_mem_cons.mpr ⟨lw_p202, List.forall_mem_cons.mpr ⟨lw_p203, List.forall_mem_cons.mpr ⟨lw_p204, List.forall_mem_cons.mpr ⟨lw_p205, List.forall_mem_cons.mpr ⟨lw_p206, List.forall_mem_cons.mpr ⟨lw_p207, fun _ h => absurd h List.not_mem_nil⟩⟩⟩⟩⟩⟩⟩⟩⟩⟩⟩⟩⟩⟩⟩⟩
theorem lw_p208 : lw_okq (⟨"MarkHouseModel", "sayInt", "(I)V"⟩, 140) := ⟨⟨by decide +kernel, by decide +kernel⟩, List.mem_of_getElem? (i := 2391) (by decide +kernel), List.mem_of_getElem? (i := 3317) (by decide +kernel), List.mem_of_getElem? (i := 3318) (by decide +kernel)⟩
theorem lw_p209 : lw_okq (⟨"MarkHouseModel", "sayWhole", "(J)V"⟩, 140) := ⟨⟨by decide +kernel, by decide +kernel⟩, List.mem_of_getElem? (i := 2391) (by decide +kernel), List.mem_of_getElem? (i := 3322) (by decide +kernel), List.mem_of_getElem? (i := 3323) (by decide +kernel)⟩
theorem lw_p210 : lw_okq (⟨"MarkHouseModel", "sayMarks", "(I)V"⟩, 140) := ⟨⟨by decide +kernel, by decide +kernel⟩, List.mem_of_getElem? (i := 2391) (by decide +kernel), List.mem_of_getElem? (i := 3327) (by decide +kernel), List.mem_of_getElem? (i := 3328) (by decide +kernel)⟩
theorem lw_p211 : lw_okq (⟨"MarkHouseModel", "isSound", "(I)Z"⟩, 140) := ⟨⟨by decide +kernel, by decide +kernel⟩, List.mem_of_getElem? (i := 2391) (by decide +kernel), List.mem_of_getElem? (i := 3331) (by decide +kernel), List.mem_of_getElem? (i := 3332) (by decide +kernel)⟩
theorem lw_p212 : lw_okq (⟨"MarkHouseModel", "sayMark", "(I)V"⟩, 140) := ⟨⟨by decide +kernel, by decide +kernel⟩, List.mem_of_getElem? (i := 2391) (by decide +kernel), List.mem_of_getElem? (i := 3335) (by decide +kernel), List.mem_of_getElem? (i := 3336) (by decide +kernel)⟩
theorem lw_p213 : lw_okq (⟨"MarkHouseModel", "hasPair", "(IJ)Z"⟩, 140) := ⟨⟨by decide +kernel, by decide +kernel⟩, List.mem_of_getElem? (i := 2391) (by decide +kernel), List.mem_of_getElem? (i := 3341) (by decide +kernel), List.mem_of_getElem? (i := 3342) (by decide +kernel)⟩
theorem lw_p214 : lw_okq (⟨"MarkHouseModel", "tellClass", "(I)V"⟩, 140) := ⟨⟨by decide +kernel, by decide +kernel⟩, List.mem_of_getElem? (i := 2391) (by decide +kernel), List.mem_of_getElem? (i := 3345) (by decide +kernel), List.mem_of_getElem? (i := 3346) (by decide +kernel)⟩
theorem lw_p215 : lw_okq (⟨"MarkHouseModel", "sayAct", "(IIZZ)V"⟩, 140) := ⟨⟨by decide +kernel, by decide +kernel⟩, List.mem_of_getElem? (i := 2391) (by decide +kernel), List.mem_of_getElem? (i := 3350) (by decide +kernel), List.mem_of_getElem? (i := 3351) (by decide +kernel)⟩
theorem lw_p216 : lw_okq (⟨"MarkHouseModel", "sayElement", "(II)V"⟩, 140) := ⟨⟨by decide +kernel, by decide +kernel⟩, List.mem_of_getElem? (i := 2391) (by decide +kernel), List.mem_of_getElem? (i := 3354) (by decide +kernel), List.mem_of_getElem? (i := 3355) (by decide +kernel)⟩
theorem lw_p217 : lw_okq (⟨"MarkHouseModel", "numberOf", "(IIZ)I"⟩, 140) := ⟨⟨by decide +kernel, by decide +kernel⟩, List.mem_of_getElem? (i := 2391) (by decide +kernel), List.mem_of_getElem? (i := 3358) (by decide +kernel), List.mem_of_getElem? (i := 3359) (by decide +kernel)⟩
theorem lw_p218 : lw_okq (⟨"MarkHouseModel", "checksOf", "(I)I"⟩, 140) := ⟨⟨by decide +kernel, by decide +kernel⟩, List.mem_of_getElem? (i := 2391) (by decide +kernel), List.mem_of_getElem? (i := 3362) (by decide +kernel), List.mem_of_getElem? (i := 3363) (by decide +kernel)⟩
theorem lw_p219 : lw_okq (⟨"MarkHouseModel", "isFlowing", "(I)Z"⟩, 140) := ⟨⟨by decide +kernel, by decide +kernel⟩, List.mem_of_getElem? (i := 2391) (by decide +kernel), List.mem_of_getElem? (i := 3375) (by decide +kernel), List.mem_of_getElem? (i := 3376) (by decide +kernel)⟩
theorem lw_p220 : lw_okq (⟨"MarkHouseModel", "markNow", "(II)I"⟩, 140) := ⟨⟨by decide +kernel, by decide +kernel⟩, List.mem_of_getElem? (i := 2391) (by decide +kernel), List.mem_of_getElem? (i := 3379) (by decide +kernel), List.mem_of_getElem? (i := 3380) (by decide +kernel)⟩
theorem lw_p221 : lw_okq (⟨"MarkHouseModel", "flowAll", "(I)V"⟩, 140) := ⟨⟨by decide +kernel, by decide +kernel⟩, List.mem_of_getElem? (i := 2391) (by decide +kernel), List.mem_of_getElem? (i := 3387) (by decide +kernel), List.mem_of_getElem? (i := 3388) (by decide +kernel)⟩
theorem lw_p222 : lw_okq (⟨"MarkHouseModel", "findMarks", "(I)V"⟩, 140) := ⟨⟨by decide +kernel, by decide +kernel⟩, List.mem_of_getElem? (i := 2391) (by decide +kernel), List.mem_of_getElem? (i := 3391) (by decide +kernel), List.mem_of_getElem? (i := 3392) (by decide +kernel)⟩
theorem lw_p223 : lw_okq (⟨"MarkHouseModel", "flowOf", "(II)V"⟩, 140) := ⟨⟨by decide +kernel, by decide +kernel⟩, List.mem_of_getElem? (i := 2391) (by decide +kernel), List.mem_of_getElem? (i := 3395) (by decide +kernel), List.mem_of_getElem? (i := 3396) (by decide +kernel)⟩
def lw_privs_14 : List (MethodName × Nat) := [(⟨"MarkHouseModel", "sayInt", "(I)V"⟩, 140), (⟨"MarkHouseModel", "sayWhole", "(J)V"⟩, 140), (⟨"MarkHouseModel", "sayMarks", "(I)V"⟩, 140), (⟨"MarkHouseModel", "isSound", "(I)Z"⟩, 140), (⟨"MarkHouseModel", "sayMark", "(I)V"⟩, 140), (⟨"MarkHouseModel", "hasPair", "(IJ)Z"⟩, 140), (⟨"MarkHouseModel", "tellClass", "(I)V"⟩, 140), (⟨"MarkHouseModel", "sayAct", "(IIZZ)V"⟩, 140), (⟨"MarkHouseModel", "sayElement", "(II)V"⟩, 140), (⟨"MarkHouseModel", "numberOf", "(IIZ)I"⟩, 140), (⟨"MarkHouseModel", "checksOf", "(I)I"⟩, 140), (⟨"MarkHouseModel", "isFlowing", "(I)Z"⟩, 140), (⟨"MarkHouseModel", "markNow", "(II)I"⟩, 140), (⟨"MarkHouseModel", "flowAll", "(I)V"⟩, 140), (⟨"MarkHouseModel", "findMarks", "(I)V"⟩, 140), (⟨"MarkHouseModel", "flowOf", "(II)V"⟩, 140)]
theorem lw_r14 : ∀ q ∈ lw_privs_14, lw_okq q := List.forall_mem_cons.mpr ⟨lw_p208, List.forall_mem_cons.mpr ⟨lw_p209, List.forall_mem_cons.mpr ⟨lw_p210, List.forall_mem_cons.mpr ⟨lw_p211, List.forall_mem_cons.mpr ⟨lw_p212, List.forall_mem_cons.mpr ⟨lw_p213, List.forall_mem_cons.mpr ⟨lw_p214, List.forall_mem_cons.mpr ⟨lw_p215, List.forall_mem_cons.mpr ⟨lw_p216, List.forall_mem_cons.mpr ⟨lw_p217, List.forall_mem_cons.mpr ⟨lw_p218, List.forall_mem_cons.mpr ⟨lw_p219, List.forall_mem_cons.mpr ⟨lw_p220, List.forall_mem_cons.mpr ⟨lw_p221, List.forall_mem_cons.mpr ⟨lw_p222, List.forall_mem_cons.mpr ⟨lw_p223, fun _ h => absurd h List.not_mem_nil⟩⟩⟩⟩⟩⟩⟩⟩⟩⟩⟩⟩⟩⟩⟩⟩
theorem lw_p224 : lw_okq (⟨"MarkHouseModel", "first", "(II)V"⟩, 140) := ⟨⟨by decide +kernel, by decide +kernel⟩, List.mem_of_getElem? (i := 2391) (by decide +kernel), List.mem_of_getElem? (i := 3399) (by decide +kernel), List.mem_of_getElem? (i := 3400) (by decide +kernel)⟩
theorem lw_p225 : lw_okq (⟨"MarkHouseModel", "comes", "(II)V"⟩, 140) := ⟨⟨by decide +kernel, by decide +kernel⟩, List.mem_of_getElem? (i := 2391) (by decide +kernel), List.mem_of_getElem? (i := 3403) (by decide +kernel), List.mem_of_getElem? (i := 3404) (by decide +kernel)⟩
theorem lw_p226 : lw_okq (⟨"MarkHouseModel", "does", "(II)V"⟩, 140) := ⟨⟨by decide +kernel, by decide +kernel⟩, List.mem_of_getElem? (i := 2391) (by decide +kernel), List.mem_of_getElem? (i := 3407) (by decide +kernel), List.mem_of_getElem? (i := 3408) (by decide +kernel)⟩
theorem lw_p227 : lw_okq (⟨"MarkHouseModel", "toldOf", "(II)I"⟩, 140) := ⟨⟨by decide +kernel, by decide +kernel⟩, List.mem_of_getElem? (i := 2391) (by decide +kernel), List.mem_of_getElem? (i := 3411) (by decide +kernel), List.mem_of_getElem? (i := 3412) (by decide +kernel)⟩
theorem lw_p228 : lw_okq (⟨"MarkHouseModel", "wants", "(I)I"⟩, 140) := ⟨⟨by decide +kernel, by decide +kernel⟩, List.mem_of_getElem? (i := 2391) (by decide +kernel), List.mem_of_getElem? (i := 3418) (by decide +kernel), List.mem_of_getElem? (i := 3419) (by decide +kernel)⟩
theorem lw_p229 : lw_okq (⟨"MarkHouseModel", "fromTop", "(II)I"⟩, 140) := ⟨⟨by decide +kernel, by decide +kernel⟩, List.mem_of_getElem? (i := 2391) (by decide +kernel), List.mem_of_getElem? (i := 3422) (by decide +kernel), List.mem_of_getElem? (i := 3423) (by decide +kernel)⟩
theorem lw_p230 : lw_okq (⟨"MarkHouseModel", "wantedAt", "(III)I"⟩, 140) := ⟨⟨by decide +kernel, by decide +kernel⟩, List.mem_of_getElem? (i := 2391) (by decide +kernel), List.mem_of_getElem? (i := 3426) (by decide +kernel), List.mem_of_getElem? (i := 3427) (by decide +kernel)⟩
theorem lw_p231 : lw_okq (⟨"MarkHouseModel", "meets", "(IIII)V"⟩, 140) := ⟨⟨by decide +kernel, by decide +kernel⟩, List.mem_of_getElem? (i := 2391) (by decide +kernel), List.mem_of_getElem? (i := 3442) (by decide +kernel), List.mem_of_getElem? (i := 3443) (by decide +kernel)⟩
theorem lw_p232 : lw_okq (⟨"MarkHouseModel", "goes", "(IIIZ)V"⟩, 140) := ⟨⟨by decide +kernel, by decide +kernel⟩, List.mem_of_getElem? (i := 2391) (by decide +kernel), List.mem_of_getElem? (i := 3446) (by decide +kernel), List.mem_of_getElem? (i := 3447) (by decide +kernel)⟩
theorem lw_p233 : lw_okq (⟨"MarkHouseModel", "frame", "(I)V"⟩, 140) := ⟨⟨by decide +kernel, by decide +kernel⟩, List.mem_of_getElem? (i := 2391) (by decide +kernel), List.mem_of_getElem? (i := 3486) (by decide +kernel), List.mem_of_getElem? (i := 3487) (by decide +kernel)⟩
theorem lw_p234 : lw_okq (⟨"MarkHouseModel", "plain", "(II)V"⟩, 140) := ⟨⟨by decide +kernel, by decide +kernel⟩, List.mem_of_getElem? (i := 2391) (by decide +kernel), List.mem_of_getElem? (i := 3490) (by decide +kernel), List.mem_of_getElem? (i := 3491) (by decide +kernel)⟩
theorem lw_p235 : lw_okq (⟨"MarkHouseModel", "passes", "(II)Z"⟩, 140) := ⟨⟨by decide +kernel, by decide +kernel⟩, List.mem_of_getElem? (i := 2391) (by decide +kernel), List.mem_of_getElem? (i := 3498) (by decide +kernel), List.mem_of_getElem? (i := 3499) (by decide +kernel)⟩
theorem lw_p236 : lw_okq (⟨"MarkHouseModel", "leaves", "(II)V"⟩, 140) := ⟨⟨by decide +kernel, by decide +kernel⟩, List.mem_of_getElem? (i := 2391) (by decide +kernel), List.mem_of_getElem? (i := 3502) (by decide +kernel), List.mem_of_getElem? (i := 3503) (by decide +kernel)⟩
theorem lw_p237 : lw_okq (⟨"MarkHouseModel", "perform", "(II)V"⟩, 140) := ⟨⟨by decide +kernel, by decide +kernel⟩, List.mem_of_getElem? (i := 2391) (by decide +kernel), List.mem_of_getElem? (i := 3506) (by decide +kernel), List.mem_of_getElem? (i := 3507) (by decide +kernel)⟩
theorem lw_p238 : lw_okq (⟨"MarkHouseModel", "nextInput", "()I"⟩, 140) := ⟨⟨by decide +kernel, by decide +kernel⟩, List.mem_of_getElem? (i := 2391) (by decide +kernel), List.mem_of_getElem? (i := 3510) (by decide +kernel), List.mem_of_getElem? (i := 3511) (by decide +kernel)⟩
theorem lw_p239 : lw_okq (⟨"MarkHouseModel", "copy", "(II)V"⟩, 140) := ⟨⟨by decide +kernel, by decide +kernel⟩, List.mem_of_getElem? (i := 2391) (by decide +kernel), List.mem_of_getElem? (i := 3514) (by decide +kernel), List.mem_of_getElem? (i := 3515) (by decide +kernel)⟩
def lw_privs_15 : List (MethodName × Nat) := [(⟨"MarkHouseModel", "first", "(II)V"⟩, 140), (⟨"MarkHouseModel", "comes", "(II)V"⟩, 140), (⟨"MarkHouseModel", "does", "(II)V"⟩, 140), (⟨"MarkHouseModel", "toldOf", "(II)I"⟩, 140), (⟨"MarkHouseModel", "wants", "(I)I"⟩, 140), (⟨"MarkHouseModel", "fromTop", "(II)I"⟩, 140), (⟨"MarkHouseModel", "wantedAt", "(III)I"⟩, 140), (⟨"MarkHouseModel", "meets", "(IIII)V"⟩, 140), (⟨"MarkHouseModel", "goes", "(IIIZ)V"⟩, 140), (⟨"MarkHouseModel", "frame", "(I)V"⟩, 140), (⟨"MarkHouseModel", "plain", "(II)V"⟩, 140), (⟨"MarkHouseModel", "passes", "(II)Z"⟩, 140), (⟨"MarkHouseModel", "leaves", "(II)V"⟩, 140), (⟨"MarkHouseModel", "perform", "(II)V"⟩, 140), (⟨"MarkHouseModel", "nextInput", "()I"⟩, 140), (⟨"MarkHouseModel", "copy", "(II)V"⟩, 140)]
theorem lw_r15 : ∀ q ∈ lw_privs_15, lw_okq q := List.forall_mem_cons.mpr ⟨lw_p224, List.forall_mem_cons.mpr ⟨lw_p225, List.forall_mem_cons.mpr ⟨lw_p226, List.forall_mem_cons.mpr ⟨lw_p227, List.forall_mem_cons.mpr ⟨lw_p228, List.forall_mem_cons.mpr ⟨lw_p229, List.forall_mem_cons.mpr ⟨lw_p230, List.forall_mem_cons.mpr ⟨lw_p231, List.forall_mem_cons.mpr ⟨lw_p232, List.forall_mem_cons.mpr ⟨lw_p233, List.forall_mem_cons.mpr ⟨lw_p234, List.forall_mem_cons.mpr ⟨lw_p235, List.forall_mem_cons.mpr ⟨lw_p236, List.forall_mem_cons.mpr ⟨lw_p237, List.forall_mem_cons.mpr ⟨lw_p238, List.forall_mem_cons.mpr ⟨lw_p239, fun _ h => absurd h List.not_mem_nil⟩⟩⟩⟩⟩⟩⟩⟩⟩⟩⟩⟩⟩⟩⟩⟩
theorem lw_p240 : lw_okq (⟨"MarkHouseModel", "calls", "(II)V"⟩, 140) := ⟨⟨by decide +kernel, by decide +kernel⟩, List.mem_of_getElem? (i := 2391) (by decide +kernel), List.mem_of_getElem? (i := 3518) (by decide +kernel), List.mem_of_getElem? (i := 3519) (by decide +kernel)⟩
theorem lw_p241 : lw_okq (⟨"MarkHouseModel", "gives", "(II)V"⟩, 140) := ⟨⟨by decide +kernel, by decide +kernel⟩, List.mem_of_getElem? (i := 2391) (by decide +kernel), List.mem_of_getElem? (i := 3522) (by decide +kernel), List.mem_of_getElem? (i := 3523) (by decide +kernel)⟩
theorem lw_p242 : lw_okq (⟨"MarkHouseModel", "textOf", "(IIJ)J"⟩, 140) := ⟨⟨by decide +kernel, by decide +kernel⟩, List.mem_of_getElem? (i := 2391) (by decide +kernel), List.mem_of_getElem? (i := 3540) (by decide +kernel), List.mem_of_getElem? (i := 3541) (by decide +kernel)⟩
theorem lw_p243 : lw_okq (⟨"MarkHouseModel", "make", "(I)V"⟩, 140) := ⟨⟨by decide +kernel, by decide +kernel⟩, List.mem_of_getElem? (i := 2391) (by decide +kernel), List.mem_of_getElem? (i := 3544) (by decide +kernel), List.mem_of_getElem? (i := 3545) (by decide +kernel)⟩
theorem lw_p244 : lw_okq (⟨"MarkHouseModel", "wantsOf", "(II)V"⟩, 140) := ⟨⟨by decide +kernel, by decide +kernel⟩, List.mem_of_getElem? (i := 2391) (by decide +kernel), List.mem_of_getElem? (i := 3548) (by decide +kernel), List.mem_of_getElem? (i := 3549) (by decide +kernel)⟩
theorem lw_p245 : lw_okq (⟨"MarkHouseModel", "wantsOne", "(IIII)V"⟩, 140) := ⟨⟨by decide +kernel, by decide +kernel⟩, List.mem_of_getElem? (i := 2391) (by decide +kernel), List.mem_of_getElem? (i := 3553) (by decide +kernel), List.mem_of_getElem? (i := 3554) (by decide +kernel)⟩
theorem lw_p246 : lw_okq (⟨"MarkHouseModel", "hasText", "(IIJ)Z"⟩, 140) := ⟨⟨by decide +kernel, by decide +kernel⟩, List.mem_of_getElem? (i := 2391) (by decide +kernel), List.mem_of_getElem? (i := 3558) (by decide +kernel), List.mem_of_getElem? (i := 3559) (by decide +kernel)⟩
theorem lw_p247 : lw_okq (⟨"MarkHouseModel", "isUnder", "(II)Z"⟩, 140) := ⟨⟨by decide +kernel, by decide +kernel⟩, List.mem_of_getElem? (i := 2391) (by decide +kernel), List.mem_of_getElem? (i := 3563) (by decide +kernel), List.mem_of_getElem? (i := 3564) (by decide +kernel)⟩
theorem lw_p248 : lw_okq (⟨"MarkHouseModel", "wires", "(III)V"⟩, 140) := ⟨⟨by decide +kernel, by decide +kernel⟩, List.mem_of_getElem? (i := 2391) (by decide +kernel), List.mem_of_getElem? (i := 3567) (by decide +kernel), List.mem_of_getElem? (i := 3568) (by decide +kernel)⟩
def lw_privs_16 : List (MethodName × Nat) := [(⟨"MarkHouseModel", "calls", "(II)V"⟩, 140), (⟨"MarkHouseModel", "gives", "(II)V"⟩, 140), (⟨"MarkHouseModel", "textOf", "(IIJ)J"⟩, 140), (⟨"MarkHouseModel", "make", "(I)V"⟩, 140), (⟨"MarkHouseModel", "wantsOf", "(II)V"⟩, 140), (⟨"MarkHouseModel", "wantsOne", "(IIII)V"⟩, 140), (⟨"MarkHouseModel", "hasText", "(IIJ)Z"⟩, 140), (⟨"MarkHouseModel", "isUnder", "(II)Z"⟩, 140), (⟨"MarkHouseModel", "wires", "(III)V"⟩, 140)]
theorem lw_r16 : ∀ q ∈ lw_privs_16, lw_okq q := List.forall_mem_cons.mpr ⟨lw_p240, List.forall_mem_cons.mpr ⟨lw_p241, List.forall_mem_cons.mpr ⟨lw_p242, List.forall_mem_cons.mpr ⟨lw_p243, List.forall_mem_cons.mpr ⟨lw_p244, List.forall_mem_cons.mpr ⟨lw_p245, List.forall_mem_cons.mpr ⟨lw_p246, List.forall_mem_cons.mpr ⟨lw_p247, List.forall_mem_cons.mpr ⟨lw_p248, fun _ h => absurd h List.not_mem_nil⟩⟩⟩⟩⟩⟩⟩⟩⟩
def lw_privs : List (MethodName × Nat) := lw_privs_1 ++ (lw_privs_2 ++ (lw_privs_3 ++ (lw_privs_4 ++ (lw_privs_5 ++ (lw_privs_6 ++ (lw_privs_7 ++ (lw_privs_8 ++ (lw_privs_9 ++ (lw_privs_10 ++ (lw_privs_11 ++ (lw_privs_12 ++ (lw_privs_13 ++ (lw_privs_14 ++ (lw_privs_15 ++ (lw_privs_16)))))))))))))))
def lw_tbl : List Cond := k2_sels lw_privs ++ tables_1
theorem lw_privs_ok : ∀ q ∈ lw_privs, lw_okq q := by
  show ∀ q ∈ lw_privs_1 ++ (lw_privs_2 ++ (lw_privs_3 ++ (lw_privs_4 ++ (lw_privs_5 ++ (lw_privs_6 ++ (lw_privs_7 ++ (lw_privs_8 ++ (lw_privs_9 ++ (lw_privs_10 ++ (lw_privs_11 ++ (lw_privs_12 ++ (lw_privs_13 ++ (lw_privs_14 ++ (lw_privs_15 ++ (lw_privs_16))))))))))))))), lw_okq q
  exact List.forall_mem_append.mpr ⟨lw_r1, List.forall_mem_append.mpr ⟨lw_r2, List.forall_mem_append.mpr ⟨lw_r3, List.forall_mem_append.mpr ⟨lw_r4, List.forall_mem_append.mpr ⟨lw_r5, List.forall_mem_append.mpr ⟨lw_r6, List.forall_mem_append.mpr ⟨lw_r7, List.forall_mem_append.mpr ⟨lw_r8, List.forall_mem_append.mpr ⟨lw_r9, List.forall_mem_append.mpr ⟨lw_r10, List.forall_mem_append.mpr ⟨lw_r11, List.forall_mem_append.mpr ⟨lw_r12, List.forall_mem_append.mpr ⟨lw_r13, List.forall_mem_append.mpr ⟨lw_r14, List.forall_mem_append.mpr ⟨lw_r15, lw_r16⟩⟩⟩⟩⟩⟩⟩⟩⟩⟩⟩⟩⟩⟩⟩
end
section
/-! ===== BEGIN words of one list among another's, by their places ===== -/
theorem goodIn_r {big : List Cond} (ws : List Cond) (ps : List Nat) (hp : ws = ps.filterMap (fun i => big[i]?)) (h : ws.all goodWord = true) : GoodIn big ws := by
  intro w hw
  have h1 := List.all_eq_true.mp h w hw
  rw [hp] at hw
  obtain ⟨i, -, hi⟩ := List.mem_filterMap.mp hw
  have hm : w ∈ big := by first | exact List.mem_of_getElem? hi | exact List.getElem?_mem hi
  exact ⟨hm, good_of_word h1⟩
theorem goodIn_app {big a b : List Cond} (ha : GoodIn big a) (hb : GoodIn big b) : GoodIn big (a ++ b) := fun w h => (List.mem_append.mp h).elim (ha w) (hb w)
theorem goodIn_ca {big a b : List Cond} {c : Cond} (ha : GoodIn big (c :: a)) (hb : GoodIn big b) : GoodIn big (c :: (a ++ b)) := fun w h => (List.mem_cons.mp h).elim (fun e => ha w (List.mem_cons.mpr (Or.inl e))) (fun h => (List.mem_append.mp h).elim (fun h => ha w (List.mem_cons.mpr (Or.inr h))) (hb w))
theorem goodIn_sub {big ws : List Cond} (hm : ∀ w ∈ ws, w ∈ big) (h : ws.all goodWord = true) : GoodIn big ws := fun w hw => ⟨hm w hw, good_of_word (List.all_eq_true.mp h w hw)⟩
/-! ===== END ===== -/

/-! ===== BEGIN exceptions that leave a method, and their catching by the caller (launches without stack traces) ===== -/
section VXA
/-! The laws vx_back, vx_callV, vx_callS, vx_callSW, vx_throw0, vx_throwS follow proofs of the library, with one case more: JvmDerived/Free/Laws.lean (Back.of_free), Shelf42/LK1.lean (callV, callS), Shelf/KitTraced.lean (throwNew0V, throwNewS). -/
/-- where a method has thrown q: the class by its name, the cell, what was written, the world -/
def vx_T (XC : String → State → State → Prop) (st : State) (q : Addr) (t : State) (mc ms : Nat) (free : Addr → Prop) : Prop :=
  ∃ (E : String) (ce : Cell) (L : List Loc), XC E st t ∧ t.heap[q]? = some ce ∧ ce.vm = .none ∧ st.vm.findClass E = some ce.cls ∧ st.WarmedH t.vm ∧ st.sameButNew ({ t with vm := st.vm } : State) L mc ms ∧ ∀ z ∈ L, free z.base
def vx_Q (Qc : Array Value → State → Outcome → State → Prop) (XC : String → State → State → Prop) (mc ms : Nat) (free : Addr → Prop) : Array Value → State → Outcome → State → Prop := fun a st o t =>
  (Qc a st o t ∧ ∃ L, FrameEnd st o t L mc ms ∧ ∀ q ∈ L, free q.base) ∨ ∃ q, o = .threw q ∧ vx_T XC st q t mc ms free
/-- a callee that returns or throws -/
def vx_Met (l : Launch) (y : MethodName) (ws : List Cond) (rm : Room) (Pc : Array Value → State → Prop) (Qc : Array Value → State → Outcome → State → Prop) (XC : String → State → State → Prop) (mc ms : Nat) (free : Addr → Prop) : Prop :=
  MetFree l y (headSpec ws rm) Pc (fun _ _ _ _ _ => True) (vx_Q Qc XC mc ms free)
def vx_Post (XC : String → State → State → Prop) (mc ms : Nat) (free : Addr → Prop) : Pt → Array Value → Addr → Pt → Prop := fun A a q B =>
  ∃ (g : JFrame) (mk : MethodId) (t : State) (L : List Loc) (E : String) (ce : Cell), B.U.heap = t.heap ∧ B.U.vm = t.vm ∧ XC E (A.U.calling g mk a) t ∧ t.heap[q]? = some ce ∧ ce.vm = .none ∧ A.U.vm.findClass E = some ce.cls ∧ B.locs = A.locs ++ L ∧ (∀ z ∈ L, free z.base) ∧ B.cells = A.cells + mc ∧ B.slots = A.slots + ms
def vx_Back (l : Launch) (R : Room) (p : Program) (e : Env) (below : List Frame) (s : State) (sargs : Array Value) (y : MethodName) (len W9 : Nat)
    (Pre : Pt → Array Value → Prop) (Post : Pt → Array Value → Option Value → Pt → Prop) (PostX : Pt → Array Value → Addr → Pt → Prop) : Prop :=
  ∀ (m : MethodId) (meth : Method) (c : Code) (A : Pt) (g : JFrame) (ig : Instr) (mk : MethodId) (a : Array Value),
    Stand p l e R s m sargs below meth c A.U A.locs A.cells A.slots → g.method = m → g.locals.size = c.maxLocals → decode c.code g.pc = .ok (ig, len) →
    2 * g.monitorRoom + (g.stack.map fun v => v.category).sum ≤ W9 → A.U.methodNamed? y = some mk → Pre A a →
    (∃ (v : Option Value) (B : Pt), Stand p l e R s m sargs below meth c B.U B.locs B.cells B.slots ∧ Post A a v B ∧
      Steps p.tables e below (doInvoke e (A.U.setTop g) [] mk a).1 (B.U.setTop { g with pc := g.pc + len, stack := v.toList ++ g.stack })) ∨
    (∃ (q : Addr) (B : Pt), Stand p l e R s m sargs below meth c B.U B.locs B.cells B.slots ∧ PostX A a q B ∧
      Steps p.tables e below (doInvoke e (A.U.setTop g) [] mk a).1 ((B.U.setTop g).pushFrame (.throwing q)))
section Payer
variable {l : Launch} {R : Room} {p : Program} {e : Env} {below : List Frame} {s : State} {sargs : Array Value} {y : MethodName} {len W9 : Nat}
theorem vx_back {ws : List Cond} {rm : Room} {Pc : Array Value → State → Prop} {Qc : Array Value → State → Outcome → State → Prop} {XC : String → State → State → Prop} {mc ms : Nat} {free : Addr → Prop} {bytes : ByteArray} {maxL : Nat} {ret : Option FieldType}
    (hM : vx_Met l y ws rm Pc Qc XC mc ms free) (hblind : FrameBlind Pc) (hrc : rm.cells = mc) (hrs : rm.slots = ms)
    (hframes : rm.frames + 1 ≤ R.frames) (hlocals : W9 + (maxL + 11) + rm.locals ≤ R.locals)
    (hws : ∀ w ∈ ws, ∀ a' U, s.WarmedH U.vm → w.before a' U = true) (hcode : Cond.code y bytes maxL ret ∈ ws) (hinit : ∀ a' U, s.WarmedH U.vm → (Cond.initialized y.cls).before a' U = true) :
    vx_Back l R p e below s sargs y len W9 (PreOf R mc ms Pc) (PostOf Qc mc ms free) (vx_Post XC mc ms free) := by
  intro m meth c A g ig mk a X hg hsize hdg hW hn hp
  have h1 : (headSpec ws rm).pre.before a A.U = true := atoms_intro fun w hw => hws w hw _ _ X.warmed
  have h2 : (Cond.code y bytes maxL ret).before a A.U = true := hws _ hcode _ _ X.warmed
  have h3 : (Cond.initialized y.cls).before a A.U = true := hinit _ _ X.warmed
  have h4 : A.cells + (headSpec ws rm).room.cells ≤ R.cells := by rw [show (headSpec ws rm).room.cells = mc from hrc]; exact hp.1
  have h5 : A.slots + (headSpec ws rm).room.slots ≤ R.slots := by rw [show (headSpec ws rm).room.slots = ms from hrs]; exact hp.2.1
  have hPc : Pc a (A.U.calling g mk a) := hblind _ _ _ _ hp.2.2
  obtain ⟨U, Ls, c0, s0⟩ := A
  dsimp only [Pt.U, Pt.locs, Pt.cells, Pt.slots] at h1 h2 h3 h4 h5 X hn hPc ⊢
  obtain ⟨methY, cY, hmY, hcY, -, hlY, -, -, -, -⟩ := Cond.code_spec hn h2
  obtain ⟨kY, hkY, -⟩ := className_of_methodNamed hn
  have hinitY : kY.init = .initialized := Cond.initialized_spec (findClass_of_methodNamed hn) hkY h3
  have h : At U g.method c below := by rw [hg]; exact X.here
  have hlocals9 : W9 + (maxL + 11) + (headSpec ws rm).room.locals ≤ R.locals := hlocals
  have happ : (headSpec ws rm).appliesLoose y e.platform (U.calling g mk a) = true :=
    Spec.appliesLoose_calling (g := g) h hdg hn hkY hinitY
      (X.room_calling (g := g) (R' := (headSpec ws rm).room) hsize hmY hcY hframes (by rw [hlY]; omega) h4 h5) h1
  obtain ⟨mid, hmid⟩ := h.above
  have hfr : (U.setTop g).frames = (.java g :: mid) ++ below := by rw [State.frames_setTop' g h.top, hmid]; rfl
  obtain ⟨o, s₂, hsteps, -, hend, hq⟩ := Steps.callFree hM p X.admits X.cas X.clock (acts := []) hfr happ hPc trivial
  have hq' : vx_Q Qc XC mc ms free a (U.calling g mk a) o s₂ := hq
  rw [State.frames_setTop' g h.top] at hend
  obtain ⟨g₀, hg0⟩ := Option.isSome_iff_exists.mp h.top
  obtain ⟨r, hr⟩ := State.topJava?_eq_some.mp hg0
  have hr' : (({ U with heap := s₂.heap, slotsUsed := s₂.slotsUsed } : State).setVm s₂.vm).frames = .java g₀ :: r := hr
  rcases hq' with ⟨hqc, L, hfe, hL⟩ | ⟨q, rfl, E, ce, L, hx, hce, hcv, hcl, hW₂, hsm, hL⟩
  · obtain ⟨⟨v, rfl⟩, hW₂, e2, q2, q3, q4, q5, q6⟩ := id hfe
    have e3 : s₂ = ({ (U.calling g mk a).setFrames s₂.frames with heap := s₂.heap, slotsUsed := s₂.slotsUsed } : State).setVm s₂.vm := by
      have : s₂ = ({ s₂ with vm := (U.calling g mk a).vm } : State).setVm s₂.vm := rfl
      rw [e2] at this
      exact this
    obtain ⟨c₂, i₂, len₂, hc₂, hd₂, hf₂⟩ := hend
    have hW' : U.WarmedH s₂.vm := hW₂
    have hcc : c₂ = c := by
      have h1 : s₂.code? g.method = U.code? g.method := by
        rw [State.code?_eq, State.code?_eq, hW'.alike.method?]
      exact Option.some.inj (hc₂.symm.trans (h1.trans h.code))
    subst hcc
    have hlen : len₂ = len := by rw [hdg] at hd₂; cases hd₂; rfl
    subst hlen
    have hs₂ : s₂ = (({ U with heap := s₂.heap, slotsUsed := s₂.slotsUsed } : State).setVm s₂.vm).setTop { g with pc := g.pc + len₂, stack := v.toList ++ g.stack } := by
      refine e3.trans ?_
      rw [hf₂, State.calling_eq h.top, State.setFrames_setFrames, State.setTop_of_frames _ hr', hr]
      rfl
    have hsame : U.sameButNew ({ U with heap := s₂.heap, slotsUsed := s₂.slotsUsed } : State) L mc ms := by
      refine ⟨?_, q2, q3, q4, q5, q6⟩
      obtain ⟨t, ht, -⟩ := State.frames_cons hr
      show ({ U with heap := s₂.heap, slotsUsed := s₂.slotsUsed } : State) = { U.setFrames U.frames with heap := s₂.heap, slotsUsed := s₂.slotsUsed }
      rw [State.setFrames_self ht]
    subst hg
    refine Or.inl ⟨v, ⟨(({ U with heap := s₂.heap, slotsUsed := s₂.slotsUsed } : State).setVm s₂.vm), Ls ++ L, c0 + mc, s0 + ms⟩,
      ⟨X.admits, X.cas, X.clock, X.frames, X.room, X.hears, X.method, X.code, (X.here.setHeapUsed s₂.heap s₂.slotsUsed).setVm hW'.alike, X.tail, State.WarmedH.trans X.warmed hW', X.limits, X.bytes, X.same.trans (hsame.setVm s.vm)⟩,
      ⟨g, mk, s₂, L, rfl, rfl, hqc, rfl, hL, rfl, rfl⟩, ?_⟩
    show Steps p.tables e below _ ((({ U with heap := s₂.heap, slotsUsed := s₂.slotsUsed } : State).setVm s₂.vm).setTop { g with pc := g.pc + len₂, stack := v.toList ++ g.stack })
    rw [← hs₂]
    exact hsteps
  · obtain ⟨e2, q2, q3, q4, q5, q6⟩ := id hsm
    have e3 : s₂ = ({ (U.calling g mk a).setFrames s₂.frames with heap := s₂.heap, slotsUsed := s₂.slotsUsed } : State).setVm s₂.vm := by
      have : s₂ = ({ s₂ with vm := (U.calling g mk a).vm } : State).setVm s₂.vm := rfl
      rw [e2] at this
      exact this
    have hf₂ : s₂.frames = .throwing q :: .java g :: U.frames.tail := hend
    have hW' : U.WarmedH s₂.vm := hW₂
    have hs₂ : s₂ = ((({ U with heap := s₂.heap, slotsUsed := s₂.slotsUsed } : State).setVm s₂.vm).setTop g).pushFrame (.throwing q) := by
      refine e3.trans ?_
      rw [hf₂, State.calling_eq h.top, State.setFrames_setFrames, State.pushFrame, State.frames_setTop _ hr', State.setTop_of_frames _ hr', State.setFrames_setFrames, hr]
      rfl
    have hsame : U.sameButNew ({ U with heap := s₂.heap, slotsUsed := s₂.slotsUsed } : State) L mc ms := by
      refine ⟨?_, q2, q3, q4, q5, q6⟩
      obtain ⟨t, ht, -⟩ := State.frames_cons hr
      show ({ U with heap := s₂.heap, slotsUsed := s₂.slotsUsed } : State) = { U.setFrames U.frames with heap := s₂.heap, slotsUsed := s₂.slotsUsed }
      rw [State.setFrames_self ht]
    subst hg
    refine Or.inr ⟨q, ⟨(({ U with heap := s₂.heap, slotsUsed := s₂.slotsUsed } : State).setVm s₂.vm), Ls ++ L, c0 + mc, s0 + ms⟩,
      ⟨X.admits, X.cas, X.clock, X.frames, X.room, X.hears, X.method, X.code, (X.here.setHeapUsed s₂.heap s₂.slotsUsed).setVm hW'.alike, X.tail, State.WarmedH.trans X.warmed hW', X.limits, X.bytes, X.same.trans (hsame.setVm s.vm)⟩,
      ⟨g, mk, s₂, L, E, ce, rfl, rfl, hx, hce, hcv, hcl, rfl, hL, rfl, rfl⟩, ?_⟩
    show Steps p.tables e below _ (((({ U with heap := s₂.heap, slotsUsed := s₂.slotsUsed } : State).setVm s₂.vm).setTop g).pushFrame (.throwing q))
    rw [← hs₂]
    exact hsteps
end Payer
section Calls
variable {p : Program} {l : Launch} {e : Env} {R : Room} {s : State} {m : MethodId} {args : Array Value} {below : List Frame} {meth : Method} {c : Code} {T : State} {locs : List Loc} {cells slots : Nat}
theorem vx_callV (X : Stand p l e R s m args below meth c T locs cells slots) (hexec : p.tables.exec = Jvm.exec) {own C : String} {index : Nat} {y : MethodName} {bytes : ByteArray} {maxL : Nat} {ret : Option FieldType}
    (hown : s.vm.findClass own = some m.cls) (hlink : (Cond.methodLink own index y).before args s = true) (hinst : (Cond.instanceMethod y).before args s = true) (hsel : (Cond.selects C y y).before args s = true)
    (hcode : (Cond.code y bytes maxL ret).before args s = true) (hy : y.cls ≠ "java/lang/invoke/MethodHandle" ∧ y.cls ≠ "java/lang/invoke/VarHandle")
    {W9 : Nat} {Pre : Pt → Array Value → Prop} {Post : Pt → Array Value → Option Value → Pt → Prop} {PostX : Pt → Array Value → Addr → Pt → Prop} (hK : vx_Back l R p e below s args y 3 W9 Pre Post PostX)
    {b : Addr} {cellB : Cell} (hcell : T.heap[b]? = some cellB) (hobj : cellB.vm.isStatics = false) (hcls : s.vm.findClass C = some cellB.cls)
    {g : JFrame} (hg : g.method = m) (hsize : g.locals.size = c.maxLocals) {argsL rest : List Value} (hlen : ∀ sig, parseMethodDescriptor y.desc = some sig → argsL.length = sig.parameters.length)
    (hstack : g.stack = argsL.reverse ++ .ref b :: rest) (hW : 2 * g.monitorRoom + (rest.map fun v => v.category).sum ≤ W9) (hdg : decode c.code g.pc = .ok (.invokevirtual index, 3))
    (hpre : ∀ vm₁, s.WarmedH vm₁ → Pre ⟨T.setVm vm₁, locs, cells, slots⟩ (Value.ref b :: argsL).toArray) :
    (∃ (v : Option Value) (vm₁ : Vm) (B : Pt), s.WarmedH vm₁ ∧ Stand p l e R s m args below meth c B.U B.locs B.cells B.slots ∧ Post ⟨T.setVm vm₁, locs, cells, slots⟩ (Value.ref b :: argsL).toArray v B ∧
      ∀ target, Steps p.tables e below (B.U.setTop { g with pc := g.pc + 3, stack := v.toList ++ rest }) target → Steps p.tables e below (T.setTop g) target) ∨
    (∃ (q : Addr) (vm₁ : Vm) (B : Pt), s.WarmedH vm₁ ∧ Stand p l e R s m args below meth c B.U B.locs B.cells B.slots ∧ PostX ⟨T.setVm vm₁, locs, cells, slots⟩ (Value.ref b :: argsL).toArray q B ∧
      Steps p.tables e below (T.setTop g) ((B.U.setTop { g with stack := rest }).pushFrame (.throwing q))) := by
  obtain ⟨mk, methM, hnamed, hmethM, hstM, habM⟩ := Cond.instanceMethod_spec hinst
  obtain ⟨methM', cM, hmethM', -, -, -, -, -, -, hsigM⟩ := Cond.code_spec hnamed hcode
  cases hmethM.symm.trans hmethM'
  obtain ⟨c2, r2, m2, q1, q2, q3, q4, kP, hkP, hkPi⟩ := Cond.selects_spec hsel
  cases hcls.symm.trans q1
  cases (State.methodFound?_of_named hnamed hy).symm.trans q2
  cases hnamed.symm.trans q3
  have hselP : selectMethod e.platform s.vm cellB.cls mk = .method mk := by rw [Launch.admits_selectMethod X.admits]; exact q4
  obtain ⟨vm₁, X₁, hstep₁⟩ := X.invokevirtual hexec hown hlink hnamed hmethM hstM hkP hkPi hy (a := b) (cell := cellB) hcell
    (fun z h => by rw [h] at hobj; cases hobj) hselP hmethM habM hkP hkPi (g := g) hg (argsL := argsL) (rest := rest) (hlen _ hsigM) hstack hdg
  rcases hK m meth c ⟨T.setVm vm₁, locs, cells, slots⟩ { g with stack := rest } (.invokevirtual index) mk (Value.ref b :: argsL).toArray X₁ hg hsize hdg hW (X₁.named hnamed) (hpre vm₁ X₁.warmed) with ⟨v, B, X', hpost, hsteps⟩ | ⟨q, B, X', hpost, hsteps⟩
  · exact Or.inl ⟨v, vm₁, B, X₁.warmed, X', hpost, fun target h => hstep₁ _ fun acts => by rw [doInvoke_state]; exact hsteps.trans h⟩
  · exact Or.inr ⟨q, vm₁, B, X₁.warmed, X', hpost, hstep₁ _ fun acts => by rw [doInvoke_state]; exact hsteps⟩
theorem vx_callS (X : Stand p l e R s m args below meth c T locs cells slots) (hexec : p.tables.exec = Jvm.exec) {own : String} {index : Nat} {y : MethodName} {bytes : ByteArray} {maxL : Nat} {ret : Option FieldType}
    (hown : s.vm.findClass own = some m.cls) (hlink : (Cond.methodLink own index y).before args s = true) (hstat : (Cond.static y).before args s = true) (hinit : (Cond.initialized y.cls).before args s = true)
    (hcode : (Cond.code y bytes maxL ret).before args s = true) (hy : y.cls ≠ "java/lang/invoke/MethodHandle" ∧ y.cls ≠ "java/lang/invoke/VarHandle")
    {W9 : Nat} {Pre : Pt → Array Value → Prop} {Post : Pt → Array Value → Option Value → Pt → Prop} {PostX : Pt → Array Value → Addr → Pt → Prop} (hK : vx_Back l R p e below s args y 3 W9 Pre Post PostX)
    {g : JFrame} (hg : g.method = m) (hsize : g.locals.size = c.maxLocals) {argsL rest : List Value} (hlen : ∀ sig, parseMethodDescriptor y.desc = some sig → argsL.length = sig.parameters.length)
    (hstack : g.stack = argsL.reverse ++ rest) (hW : 2 * g.monitorRoom + (rest.map fun v => v.category).sum ≤ W9) (hdg : decode c.code g.pc = .ok (.invokestatic index, 3))
    (hpre : ∀ vm₁, s.WarmedH vm₁ → Pre ⟨T.setVm vm₁, locs, cells, slots⟩ argsL.toArray) :
    (∃ (v : Option Value) (vm₁ : Vm) (B : Pt), s.WarmedH vm₁ ∧ Stand p l e R s m args below meth c B.U B.locs B.cells B.slots ∧ Post ⟨T.setVm vm₁, locs, cells, slots⟩ argsL.toArray v B ∧
      ∀ target, Steps p.tables e below (B.U.setTop { g with pc := g.pc + 3, stack := v.toList ++ rest }) target → Steps p.tables e below (T.setTop g) target) ∨
    (∃ (q : Addr) (vm₁ : Vm) (B : Pt), s.WarmedH vm₁ ∧ Stand p l e R s m args below meth c B.U B.locs B.cells B.slots ∧ PostX ⟨T.setVm vm₁, locs, cells, slots⟩ argsL.toArray q B ∧
      Steps p.tables e below (T.setTop g) ((B.U.setTop { g with stack := rest }).pushFrame (.throwing q))) := by
  obtain ⟨mk, hnamed⟩ := Cond.code_named hcode
  obtain ⟨methM, cM, hmethM, -, -, -, -, -, -, hsigM⟩ := Cond.code_spec hnamed hcode
  have hstatic : methM.isStatic = true := Cond.static_spec hnamed hmethM hstat
  obtain ⟨kP, hkP, -⟩ := className_of_methodNamed hnamed
  have hinitP : kP.init = .initialized := Cond.initialized_spec (findClass_of_methodNamed hnamed) hkP hinit
  obtain ⟨vm₁, X₁, hstep₁⟩ := X.invokestatic hexec hown hlink hnamed hmethM hstatic hkP hinitP hy (g := g) hg (argsL := argsL) (rest := rest) (hlen _ hsigM) hstack hdg
  rcases hK m meth c ⟨T.setVm vm₁, locs, cells, slots⟩ { g with stack := rest } (.invokestatic index) mk argsL.toArray X₁ hg hsize hdg hW (X₁.named hnamed) (hpre vm₁ X₁.warmed) with ⟨v, B, X', hpost, hsteps⟩ | ⟨q, B, X', hpost, hsteps⟩
  · exact Or.inl ⟨v, vm₁, B, X₁.warmed, X', hpost, fun target h => hstep₁ _ fun acts => by rw [doInvoke_state]; exact hsteps.trans h⟩
  · exact Or.inr ⟨q, vm₁, B, X₁.warmed, X', hpost, hstep₁ _ fun acts => by rw [doInvoke_state]; exact hsteps⟩
end Calls
theorem vx_cls {s : State} {T : State} {vm₁ : Vm} {E : String} {k : ClassId} (hW : s.WarmedH vm₁) (h : (T.setVm vm₁).vm.findClass E = some k) : s.vm.findClass E = some k := by
  have h1 : vm₁.findClass E = some k := h
  rw [hW.alike.findClass] at h1
  exact h1
/-- the method's frame g, with q thrown over it -/
def vx_W (p : Program) (l : Launch) (e : Env) (R : Room) (s : State) (m : MethodId) (args : Array Value) (below : List Frame) (meth : Method) (c : Code) (H : Heap) (locs : List Loc) (cells slots : Nat) (Q : State → Prop) (g : JFrame) (q : Addr) : Prop :=
  ∀ T : State, T.heap = H → Stand p l e R s m args below meth c T locs cells slots → ∃ t, Steps p.tables e below ((T.setTop g).pushFrame (.throwing q)) t ∧ Q t
def vx_Run (p : Program) (l : Launch) (e : Env) (R : Room) (s : State) (m : MethodId) (args : Array Value) (below : List Frame) (meth : Method) (c : Code) (H : Heap) (locs : List Loc) (cells slots mc ms : Nat) (g : JFrame) (rest : List Value) (Qa : State → Outcome → State → Prop) (XC : String → State → State → Prop) (free : Addr → Prop) : Prop :=
  ∀ T : State, T.heap = H → Stand p l e R s m args below meth c T locs cells slots →
    (∃ (v : Option Value) (st₀ t T' : State) (L : List Loc), st₀.heap = H ∧ Stand p l e R s m args below meth c T' (locs ++ L) (cells + mc) (slots + ms) ∧ (∀ q ∈ L, free q.base) ∧ T'.heap = t.heap ∧ T'.vm = t.vm ∧ Qa st₀ (.returned v) t ∧
      Goes p e below T g T' { g with pc := g.pc + 3, stack := v.toList ++ rest }) ∨
    (∃ (q : Addr) (st₀ t T' : State) (L : List Loc) (E : String) (ce : Cell), st₀.heap = H ∧ Stand p l e R s m args below meth c T' (locs ++ L) (cells + mc) (slots + ms) ∧ (∀ z ∈ L, free z.base) ∧ T'.heap = t.heap ∧ T'.vm = t.vm ∧ XC E st₀ t ∧ t.heap[q]? = some ce ∧ ce.vm = .none ∧ s.vm.findClass E = some ce.cls ∧
      Steps p.tables e below (T.setTop g) ((T'.setTop { g with stack := rest }).pushFrame (.throwing q)))
def vx_X {S : Type} (px : S → Prop) (B : String → S → State → Prop) (A : Nat → Prop) : String → State → State → Prop := fun E st t => ∃ u : S, px u ∧ B E u t ∧ va_F A st t
section Runs
variable {p : Program} {l : Launch} {e : Env} {R : Room} {s : State} {m : MethodId} {args : Array Value} {below : List Frame} {meth : Method} {c : Code} {H : Heap} {locs : List Loc} {cells slots : Nat}
variable {y : MethodName} {bytes cc : ByteArray} {maxL nL mc ms n index : Nat} {ret : Option FieldType} {ws : List Cond} {rm : Room} {Pc : Array Value → State → Prop} {Qc : Array Value → State → Outcome → State → Prop} {XC : String → State → State → Prop} {free : Addr → Prop} {Ts : List Cond} {own C : String} {b : Addr} {As rest : List Value} {g : JFrame}
theorem vx_callBack (cb : CallB R s args own index y bytes maxL ret ws rm mc ms n) (hM : vx_Met l y ws rm Pc Qc XC mc ms free) (hbl : FrameBlind Pc) : vx_Back l R p e below s args y 3 8 (PreOf R mc ms Pc) (PostOf Qc mc ms free) (vx_Post XC mc ms free) := by
  obtain ⟨hrc, hrs, hfr, hlo, hws, hcw, -, hini, -⟩ := cb
  exact vx_back (bytes := bytes) (maxL := maxL) (ret := ret) hM hbl hrc hrs hfr hlo hws hcw (fun a' U hW => word_at hW (Or.inl (by first | rfl | simp [Cond.onTables, Cond.keeps, Cond.steady])) hini)
theorem vx_runV (S : CallFix p m c cc nL s args Ts own) (hM : vx_Met l y ws rm Pc Qc XC mc ms free) (cw : CallW R s args own C index y bytes maxL ret ws rm mc ms n) (hp : PreV s H C b Pc As)
    (hg : g.method = m) (hn : As.length = n) (hsize : g.locals.size = nL) (hstack : g.stack = As.reverse ++ .ref b :: rest) (hW : 2 * g.monitorRoom + (rest.map fun v => v.category).sum ≤ 8) (hdg : decode cc g.pc = .ok (.invokevirtual index, 3)) (hf : cells + mc ≤ R.cells ∧ slots + ms ≤ R.slots) :
    vx_Run p l e R s m args below meth c H locs cells slots mc ms g rest (Qc (Value.ref b :: As).toArray) XC free := by
  have hK : vx_Back l R p e below s args y 3 8 (PreOf R mc ms Pc) (PostOf Qc mc ms free) (vx_Post XC mc ms free) := vx_callBack cw.1 hM hp.1
  obtain ⟨⟨-, -, -, -, -, -, hcode, -, hy, hlen, hl⟩, hin, hse⟩ := cw
  obtain ⟨hx, hb, hml, ho, -⟩ := S
  obtain ⟨-, ⟨cellB, hcB, hoB, hclB⟩, hPc⟩ := hp
  intro T hT X
  rcases vx_callV X hx (C := C) (bytes := bytes) (maxL := maxL) (ret := ret) ho hl hin hse hcode hy hK (by rw [hT]; exact hcB) hoB hclB hg (hsize.trans hml.symm) (argsL := As) (rest := rest) (fun sig h => hn.trans (hlen sig h)) hstack hW (by rw [hb]; exact hdg)
    (fun vm₁ hW₁ => ⟨hf.1, hf.2, hPc (T.setVm vm₁) hT hW₁⟩) with ⟨v, vm₁, ⟨U', l2, c2, s2⟩, hW₁, X', ⟨g', mk, t, L, e1, e2, hq, h1, hL, h2, h3⟩, st⟩ | ⟨q, vm₁, ⟨U', l2, c2, s2⟩, hW₁, X', ⟨g', mk, t, L, E, ce, e1, e2, hq, hce, hcv, hcl, h1, hL, h2, h3⟩, st⟩
  · dsimp only [Pt.U, Pt.locs, Pt.cells, Pt.slots] at X' e1 e2 h1 h2 h3 st
    subst h1; subst h2; subst h3
    exact Or.inl ⟨v, (T.setVm vm₁).calling g' mk (Value.ref b :: As).toArray, t, U', L, hT, X', hL, e1, e2, hq, st⟩
  · dsimp only [Pt.U, Pt.locs, Pt.cells, Pt.slots] at X' e1 e2 h1 h2 h3 st hcl
    subst h1; subst h2; subst h3
    exact Or.inr ⟨q, (T.setVm vm₁).calling g' mk (Value.ref b :: As).toArray, t, U', L, E, ce, hT, X', hL, e1, e2, hq, hce, hcv, vx_cls hW₁ hcl, st⟩
theorem vx_runS (S : CallFix p m c cc nL s args Ts own) (hM : vx_Met l y ws rm Pc Qc XC mc ms free) (cw : CallB R s args own index y bytes maxL ret ws rm mc ms n ∧ (Cond.static y).before args s = true) (hp : PreS s H Pc As)
    (hg : g.method = m) (hn : As.length = n) (hsize : g.locals.size = nL) (hstack : g.stack = As.reverse ++ rest) (hW : 2 * g.monitorRoom + (rest.map fun v => v.category).sum ≤ 8) (hdg : decode cc g.pc = .ok (.invokestatic index, 3)) (hf : cells + mc ≤ R.cells ∧ slots + ms ≤ R.slots) :
    vx_Run p l e R s m args below meth c H locs cells slots mc ms g rest (Qc As.toArray) XC free := by
  have hK : vx_Back l R p e below s args y 3 8 (PreOf R mc ms Pc) (PostOf Qc mc ms free) (vx_Post XC mc ms free) := vx_callBack cw.1 hM hp.1
  obtain ⟨⟨-, -, -, -, -, -, hcode, hini, hy, hlen, hl⟩, hstt⟩ := cw
  obtain ⟨hx, hb, hml, ho, -⟩ := S
  intro T hT X
  rcases vx_callS X hx (bytes := bytes) (maxL := maxL) (ret := ret) ho hl hstt hini hcode hy hK hg (hsize.trans hml.symm) (argsL := As) (rest := rest) (fun sig h => hn.trans (hlen sig h)) hstack hW (by rw [hb]; exact hdg)
    (fun vm₁ hW₁ => ⟨hf.1, hf.2, hp.2 (T.setVm vm₁) hT hW₁⟩) with ⟨v, vm₁, ⟨U', l2, c2, s2⟩, hW₁, X', ⟨g', mk, t, L, e1, e2, hq, h1, hL, h2, h3⟩, st⟩ | ⟨q, vm₁, ⟨U', l2, c2, s2⟩, hW₁, X', ⟨g', mk, t, L, E, ce, e1, e2, hq, hce, hcv, hcl, h1, hL, h2, h3⟩, st⟩
  · dsimp only [Pt.U, Pt.locs, Pt.cells, Pt.slots] at X' e1 e2 h1 h2 h3 st
    subst h1; subst h2; subst h3
    exact Or.inl ⟨v, (T.setVm vm₁).calling g' mk As.toArray, t, U', L, hT, X', hL, e1, e2, hq, st⟩
  · dsimp only [Pt.U, Pt.locs, Pt.cells, Pt.slots] at X' e1 e2 h1 h2 h3 st hcl
    subst h1; subst h2; subst h3
    exact Or.inr ⟨q, (T.setVm vm₁).calling g' mk As.toArray, t, U', L, E, ce, hT, X', hL, e1, e2, hq, hce, hcv, vx_cls hW₁ hcl, st⟩
end Runs
section Rows
variable {p : Program} {l : Launch} {e : Env} {R : Room} {s : State} {m : MethodId} {args : Array Value} {below : List Frame} {meth : Method} {c : Code} {H : Heap} {locs : List Loc} {cells slots : Nat} {Q : State → Prop}
variable {mc ms : Nat} {free : Addr → Prop} {A0 A1 : Nat → Prop} {H0 : Heap} {a : Array Value} {pc : Nat} {ls : Array Slot} {st0 rest : List Value}
theorem vx_keep {st₀ t T' : State} {L : List Loc} (h0 : st₀.heap = H) (e1 : T'.heap = t.heap) (hS : va_S A0 H0 H locs) (hA : ∀ q, q < H.size → A1 q → A0 q) (hf : ∀ q, free q → A0 q) (hL : ∀ q ∈ L, free q.base) (hF : va_F A1 st₀ t) :
    H.size ≤ T'.heap.size ∧ (∀ q : Nat, q < H.size → ¬ A1 q → T'.heap[q]? = H[q]?) ∧ va_S A0 H0 T'.heap (locs ++ L) := by
  obtain ⟨hz, hk⟩ := hF
  rw [h0] at hz hk
  exact ⟨by rw [e1]; exact hz, fun q h1 h2 => by rw [e1]; exact hk q h1 h2,
    ⟨Nat.le_trans hS.1 (by rw [e1]; exact hz), fun q h1 h2 => by rw [e1, hk q (Nat.lt_of_lt_of_le h1 hS.1) (fun z => h2 (hA q (Nat.lt_of_lt_of_le h1 hS.1) z))]; exact hS.2.1 q h1 h2, fun q hq => by
      rcases List.mem_append.mp hq with h | h
      · exact hS.2.2 q h
      · exact hf _ (hL q h)⟩⟩
theorem vx_calli {S SX : Type} {post : Int32 → S → Prop} {px : SX → Prop} {B : S → State → Prop} {BX : String → SX → State → Prop} {AX : Nat → Prop} (hr : vx_Run p l e R s m args below meth c H locs cells slots mc ms (F0 m pc ls st0) rest (va_Qi post B A1 a) (vx_X px BX AX) free) (hS : va_S A0 H0 H locs) (hA : ∀ q, q < H.size → A1 q → A0 q) (hf : ∀ q, free q → A0 q) (hAX : ∀ q, q < H.size → AX q → A0 q)
    (kx : ∀ (E : String) (ce : Cell) (q9 : Addr) (u : SX) (t : State) (H1 : Heap) (locs1 : List Loc), t.heap = H1 → s.vm.Alike t.vm → px u → BX E u t → H.size ≤ H1.size → (∀ q : Nat, q < H.size → ¬ AX q → H1[q]? = H[q]?) → va_S A0 H0 H1 locs1 → H1[q9]? = some ce → ce.vm = .none → s.vm.findClass E = some ce.cls → vx_W p l e R s m args below meth c H1 locs1 (cells + mc) (slots + ms) Q (F0 m pc ls rest) q9)
    (kk : ∀ (r : Int32) (u : S) (t : State) (H1 : Heap) (locs1 : List Loc), t.heap = H1 → s.vm.Alike t.vm → post r u → B u t → H.size ≤ H1.size → (∀ q : Nat, q < H.size → ¬ A1 q → H1[q]? = H[q]?) → va_S A0 H0 H1 locs1 → W p l e R s m args below meth c H1 locs1 (cells + mc) (slots + ms) Q (F0 m (pc + 3) ls (.int r :: rest))) : W p l e R s m args below meth c H locs cells slots Q (F0 m pc ls st0) := by
  intro T hT X
  rcases hr T hT X with ⟨v, st₀, t, T', L, h0, X', hL, e1, e2, ⟨⟨r, u, hv, hp, hb⟩, hF⟩, st⟩ | ⟨q, st₀, t, T', L, E, ce, h0, X', hL, e1, e2, ⟨u, hp, hb, hF⟩, hce, hcv, hcl, st⟩
  · cases hv
    obtain ⟨k1, k2, k3⟩ := vx_keep h0 e1 hS hA hf hL hF
    obtain ⟨t2, a1, b1⟩ := kk r u t T'.heap (locs ++ L) e1.symm (by rw [← e2]; exact X'.warmed.alike) hp hb k1 k2 k3 T' rfl X'
    exact ⟨t2, st t2 a1, b1⟩
  · obtain ⟨k1, k2, k3⟩ := vx_keep h0 e1 hS hAX hf hL hF
    obtain ⟨t2, a1, b1⟩ := kx E ce q u t T'.heap (locs ++ L) e1.symm (by rw [← e2]; exact X'.warmed.alike) hp hb k1 k2 k3 (by rw [e1]; exact hce) hcv hcl T' rfl X'
    exact ⟨t2, st.trans a1, b1⟩
theorem vx_calll {S SX : Type} {post : Int64 → S → Prop} {px : SX → Prop} {B : S → State → Prop} {BX : String → SX → State → Prop} {AX : Nat → Prop} (hr : vx_Run p l e R s m args below meth c H locs cells slots mc ms (F0 m pc ls st0) rest (va_Ql post B A1 a) (vx_X px BX AX) free) (hS : va_S A0 H0 H locs) (hA : ∀ q, q < H.size → A1 q → A0 q) (hf : ∀ q, free q → A0 q) (hAX : ∀ q, q < H.size → AX q → A0 q)
    (kx : ∀ (E : String) (ce : Cell) (q9 : Addr) (u : SX) (t : State) (H1 : Heap) (locs1 : List Loc), t.heap = H1 → s.vm.Alike t.vm → px u → BX E u t → H.size ≤ H1.size → (∀ q : Nat, q < H.size → ¬ AX q → H1[q]? = H[q]?) → va_S A0 H0 H1 locs1 → H1[q9]? = some ce → ce.vm = .none → s.vm.findClass E = some ce.cls → vx_W p l e R s m args below meth c H1 locs1 (cells + mc) (slots + ms) Q (F0 m pc ls rest) q9)
    (kk : ∀ (r : Int64) (u : S) (t : State) (H1 : Heap) (locs1 : List Loc), t.heap = H1 → s.vm.Alike t.vm → post r u → B u t → H.size ≤ H1.size → (∀ q : Nat, q < H.size → ¬ A1 q → H1[q]? = H[q]?) → va_S A0 H0 H1 locs1 → W p l e R s m args below meth c H1 locs1 (cells + mc) (slots + ms) Q (F0 m (pc + 3) ls (.long r :: rest))) : W p l e R s m args below meth c H locs cells slots Q (F0 m pc ls st0) := by
  intro T hT X
  rcases hr T hT X with ⟨v, st₀, t, T', L, h0, X', hL, e1, e2, ⟨⟨r, u, hv, hp, hb⟩, hF⟩, st⟩ | ⟨q, st₀, t, T', L, E, ce, h0, X', hL, e1, e2, ⟨u, hp, hb, hF⟩, hce, hcv, hcl, st⟩
  · cases hv
    obtain ⟨k1, k2, k3⟩ := vx_keep h0 e1 hS hA hf hL hF
    obtain ⟨t2, a1, b1⟩ := kk r u t T'.heap (locs ++ L) e1.symm (by rw [← e2]; exact X'.warmed.alike) hp hb k1 k2 k3 T' rfl X'
    exact ⟨t2, st t2 a1, b1⟩
  · obtain ⟨k1, k2, k3⟩ := vx_keep h0 e1 hS hAX hf hL hF
    obtain ⟨t2, a1, b1⟩ := kx E ce q u t T'.heap (locs ++ L) e1.symm (by rw [← e2]; exact X'.warmed.alike) hp hb k1 k2 k3 (by rw [e1]; exact hce) hcv hcl T' rfl X'
    exact ⟨t2, st.trans a1, b1⟩
theorem vx_callf {S SX : Type} {post : UInt32 → S → Prop} {px : SX → Prop} {B : S → State → Prop} {BX : String → SX → State → Prop} {AX : Nat → Prop} (hr : vx_Run p l e R s m args below meth c H locs cells slots mc ms (F0 m pc ls st0) rest (va_Qf post B A1 a) (vx_X px BX AX) free) (hS : va_S A0 H0 H locs) (hA : ∀ q, q < H.size → A1 q → A0 q) (hf : ∀ q, free q → A0 q) (hAX : ∀ q, q < H.size → AX q → A0 q)
    (kx : ∀ (E : String) (ce : Cell) (q9 : Addr) (u : SX) (t : State) (H1 : Heap) (locs1 : List Loc), t.heap = H1 → s.vm.Alike t.vm → px u → BX E u t → H.size ≤ H1.size → (∀ q : Nat, q < H.size → ¬ AX q → H1[q]? = H[q]?) → va_S A0 H0 H1 locs1 → H1[q9]? = some ce → ce.vm = .none → s.vm.findClass E = some ce.cls → vx_W p l e R s m args below meth c H1 locs1 (cells + mc) (slots + ms) Q (F0 m pc ls rest) q9)
    (kk : ∀ (r : UInt32) (u : S) (t : State) (H1 : Heap) (locs1 : List Loc), t.heap = H1 → s.vm.Alike t.vm → post r u → B u t → H.size ≤ H1.size → (∀ q : Nat, q < H.size → ¬ A1 q → H1[q]? = H[q]?) → va_S A0 H0 H1 locs1 → W p l e R s m args below meth c H1 locs1 (cells + mc) (slots + ms) Q (F0 m (pc + 3) ls (.float r :: rest))) : W p l e R s m args below meth c H locs cells slots Q (F0 m pc ls st0) := by
  intro T hT X
  rcases hr T hT X with ⟨v, st₀, t, T', L, h0, X', hL, e1, e2, ⟨⟨r, u, hv, hp, hb⟩, hF⟩, st⟩ | ⟨q, st₀, t, T', L, E, ce, h0, X', hL, e1, e2, ⟨u, hp, hb, hF⟩, hce, hcv, hcl, st⟩
  · cases hv
    obtain ⟨k1, k2, k3⟩ := vx_keep h0 e1 hS hA hf hL hF
    obtain ⟨t2, a1, b1⟩ := kk r u t T'.heap (locs ++ L) e1.symm (by rw [← e2]; exact X'.warmed.alike) hp hb k1 k2 k3 T' rfl X'
    exact ⟨t2, st t2 a1, b1⟩
  · obtain ⟨k1, k2, k3⟩ := vx_keep h0 e1 hS hAX hf hL hF
    obtain ⟨t2, a1, b1⟩ := kx E ce q u t T'.heap (locs ++ L) e1.symm (by rw [← e2]; exact X'.warmed.alike) hp hb k1 k2 k3 (by rw [e1]; exact hce) hcv hcl T' rfl X'
    exact ⟨t2, st.trans a1, b1⟩
theorem vx_calld {S SX : Type} {post : UInt64 → S → Prop} {px : SX → Prop} {B : S → State → Prop} {BX : String → SX → State → Prop} {AX : Nat → Prop} (hr : vx_Run p l e R s m args below meth c H locs cells slots mc ms (F0 m pc ls st0) rest (va_Qd post B A1 a) (vx_X px BX AX) free) (hS : va_S A0 H0 H locs) (hA : ∀ q, q < H.size → A1 q → A0 q) (hf : ∀ q, free q → A0 q) (hAX : ∀ q, q < H.size → AX q → A0 q)
    (kx : ∀ (E : String) (ce : Cell) (q9 : Addr) (u : SX) (t : State) (H1 : Heap) (locs1 : List Loc), t.heap = H1 → s.vm.Alike t.vm → px u → BX E u t → H.size ≤ H1.size → (∀ q : Nat, q < H.size → ¬ AX q → H1[q]? = H[q]?) → va_S A0 H0 H1 locs1 → H1[q9]? = some ce → ce.vm = .none → s.vm.findClass E = some ce.cls → vx_W p l e R s m args below meth c H1 locs1 (cells + mc) (slots + ms) Q (F0 m pc ls rest) q9)
    (kk : ∀ (r : UInt64) (u : S) (t : State) (H1 : Heap) (locs1 : List Loc), t.heap = H1 → s.vm.Alike t.vm → post r u → B u t → H.size ≤ H1.size → (∀ q : Nat, q < H.size → ¬ A1 q → H1[q]? = H[q]?) → va_S A0 H0 H1 locs1 → W p l e R s m args below meth c H1 locs1 (cells + mc) (slots + ms) Q (F0 m (pc + 3) ls (.double r :: rest))) : W p l e R s m args below meth c H locs cells slots Q (F0 m pc ls st0) := by
  intro T hT X
  rcases hr T hT X with ⟨v, st₀, t, T', L, h0, X', hL, e1, e2, ⟨⟨r, u, hv, hp, hb⟩, hF⟩, st⟩ | ⟨q, st₀, t, T', L, E, ce, h0, X', hL, e1, e2, ⟨u, hp, hb, hF⟩, hce, hcv, hcl, st⟩
  · cases hv
    obtain ⟨k1, k2, k3⟩ := vx_keep h0 e1 hS hA hf hL hF
    obtain ⟨t2, a1, b1⟩ := kk r u t T'.heap (locs ++ L) e1.symm (by rw [← e2]; exact X'.warmed.alike) hp hb k1 k2 k3 T' rfl X'
    exact ⟨t2, st t2 a1, b1⟩
  · obtain ⟨k1, k2, k3⟩ := vx_keep h0 e1 hS hAX hf hL hF
    obtain ⟨t2, a1, b1⟩ := kx E ce q u t T'.heap (locs ++ L) e1.symm (by rw [← e2]; exact X'.warmed.alike) hp hb k1 k2 k3 (by rw [e1]; exact hce) hcv hcl T' rfl X'
    exact ⟨t2, st.trans a1, b1⟩
theorem vx_callv {S SX : Type} {post : S → Prop} {px : SX → Prop} {B : S → State → Prop} {BX : String → SX → State → Prop} {AX : Nat → Prop} (hr : vx_Run p l e R s m args below meth c H locs cells slots mc ms (F0 m pc ls st0) rest (va_Qv post B A1 a) (vx_X px BX AX) free) (hS : va_S A0 H0 H locs) (hA : ∀ q, q < H.size → A1 q → A0 q) (hf : ∀ q, free q → A0 q) (hAX : ∀ q, q < H.size → AX q → A0 q)
    (kx : ∀ (E : String) (ce : Cell) (q9 : Addr) (u : SX) (t : State) (H1 : Heap) (locs1 : List Loc), t.heap = H1 → s.vm.Alike t.vm → px u → BX E u t → H.size ≤ H1.size → (∀ q : Nat, q < H.size → ¬ AX q → H1[q]? = H[q]?) → va_S A0 H0 H1 locs1 → H1[q9]? = some ce → ce.vm = .none → s.vm.findClass E = some ce.cls → vx_W p l e R s m args below meth c H1 locs1 (cells + mc) (slots + ms) Q (F0 m pc ls rest) q9)
    (kk : ∀ (u : S) (t : State) (H1 : Heap) (locs1 : List Loc), t.heap = H1 → s.vm.Alike t.vm → post u → B u t → H.size ≤ H1.size → (∀ q : Nat, q < H.size → ¬ A1 q → H1[q]? = H[q]?) → va_S A0 H0 H1 locs1 → W p l e R s m args below meth c H1 locs1 (cells + mc) (slots + ms) Q (F0 m (pc + 3) ls (rest))) : W p l e R s m args below meth c H locs cells slots Q (F0 m pc ls st0) := by
  intro T hT X
  rcases hr T hT X with ⟨v, st₀, t, T', L, h0, X', hL, e1, e2, ⟨⟨u, hv, hp, hb⟩, hF⟩, st⟩ | ⟨q, st₀, t, T', L, E, ce, h0, X', hL, e1, e2, ⟨u, hp, hb, hF⟩, hce, hcv, hcl, st⟩
  · cases hv
    obtain ⟨k1, k2, k3⟩ := vx_keep h0 e1 hS hA hf hL hF
    obtain ⟨t2, a1, b1⟩ := kk u t T'.heap (locs ++ L) e1.symm (by rw [← e2]; exact X'.warmed.alike) hp hb k1 k2 k3 T' rfl X'
    exact ⟨t2, st t2 a1, b1⟩
  · obtain ⟨k1, k2, k3⟩ := vx_keep h0 e1 hS hAX hf hL hF
    obtain ⟨t2, a1, b1⟩ := kx E ce q u t T'.heap (locs ++ L) e1.symm (by rw [← e2]; exact X'.warmed.alike) hp hb k1 k2 k3 (by rw [e1]; exact hce) hcv hcl T' rfl X'
    exact ⟨t2, st.trans a1, b1⟩
end Rows
section Ends
variable {p : Program} {l : Launch} {e : Env} {R : Room} {s : State} {m : MethodId} {args : Array Value} {below : List Frame} {meth : Method} {c : Code} {H : Heap} {locs : List Loc} {cells slots : Nat} {Q : State → Prop}
variable {mc ms : Nat} {free : Addr → Prop} {A0 A1 : Nat → Prop} {H0 : Heap} {a : Array Value} {ls : Array Slot} {st0 rest : List Value}
variable {Qc : Array Value → State → Outcome → State → Prop} {XC : String → State → State → Prop}
/-- what a body that may throw owes at its end -/
def vx_MQ (below : List Frame) (Qc : Array Value → State → Outcome → State → Prop) (XC : String → State → State → Prop) (a : Array Value) (s : State) (mc ms : Nat) (free : Addr → Prop) : State → Prop := fun t =>
  ∃ o, t.status = .running ∧ Ended t below o ∧ vx_Q Qc XC mc ms free a s o t
theorem vx_ret {g : JFrame} {mc ms : Nat} (k : W p l e R s m args below meth c H locs cells slots (MQ below Qc args s mc ms free) g) : W p l e R s m args below meth c H locs cells slots (vx_MQ below Qc XC args s mc ms free) g := by
  intro T hT X
  obtain ⟨t, a1, o, b1, b2, b3, b4⟩ := k T hT X
  exact ⟨t, a1, o, b1, b2, Or.inl ⟨b3, b4⟩⟩
/-- not caught here: it goes on to the caller -/
theorem vx_widen {g : JFrame} {q : Addr} {k n : Nat} (h1 : cells ≤ k) (h2 : slots ≤ n) (kk : vx_W p l e R s m args below meth c H locs k n Q g q) : vx_W p l e R s m args below meth c H locs cells slots Q g q := fun T hT X => kk T hT (stand_widen X h1 h2)
theorem vx_out {pc : Nat} {E : String} {ce : Cell} {q : Addr} {mc ms : Nat} (hout : ∀ x ∈ c.exceptionTable.toList, covers x pc = false) (hlocks : meth.locks = false) (hcell : H[q]? = some ce) (hv : ce.vm = .none) (hcl : s.vm.findClass E = some ce.cls)
    (hx : ∀ t : State, t.heap = H → s.vm.Alike t.vm → XC E s t) (hf : ∀ z ∈ locs, free z.base) (hc : cells ≤ mc) (hs : slots ≤ ms) :
    vx_W p l e R s m args below meth c H locs cells slots (vx_MQ below Qc XC args s mc ms free) (F0 m pc ls rest) q := by
  intro T hT X
  obtain ⟨st1, hrun, hend, hW, hsm⟩ := X.leaveThrown q (g := F0 m pc ls rest) rfl rfl rfl hout hlocks
  have hcell9 : (T.setFrames (.throwing q :: below)).heap[q]? = some ce := by
    show T.heap[q]? = some ce
    rw [hT]; exact hcell
  exact ⟨_, st1, .threw q, hrun, hend, Or.inr ⟨q, rfl, E, ce, locs, hx _ hT hW.alike, hcell9, hv, hcl, hW, hsm.mono hc hs, hf⟩⟩
theorem vx_frame {U : State} {k n : Nat} (h : s.sameButNew ({ U with vm := s.vm } : State) locs k n) : s.heap.size ≤ U.heap.size ∧ ∀ q : Nat, q < s.heap.size → (∀ z ∈ locs, z.base ≠ q) → U.heap[q]? = s.heap[q]? := by
  obtain ⟨-, h2, -, -, -, h6⟩ := h
  refine ⟨h2, fun q hq hz => ?_⟩
  obtain ⟨c9, e1, e2, e3, e4⟩ := h6 q _ (Array.getElem?_eq_getElem hq)
  have hs : c9.slots = (s.heap[q]).slots := Array.ext_getElem? fun i => e4 i fun hm => hz _ hm rfl
  have h9 : c9 = s.heap[q] := by
    rw [hs] at e2
    exact e2
  have e5 : U.heap[q]? = some c9 := e1
  rw [e5, h9, Array.getElem?_eq_getElem hq]
/-- the words of a throw but the four that speak of the heap -/
def vx_no (w : Cond) : Bool := decide (w ≠ .isRef (.static Bundle.tN "UNASSIGNED_STACK" Bundle.steD)) && decide (w ≠ .isRef (.static Bundle.tN "SUPPRESSED_SENTINEL" Bundle.listD)) && decide (w ≠ .laysStatic Bundle.tN "UNASSIGNED_STACK" Bundle.steD) && decide (w ≠ .laysStatic Bundle.tN "SUPPRESSED_SENTINEL" Bundle.listD)
def vx_at0 (own : String) (ic : Nat) (X : String) (names : List String) : List Cond := (Bundle.ownAtoms0 own ic X names).filter vx_no
def vx_atS (own : String) (ic : Nat) (X : String) (names : List String) : List Cond := (Bundle.ownAtoms own ic X names).filter vx_no
/-- a word that the tables alone decide, or a good one -/
def vx_ot (w : Cond) : Bool := w.onTables || goodWord w
theorem vx_ot_at {args a' : Array Value} {s U : State} {w : Cond} (hW : s.WarmedH U.vm) (hvm : s.vm = U.vm) (hg : vx_ot w = true) (h : w.before args s = true) : w.before a' U = true := by
  simp only [vx_ot, Bool.or_eq_true] at hg
  rcases hg with hg | hg
  · exact va_tabs hg hvm h
  · exact word_at hW (good_of_word hg) h
/-- a list's words: the good ones out of the method's own list, the others by premises of their own -/
theorem vx_hat {args : Array Value} {s : State} {L B : List Cond} (h1 : ∀ w ∈ L.filter goodWord, w.before args s = true) (h2 : ∀ w ∈ L.filter (fun w => !goodWord w), w ∈ B) (h3 : ∀ w ∈ B, w.before args s = true) : ∀ w ∈ L, w.before args s = true := by
  intro w hw
  by_cases g : goodWord w = true
  · exact h1 w (List.mem_filter.mpr ⟨hw, g⟩)
  · refine h3 w (h2 w (List.mem_filter.mpr ⟨hw, ?_⟩))
    show (!goodWord w) = true
    cases hgw : goodWord w
    · rfl
    · exact absurd hgw g
theorem vx_c {args : Array Value} {s : State} {w : Cond} {B : List Cond} (h : w.before args s = true) (t : ∀ w ∈ B, w.before args s = true) : ∀ w' ∈ w :: B, w'.before args s = true := fun w' h' => (List.mem_cons.mp h').elim (fun e => by rw [e]; exact h) (t w')
theorem vx_n {args : Array Value} {s : State} : ∀ w ∈ ([] : List Cond), w.before args s = true := fun _ h => nomatch h
theorem vx_own {args : Array Value} {s : State} {L : List Cond} (h1 : ∀ w ∈ L.filter vx_no, w.before args s = true)
    (hU : (Cond.isRef (.static Bundle.tN "UNASSIGNED_STACK" Bundle.steD)).before args s = true) (hN : (Cond.isRef (.static Bundle.tN "SUPPRESSED_SENTINEL" Bundle.listD)).before args s = true)
    (lU : (Cond.laysStatic Bundle.tN "UNASSIGNED_STACK" Bundle.steD).before args s = true) (lN : (Cond.laysStatic Bundle.tN "SUPPRESSED_SENTINEL" Bundle.listD).before args s = true) : ∀ w ∈ L, w.before args s = true := by
  intro w hw
  by_cases e1 : w = .isRef (.static Bundle.tN "UNASSIGNED_STACK" Bundle.steD)
  · rw [e1]; exact hU
  · by_cases e2 : w = .isRef (.static Bundle.tN "SUPPRESSED_SENTINEL" Bundle.listD)
    · rw [e2]; exact hN
    · by_cases e3 : w = .laysStatic Bundle.tN "UNASSIGNED_STACK" Bundle.steD
      · rw [e3]; exact lU
      · by_cases e4 : w = .laysStatic Bundle.tN "SUPPRESSED_SENTINEL" Bundle.listD
        · rw [e4]; exact lN
        · exact h1 w (List.mem_filter.mpr ⟨hw, by unfold vx_no; rw [decide_eq_true e1, decide_eq_true e2, decide_eq_true e3, decide_eq_true e4]; rfl⟩)
/-- where a static field lies, its class's statics cell in H -/
def vx_L (C n d : String) (A : Nat → Prop) (U : State) (H : Heap) : Prop := ∃ (c : ClassId) (k : Class) (i : Nat) (f : Field) (a : Nat) (cell : Cell), U.vm.findClass C = some c ∧ U.fieldFound? C n d = some (c, k, i, f) ∧ f.isStatic = true ∧ k.statics = some a ∧ H[a]? = some cell ∧ cell.vm.isStatics = true ∧ cell.cls = c ∧ f.slot < cell.slots.size ∧ k.staticTypes[f.slot]? = some f.type ∧ ¬ A a
theorem vx_L.moved {C n d : String} {A : Nat → Prop} {u U : State} {H : Heap} (hvm : u.vm.Alike U.vm) (h : vx_L C n d A u H) : vx_L C n d A U H := by
  obtain ⟨c, k, i, f, a, cell, h1, h2, h3, h4, h5, h6, h7, h8, h9, h10⟩ := h
  obtain ⟨k', hi', he⟩ := State.fieldFound?_setVm hvm h2
  exact ⟨c, k', i, f, a, cell, by rw [hvm.findClass]; exact h1, hi', h3, by rw [he]; exact h4, h5, h6, h7, h8, by rw [he]; exact h9, h10⟩
theorem vx_L.kept {C n d : String} {A : Nat → Prop} {U : State} {H H1 : Heap} (h : vx_L C n d A U H) (hq : ∀ a : Nat, a < H.size → ¬ A a → H1[a]? = H[a]?) : vx_L C n d A U H1 := by
  obtain ⟨c, k, i, f, a, cell, h1, h2, h3, h4, h5, h6, h7, h8, h9, h10⟩ := h
  exact ⟨c, k, i, f, a, cell, h1, h2, h3, h4, by rw [hq a (Array.getElem?_eq_some_iff.mp h5).1 h10]; exact h5, h6, h7, h8, h9, h10⟩
theorem vx_L.narrow {C n d : String} {A B : Nat → Prop} {U : State} {H : Heap} (h : vx_L C n d A U H) (hAB : ∀ q, B q → A q) : vx_L C n d B U H := by
  obtain ⟨c, k, i, f, a, cell, h1, h2, h3, h4, h5, h6, h7, h8, h9, h10⟩ := h
  exact ⟨c, k, i, f, a, cell, h1, h2, h3, h4, h5, h6, h7, h8, h9, fun z => h10 (hAB _ z)⟩
theorem vx_L.word {C n d : String} {A : Nat → Prop} {s : State} {args : Array Value} (h : vx_L C n d A s s.heap) : (Cond.laysStatic C n d).before args s = true := by
  obtain ⟨c, k, i, f, a, cell, h1, h2, h3, h4, h5, h6, h7, h8, h9, -⟩ := h
  show (Cond.laysStatic C n d).holds args s none s [] = true
  exact Cond.laysStatic_of h1 h2 h3 h4 h5 h6 h7 h8 h9
/-- .. and what it holds: null or some reference -/
def vx_Zq (C n d : String) (A : Nat → Prop) (U : State) (H : Heap) : Prop := va_Zq C n d A U H ∧ vx_L C n d A U H
theorem vx_Zq.moved {C n d : String} {A : Nat → Prop} {u U : State} {H : Heap} (hvm : u.vm.Alike U.vm) (h : vx_Zq C n d A u H) : vx_Zq C n d A U H := ⟨va_Zq.moved hvm h.1, vx_L.moved hvm h.2⟩
theorem vx_Zq.kept {C n d : String} {A : Nat → Prop} {U : State} {H H1 : Heap} (h : vx_Zq C n d A U H) (hq : ∀ a : Nat, a < H.size → ¬ A a → H1[a]? = H[a]?) : vx_Zq C n d A U H1 := ⟨va_Zq.kept h.1 hq, vx_L.kept h.2 hq⟩
theorem vx_Zq.narrow {C n d : String} {A B : Nat → Prop} {U : State} {H : Heap} (h : vx_Zq C n d A U H) (hAB : ∀ q, B q → A q) : vx_Zq C n d B U H := ⟨va_Zq.narrow h.1 hAB, vx_L.narrow h.2 hAB⟩
theorem vx_Zqof {args : Array Value} {s : State} {C n d : String} {A : Nat → Prop} (hl : (Cond.laysStatic C n d).before args s = true) (hini : (Cond.initialized C).before args s = true) (h : (Cond.isRef (.static C n d)).before args s = true) (hA : ∀ a : Nat, a < s.heap.size → ¬ A a) : vx_Zq C n d A s s.heap := by
  refine ⟨va_Zqof hl hini h hA, ?_⟩
  obtain ⟨c, k, i, f, a, cell, h1, h2, h3, h4, h5, h6, h7, h8, h9⟩ := Cond.laysStatic_spec hl
  exact ⟨c, k, i, f, a, cell, h1, h2, h3, h4, h5, h6, h7, h8, h9, hA a (Array.getElem?_eq_some_iff.mp h5).1⟩
theorem vx_isRef {C n d : String} {v : Value} {A : Nat → Prop} {s : State} {args : Array Value} (h : va_Z C n d v A s s.heap) (hv : v.isRef = true) : (Cond.isRef (.static C n d)).before args s = true := by
  obtain ⟨cf, kf, fi, f, a, cell, h1, h2, h3, h4, h5, h6, h7, -⟩ := h
  have he : (Term.static C n d).eval args s none [] s = some v := by
    simp [Term.eval, State.fieldNamed?, h1, h2, h4, h5, h6, h7]
  simp only [Cond.before, Cond.holds, Cond.value, he]
  cases v <;> simp_all [Value.isRef]
theorem vx_isRefq {C n d : String} {A : Nat → Prop} {s : State} {args : Array Value} (h : va_Zq C n d A s s.heap) : (Cond.isRef (.static C n d)).before args s = true := by
  rcases h with h | ⟨t, h⟩
  · exact vx_isRef h rfl
  · exact vx_isRef h rfl
/-- the same frame, seen from here: as if the method were called anew in this heap -/
theorem vx_rebase {T : State} (X : Stand p l e R s m args below meth c T locs cells slots) {R' : Room} (hf : R'.frames ≤ R.frames) (hl : R'.locals ≤ R.locals) (hc : cells + R'.cells ≤ R.cells) (hs : slots + R'.slots ≤ R.slots) :
    Stand p l e R' ((T.setVm s.vm).setFrames (.invoking m args :: below)) m args below meth c T [] 0 0 := by
  have htop : (T.setVm s.vm).topJava?.isSome := X.here.top
  have hF : ((T.setVm s.vm).setFrames (.invoking m args :: below)).frames = .invoking m args :: below := State.frames_setFrames _ (State.cur_lt_of_top htop)
  obtain ⟨g₀, hg0⟩ := Option.isSome_iff_exists.mp htop
  obtain ⟨r, hr⟩ := State.topJava?_eq_some.mp hg0
  have hl9 : e.platform.stackLimits (T.setVm s.vm).me = e.platform.stackLimits s.me := X.limits
  have hb9 : (T.setVm s.vm).me.stackBytes = s.me.stackBytes := X.bytes
  refine ⟨X.admits, X.cas, X.clock, hF, ?_, X.hears, X.method, X.code, X.here, X.tail, X.warmed, ?_, ?_, ?_⟩
  · have h := X.room
    have hU : ((T.setVm s.vm).setFrames (.invoking m args :: below)).localsInUse = s.localsInUse := by
      rw [State.localsInUse_invoking hF (meth := meth) (c := c) X.method X.code, State.localsInUse_invoking X.frames X.method X.code]
    simp only [State.hasRoom, Bool.and_eq_true, decide_eq_true_eq] at h ⊢
    obtain ⟨⟨⟨⟨h1, h2, h3, h4, h5, h6⟩, h7⟩, h8⟩, h9⟩ := h
    rw [X.frames, List.length_cons] at h2 h3
    have q1 := X.heapSize
    have q2 := X.used
    simp only [hF, hU, List.length_cons, State.stackLimits_setFrames, State.stackBytes_setFrames, hl9, hb9]
    refine ⟨⟨⟨⟨by omega, by omega, by omega, by omega, by omega, h6⟩, ?_⟩, ?_⟩, X.book⟩
    · show T.heap.size + R'.cells ≤ e.platform.maxCells
      omega
    · show T.slotsUsed + R'.slots ≤ e.platform.maxSlots
      omega
  · rw [State.stackLimits_setFrames]; rfl
  · rw [State.stackBytes_setFrames]; rfl
  · refine ⟨?_, Nat.le_refl _, Nat.le_refl _, ?_, ?_, fun a c9 h9 => ⟨c9, h9, rfl, rfl, fun _ _ => rfl⟩⟩
    · obtain ⟨t, ht, -⟩ := State.frames_cons hr
      show T.setVm s.vm = { ((T.setVm s.vm).setFrames (.invoking m args :: below)).setFrames (T.setVm s.vm).frames with heap := T.heap, slotsUsed := T.slotsUsed }
      rw [State.setFrames_setFrames, State.setFrames_self ht]
      rfl
    · show T.slotsUsed = T.slotsUsed + ((T.heap.toList.drop T.heap.size).map (·.slots.size)).sum
      rw [List.drop_eq_nil_of_le (Nat.le_of_eq Array.length_toList)]
      rfl
    · show ((T.heap.toList.drop T.heap.size).map (·.slots.size)).sum ≤ 0
      rw [List.drop_eq_nil_of_le (Nat.le_of_eq Array.length_toList)]
      exact Nat.le_refl _
/-- 'throw new E()': new; dup; invokespecial; athrow -/
theorem vx_throw0 {cc : ByteArray} {pc : Nat} (hexec : p.tables.exec = Jvm.exec) (hb : c.code = cc) (hl : l.stackTraces = false) {own cls : String} {names : List String} {ik ic mc ms : Nat} {A : Nat → Prop}
    (hown : s.vm.findClass own = some m.cls) (hcls : Bundle.fit cls = true) (hnames : ∀ n ∈ names, Bundle.fit n = true)
    (hk : (Cond.classLink own ik cls).before args s = true) (hini : (Cond.initialized cls).before args s = true) (hat : ∀ w ∈ vx_at0 own ic cls names, w.before args s = true)
    (hgood : ∀ w ∈ Cond.classLink own ik cls :: Cond.initialized cls :: vx_at0 own ic cls names, vx_ot w = true)
    (hU : vx_Zq Bundle.tN "UNASSIGNED_STACK" Bundle.steD A s s.heap) (hN : vx_Zq Bundle.tN "SUPPRESSED_SENTINEL" Bundle.listD A s s.heap) (hS : va_S A s.heap H locs) (hsize : ls.size = c.maxLocals)
    (d0 : decode cc pc = .ok (.new ik, 3)) (d3 : decode cc (pc + 3) = .ok (.dup, 1)) (d4 : decode cc (pc + 4) = .ok (.invokespecial ic, 3)) (d7 : decode cc (pc + 7) = .ok (.athrow, 1))
    (hout : ∀ x ∈ c.exceptionTable.toList, covers x (pc + 7) = false)
    (hRframes : names.length + 3 < R.frames) (hRlocals : (rest.map fun v => v.category).sum + (13 * (names.length + 1) + 42) ≤ R.locals) (hRcells : cells + 1 ≤ R.cells) (hRslots : slots + 6 ≤ R.slots) (hlocks : meth.locks = false)
    (hx : ∀ t : State, s.vm.Alike t.vm → H.size ≤ t.heap.size → (∀ q : Nat, q < H.size → t.heap[q]? = H[q]?) → XC cls s t)
    (hf : ∀ z ∈ locs, free z.base) (hc : cells + 1 ≤ mc) (hs : slots + 6 ≤ ms) :
    W p l e R s m args below meth c H locs cells slots (vx_MQ below Qc XC args s mc ms free) (F0 m pc ls rest) := by
  intro T hT X
  have htr : e.platform.stackTraces = false := (show e.platform.stackTraces = l.stackTraces by rw [X.admits.platform]).trans hl
  have Y := vx_rebase X (R' := { frames := R.frames, locals := R.locals, cells := 1, slots := 6 }) (Nat.le_refl _) (Nat.le_refl _) hRcells hRslots
  obtain ⟨s', hA⟩ : ∃ z, z = (T.setVm s.vm).setFrames (.invoking m args :: below) := ⟨_, rfl⟩
  rw [← hA] at Y
  have hvm : s'.vm = s.vm := by rw [hA]; rfl
  have hhp : s'.heap = H := by rw [hA]; exact hT
  have hW0 : s.WarmedH s'.vm := by rw [hvm]; exact State.WarmedH.refl s
  have hat' : ∀ w ∈ vx_at0 own ic cls names, w.before args s' = true := fun w hw => vx_ot_at hW0 hvm.symm (hgood w (List.mem_cons_of_mem _ (List.mem_cons_of_mem _ hw))) (hat w hw)
  have hk' : (Cond.classLink own ik cls).before args s' = true := vx_ot_at hW0 hvm.symm (hgood _ List.mem_cons_self) hk
  have hini' : (Cond.initialized cls).before args s' = true := vx_ot_at hW0 hvm.symm (hgood _ (List.mem_cons_of_mem _ List.mem_cons_self)) hini
  have hU' : vx_Zq Bundle.tN "UNASSIGNED_STACK" Bundle.steD A s' s'.heap := by rw [hhp]; exact vx_Zq.moved hW0.alike (hU.kept hS.2.1)
  have hN' : vx_Zq Bundle.tN "SUPPRESSED_SENTINEL" Bundle.listD A s' s'.heap := by rw [hhp]; exact vx_Zq.moved hW0.alike (hN.kept hS.2.1)
  have h : ∀ w ∈ Bundle.ownAtoms0 own ic cls names, w.before args s' = true := vx_own hat' (vx_isRefq hU'.1) (vx_isRefq hN'.1) hU'.2.word hN'.2.word
  have hown' : s'.vm.findClass own = some m.cls := by rw [hvm]; exact hown
  have hins : (Cond.instantiable cls 6).before args s' = true := h _ (by simp [Bundle.ownAtoms0])
  obtain ⟨vm₁, cX, kX, hfX, hkX, -, -, X₁, st1⟩ := Y.newCold hexec (own := own) (C := cls) (index := ik) (n := 6) hown' hk' hins hini'
    (g := F0 m pc ls rest) rfl (by rw [hb]; exact d0) (Nat.le_refl _) (Nat.le_refl _)
  generalize hT1 : (T.setVm vm₁).pushCell { cls := cX, slots := kX.instanceTypes.map defaultValue, vm := .none } = T1 at X₁ st1
  have hcat : (Value.ref T.heap.size).category = 1 := rfl
  have hcellA : T1.heap[T.heap.size]? = some (freshCell cX kX) := by rw [← hT1]; exact State.heap_pushCell_size _ _
  have d3' : decode c.code (pc + 3) = .ok (.dup, 1) := by rw [hb]; exact d3
  obtain ⟨U, hsteps, hrun, hend, hW, hsame, ce, hce, hO⟩ := X₁.ctorThrow0 hexec htr (own := own) (cls := cls) (names := names) (ic := ic) hown' hcls hnames h (fun x hx => nomatch hx) hfX hkX hcellA (by rw [hhp, hT]; exact Nat.le_refl _)
    (g := { method := m, pc := pc + 4, locals := ls, stack := .ref T.heap.size :: .ref T.heap.size :: rest, locked := none }) rfl hsize rfl rfl (rest := rest) rfl
    (by rw [hb]; exact d4) (by rw [hb]; exact d7) hout hRframes (by simp only [List.map_cons, List.sum_cons, hcat]; omega) hlocks
  obtain ⟨f1, f2⟩ := vx_frame hsame
  rw [hhp] at f1 f2
  have hWs : s.WarmedH U.vm := State.WarmedH.trans hW0 hW
  have hcl : s.vm.findClass cls = some ce.cls := by
    have h9 := hO.cls
    rw [hvm] at h9
    exact h9
  have hall : s.sameButNew ({ U with vm := s.vm } : State) locs mc ms := by
    subst hA
    obtain ⟨e1, e2⟩ := hsame
    rw [State.setFrames_setFrames] at e1
    have h2 : (T.setVm s.vm).sameButNew ({ U with vm := s.vm } : State) [] (0 + 1) (0 + 6) := ⟨e1, e2⟩
    have h3 := X.same.trans h2
    rw [List.append_nil] at h3
    exact h3.mono hc hs
  refine ⟨U, ?_, .threw T.heap.size, hrun, hend, Or.inr ⟨T.heap.size, rfl, cls, ce, locs, hx U hWs.alike f1 (fun q hq => f2 q hq (fun z hz => nomatch hz)), hce, hO.vm, hcl, hWs, hall, hf⟩⟩
  refine st1 _ ?_
  show Steps p.tables e below (T1.setTop { method := m, pc := pc + 3, locals := ls, stack := .ref T.heap.size :: rest, locked := none }) _
  jvm_step X₁.here [X₁.here.top, hexec, d3', Value.category]
  exact hsteps
/-- 'throw new E("text")': new; dup; ldc; invokespecial; athrow -/
theorem vx_throwS {cc : ByteArray} {pc : Nat} (hexec : p.tables.exec = Jvm.exec) (hb : c.code = cc) (hl : l.stackTraces = false) {own cls text : String} {names : List String} {ik is ic mc ms sa : Nat} {A : Nat → Prop}
    (hown : s.vm.findClass own = some m.cls) (hcls : Bundle.fit cls = true) (hnames : ∀ n ∈ names, Bundle.fit n = true)
    (hk : (Cond.classLink own ik cls).before args s = true) (hini : (Cond.initialized cls).before args s = true) (hstr : vk_R own is text sa s) (hat : ∀ w ∈ vx_atS own ic cls names, w.before args s = true)
    (hgood : ∀ w ∈ Cond.classLink own ik cls :: Cond.initialized cls :: vx_atS own ic cls names, vx_ot w = true)
    (hU : vx_Zq Bundle.tN "UNASSIGNED_STACK" Bundle.steD A s s.heap) (hN : vx_Zq Bundle.tN "SUPPRESSED_SENTINEL" Bundle.listD A s s.heap) (hS : va_S A s.heap H locs) (hsize : ls.size = c.maxLocals)
    (d0 : decode cc pc = .ok (.new ik, 3)) (d3 : decode cc (pc + 3) = .ok (.dup, 1)) (d4 : decode cc (pc + 4) = .ok (.ldc is, 2)) (d6 : decode cc (pc + 6) = .ok (.invokespecial ic, 3)) (d9 : decode cc (pc + 9) = .ok (.athrow, 1))
    (hout : ∀ x ∈ c.exceptionTable.toList, covers x (pc + 9) = false)
    (hRframes : names.length + 3 < R.frames) (hRlocals : (rest.map fun v => v.category).sum + (13 * (names.length + 1) + 43) ≤ R.locals) (hRcells : cells + 1 ≤ R.cells) (hRslots : slots + 6 ≤ R.slots) (hlocks : meth.locks = false)
    (hx : ∀ t : State, s.vm.Alike t.vm → H.size ≤ t.heap.size → (∀ q : Nat, q < H.size → t.heap[q]? = H[q]?) → XC cls s t)
    (hf : ∀ z ∈ locs, free z.base) (hc : cells + 1 ≤ mc) (hs : slots + 6 ≤ ms) :
    W p l e R s m args below meth c H locs cells slots (vx_MQ below Qc XC args s mc ms free) (F0 m pc ls rest) := by
  intro T hT X
  have htr : e.platform.stackTraces = false := (show e.platform.stackTraces = l.stackTraces by rw [X.admits.platform]).trans hl
  have Y := vx_rebase X (R' := { frames := R.frames, locals := R.locals, cells := 1, slots := 6 }) (Nat.le_refl _) (Nat.le_refl _) hRcells hRslots
  obtain ⟨s', hA⟩ : ∃ z, z = (T.setVm s.vm).setFrames (.invoking m args :: below) := ⟨_, rfl⟩
  rw [← hA] at Y
  have hvm : s'.vm = s.vm := by rw [hA]; rfl
  have hhp : s'.heap = H := by rw [hA]; exact hT
  have hW0 : s.WarmedH s'.vm := by rw [hvm]; exact State.WarmedH.refl s
  have hat' : ∀ w ∈ vx_atS own ic cls names, w.before args s' = true := fun w hw => vx_ot_at hW0 hvm.symm (hgood w (List.mem_cons_of_mem _ (List.mem_cons_of_mem _ hw))) (hat w hw)
  have hk' : (Cond.classLink own ik cls).before args s' = true := vx_ot_at hW0 hvm.symm (hgood _ List.mem_cons_self) hk
  have hini' : (Cond.initialized cls).before args s' = true := vx_ot_at hW0 hvm.symm (hgood _ (List.mem_cons_of_mem _ List.mem_cons_self)) hini
  have hU' : vx_Zq Bundle.tN "UNASSIGNED_STACK" Bundle.steD A s' s'.heap := by rw [hhp]; exact vx_Zq.moved hW0.alike (hU.kept hS.2.1)
  have hN' : vx_Zq Bundle.tN "SUPPRESSED_SENTINEL" Bundle.listD A s' s'.heap := by rw [hhp]; exact vx_Zq.moved hW0.alike (hN.kept hS.2.1)
  have h : ∀ w ∈ Bundle.ownAtoms own ic cls names, w.before args s' = true := vx_own hat' (vx_isRefq hU'.1) (vx_isRefq hN'.1) hU'.2.word hN'.2.word
  have hown' : s'.vm.findClass own = some m.cls := by rw [hvm]; exact hown
  have hins : (Cond.instantiable cls 6).before args s' = true := h _ (by simp [Bundle.ownAtoms])
  obtain ⟨vm₁, cX, kX, hfX, hkX, -, -, X₁, st1⟩ := Y.newCold hexec (own := own) (C := cls) (index := ik) (n := 6) hown' hk' hins hini'
    (g := F0 m pc ls rest) rfl (by rw [hb]; exact d0) (Nat.le_refl _) (Nat.le_refl _)
  generalize hT1 : (T.setVm vm₁).pushCell { cls := cX, slots := kX.instanceTypes.map defaultValue, vm := .none } = T1 at X₁ st1
  have hcat : (Value.ref T.heap.size).category = 1 := rfl
  have hcellA : T1.heap[T.heap.size]? = some (freshCell cX kX) := by rw [← hT1]; exact State.heap_pushCell_size _ _
  have d3' : decode c.code (pc + 3) = .ok (.dup, 1) := by rw [hb]; exact d3
  have d4' : decode c.code (pc + 4) = .ok (.ldc is, 2) := by rw [hb]; exact d4
  have hstr' : vk_R own is text sa s' := vk_R.warm hW0 hstr
  obtain ⟨U, hsteps, hrun, hend, hW, hsame, ce, hce, hO⟩ := X₁.ctorThrowS hexec htr (own := own) (cls := cls) (names := names) (ic := ic) hown' hcls hnames h (fun x hx => nomatch hx) hfX hkX hcellA (by rw [hhp, hT]; exact Nat.le_refl _) (msg := .ref sa) rfl
    (g := { method := m, pc := pc + 6, locals := ls, stack := .ref sa :: .ref T.heap.size :: .ref T.heap.size :: rest, locked := none }) rfl hsize rfl rfl (rest := rest) rfl
    (by rw [hb]; exact d6) (by rw [hb]; exact d9) hout hRframes (by simp only [List.map_cons, List.sum_cons, hcat]; omega) hlocks
  obtain ⟨f1, f2⟩ := vx_frame hsame
  rw [hhp] at f1 f2
  have hWs : s.WarmedH U.vm := State.WarmedH.trans hW0 hW
  have hcl : s.vm.findClass cls = some ce.cls := by
    have h9 := hO.cls
    rw [hvm] at h9
    exact h9
  have hall : s.sameButNew ({ U with vm := s.vm } : State) locs mc ms := by
    subst hA
    obtain ⟨e1, e2⟩ := hsame
    rw [State.setFrames_setFrames] at e1
    have h2 : (T.setVm s.vm).sameButNew ({ U with vm := s.vm } : State) [] (0 + 1) (0 + 6) := ⟨e1, e2⟩
    have h3 := X.same.trans h2
    rw [List.append_nil] at h3
    exact h3.mono hc hs
  refine ⟨U, ?_, .threw T.heap.size, hrun, hend, Or.inr ⟨T.heap.size, rfl, cls, ce, locs, hx U hWs.alike f1 (fun q hq => f2 q hq (fun z hz => nomatch hz)), hce, hO.vm, hcl, hWs, hall, hf⟩⟩
  refine st1 _ ?_
  show Steps p.tables e below (T1.setTop { method := m, pc := pc + 3, locals := ls, stack := .ref T.heap.size :: rest, locked := none }) _
  jvm_step X₁.here [X₁.here.top, hexec, d3', Value.category]
  exact X₁.ldcString hexec (own := own) (text := text) (index := is) (a := sa) hown' hstr'.1 hstr'.2
    (g := { method := m, pc := pc + 4, locals := ls, stack := .ref T.heap.size :: .ref T.heap.size :: rest, locked := none }) rfl d4' _ hsteps
/-- 'throw new E("text")', the text by a wide index -/
theorem vx_throwSW {cc : ByteArray} {pc : Nat} (hexec : p.tables.exec = Jvm.exec) (hb : c.code = cc) (hl : l.stackTraces = false) {own cls text : String} {names : List String} {ik is ic mc ms sa : Nat} {A : Nat → Prop}
    (hown : s.vm.findClass own = some m.cls) (hcls : Bundle.fit cls = true) (hnames : ∀ n ∈ names, Bundle.fit n = true)
    (hk : (Cond.classLink own ik cls).before args s = true) (hini : (Cond.initialized cls).before args s = true) (hstr : vk_R own is text sa s) (hat : ∀ w ∈ vx_atS own ic cls names, w.before args s = true)
    (hgood : ∀ w ∈ Cond.classLink own ik cls :: Cond.initialized cls :: vx_atS own ic cls names, vx_ot w = true)
    (hU : vx_Zq Bundle.tN "UNASSIGNED_STACK" Bundle.steD A s s.heap) (hN : vx_Zq Bundle.tN "SUPPRESSED_SENTINEL" Bundle.listD A s s.heap) (hS : va_S A s.heap H locs) (hsize : ls.size = c.maxLocals)
    (d0 : decode cc pc = .ok (.new ik, 3)) (d3 : decode cc (pc + 3) = .ok (.dup, 1)) (d4 : decode cc (pc + 4) = .ok (.ldc_w is, 3)) (d7 : decode cc (pc + 7) = .ok (.invokespecial ic, 3)) (d10 : decode cc (pc + 10) = .ok (.athrow, 1))
    (hout : ∀ x ∈ c.exceptionTable.toList, covers x (pc + 10) = false)
    (hRframes : names.length + 3 < R.frames) (hRlocals : (rest.map fun v => v.category).sum + (13 * (names.length + 1) + 43) ≤ R.locals) (hRcells : cells + 1 ≤ R.cells) (hRslots : slots + 6 ≤ R.slots) (hlocks : meth.locks = false)
    (hx : ∀ t : State, s.vm.Alike t.vm → H.size ≤ t.heap.size → (∀ q : Nat, q < H.size → t.heap[q]? = H[q]?) → XC cls s t)
    (hf : ∀ z ∈ locs, free z.base) (hc : cells + 1 ≤ mc) (hs : slots + 6 ≤ ms) :
    W p l e R s m args below meth c H locs cells slots (vx_MQ below Qc XC args s mc ms free) (F0 m pc ls rest) := by
  intro T hT X
  have htr : e.platform.stackTraces = false := (show e.platform.stackTraces = l.stackTraces by rw [X.admits.platform]).trans hl
  have Y := vx_rebase X (R' := { frames := R.frames, locals := R.locals, cells := 1, slots := 6 }) (Nat.le_refl _) (Nat.le_refl _) hRcells hRslots
  obtain ⟨s', hA⟩ : ∃ z, z = (T.setVm s.vm).setFrames (.invoking m args :: below) := ⟨_, rfl⟩
  rw [← hA] at Y
  have hvm : s'.vm = s.vm := by rw [hA]; rfl
  have hhp : s'.heap = H := by rw [hA]; exact hT
  have hW0 : s.WarmedH s'.vm := by rw [hvm]; exact State.WarmedH.refl s
  have hat' : ∀ w ∈ vx_atS own ic cls names, w.before args s' = true := fun w hw => vx_ot_at hW0 hvm.symm (hgood w (List.mem_cons_of_mem _ (List.mem_cons_of_mem _ hw))) (hat w hw)
  have hk' : (Cond.classLink own ik cls).before args s' = true := vx_ot_at hW0 hvm.symm (hgood _ List.mem_cons_self) hk
  have hini' : (Cond.initialized cls).before args s' = true := vx_ot_at hW0 hvm.symm (hgood _ (List.mem_cons_of_mem _ List.mem_cons_self)) hini
  have hU' : vx_Zq Bundle.tN "UNASSIGNED_STACK" Bundle.steD A s' s'.heap := by rw [hhp]; exact vx_Zq.moved hW0.alike (hU.kept hS.2.1)
  have hN' : vx_Zq Bundle.tN "SUPPRESSED_SENTINEL" Bundle.listD A s' s'.heap := by rw [hhp]; exact vx_Zq.moved hW0.alike (hN.kept hS.2.1)
  have h : ∀ w ∈ Bundle.ownAtoms own ic cls names, w.before args s' = true := vx_own hat' (vx_isRefq hU'.1) (vx_isRefq hN'.1) hU'.2.word hN'.2.word
  have hown' : s'.vm.findClass own = some m.cls := by rw [hvm]; exact hown
  have hins : (Cond.instantiable cls 6).before args s' = true := h _ (by simp [Bundle.ownAtoms])
  obtain ⟨vm₁, cX, kX, hfX, hkX, -, -, X₁, st1⟩ := Y.newCold hexec (own := own) (C := cls) (index := ik) (n := 6) hown' hk' hins hini'
    (g := F0 m pc ls rest) rfl (by rw [hb]; exact d0) (Nat.le_refl _) (Nat.le_refl _)
  generalize hT1 : (T.setVm vm₁).pushCell { cls := cX, slots := kX.instanceTypes.map defaultValue, vm := .none } = T1 at X₁ st1
  have hcat : (Value.ref T.heap.size).category = 1 := rfl
  have hcellA : T1.heap[T.heap.size]? = some (freshCell cX kX) := by rw [← hT1]; exact State.heap_pushCell_size _ _
  have d3' : decode c.code (pc + 3) = .ok (.dup, 1) := by rw [hb]; exact d3
  have d4' : decode c.code (pc + 4) = .ok (.ldc_w is, 3) := by rw [hb]; exact d4
  have hstr' : vk_R own is text sa s' := vk_R.warm hW0 hstr
  obtain ⟨U, hsteps, hrun, hend, hW, hsame, ce, hce, hO⟩ := X₁.ctorThrowS hexec htr (own := own) (cls := cls) (names := names) (ic := ic) hown' hcls hnames h (fun x hx => nomatch hx) hfX hkX hcellA (by rw [hhp, hT]; exact Nat.le_refl _) (msg := .ref sa) rfl
    (g := { method := m, pc := pc + 7, locals := ls, stack := .ref sa :: .ref T.heap.size :: .ref T.heap.size :: rest, locked := none }) rfl hsize rfl rfl (rest := rest) rfl
    (by rw [hb]; exact d7) (by rw [hb]; exact d10) hout hRframes (by simp only [List.map_cons, List.sum_cons, hcat]; omega) hlocks
  obtain ⟨f1, f2⟩ := vx_frame hsame
  rw [hhp] at f1 f2
  have hWs : s.WarmedH U.vm := State.WarmedH.trans hW0 hW
  have hcl : s.vm.findClass cls = some ce.cls := by
    have h9 := hO.cls
    rw [hvm] at h9
    exact h9
  have hall : s.sameButNew ({ U with vm := s.vm } : State) locs mc ms := by
    subst hA
    obtain ⟨e1, e2⟩ := hsame
    rw [State.setFrames_setFrames] at e1
    have h2 : (T.setVm s.vm).sameButNew ({ U with vm := s.vm } : State) [] (0 + 1) (0 + 6) := ⟨e1, e2⟩
    have h3 := X.same.trans h2
    rw [List.append_nil] at h3
    exact h3.mono hc hs
  refine ⟨U, ?_, .threw T.heap.size, hrun, hend, Or.inr ⟨T.heap.size, rfl, cls, ce, locs, hx U hWs.alike f1 (fun q hq => f2 q hq (fun z hz => nomatch hz)), hce, hO.vm, hcl, hWs, hall, hf⟩⟩
  refine st1 _ ?_
  show Steps p.tables e below (T1.setTop { method := m, pc := pc + 3, locals := ls, stack := .ref T.heap.size :: rest, locked := none }) _
  jvm_step X₁.here [X₁.here.top, hexec, d3', Value.category]
  exact X₁.ldcStringW hexec (own := own) (text := text) (index := is) (a := sa) hown' hstr'.1 hstr'.2
    (g := { method := m, pc := pc + 4, locals := ls, stack := .ref T.heap.size :: .ref T.heap.size :: rest, locked := none }) rfl d4' _ hsteps
end Ends
section Bodies
variable {l : Launch}
theorem vx_ofW {y : MethodName} {ws ws' : List Cond} {rm : Room} {Pc : Array Value → State → Prop} {Qc : Array Value → State → Outcome → State → Prop} {XC : String → State → State → Prop} {mc ms : Nat} {free : Addr → Prop} {cc : ByteArray} {maxL : Nat} {ret : Option FieldType}
    (hy : plainName y.cls = true) (hw : ws = Cond.code y cc maxL ret :: ws')
    (body : ∀ p e s m args below meth c s₁, BodyLoose p l y (headSpec ws rm) cc maxL ret e s m args below meth c s₁ → c.maxLocals = maxL → (∀ x ∈ c.exceptionTable.toList, False) → Pc args s →
      W p l e (headSpec ws rm).room s m args below meth c s.heap [] 0 0 (vx_MQ below Qc XC args s mc ms free) (entryFrame m args maxL)) : vx_Met l y ws rm Pc Qc XC mc ms free := by
  refine MetFree.of_bodyS (code := cc) (maxLocals := maxL) (ret := ret) hy ?_ ?_
  · intro args s m h hn
    obtain ⟨meth, c, h1, h2, h3, h4, h5, h6, -, -⟩ := Cond.code_spec hn (atoms_spec (ws := ws) h _ (by rw [hw]; exact List.mem_cons_self))
    exact ⟨meth, c, h1, h2, h3, h4, h5, h6⟩
  · intro p e s m args below meth c s₁ B hml hP _
    have hh0 : s₁.heap = s.heap := by rw [B.state]; rfl
    have ht : ∀ x ∈ c.exceptionTable.toList, False := by
      obtain ⟨meth9, c9, h1, h2, -, -, -, -, h7, -⟩ := Cond.code_spec B.named (atoms_spec (ws := ws) B.pre _ (by rw [hw]; exact List.mem_cons_self))
      cases Option.some.inj (h1.symm.trans B.method)
      cases Option.some.inj (h2.symm.trans (Stand.of_body B).code)
      intro x hx
      rw [Array.isEmpty_iff.mp h7] at hx
      cases hx
    obtain ⟨t, a1, o, b1, b2, b3⟩ := body p e s m args below meth c s₁ B hml ht hP s₁ hh0 (Stand.of_body B)
    exact ⟨t, o, a1, b1, b2, b3⟩
/-- the table of a body with handlers -/
theorem vx_table {p : Program} {x y : MethodName} {S : Spec} {cc bytes : ByteArray} {maxL maxL' : Nat} {ret ret' : Option FieldType} {e : Env} {s s₁ : State} {m : MethodId} {args : Array Value} {below : List Frame} {meth : Method} {c : Code} {hh : List (Nat × Nat × Nat × Nat)}
    (B : BodyLoose p l y S cc maxL ret e s m args below meth c s₁) (h : (Cond.codeWith y bytes maxL' ret' hh).before args s = true) : c.exceptionTable.toList = tableOf hh := by
  obtain ⟨m9, meth9, c9, hn9, h1, h2, -, -, h6, -⟩ := Cond.codeWith_spec h
  cases Option.some.inj (hn9.symm.trans B.named)
  cases Option.some.inj (h1.symm.trans B.method)
  cases Option.some.inj (h2.symm.trans (Stand.of_body B).code)
  rw [← h6, table_eq]
end Bodies
end VXA
/-! ===== END ===== -/
/-! ===== BEGIN a static call of a method with an exception table ===== -/
section VXS
variable {p : Program} {l : Launch} {e : Env} {R : Room} {s : State} {m : MethodId} {args : Array Value} {below : List Frame} {meth : Method} {c : Code} {T : State} {H : Heap} {locs : List Loc} {cells slots : Nat}
abbrev vx_CSW (R : Room) (s : State) (args : Array Value) (own : String) (index : Nat) (y : MethodName) (bytes : ByteArray) (maxL : Nat) (ret : Option FieldType) (hh : List (Nat × Nat × Nat × Nat)) (ws : List Cond) (rm : Room) (mc ms n : Nat) : Prop :=
  (rm.cells = mc ∧ rm.slots = ms ∧ rm.frames + 1 ≤ R.frames ∧ 8 + (maxL + 11) + rm.locals ≤ R.locals ∧ (∀ w ∈ ws, ∀ (a' : Array Value) (U : State), s.WarmedH U.vm → w.before a' U = true) ∧ Cond.codeWith y bytes maxL ret hh ∈ ws) ∧
  (Cond.codeWith y bytes maxL ret hh).before args s = true ∧ (Cond.initialized y.cls).before args s = true ∧ (y.cls ≠ "java/lang/invoke/MethodHandle" ∧ y.cls ≠ "java/lang/invoke/VarHandle") ∧
  (∀ sig, parseMethodDescriptor y.desc = some sig → n = sig.parameters.length) ∧ (Cond.methodLink own index y).before args s = true ∧ (Cond.static y).before args s = true
theorem vx_cwSW {own : String} {index maxL mc ms : Nat} {y : MethodName} {bytes : ByteArray} {ret : Option FieldType} {hh : List (Nat × Nat × Nat × Nat)} {Ts ws ws' : List Cond} {rm : Room} (n : Nat) (ht : ∀ w ∈ Ts, w.before args s = true) (hT : GoodIn Ts (va_wsS own index y ws)) (hw : ws = Cond.codeWith y bytes maxL ret hh :: ws') (hrc : rm.cells = mc) (hrs : rm.slots = ms)
    (hd : y.cls ≠ "java/lang/invoke/MethodHandle" ∧ y.cls ≠ "java/lang/invoke/VarHandle" ∧ (parseMethodDescriptor y.desc).map (fun d => d.parameters.length) = some n) (hR : rm.frames + 1 ≤ R.frames ∧ 8 + (maxL + 11) + rm.locals ≤ R.locals) :
    vx_CSW R s args own index y bytes maxL ret hh ws rm mc ms n := by
  have ok : ∀ w ∈ va_wsS own index y ws, w.before args s = true := fun w h => ht w (hT w h).1
  have hG : GoodIn Ts ws := fun w h => hT w (by unfold va_wsS; exact List.mem_append_right _ h)
  have hc : Cond.codeWith y bytes maxL ret hh ∈ ws := by rw [hw]; exact List.mem_cons_self
  refine ⟨⟨hrc, hrs, hR.1, hR.2, pay_in ht hG, hc⟩, ht _ (hG _ hc).1, ok _ (by simp [va_wsS]), ⟨hd.1, hd.2.1⟩, fun sig h => ?_, ok _ (by simp [va_wsS]), ok _ (by simp [va_wsS])⟩
  have h2 := hd.2.2
  rw [h] at h2
  exact (Option.some.inj h2).symm
theorem vx_callSW (X : Stand p l e R s m args below meth c T locs cells slots) (hexec : p.tables.exec = Jvm.exec) {own : String} {index : Nat} {y : MethodName} {bytes : ByteArray} {maxL : Nat} {ret : Option FieldType} {hh : List (Nat × Nat × Nat × Nat)}
    (hown : s.vm.findClass own = some m.cls) (hlink : (Cond.methodLink own index y).before args s = true) (hstat : (Cond.static y).before args s = true) (hinit : (Cond.initialized y.cls).before args s = true)
    (hcode : (Cond.codeWith y bytes maxL ret hh).before args s = true) (hy : y.cls ≠ "java/lang/invoke/MethodHandle" ∧ y.cls ≠ "java/lang/invoke/VarHandle")
    {W9 : Nat} {Pre : Pt → Array Value → Prop} {Post : Pt → Array Value → Option Value → Pt → Prop} (hK : Back l R p e below s args y 3 W9 Pre Post)
    {g : JFrame} (hg : g.method = m) (hsize : g.locals.size = c.maxLocals) {argsL rest : List Value} (hlen : ∀ sig, parseMethodDescriptor y.desc = some sig → argsL.length = sig.parameters.length)
    (hstack : g.stack = argsL.reverse ++ rest) (hW : 2 * g.monitorRoom + (rest.map fun v => v.category).sum ≤ W9) (hdg : decode c.code g.pc = .ok (.invokestatic index, 3))
    (hpre : ∀ vm₁, s.WarmedH vm₁ → Pre ⟨T.setVm vm₁, locs, cells, slots⟩ argsL.toArray) :
    ∃ (v : Option Value) (vm₁ : Vm) (B : Pt), s.WarmedH vm₁ ∧ Stand p l e R s m args below meth c B.U B.locs B.cells B.slots ∧ Post ⟨T.setVm vm₁, locs, cells, slots⟩ argsL.toArray v B ∧
      ∀ target, Steps p.tables e below (B.U.setTop { g with pc := g.pc + 3, stack := v.toList ++ rest }) target → Steps p.tables e below (T.setTop g) target := by
  obtain ⟨mk, methM, cM, hnamed, hmethM, -, -, -, -, -, -, hsigM⟩ := Cond.codeWith_spec hcode
  have hstatic : methM.isStatic = true := Cond.static_spec hnamed hmethM hstat
  obtain ⟨kP, hkP, -⟩ := className_of_methodNamed hnamed
  have hinitP : kP.init = .initialized := Cond.initialized_spec (findClass_of_methodNamed hnamed) hkP hinit
  obtain ⟨vm₁, X₁, hstep₁⟩ := X.invokestatic hexec hown hlink hnamed hmethM hstatic hkP hinitP hy (g := g) hg (argsL := argsL) (rest := rest) (hlen _ hsigM) hstack hdg
  obtain ⟨v, B, X', hpost, hsteps⟩ := hK m meth c ⟨T.setVm vm₁, locs, cells, slots⟩ { g with stack := rest } (.invokestatic index) mk argsL.toArray X₁ hg hsize hdg hW (X₁.named hnamed) (hpre vm₁ X₁.warmed)
  exact ⟨v, vm₁, B, X₁.warmed, X', hpost, fun target h => hstep₁ _ fun acts => by rw [doInvoke_state]; exact hsteps.trans h⟩
theorem vx_runSW {y : MethodName} {bytes cc : ByteArray} {maxL nL mc ms n index : Nat} {ret : Option FieldType} {hh : List (Nat × Nat × Nat × Nat)} {ws : List Cond} {rm : Room} {Pc : Array Value → State → Prop} {Qc : Array Value → State → Outcome → State → Prop} {free : Addr → Prop} {Ts : List Cond} {own : String} {As rest : List Value} {g : JFrame}
    (S : CallFix p m c cc nL s args Ts own) (hM : Met l y ws rm Pc Qc mc ms free) (cw : vx_CSW R s args own index y bytes maxL ret hh ws rm mc ms n) (hp : PreS s H Pc As)
    (hg : g.method = m) (hn : As.length = n) (hsize : g.locals.size = nL) (hstack : g.stack = As.reverse ++ rest) (hW : 2 * g.monitorRoom + (rest.map fun v => v.category).sum ≤ 8) (hdg : decode cc g.pc = .ok (.invokestatic index, 3)) (hf : cells + mc ≤ R.cells ∧ slots + ms ≤ R.slots) :
    va_Run p l e R s m args below meth c H locs cells slots mc ms g rest (Qc As.toArray) (free) := by
  obtain ⟨⟨hrc, hrs, hfr, hlo, hws, hcw⟩, hcode, hini, hy, hlen, hl, hstt⟩ := cw
  have hK : Back l R p e below s args y 3 8 (PreOf R mc ms Pc) (PostOf Qc mc ms free) := va_backW (hh := hh) (bytes := bytes) (maxL := maxL) (ret := ret) hM hp.1 hrc hrs hfr hlo hws hcw (fun a' U hW => word_at hW (Or.inl (by first | rfl | simp [Cond.onTables, Cond.keeps, Cond.steady])) hini)
  obtain ⟨hx, hb, hml, ho, -⟩ := S
  intro T hT X
  obtain ⟨v, vm₁, ⟨U', l2, c2, s2⟩, hW₁, X', ⟨g', mk, t, L, e1, e2, hq, h1, hL, h2, h3⟩, st⟩ := vx_callSW X hx (hh := hh) (bytes := bytes) (maxL := maxL) (ret := ret) ho hl hstt hini hcode hy hK hg (hsize.trans hml.symm) (argsL := As) (rest := rest) (fun sig h => hn.trans (hlen sig h)) hstack hW (by rw [hb]; exact hdg)
    (fun vm₁ hW₁ => ⟨hf.1, hf.2, hp.2 (T.setVm vm₁) hT hW₁⟩)
  dsimp only [Pt.U, Pt.locs, Pt.cells, Pt.slots] at X' e1 e2 h1 h2 h3 st
  subst h1; subst h2; subst h3
  exact ⟨v, (T.setVm vm₁).calling g' mk As.toArray, t, U', L, hT, X', hL, e1, e2, hq, st⟩
/-- a thing of a world lies in the heap -/
theorem vx_lt {D : va_G} {cl : List vw_C} {ws : va_W} {H1 : Heap} (h : va_P D cl ws H1) {k : Nat} {q : Nat × va_E} (hk : ws[k]? = some q) : q.1 < H1.size := (h k q hk).lt
end VXS
/-! ===== END ===== -/
/-! ===== BEGIN methods with a table of their own: called by a name, returning or throwing ===== -/
section VXH
/-! vx_backW, vx_callVX, vx_callSX, vx_callVW, vx_runVW, vx_runVX, vx_runSX, vx_ofWH follow the same proofs as their sisters above (Free/Laws.lean, Shelf42/LK1.lean); vx_outP calls Shelf42/NT130.lean (outThrough). -/
section
variable {l : Launch} {R : Room} {p : Program} {e : Env} {below : List Frame} {s : State} {sargs : Array Value} {y : MethodName} {len W9 : Nat}
theorem vx_backW {ws : List Cond} {rm : Room} {Pc : Array Value → State → Prop} {Qc : Array Value → State → Outcome → State → Prop} {XC : String → State → State → Prop} {mc ms : Nat} {free : Addr → Prop} {bytes : ByteArray} {maxL : Nat} {ret : Option FieldType} {hh : List (Nat × Nat × Nat × Nat)}
    (hM : vx_Met l y ws rm Pc Qc XC mc ms free) (hblind : FrameBlind Pc) (hrc : rm.cells = mc) (hrs : rm.slots = ms)
    (hframes : rm.frames + 1 ≤ R.frames) (hlocals : W9 + (maxL + 11) + rm.locals ≤ R.locals)
    (hws : ∀ w ∈ ws, ∀ a' U, s.WarmedH U.vm → w.before a' U = true) (hcode : Cond.codeWith y bytes maxL ret hh ∈ ws) (hinit : ∀ a' U, s.WarmedH U.vm → (Cond.initialized y.cls).before a' U = true) :
    vx_Back l R p e below s sargs y len W9 (PreOf R mc ms Pc) (PostOf Qc mc ms free) (vx_Post XC mc ms free) := by
  intro m meth c A g ig mk a X hg hsize hdg hW hn hp
  have h1 : (headSpec ws rm).pre.before a A.U = true := atoms_intro fun w hw => hws w hw _ _ X.warmed
  have h2 : (Cond.codeWith y bytes maxL ret hh).before a A.U = true := hws _ hcode _ _ X.warmed
  have h3 : (Cond.initialized y.cls).before a A.U = true := hinit _ _ X.warmed
  have h4 : A.cells + (headSpec ws rm).room.cells ≤ R.cells := by rw [show (headSpec ws rm).room.cells = mc from hrc]; exact hp.1
  have h5 : A.slots + (headSpec ws rm).room.slots ≤ R.slots := by rw [show (headSpec ws rm).room.slots = ms from hrs]; exact hp.2.1
  have hPc : Pc a (A.U.calling g mk a) := hblind _ _ _ _ hp.2.2
  obtain ⟨U, Ls, c0, s0⟩ := A
  dsimp only [Pt.U, Pt.locs, Pt.cells, Pt.slots] at h1 h2 h3 h4 h5 X hn hPc ⊢
  obtain ⟨m9, methY, cY, hn9, hmY, hcY, -, hlY, -⟩ := Cond.codeWith_spec h2
  cases Option.some.inj (hn9.symm.trans hn)
  obtain ⟨kY, hkY, -⟩ := className_of_methodNamed hn
  have hinitY : kY.init = .initialized := Cond.initialized_spec (findClass_of_methodNamed hn) hkY h3
  have h : At U g.method c below := by rw [hg]; exact X.here
  have hlocals9 : W9 + (maxL + 11) + (headSpec ws rm).room.locals ≤ R.locals := hlocals
  have happ : (headSpec ws rm).appliesLoose y e.platform (U.calling g mk a) = true :=
    Spec.appliesLoose_calling (g := g) h hdg hn hkY hinitY
      (X.room_calling (g := g) (R' := (headSpec ws rm).room) hsize hmY hcY hframes (by rw [hlY]; omega) h4 h5) h1
  obtain ⟨mid, hmid⟩ := h.above
  have hfr : (U.setTop g).frames = (.java g :: mid) ++ below := by rw [State.frames_setTop' g h.top, hmid]; rfl
  obtain ⟨o, s₂, hsteps, -, hend, hq⟩ := Steps.callFree hM p X.admits X.cas X.clock (acts := []) hfr happ hPc trivial
  have hq' : vx_Q Qc XC mc ms free a (U.calling g mk a) o s₂ := hq
  rw [State.frames_setTop' g h.top] at hend
  obtain ⟨g₀, hg0⟩ := Option.isSome_iff_exists.mp h.top
  obtain ⟨r, hr⟩ := State.topJava?_eq_some.mp hg0
  have hr' : (({ U with heap := s₂.heap, slotsUsed := s₂.slotsUsed } : State).setVm s₂.vm).frames = .java g₀ :: r := hr
  rcases hq' with ⟨hqc, L, hfe, hL⟩ | ⟨q, rfl, E, ce, L, hx, hce, hcv, hcl, hW₂, hsm, hL⟩
  · obtain ⟨⟨v, rfl⟩, hW₂, e2, q2, q3, q4, q5, q6⟩ := id hfe
    have e3 : s₂ = ({ (U.calling g mk a).setFrames s₂.frames with heap := s₂.heap, slotsUsed := s₂.slotsUsed } : State).setVm s₂.vm := by
      have : s₂ = ({ s₂ with vm := (U.calling g mk a).vm } : State).setVm s₂.vm := rfl
      rw [e2] at this
      exact this
    obtain ⟨c₂, i₂, len₂, hc₂, hd₂, hf₂⟩ := hend
    have hW' : U.WarmedH s₂.vm := hW₂
    have hcc : c₂ = c := by
      have h1 : s₂.code? g.method = U.code? g.method := by
        rw [State.code?_eq, State.code?_eq, hW'.alike.method?]
      exact Option.some.inj (hc₂.symm.trans (h1.trans h.code))
    subst hcc
    have hlen : len₂ = len := by rw [hdg] at hd₂; cases hd₂; rfl
    subst hlen
    have hs₂ : s₂ = (({ U with heap := s₂.heap, slotsUsed := s₂.slotsUsed } : State).setVm s₂.vm).setTop { g with pc := g.pc + len₂, stack := v.toList ++ g.stack } := by
      refine e3.trans ?_
      rw [hf₂, State.calling_eq h.top, State.setFrames_setFrames, State.setTop_of_frames _ hr', hr]
      rfl
    have hsame : U.sameButNew ({ U with heap := s₂.heap, slotsUsed := s₂.slotsUsed } : State) L mc ms := by
      refine ⟨?_, q2, q3, q4, q5, q6⟩
      obtain ⟨t, ht, -⟩ := State.frames_cons hr
      show ({ U with heap := s₂.heap, slotsUsed := s₂.slotsUsed } : State) = { U.setFrames U.frames with heap := s₂.heap, slotsUsed := s₂.slotsUsed }
      rw [State.setFrames_self ht]
    subst hg
    refine Or.inl ⟨v, ⟨(({ U with heap := s₂.heap, slotsUsed := s₂.slotsUsed } : State).setVm s₂.vm), Ls ++ L, c0 + mc, s0 + ms⟩,
      ⟨X.admits, X.cas, X.clock, X.frames, X.room, X.hears, X.method, X.code, (X.here.setHeapUsed s₂.heap s₂.slotsUsed).setVm hW'.alike, X.tail, State.WarmedH.trans X.warmed hW', X.limits, X.bytes, X.same.trans (hsame.setVm s.vm)⟩,
      ⟨g, mk, s₂, L, rfl, rfl, hqc, rfl, hL, rfl, rfl⟩, ?_⟩
    show Steps p.tables e below _ ((({ U with heap := s₂.heap, slotsUsed := s₂.slotsUsed } : State).setVm s₂.vm).setTop { g with pc := g.pc + len₂, stack := v.toList ++ g.stack })
    rw [← hs₂]
    exact hsteps
  · obtain ⟨e2, q2, q3, q4, q5, q6⟩ := id hsm
    have e3 : s₂ = ({ (U.calling g mk a).setFrames s₂.frames with heap := s₂.heap, slotsUsed := s₂.slotsUsed } : State).setVm s₂.vm := by
      have : s₂ = ({ s₂ with vm := (U.calling g mk a).vm } : State).setVm s₂.vm := rfl
      rw [e2] at this
      exact this
    have hf₂ : s₂.frames = .throwing q :: .java g :: U.frames.tail := hend
    have hW' : U.WarmedH s₂.vm := hW₂
    have hs₂ : s₂ = ((({ U with heap := s₂.heap, slotsUsed := s₂.slotsUsed } : State).setVm s₂.vm).setTop g).pushFrame (.throwing q) := by
      refine e3.trans ?_
      rw [hf₂, State.calling_eq h.top, State.setFrames_setFrames, State.pushFrame, State.frames_setTop _ hr', State.setTop_of_frames _ hr', State.setFrames_setFrames, hr]
      rfl
    have hsame : U.sameButNew ({ U with heap := s₂.heap, slotsUsed := s₂.slotsUsed } : State) L mc ms := by
      refine ⟨?_, q2, q3, q4, q5, q6⟩
      obtain ⟨t, ht, -⟩ := State.frames_cons hr
      show ({ U with heap := s₂.heap, slotsUsed := s₂.slotsUsed } : State) = { U.setFrames U.frames with heap := s₂.heap, slotsUsed := s₂.slotsUsed }
      rw [State.setFrames_self ht]
    subst hg
    refine Or.inr ⟨q, ⟨(({ U with heap := s₂.heap, slotsUsed := s₂.slotsUsed } : State).setVm s₂.vm), Ls ++ L, c0 + mc, s0 + ms⟩,
      ⟨X.admits, X.cas, X.clock, X.frames, X.room, X.hears, X.method, X.code, (X.here.setHeapUsed s₂.heap s₂.slotsUsed).setVm hW'.alike, X.tail, State.WarmedH.trans X.warmed hW', X.limits, X.bytes, X.same.trans (hsame.setVm s.vm)⟩,
      ⟨g, mk, s₂, L, E, ce, rfl, rfl, hx, hce, hcv, hcl, rfl, hL, rfl, rfl⟩, ?_⟩
    show Steps p.tables e below _ (((({ U with heap := s₂.heap, slotsUsed := s₂.slotsUsed } : State).setVm s₂.vm).setTop g).pushFrame (.throwing q))
    rw [← hs₂]
    exact hsteps
end
variable {p : Program} {l : Launch} {e : Env} {R : Room} {s : State} {m : MethodId} {args : Array Value} {below : List Frame} {meth : Method} {c : Code} {T : State} {H : Heap} {locs : List Loc} {cells slots : Nat}
theorem vx_callVX (X : Stand p l e R s m args below meth c T locs cells slots) (hexec : p.tables.exec = Jvm.exec) {own C : String} {index : Nat} {y : MethodName} {bytes : ByteArray} {maxL : Nat} {ret : Option FieldType} {hh : List (Nat × Nat × Nat × Nat)}
    (hown : s.vm.findClass own = some m.cls) (hlink : (Cond.methodLink own index y).before args s = true) (hinst : (Cond.instanceMethod y).before args s = true) (hsel : (Cond.selects C y y).before args s = true)
    (hcode : (Cond.codeWith y bytes maxL ret hh).before args s = true) (hy : y.cls ≠ "java/lang/invoke/MethodHandle" ∧ y.cls ≠ "java/lang/invoke/VarHandle")
    {W9 : Nat} {Pre : Pt → Array Value → Prop} {Post : Pt → Array Value → Option Value → Pt → Prop} {PostX : Pt → Array Value → Addr → Pt → Prop} (hK : vx_Back l R p e below s args y 3 W9 Pre Post PostX)
    {b : Addr} {cellB : Cell} (hcell : T.heap[b]? = some cellB) (hobj : cellB.vm.isStatics = false) (hcls : s.vm.findClass C = some cellB.cls)
    {g : JFrame} (hg : g.method = m) (hsize : g.locals.size = c.maxLocals) {argsL rest : List Value} (hlen : ∀ sig, parseMethodDescriptor y.desc = some sig → argsL.length = sig.parameters.length)
    (hstack : g.stack = argsL.reverse ++ .ref b :: rest) (hW : 2 * g.monitorRoom + (rest.map fun v => v.category).sum ≤ W9) (hdg : decode c.code g.pc = .ok (.invokevirtual index, 3))
    (hpre : ∀ vm₁, s.WarmedH vm₁ → Pre ⟨T.setVm vm₁, locs, cells, slots⟩ (Value.ref b :: argsL).toArray) :
    (∃ (v : Option Value) (vm₁ : Vm) (B : Pt), s.WarmedH vm₁ ∧ Stand p l e R s m args below meth c B.U B.locs B.cells B.slots ∧ Post ⟨T.setVm vm₁, locs, cells, slots⟩ (Value.ref b :: argsL).toArray v B ∧
      ∀ target, Steps p.tables e below (B.U.setTop { g with pc := g.pc + 3, stack := v.toList ++ rest }) target → Steps p.tables e below (T.setTop g) target) ∨
    (∃ (q : Addr) (vm₁ : Vm) (B : Pt), s.WarmedH vm₁ ∧ Stand p l e R s m args below meth c B.U B.locs B.cells B.slots ∧ PostX ⟨T.setVm vm₁, locs, cells, slots⟩ (Value.ref b :: argsL).toArray q B ∧
      Steps p.tables e below (T.setTop g) ((B.U.setTop { g with stack := rest }).pushFrame (.throwing q))) := by
  obtain ⟨mk, methM, hnamed, hmethM, hstM, habM⟩ := Cond.instanceMethod_spec hinst
  obtain ⟨m8, methM', cM, hn8, hmethM', -, -, -, -, -, -, hsigM⟩ := Cond.codeWith_spec hcode
  cases Option.some.inj (hn8.symm.trans hnamed)
  cases hmethM.symm.trans hmethM'
  obtain ⟨c2, r2, m2, q1, q2, q3, q4, kP, hkP, hkPi⟩ := Cond.selects_spec hsel
  cases hcls.symm.trans q1
  cases (State.methodFound?_of_named hnamed hy).symm.trans q2
  cases hnamed.symm.trans q3
  have hselP : selectMethod e.platform s.vm cellB.cls mk = .method mk := by rw [Launch.admits_selectMethod X.admits]; exact q4
  obtain ⟨vm₁, X₁, hstep₁⟩ := X.invokevirtual hexec hown hlink hnamed hmethM hstM hkP hkPi hy (a := b) (cell := cellB) hcell
    (fun z h => by rw [h] at hobj; cases hobj) hselP hmethM habM hkP hkPi (g := g) hg (argsL := argsL) (rest := rest) (hlen _ hsigM) hstack hdg
  rcases hK m meth c ⟨T.setVm vm₁, locs, cells, slots⟩ { g with stack := rest } (.invokevirtual index) mk (Value.ref b :: argsL).toArray X₁ hg hsize hdg hW (X₁.named hnamed) (hpre vm₁ X₁.warmed) with ⟨v, B, X', hpost, hsteps⟩ | ⟨q, B, X', hpost, hsteps⟩
  · exact Or.inl ⟨v, vm₁, B, X₁.warmed, X', hpost, fun target h => hstep₁ _ fun acts => by rw [doInvoke_state]; exact hsteps.trans h⟩
  · exact Or.inr ⟨q, vm₁, B, X₁.warmed, X', hpost, hstep₁ _ fun acts => by rw [doInvoke_state]; exact hsteps⟩
theorem vx_callSX (X : Stand p l e R s m args below meth c T locs cells slots) (hexec : p.tables.exec = Jvm.exec) {own : String} {index : Nat} {y : MethodName} {bytes : ByteArray} {maxL : Nat} {ret : Option FieldType} {hh : List (Nat × Nat × Nat × Nat)}
    (hown : s.vm.findClass own = some m.cls) (hlink : (Cond.methodLink own index y).before args s = true) (hstat : (Cond.static y).before args s = true) (hinit : (Cond.initialized y.cls).before args s = true)
    (hcode : (Cond.codeWith y bytes maxL ret hh).before args s = true) (hy : y.cls ≠ "java/lang/invoke/MethodHandle" ∧ y.cls ≠ "java/lang/invoke/VarHandle")
    {W9 : Nat} {Pre : Pt → Array Value → Prop} {Post : Pt → Array Value → Option Value → Pt → Prop} {PostX : Pt → Array Value → Addr → Pt → Prop} (hK : vx_Back l R p e below s args y 3 W9 Pre Post PostX)
    {g : JFrame} (hg : g.method = m) (hsize : g.locals.size = c.maxLocals) {argsL rest : List Value} (hlen : ∀ sig, parseMethodDescriptor y.desc = some sig → argsL.length = sig.parameters.length)
    (hstack : g.stack = argsL.reverse ++ rest) (hW : 2 * g.monitorRoom + (rest.map fun v => v.category).sum ≤ W9) (hdg : decode c.code g.pc = .ok (.invokestatic index, 3))
    (hpre : ∀ vm₁, s.WarmedH vm₁ → Pre ⟨T.setVm vm₁, locs, cells, slots⟩ argsL.toArray) :
    (∃ (v : Option Value) (vm₁ : Vm) (B : Pt), s.WarmedH vm₁ ∧ Stand p l e R s m args below meth c B.U B.locs B.cells B.slots ∧ Post ⟨T.setVm vm₁, locs, cells, slots⟩ argsL.toArray v B ∧
      ∀ target, Steps p.tables e below (B.U.setTop { g with pc := g.pc + 3, stack := v.toList ++ rest }) target → Steps p.tables e below (T.setTop g) target) ∨
    (∃ (q : Addr) (vm₁ : Vm) (B : Pt), s.WarmedH vm₁ ∧ Stand p l e R s m args below meth c B.U B.locs B.cells B.slots ∧ PostX ⟨T.setVm vm₁, locs, cells, slots⟩ argsL.toArray q B ∧
      Steps p.tables e below (T.setTop g) ((B.U.setTop { g with stack := rest }).pushFrame (.throwing q))) := by
  obtain ⟨mk, methM, cM, hnamed, hmethM, -, -, -, -, -, -, hsigM⟩ := Cond.codeWith_spec hcode
  have hstatic : methM.isStatic = true := Cond.static_spec hnamed hmethM hstat
  obtain ⟨kP, hkP, -⟩ := className_of_methodNamed hnamed
  have hinitP : kP.init = .initialized := Cond.initialized_spec (findClass_of_methodNamed hnamed) hkP hinit
  obtain ⟨vm₁, X₁, hstep₁⟩ := X.invokestatic hexec hown hlink hnamed hmethM hstatic hkP hinitP hy (g := g) hg (argsL := argsL) (rest := rest) (hlen _ hsigM) hstack hdg
  rcases hK m meth c ⟨T.setVm vm₁, locs, cells, slots⟩ { g with stack := rest } (.invokestatic index) mk argsL.toArray X₁ hg hsize hdg hW (X₁.named hnamed) (hpre vm₁ X₁.warmed) with ⟨v, B, X', hpost, hsteps⟩ | ⟨q, B, X', hpost, hsteps⟩
  · exact Or.inl ⟨v, vm₁, B, X₁.warmed, X', hpost, fun target h => hstep₁ _ fun acts => by rw [doInvoke_state]; exact hsteps.trans h⟩
  · exact Or.inr ⟨q, vm₁, B, X₁.warmed, X', hpost, hstep₁ _ fun acts => by rw [doInvoke_state]; exact hsteps⟩
theorem vx_callVW (X : Stand p l e R s m args below meth c T locs cells slots) (hexec : p.tables.exec = Jvm.exec) {own C : String} {index : Nat} {y : MethodName} {bytes : ByteArray} {maxL : Nat} {ret : Option FieldType} {hh : List (Nat × Nat × Nat × Nat)}
    (hown : s.vm.findClass own = some m.cls) (hlink : (Cond.methodLink own index y).before args s = true) (hinst : (Cond.instanceMethod y).before args s = true) (hsel : (Cond.selects C y y).before args s = true)
    (hcode : (Cond.codeWith y bytes maxL ret hh).before args s = true) (hy : y.cls ≠ "java/lang/invoke/MethodHandle" ∧ y.cls ≠ "java/lang/invoke/VarHandle")
    {W9 : Nat} {Pre : Pt → Array Value → Prop} {Post : Pt → Array Value → Option Value → Pt → Prop} (hK : Back l R p e below s args y 3 W9 Pre Post)
    {b : Addr} {cellB : Cell} (hcell : T.heap[b]? = some cellB) (hobj : cellB.vm.isStatics = false) (hcls : s.vm.findClass C = some cellB.cls)
    {g : JFrame} (hg : g.method = m) (hsize : g.locals.size = c.maxLocals) {argsL rest : List Value} (hlen : ∀ sig, parseMethodDescriptor y.desc = some sig → argsL.length = sig.parameters.length)
    (hstack : g.stack = argsL.reverse ++ .ref b :: rest) (hW : 2 * g.monitorRoom + (rest.map fun v => v.category).sum ≤ W9) (hdg : decode c.code g.pc = .ok (.invokevirtual index, 3))
    (hpre : ∀ vm₁, s.WarmedH vm₁ → Pre ⟨T.setVm vm₁, locs, cells, slots⟩ (Value.ref b :: argsL).toArray) :
    ∃ (v : Option Value) (vm₁ : Vm) (B : Pt), s.WarmedH vm₁ ∧ Stand p l e R s m args below meth c B.U B.locs B.cells B.slots ∧ Post ⟨T.setVm vm₁, locs, cells, slots⟩ (Value.ref b :: argsL).toArray v B ∧
      ∀ target, Steps p.tables e below (B.U.setTop { g with pc := g.pc + 3, stack := v.toList ++ rest }) target → Steps p.tables e below (T.setTop g) target := by
  obtain ⟨mk, methM, hnamed, hmethM, hstM, habM⟩ := Cond.instanceMethod_spec hinst
  obtain ⟨m8, methM', cM, hn8, hmethM', -, -, -, -, -, -, hsigM⟩ := Cond.codeWith_spec hcode
  cases Option.some.inj (hn8.symm.trans hnamed)
  cases hmethM.symm.trans hmethM'
  obtain ⟨c2, r2, m2, q1, q2, q3, q4, kP, hkP, hkPi⟩ := Cond.selects_spec hsel
  cases hcls.symm.trans q1
  cases (State.methodFound?_of_named hnamed hy).symm.trans q2
  cases hnamed.symm.trans q3
  have hselP : selectMethod e.platform s.vm cellB.cls mk = .method mk := by rw [Launch.admits_selectMethod X.admits]; exact q4
  obtain ⟨vm₁, X₁, hstep₁⟩ := X.invokevirtual hexec hown hlink hnamed hmethM hstM hkP hkPi hy (a := b) (cell := cellB) hcell
    (fun z h => by rw [h] at hobj; cases hobj) hselP hmethM habM hkP hkPi (g := g) hg (argsL := argsL) (rest := rest) (hlen _ hsigM) hstack hdg
  obtain ⟨v, B, X', hpost, hsteps⟩ := hK m meth c ⟨T.setVm vm₁, locs, cells, slots⟩ { g with stack := rest } (.invokevirtual index) mk (Value.ref b :: argsL).toArray X₁ hg hsize hdg hW (X₁.named hnamed) (hpre vm₁ X₁.warmed)
  exact ⟨v, vm₁, B, X₁.warmed, X', hpost, fun target h => hstep₁ _ fun acts => by rw [doInvoke_state]; exact hsteps.trans h⟩
abbrev vx_CVW (R : Room) (s : State) (args : Array Value) (own C : String) (index : Nat) (y : MethodName) (bytes : ByteArray) (maxL : Nat) (ret : Option FieldType) (hh : List (Nat × Nat × Nat × Nat)) (ws : List Cond) (rm : Room) (mc ms n : Nat) : Prop :=
  (rm.cells = mc ∧ rm.slots = ms ∧ rm.frames + 1 ≤ R.frames ∧ 8 + (maxL + 11) + rm.locals ≤ R.locals ∧ (∀ w ∈ ws, ∀ (a' : Array Value) (U : State), s.WarmedH U.vm → w.before a' U = true) ∧ Cond.codeWith y bytes maxL ret hh ∈ ws) ∧
  (Cond.codeWith y bytes maxL ret hh).before args s = true ∧ (Cond.initialized y.cls).before args s = true ∧ (y.cls ≠ "java/lang/invoke/MethodHandle" ∧ y.cls ≠ "java/lang/invoke/VarHandle") ∧
  (∀ sig, parseMethodDescriptor y.desc = some sig → n = sig.parameters.length) ∧ (Cond.methodLink own index y).before args s = true ∧ (Cond.instanceMethod y).before args s = true ∧ (Cond.selects C y y).before args s = true
theorem vx_cwVW {own C : String} {index maxL mc ms : Nat} {y : MethodName} {bytes : ByteArray} {ret : Option FieldType} {hh : List (Nat × Nat × Nat × Nat)} {Ts ws ws' : List Cond} {rm : Room} (n : Nat) (ht : ∀ w ∈ Ts, w.before args s = true) (hT : GoodIn Ts (wsV own index C y ws)) (hw : ws = Cond.codeWith y bytes maxL ret hh :: ws') (hrc : rm.cells = mc) (hrs : rm.slots = ms)
    (hd : y.cls = C ∧ y.cls ≠ "java/lang/invoke/MethodHandle" ∧ y.cls ≠ "java/lang/invoke/VarHandle" ∧ (parseMethodDescriptor y.desc).map (fun d => d.parameters.length) = some n) (hR : rm.frames + 1 ≤ R.frames ∧ 8 + (maxL + 11) + rm.locals ≤ R.locals) :
    vx_CVW R s args own C index y bytes maxL ret hh ws rm mc ms n := by
  obtain ⟨hC, hd⟩ := hd
  subst hC
  have ok : ∀ w ∈ wsV own index y.cls y ws, w.before args s = true := fun w h => ht w (hT w h).1
  have hG : GoodIn Ts ws := fun w h => hT w (by unfold wsV; exact List.mem_append_right _ h)
  have hc : Cond.codeWith y bytes maxL ret hh ∈ ws := by rw [hw]; exact List.mem_cons_self
  refine ⟨⟨hrc, hrs, hR.1, hR.2, pay_in ht hG, hc⟩, ht _ (hG _ hc).1, ok _ (by simp [wsV]), ⟨hd.1, hd.2.1⟩, fun sig h => ?_, ok _ (by simp [wsV]), ok _ (by simp [wsV]), ok _ (by simp [wsV])⟩
  have h2 := hd.2.2
  rw [h] at h2
  exact (Option.some.inj h2).symm
theorem vx_runVW {y : MethodName} {bytes cc : ByteArray} {maxL nL mc ms n index : Nat} {ret : Option FieldType} {hh : List (Nat × Nat × Nat × Nat)} {ws : List Cond} {rm : Room} {Pc : Array Value → State → Prop} {Qc : Array Value → State → Outcome → State → Prop} {free : Addr → Prop} {Ts : List Cond} {own C : String} {b : Addr} {As rest : List Value} {g : JFrame}
    (S : CallFix p m c cc nL s args Ts own) (hM : Met l y ws rm Pc Qc mc ms free) (cw : vx_CVW R s args own C index y bytes maxL ret hh ws rm mc ms n) (hp : PreV s H C b Pc As)
    (hg : g.method = m) (hn : As.length = n) (hsize : g.locals.size = nL) (hstack : g.stack = As.reverse ++ .ref b :: rest) (hW : 2 * g.monitorRoom + (rest.map fun v => v.category).sum ≤ 8) (hdg : decode cc g.pc = .ok (.invokevirtual index, 3)) (hf : cells + mc ≤ R.cells ∧ slots + ms ≤ R.slots) :
    va_Run p l e R s m args below meth c H locs cells slots mc ms g rest (Qc (Value.ref b :: As).toArray) free := by
  obtain ⟨⟨hrc, hrs, hfr, hlo, hws, hcw⟩, hcode, hini, hy, hlen, hl, hin, hse⟩ := cw
  have hK : Back l R p e below s args y 3 8 (PreOf R mc ms Pc) (PostOf Qc mc ms free) := va_backW (hh := hh) (bytes := bytes) (maxL := maxL) (ret := ret) hM hp.1 hrc hrs hfr hlo hws hcw (fun a' U hW => word_at hW (Or.inl (by first | rfl | simp [Cond.onTables, Cond.keeps, Cond.steady])) hini)
  obtain ⟨hx, hb, hml, ho, -⟩ := S
  obtain ⟨-, ⟨cellB, hcB, hoB, hclB⟩, hPc⟩ := hp
  intro T hT X
  obtain ⟨v, vm₁, ⟨U', l2, c2, s2⟩, hW₁, X', ⟨g', mk, t, L, e1, e2, hq, h1, hL, h2, h3⟩, st⟩ := vx_callVW X hx (C := C) (hh := hh) (bytes := bytes) (maxL := maxL) (ret := ret) ho hl hin hse hcode hy hK (by rw [hT]; exact hcB) hoB hclB hg (hsize.trans hml.symm) (argsL := As) (rest := rest) (fun sig h => hn.trans (hlen sig h)) hstack hW (by rw [hb]; exact hdg)
    (fun vm₁ hW₁ => ⟨hf.1, hf.2, hPc (T.setVm vm₁) hT hW₁⟩)
  dsimp only [Pt.U, Pt.locs, Pt.cells, Pt.slots] at X' e1 e2 h1 h2 h3 st
  subst h1; subst h2; subst h3
  exact ⟨v, (T.setVm vm₁).calling g' mk (Value.ref b :: As).toArray, t, U', L, hT, X', hL, e1, e2, hq, st⟩
section
variable {y : MethodName} {bytes cc : ByteArray} {maxL nL mc ms n index : Nat} {ret : Option FieldType} {ws : List Cond} {rm : Room} {Pc : Array Value → State → Prop} {Qc : Array Value → State → Outcome → State → Prop} {XC : String → State → State → Prop} {free : Addr → Prop} {Ts : List Cond} {own C : String} {b : Addr} {As rest : List Value} {g : JFrame}
theorem vx_runVX {hh : List (Nat × Nat × Nat × Nat)} (S : CallFix p m c cc nL s args Ts own) (hM : vx_Met l y ws rm Pc Qc XC mc ms free) (cw : vx_CVW R s args own C index y bytes maxL ret hh ws rm mc ms n) (hp : PreV s H C b Pc As)
    (hg : g.method = m) (hn : As.length = n) (hsize : g.locals.size = nL) (hstack : g.stack = As.reverse ++ .ref b :: rest) (hW : 2 * g.monitorRoom + (rest.map fun v => v.category).sum ≤ 8) (hdg : decode cc g.pc = .ok (.invokevirtual index, 3)) (hf : cells + mc ≤ R.cells ∧ slots + ms ≤ R.slots) :
    vx_Run p l e R s m args below meth c H locs cells slots mc ms g rest (Qc (Value.ref b :: As).toArray) XC free := by
  obtain ⟨⟨hrc, hrs, hfr, hlo, hws, hcw⟩, hcode, hini, hy, hlen, hl, hin, hse⟩ := cw
  have hK : vx_Back l R p e below s args y 3 8 (PreOf R mc ms Pc) (PostOf Qc mc ms free) (vx_Post XC mc ms free) := vx_backW (hh := hh) (bytes := bytes) (maxL := maxL) (ret := ret) hM hp.1 hrc hrs hfr hlo hws hcw (fun a' U hW => word_at hW (Or.inl (by first | rfl | simp [Cond.onTables, Cond.keeps, Cond.steady])) hini)
  obtain ⟨hx, hb, hml, ho, -⟩ := S
  obtain ⟨-, ⟨cellB, hcB, hoB, hclB⟩, hPc⟩ := hp
  intro T hT X
  rcases vx_callVX X hx (C := C) (hh := hh) (bytes := bytes) (maxL := maxL) (ret := ret) ho hl hin hse hcode hy hK (by rw [hT]; exact hcB) hoB hclB hg (hsize.trans hml.symm) (argsL := As) (rest := rest) (fun sig h => hn.trans (hlen sig h)) hstack hW (by rw [hb]; exact hdg)
    (fun vm₁ hW₁ => ⟨hf.1, hf.2, hPc (T.setVm vm₁) hT hW₁⟩) with ⟨v, vm₁, ⟨U', l2, c2, s2⟩, hW₁, X', ⟨g', mk, t, L, e1, e2, hq, h1, hL, h2, h3⟩, st⟩ | ⟨q, vm₁, ⟨U', l2, c2, s2⟩, hW₁, X', ⟨g', mk, t, L, E, ce, e1, e2, hq, hce, hcv, hcl, h1, hL, h2, h3⟩, st⟩
  · dsimp only [Pt.U, Pt.locs, Pt.cells, Pt.slots] at X' e1 e2 h1 h2 h3 st
    subst h1; subst h2; subst h3
    exact Or.inl ⟨v, (T.setVm vm₁).calling g' mk (Value.ref b :: As).toArray, t, U', L, hT, X', hL, e1, e2, hq, st⟩
  · dsimp only [Pt.U, Pt.locs, Pt.cells, Pt.slots] at X' e1 e2 h1 h2 h3 st hcl
    subst h1; subst h2; subst h3
    exact Or.inr ⟨q, (T.setVm vm₁).calling g' mk (Value.ref b :: As).toArray, t, U', L, E, ce, hT, X', hL, e1, e2, hq, hce, hcv, vx_cls hW₁ hcl, st⟩
theorem vx_runSX {hh : List (Nat × Nat × Nat × Nat)} (S : CallFix p m c cc nL s args Ts own) (hM : vx_Met l y ws rm Pc Qc XC mc ms free) (cw : vx_CSW R s args own index y bytes maxL ret hh ws rm mc ms n) (hp : PreS s H Pc As)
    (hg : g.method = m) (hn : As.length = n) (hsize : g.locals.size = nL) (hstack : g.stack = As.reverse ++ rest) (hW : 2 * g.monitorRoom + (rest.map fun v => v.category).sum ≤ 8) (hdg : decode cc g.pc = .ok (.invokestatic index, 3)) (hf : cells + mc ≤ R.cells ∧ slots + ms ≤ R.slots) :
    vx_Run p l e R s m args below meth c H locs cells slots mc ms g rest (Qc As.toArray) XC free := by
  obtain ⟨⟨hrc, hrs, hfr, hlo, hws, hcw⟩, hcode, hini, hy, hlen, hl, hstt⟩ := cw
  have hK : vx_Back l R p e below s args y 3 8 (PreOf R mc ms Pc) (PostOf Qc mc ms free) (vx_Post XC mc ms free) := vx_backW (hh := hh) (bytes := bytes) (maxL := maxL) (ret := ret) hM hp.1 hrc hrs hfr hlo hws hcw (fun a' U hW => word_at hW (Or.inl (by first | rfl | simp [Cond.onTables, Cond.keeps, Cond.steady])) hini)
  obtain ⟨hx, hb, hml, ho, -⟩ := S
  intro T hT X
  rcases vx_callSX X hx (hh := hh) (bytes := bytes) (maxL := maxL) (ret := ret) ho hl hstt hini hcode hy hK hg (hsize.trans hml.symm) (argsL := As) (rest := rest) (fun sig h => hn.trans (hlen sig h)) hstack hW (by rw [hb]; exact hdg)
    (fun vm₁ hW₁ => ⟨hf.1, hf.2, hp.2 (T.setVm vm₁) hT hW₁⟩) with ⟨v, vm₁, ⟨U', l2, c2, s2⟩, hW₁, X', ⟨g', mk, t, L, e1, e2, hq, h1, hL, h2, h3⟩, st⟩ | ⟨q, vm₁, ⟨U', l2, c2, s2⟩, hW₁, X', ⟨g', mk, t, L, E, ce, e1, e2, hq, hce, hcv, hcl, h1, hL, h2, h3⟩, st⟩
  · dsimp only [Pt.U, Pt.locs, Pt.cells, Pt.slots] at X' e1 e2 h1 h2 h3 st
    subst h1; subst h2; subst h3
    exact Or.inl ⟨v, (T.setVm vm₁).calling g' mk As.toArray, t, U', L, hT, X', hL, e1, e2, hq, st⟩
  · dsimp only [Pt.U, Pt.locs, Pt.cells, Pt.slots] at X' e1 e2 h1 h2 h3 st hcl
    subst h1; subst h2; subst h3
    exact Or.inr ⟨q, (T.setVm vm₁).calling g' mk As.toArray, t, U', L, E, ce, hT, X', hL, e1, e2, hq, hce, hcv, vx_cls hW₁ hcl, st⟩
end
end VXH
theorem vx_ofWH {l : Launch} {y : MethodName} {ws ws' : List Cond} {rm : Room} {Pc : Array Value → State → Prop} {Qc : Array Value → State → Outcome → State → Prop} {XC : String → State → State → Prop} {mc ms : Nat} {free : Addr → Prop} {cc : ByteArray} {maxL : Nat} {ret : Option FieldType} {hh : List (Nat × Nat × Nat × Nat)}
    (hy : plainName y.cls = true) (hw : ws = Cond.codeWith y cc maxL ret hh :: ws')
    (body : ∀ p e s m args below meth c s₁, BodyLoose p l y (headSpec ws rm) cc maxL ret e s m args below meth c s₁ → c.maxLocals = maxL → Pc args s →
      W p l e (headSpec ws rm).room s m args below meth c s.heap [] 0 0 (vx_MQ below Qc XC args s mc ms free) (entryFrame m args maxL)) : vx_Met l y ws rm Pc Qc XC mc ms free := by
  refine MetFree.of_bodyS (code := cc) (maxLocals := maxL) (ret := ret) hy ?_ ?_
  · intro args s m h hn
    obtain ⟨m9, meth, c, hn9, h1, h2, h3, h4, -, h5, h6, -⟩ := Cond.codeWith_spec (atoms_spec (ws := ws) h _ (by rw [hw]; exact List.mem_cons_self))
    cases hn.symm.trans hn9
    exact ⟨meth, c, h1, h2, h3, h4, h5, h6⟩
  · intro p e s m args below meth c s₁ B hml hP _
    have hh0 : s₁.heap = s.heap := by rw [B.state]; rfl
    obtain ⟨t, a1, o, b1, b2, b3⟩ := body p e s m args below meth c s₁ B hml hP s₁ hh0 (Stand.of_body B)
    exact ⟨t, o, a1, b1, b2, b3⟩
/-! ===== END ===== -/
end
section
def RX0 : String := "MarkHouse$Code"
def TX0 : u_T := fun k => match k with
  | 0 => ("MarkHouse$Code", "program", "LMarkHouse$Program;", true)
  | 1 => ("MarkHouse$Code", "methodName", "[J", true)
  | 2 => ("MarkHouse$Code", "params", "[I", true)
  | 3 => ("MarkHouse$Code", "locals", "[I", true)
  | 4 => ("MarkHouse$Code", "localName", "[J", true)
  | 5 => ("MarkHouse$Code", "firstAct", "[I", true)
  | 6 => ("MarkHouse$Code", "acts", "[I", true)
  | 7 => ("MarkHouse$Code", "total", "I", false)
  | 8 => ("MarkHouse$Code", "op", "[I", true)
  | 9 => ("MarkHouse$Code", "number", "[I", true)
  | 10 => ("MarkHouse$Code", "target", "[I", true)
  | 11 => ("MarkHouse$Code", "goal", "[I", true)
  | 12 => ("MarkHouse$Code", "depth", "[I", true)
  | 13 => ("MarkHouse$Code", "checks", "[I", true)
  | 14 => ("MarkHouse$Code", "label", "[J", true)
  | 15 => ("MarkHouse$Code", "firstName", "[J", true)
  | 16 => ("MarkHouse$Code", "secondName", "[J", true)
  | 17 => ("MarkHouse$Code", "textPlace", "[I", true)
  | 18 => ("MarkHouse$Code", "firstPlace", "[I", true)
  | _ => ("MarkHouse$Code", "secondPlace", "[I", true)
def tyX0 : Nat → FieldType := fun k => match k with
  | 0 => .object "MarkHouse$Program"
  | 1 => .array .long
  | 2 => .array .int
  | 3 => .array .int
  | 4 => .array .long
  | 5 => .array .int
  | 6 => .array .int
  | 7 => .int
  | 8 => .array .int
  | 9 => .array .int
  | 10 => .array .int
  | 11 => .array .int
  | 12 => .array .int
  | 13 => .array .int
  | 14 => .array .long
  | 15 => .array .long
  | 16 => .array .long
  | 17 => .array .int
  | 18 => .array .int
  | _ => .array .int
theorem nmX0 : ∀ a, a < 20 → ∀ b, b < 20 → a ≠ b → (TX0 a).2.1 ≠ (TX0 b).2.1 := by decide +kernel
theorem tyX0_ok : ∀ k, k < 20 → parseFieldDescriptor (TX0 k).2.2.1 = some (tyX0 k) := by decide +kernel
abbrev cX0_init : ByteArray := prog_2_method_1_code
def yX0_init : MethodName := ⟨RX0, "<init>", "(LMarkHouse$Program;)V"⟩
abbrev cX0_clearChecks : ByteArray := prog_2_method_2_code
def yX0_clearChecks : MethodName := ⟨RX0, "clearChecks", "()V"⟩
abbrev cX0_sortOf : ByteArray := prog_2_method_3_code
def yX0_sortOf : MethodName := ⟨RX0, "sortOf", "(I)I"⟩
abbrev cX0_methodAt : ByteArray := prog_2_method_4_code
def yX0_methodAt : MethodName := ⟨RX0, "methodAt", "(I)I"⟩
abbrev cX0_placeOf : ByteArray := prog_2_method_5_code
def yX0_placeOf : MethodName := ⟨RX0, "placeOf", "(I)I"⟩
abbrev cX0_isMethod : ByteArray := prog_2_method_6_code
def yX0_isMethod : MethodName := ⟨RX0, "isMethod", "(I)Z"⟩
abbrev cX0_methodCountAll : ByteArray := prog_2_method_7_code
def yX0_methodCountAll : MethodName := ⟨RX0, "methodCountAll", "()I"⟩
abbrev cX0_methodOf : ByteArray := prog_2_method_8_code
def yX0_methodOf : MethodName := ⟨RX0, "methodOf", "(IJ)I"⟩
abbrev cX0_nearestMethod : ByteArray := prog_2_method_9_code
def yX0_nearestMethod : MethodName := ⟨RX0, "nearestMethod", "(IJ)I"⟩
abbrev cX0_localOf : ByteArray := prog_2_method_10_code
def yX0_localOf : MethodName := ⟨RX0, "localOf", "(IJ)I"⟩
abbrev cX0_addLocal : ByteArray := prog_2_method_11_code
def yX0_addLocal : MethodName := ⟨RX0, "addLocal", "(IJ)I"⟩
abbrev cX0_labelled : ByteArray := prog_2_method_12_code
def yX0_labelled : MethodName := ⟨RX0, "labelled", "(IJ)I"⟩
abbrev cX0_addAct : ByteArray := prog_2_method_13_code
def yX0_addAct : MethodName := ⟨RX0, "addAct", "(IJI)I"⟩
abbrev cX0_takes : ByteArray := prog_2_method_14_code
def yX0_takes : MethodName := ⟨RX0, "takes", "(I)I"⟩
abbrev cX0_gives : ByteArray := prog_2_method_15_code
def yX0_gives : MethodName := ⟨RX0, "gives", "(I)I"⟩
abbrev cX0_goesOn : ByteArray := prog_2_method_16_code
def yX0_goesOn : MethodName := ⟨RX0, "goesOn", "(I)Z"⟩
abbrev cX0_wants : ByteArray := prog_2_method_17_code
def yX0_wants : MethodName := ⟨RX0, "wants", "(I)I"⟩
abbrev cX0_wantedPlace : ByteArray := prog_2_method_18_code
def yX0_wantedPlace : MethodName := ⟨RX0, "wantedPlace", "(III)I"⟩
abbrev cX0_wantedSlot : ByteArray := prog_2_method_19_code
def yX0_wantedSlot : MethodName := ⟨RX0, "wantedSlot", "(II)I"⟩
def RX1 : String := "MarkHouse$Cutter"
def TX1 : u_T := fun k => match k with
  | 0 => ("MarkHouse$Cutter", "tape", "[B", true)
  | 1 => ("MarkHouse$Cutter", "length", "I", false)
  | 2 => ("MarkHouse$Cutter", "sort", "[I", true)
  | 3 => ("MarkHouse$Cutter", "place", "[I", true)
  | 4 => ("MarkHouse$Cutter", "value", "[J", true)
  | 5 => ("MarkHouse$Cutter", "words", "[J", true)
  | 6 => ("MarkHouse$Cutter", "count", "I", false)
  | _ => ("MarkHouse$Cutter", "at", "I", false)
def tyX1 : Nat → FieldType := fun k => match k with
  | 0 => .array .byte
  | 1 => .int
  | 2 => .array .int
  | 3 => .array .int
  | 4 => .array .long
  | 5 => .array .long
  | 6 => .int
  | _ => .int
theorem nmX1 : ∀ a, a < 8 → ∀ b, b < 8 → a ≠ b → (TX1 a).2.1 ≠ (TX1 b).2.1 := by decide +kernel
theorem tyX1_ok : ∀ k, k < 8 → parseFieldDescriptor (TX1 k).2.2.1 = some (tyX1 k) := by decide +kernel
abbrev cX1_init : ByteArray := prog_3_method_1_code
def yX1_init : MethodName := ⟨RX1, "<init>", "()V"⟩
abbrev cX1_addWord : ByteArray := prog_3_method_2_code
def yX1_addWord : MethodName := ⟨RX1, "addWord", "(I)V"⟩
abbrev cX1_cutAll : ByteArray := prog_3_method_3_code
def yX1_cutAll : MethodName := ⟨RX1, "cutAll", "()I"⟩
abbrev cX1_skipBlanks : ByteArray := prog_3_method_4_code
def yX1_skipBlanks : MethodName := ⟨RX1, "skipBlanks", "()V"⟩
abbrev cX1_cutOne : ByteArray := prog_3_method_5_code
def yX1_cutOne : MethodName := ⟨RX1, "cutOne", "()Z"⟩
abbrev cX1_cutName : ByteArray := prog_3_method_6_code
def yX1_cutName : MethodName := ⟨RX1, "cutName", "()Z"⟩
abbrev cX1_sortOfName : ByteArray := prog_3_method_7_code
def yX1_sortOfName : MethodName := ⟨RX1, "sortOfName", "(J)I"⟩
abbrev cX1_cutNumber : ByteArray := prog_3_method_8_code
def yX1_cutNumber : MethodName := ⟨RX1, "cutNumber", "()Z"⟩
abbrev cX1_cutText : ByteArray := prog_3_method_9_code
def yX1_cutText : MethodName := ⟨RX1, "cutText", "()Z"⟩
def RX2 : String := "MarkHouse$Effects"
def TX2 : u_T := fun k => match k with
  | 0 => ("MarkHouse$Effects", "program", "LMarkHouse$Program;", true)
  | 1 => ("MarkHouse$Effects", "code", "LMarkHouse$Code;", true)
  | 2 => ("MarkHouse$Effects", "marks", "LMarkHouse$Marks;", true)
  | 3 => ("MarkHouse$Effects", "seenPlace", "I", false)
  | 4 => ("MarkHouse$Effects", "seenSteps", "I", false)
  | 5 => ("MarkHouse$Effects", "seenGiven", "I", false)
  | 6 => ("MarkHouse$Effects", "told", "[I", true)
  | 7 => ("MarkHouse$Effects", "found", "[I", true)
  | 8 => ("MarkHouse$Effects", "stale", "Z", false)
  | _ => ("MarkHouse$Effects", "had", "[I", true)
def tyX2 : Nat → FieldType := fun k => match k with
  | 0 => .object "MarkHouse$Program"
  | 1 => .object "MarkHouse$Code"
  | 2 => .object "MarkHouse$Marks"
  | 3 => .int
  | 4 => .int
  | 5 => .int
  | 6 => .array .int
  | 7 => .array .int
  | 8 => .boolean
  | _ => .array .int
theorem nmX2 : ∀ a, a < 10 → ∀ b, b < 10 → a ≠ b → (TX2 a).2.1 ≠ (TX2 b).2.1 := by decide +kernel
theorem tyX2_ok : ∀ k, k < 10 → parseFieldDescriptor (TX2 k).2.2.1 = some (tyX2 k) := by decide +kernel
abbrev cX2_init : ByteArray := prog_4_method_1_code
def yX2_init : MethodName := ⟨RX2, "<init>", "(LMarkHouse$Program;LMarkHouse$Code;LMarkHouse$Marks;)V"⟩
abbrev cX2_startAnew : ByteArray := prog_4_method_2_code
def yX2_startAnew : MethodName := ⟨RX2, "startAnew", "()V"⟩
abbrev cX2_fillFound : ByteArray := prog_4_method_3_code
def yX2_fillFound : MethodName := ⟨RX2, "fillFound", "(II)V"⟩
abbrev cX2_settleRow : ByteArray := prog_4_method_4_code
def yX2_settleRow : MethodName := ⟨RX2, "settleRow", "(II)V"⟩
abbrev cX2_howMany : ByteArray := prog_4_method_5_code
def yX2_howMany : MethodName := ⟨RX2, "howMany", "(II)I"⟩
abbrev cX2_seek : ByteArray := prog_4_method_6_code
def yX2_seek : MethodName := ⟨RX2, "seek", "(II)I"⟩
abbrev cX2_ownCount : ByteArray := prog_4_method_7_code
def yX2_ownCount : MethodName := ⟨RX2, "ownCount", "(II)I"⟩
abbrev cX2_givenAt : ByteArray := prog_4_method_8_code
def yX2_givenAt : MethodName := ⟨RX2, "givenAt", "(II)I"⟩
abbrev cX2_givenBy : ByteArray := prog_4_method_9_code
def yX2_givenBy : MethodName := ⟨RX2, "givenBy", "(II)I"⟩
abbrev cX2_above : ByteArray := prog_4_method_10_code
def yX2_above : MethodName := ⟨RX2, "above", "(I)I"⟩
abbrev cX2_seenMark : ByteArray := prog_4_method_11_code
def yX2_seenMark : MethodName := ⟨RX2, "seenMark", "(II)I"⟩
abbrev cX2_clashes : ByteArray := prog_4_method_12_code
def yX2_clashes : MethodName := ⟨RX2, "clashes", "(I)Z"⟩
abbrev cX2_isAlike : ByteArray := prog_4_method_13_code
def yX2_isAlike : MethodName := ⟨RX2, "isAlike", "(III)Z"⟩
abbrev cX2_settle : ByteArray := prog_4_method_14_code
def yX2_settle : MethodName := ⟨RX2, "settle", "()V"⟩
abbrev cX2_elementAt : ByteArray := prog_4_method_15_code
def yX2_elementAt : MethodName := ⟨RX2, "elementAt", "(II)I"⟩
abbrev cX2_theMark : ByteArray := prog_4_method_16_code
def yX2_theMark : MethodName := ⟨RX2, "theMark", "(II)I"⟩
abbrev cX2_lowerFound : ByteArray := prog_4_method_17_code
def yX2_lowerFound : MethodName := ⟨RX2, "lowerFound", "(I)I"⟩
abbrev cX2_raise : ByteArray := prog_4_method_18_code
def yX2_raise : MethodName := ⟨RX2, "raise", "(III)Z"⟩
abbrev cX2_makeRounds : ByteArray := prog_4_method_19_code
def yX2_makeRounds : MethodName := ⟨RX2, "makeRounds", "()I"⟩
abbrev cX2_makeRound : ByteArray := prog_4_method_20_code
def yX2_makeRound : MethodName := ⟨RX2, "makeRound", "()Z"⟩
abbrev cX2_addMarks : ByteArray := prog_4_method_21_code
def yX2_addMarks : MethodName := ⟨RX2, "addMarks", "(II)Z"⟩
def RX3 : String := "MarkHouse$Flow"
def TX3 : u_T := fun k => match k with
  | 0 => ("MarkHouse$Flow", "program", "LMarkHouse$Program;", true)
  | 1 => ("MarkHouse$Flow", "code", "LMarkHouse$Code;", true)
  | 2 => ("MarkHouse$Flow", "effects", "LMarkHouse$Effects;", true)
  | 3 => ("MarkHouse$Flow", "order", "I", false)
  | 4 => ("MarkHouse$Flow", "states", "[J", true)
  | 5 => ("MarkHouse$Flow", "errors", "[I", true)
  | 6 => ("MarkHouse$Flow", "errorCount", "I", false)
  | 7 => ("MarkHouse$Flow", "metAct", "[I", true)
  | 8 => ("MarkHouse$Flow", "metState", "[J", true)
  | 9 => ("MarkHouse$Flow", "metFrom", "[I", true)
  | 10 => ("MarkHouse$Flow", "metBefore", "[I", true)
  | 11 => ("MarkHouse$Flow", "latestMet", "[I", true)
  | 12 => ("MarkHouse$Flow", "metCount", "I", false)
  | 13 => ("MarkHouse$Flow", "sought", "I", false)
  | 14 => ("MarkHouse$Flow", "shown", "I", false)
  | 15 => ("MarkHouse$Flow", "steps", "[I", true)
  | _ => ("MarkHouse$Flow", "stepCount", "I", false)
def tyX3 : Nat → FieldType := fun k => match k with
  | 0 => .object "MarkHouse$Program"
  | 1 => .object "MarkHouse$Code"
  | 2 => .object "MarkHouse$Effects"
  | 3 => .int
  | 4 => .array .long
  | 5 => .array .int
  | 6 => .int
  | 7 => .array .int
  | 8 => .array .long
  | 9 => .array .int
  | 10 => .array .int
  | 11 => .array .int
  | 12 => .int
  | 13 => .int
  | 14 => .int
  | 15 => .array .int
  | _ => .int
theorem nmX3 : ∀ a, a < 17 → ∀ b, b < 17 → a ≠ b → (TX3 a).2.1 ≠ (TX3 b).2.1 := by decide +kernel
theorem tyX3_ok : ∀ k, k < 17 → parseFieldDescriptor (TX3 k).2.2.1 = some (tyX3 k) := by decide +kernel
abbrev cX3_init : ByteArray := prog_5_method_1_code
def yX3_init : MethodName := ⟨RX3, "<init>", "(LMarkHouse$Program;LMarkHouse$Code;LMarkHouse$Effects;)V"⟩
abbrev cX3_forget : ByteArray := prog_5_method_2_code
def yX3_forget : MethodName := ⟨RX3, "forget", "()V"⟩
abbrev cX3_follow : ByteArray := prog_5_method_3_code
def yX3_follow : MethodName := ⟨RX3, "follow", "(I)V"⟩
abbrev cX3_followMethod : ByteArray := prog_5_method_4_code
def yX3_followMethod : MethodName := ⟨RX3, "followMethod", "(I)V"⟩
abbrev cX3_entry : ByteArray := prog_5_method_5_code
def yX3_entry : MethodName := ⟨RX3, "entry", "(I)J"⟩
abbrev cX3_lead : ByteArray := prog_5_method_6_code
def yX3_lead : MethodName := ⟨RX3, "lead", "(II)J"⟩
abbrev cX3_bring : ByteArray := prog_5_method_7_code
def yX3_bring : MethodName := ⟨RX3, "bring", "(IIJ)J"⟩
abbrev cX3_joinStates : ByteArray := prog_5_method_8_code
def yX3_joinStates : MethodName := ⟨RX3, "joinStates", "(JJ)J"⟩
abbrev cX3_behind : ByteArray := prog_5_method_9_code
def yX3_behind : MethodName := ⟨RX3, "behind", "(IJ)J"⟩
abbrev cX3_behindCall : ByteArray := prog_5_method_10_code
def yX3_behindCall : MethodName := ⟨RX3, "behindCall", "(IJI)J"⟩
abbrev cX3_atLabel : ByteArray := prog_5_method_11_code
def yX3_atLabel : MethodName := ⟨RX3, "atLabel", "(IJ)J"⟩
abbrev cX3_addErrors : ByteArray := prog_5_method_12_code
def yX3_addErrors : MethodName := ⟨RX3, "addErrors", "(I)V"⟩
abbrev cX3_isWrong : ByteArray := prog_5_method_13_code
def yX3_isWrong : MethodName := ⟨RX3, "isWrong", "(IIIJ)Z"⟩
abbrev cX3_isError : ByteArray := prog_5_method_14_code
def yX3_isError : MethodName := ⟨RX3, "isError", "(I)Z"⟩
abbrev cX3_tellError : ByteArray := prog_5_method_15_code
def yX3_tellError : MethodName := ⟨RX3, "tellError", "(II)I"⟩
abbrev cX3_tellState : ByteArray := prog_5_method_16_code
def yX3_tellState : MethodName := ⟨RX3, "tellState", "(III)I"⟩
abbrev cX3_raiseFound : ByteArray := prog_5_method_17_code
def yX3_raiseFound : MethodName := ⟨RX3, "raiseFound", "(I)V"⟩
abbrev cX3_raiseBy : ByteArray := prog_5_method_18_code
def yX3_raiseBy : MethodName := ⟨RX3, "raiseBy", "(I)Z"⟩
abbrev cX3_putChecks : ByteArray := prog_5_method_19_code
def yX3_putChecks : MethodName := ⟨RX3, "putChecks", "()I"⟩
abbrev cX3_seekWay : ByteArray := prog_5_method_20_code
def yX3_seekWay : MethodName := ⟨RX3, "seekWay", "(I)I"⟩
abbrev cX3_goOnFrom : ByteArray := prog_5_method_21_code
def yX3_goOnFrom : MethodName := ⟨RX3, "goOnFrom", "(II)V"⟩
abbrev cX3_meetSituation : ByteArray := prog_5_method_22_code
def yX3_meetSituation : MethodName := ⟨RX3, "meetSituation", "(IJI)V"⟩
abbrev cX3_showsError : ByteArray := prog_5_method_23_code
def yX3_showsError : MethodName := ⟨RX3, "showsError", "(IJ)Z"⟩
abbrev cX3_keepSteps : ByteArray := prog_5_method_24_code
def yX3_keepSteps : MethodName := ⟨RX3, "keepSteps", "()I"⟩
def RX4 : String := "MarkHouse$Kind"
def TX4 : u_T := fun k => match k with
  | 0 => ("MarkHouse$Kind", "name", "J", false)
  | 1 => ("MarkHouse$Kind", "count", "I", false)
  | 2 => ("MarkHouse$Kind", "member", "[J", true)
  | 3 => ("MarkHouse$Kind", "sort", "[I", true)
  | 4 => ("MarkHouse$Kind", "hasDefault", "[Z", true)
  | 5 => ("MarkHouse$Kind", "byDefault", "[J", true)
  | 6 => ("MarkHouse$Kind", "on", "I", false)
  | 7 => ("MarkHouse$Kind", "heirs", "Z", false)
  | 8 => ("MarkHouse$Kind", "many", "Z", false)
  | _ => ("MarkHouse$Kind", "gives", "[I", true)
def tyX4 : Nat → FieldType := fun k => match k with
  | 0 => .long
  | 1 => .int
  | 2 => .array .long
  | 3 => .array .int
  | 4 => .array .boolean
  | 5 => .array .long
  | 6 => .int
  | 7 => .boolean
  | 8 => .boolean
  | _ => .array .int
theorem nmX4 : ∀ a, a < 10 → ∀ b, b < 10 → a ≠ b → (TX4 a).2.1 ≠ (TX4 b).2.1 := by decide +kernel
theorem tyX4_ok : ∀ k, k < 10 → parseFieldDescriptor (TX4 k).2.2.1 = some (tyX4 k) := by decide +kernel
abbrev cX4_init : ByteArray := prog_6_method_1_code
def yX4_init : MethodName := ⟨RX4, "<init>", "()V"⟩
abbrev cX4_clear : ByteArray := prog_6_method_2_code
def yX4_clear : MethodName := ⟨RX4, "clear", "(J)V"⟩
abbrev cX4_memberOf : ByteArray := prog_6_method_3_code
def yX4_memberOf : MethodName := ⟨RX4, "memberOf", "(J)I"⟩
abbrev cX4_givenOf : ByteArray := prog_6_method_4_code
def yX4_givenOf : MethodName := ⟨RX4, "givenOf", "(I)I"⟩
abbrev cX4_giveAlso : ByteArray := prog_6_method_5_code
def yX4_giveAlso : MethodName := ⟨RX4, "giveAlso", "(II)V"⟩
abbrev cX4_giveInTurn : ByteArray := prog_6_method_6_code
def yX4_giveInTurn : MethodName := ⟨RX4, "giveInTurn", "(LMarkHouse$Kind;)V"⟩
def RX5 : String := "MarkHouse$Marks"
def TX5 : u_T := fun k => match k with
  | 0 => ("MarkHouse$Marks", "name", "[J", true)
  | 1 => ("MarkHouse$Marks", "target", "[I", true)
  | 2 => ("MarkHouse$Marks", "pairs", "[I", true)
  | 3 => ("MarkHouse$Marks", "counts", "[Z", true)
  | 4 => ("MarkHouse$Marks", "next", "[I", true)
  | 5 => ("MarkHouse$Marks", "pairName", "[J", true)
  | 6 => ("MarkHouse$Marks", "pairSort", "[B", true)
  | 7 => ("MarkHouse$Marks", "pairValue", "[J", true)
  | 8 => ("MarkHouse$Marks", "first", "[I", true)
  | 9 => ("MarkHouse$Marks", "last", "[I", true)
  | 10 => ("MarkHouse$Marks", "size", "[I", true)
  | 11 => ("MarkHouse$Marks", "used", "I", false)
  | 12 => ("MarkHouse$Marks", "free", "I", false)
  | _ => ("MarkHouse$Marks", "live", "I", false)
def tyX5 : Nat → FieldType := fun k => match k with
  | 0 => .array .long
  | 1 => .array .int
  | 2 => .array .int
  | 3 => .array .boolean
  | 4 => .array .int
  | 5 => .array .long
  | 6 => .array .byte
  | 7 => .array .long
  | 8 => .array .int
  | 9 => .array .int
  | 10 => .array .int
  | 11 => .int
  | 12 => .int
  | _ => .int
theorem nmX5 : ∀ a, a < 14 → ∀ b, b < 14 → a ≠ b → (TX5 a).2.1 ≠ (TX5 b).2.1 := by decide +kernel
theorem tyX5_ok : ∀ k, k < 14 → parseFieldDescriptor (TX5 k).2.2.1 = some (tyX5 k) := by decide +kernel
abbrev cX5_init : ByteArray := prog_7_method_1_code
def yX5_init : MethodName := ⟨RX5, "<init>", "()V"⟩
abbrev cX5_clearAll : ByteArray := prog_7_method_2_code
def yX5_clearAll : MethodName := ⟨RX5, "clearAll", "()V"⟩
abbrev cX5_clearRow : ByteArray := prog_7_method_3_code
def yX5_clearRow : MethodName := ⟨RX5, "clearRow", "(I)V"⟩
abbrev cX5_roomWithout : ByteArray := prog_7_method_4_code
def yX5_roomWithout : MethodName := ⟨RX5, "roomWithout", "(I)I"⟩
abbrev cX5_append : ByteArray := prog_7_method_5_code
def yX5_append : MethodName := ⟨RX5, "append", "(IJ)I"⟩
abbrev cX5_addPair : ByteArray := prog_7_method_6_code
def yX5_addPair : MethodName := ⟨RX5, "addPair", "(IJIJ)V"⟩
abbrev cX5_appendCopy : ByteArray := prog_7_method_7_code
def yX5_appendCopy : MethodName := ⟨RX5, "appendCopy", "(II)V"⟩
abbrev cX5_isNo : ByteArray := prog_7_method_8_code
def yX5_isNo : MethodName := ⟨RX5, "isNo", "(I)Z"⟩
abbrev cX5_markAt : ByteArray := prog_7_method_9_code
def yX5_markAt : MethodName := ⟨RX5, "markAt", "(II)I"⟩
abbrev cX5_hasName : ByteArray := prog_7_method_10_code
def yX5_hasName : MethodName := ⟨RX5, "hasName", "(IJ)Z"⟩
abbrev cX5_pairOf : ByteArray := prog_7_method_11_code
def yX5_pairOf : MethodName := ⟨RX5, "pairOf", "(IJ)I"⟩
abbrev cX5_elementOf : ByteArray := prog_7_method_12_code
def yX5_elementOf : MethodName := ⟨RX5, "elementOf", "(ILMarkHouse$Order;)I"⟩
abbrev cX5_memberSort : ByteArray := prog_7_method_13_code
def yX5_memberSort : MethodName := ⟨RX5, "memberSort", "(ILMarkHouse$Kind;I)I"⟩
abbrev cX5_memberValue : ByteArray := prog_7_method_14_code
def yX5_memberValue : MethodName := ⟨RX5, "memberValue", "(ILMarkHouse$Kind;I)J"⟩
def RX6 : String := "MarkHouse$Order"
def TX6 : u_T := fun k => match k with
  | 0 => ("MarkHouse$Order", "name", "J", false)
  | 1 => ("MarkHouse$Order", "count", "I", false)
  | 2 => ("MarkHouse$Order", "top", "I", false)
  | 3 => ("MarkHouse$Order", "bottom", "I", false)
  | 4 => ("MarkHouse$Order", "element", "[J", true)
  | 5 => ("MarkHouse$Order", "up", "[I", true)
  | 6 => ("MarkHouse$Order", "down", "[I", true)
  | 7 => ("MarkHouse$Order", "join", "[I", true)
  | _ => ("MarkHouse$Order", "meet", "[I", true)
def tyX6 : Nat → FieldType := fun k => match k with
  | 0 => .long
  | 1 => .int
  | 2 => .int
  | 3 => .int
  | 4 => .array .long
  | 5 => .array .int
  | 6 => .array .int
  | 7 => .array .int
  | _ => .array .int
theorem nmX6 : ∀ a, a < 9 → ∀ b, b < 9 → a ≠ b → (TX6 a).2.1 ≠ (TX6 b).2.1 := by decide +kernel
theorem tyX6_ok : ∀ k, k < 9 → parseFieldDescriptor (TX6 k).2.2.1 = some (tyX6 k) := by decide +kernel
abbrev cX6_init : ByteArray := prog_8_method_1_code
def yX6_init : MethodName := ⟨RX6, "<init>", "()V"⟩
abbrev cX6_clear : ByteArray := prog_8_method_2_code
def yX6_clear : MethodName := ⟨RX6, "clear", "(J)V"⟩
abbrev cX6_elementOf : ByteArray := prog_8_method_3_code
def yX6_elementOf : MethodName := ⟨RX6, "elementOf", "(J)I"⟩
abbrev cX6_addElement : ByteArray := prog_8_method_4_code
def yX6_addElement : MethodName := ⟨RX6, "addElement", "(J)I"⟩
abbrev cX6_isBelow : ByteArray := prog_8_method_5_code
def yX6_isBelow : MethodName := ⟨RX6, "isBelow", "(II)Z"⟩
abbrev cX6_joinOf : ByteArray := prog_8_method_6_code
def yX6_joinOf : MethodName := ⟨RX6, "joinOf", "(II)I"⟩
abbrev cX6_meetOf : ByteArray := prog_8_method_7_code
def yX6_meetOf : MethodName := ⟨RX6, "meetOf", "(II)I"⟩
abbrev cX6_isNextBelow : ByteArray := prog_8_method_8_code
def yX6_isNextBelow : MethodName := ⟨RX6, "isNextBelow", "(II)Z"⟩
abbrev cX6_settle : ByteArray := prog_8_method_9_code
def yX6_settle : MethodName := ⟨RX6, "settle", "()Z"⟩
abbrev cX6_close : ByteArray := prog_8_method_10_code
def yX6_close : MethodName := ⟨RX6, "close", "()V"⟩
abbrev cX6_least : ByteArray := prog_8_method_11_code
def yX6_least : MethodName := ⟨RX6, "least", "(I[I)I"⟩
def RX7 : String := "MarkHouse$Program"
def TX7 : u_T := fun k => match k with
  | 0 => ("MarkHouse$Program", "there", "Z", false)
  | 1 => ("MarkHouse$Program", "orders", "[LMarkHouse$Order;", true)
  | 2 => ("MarkHouse$Program", "orderCount", "I", false)
  | 3 => ("MarkHouse$Program", "kinds", "[LMarkHouse$Kind;", true)
  | 4 => ("MarkHouse$Program", "kindCount", "I", false)
  | 5 => ("MarkHouse$Program", "makerName", "[J", true)
  | 6 => ("MarkHouse$Program", "makerKind", "[I", true)
  | 7 => ("MarkHouse$Program", "makerCount", "I", false)
  | 8 => ("MarkHouse$Program", "className", "[J", true)
  | 9 => ("MarkHouse$Program", "parent", "[I", true)
  | 10 => ("MarkHouse$Program", "classCount", "I", false)
  | 11 => ("MarkHouse$Program", "fieldCount", "[I", true)
  | 12 => ("MarkHouse$Program", "fieldName", "[J", true)
  | 13 => ("MarkHouse$Program", "fieldNumber", "[I", true)
  | _ => ("MarkHouse$Program", "methodCount", "[I", true)
def tyX7 : Nat → FieldType := fun k => match k with
  | 0 => .boolean
  | 1 => .array (.object "MarkHouse$Order")
  | 2 => .int
  | 3 => .array (.object "MarkHouse$Kind")
  | 4 => .int
  | 5 => .array .long
  | 6 => .array .int
  | 7 => .int
  | 8 => .array .long
  | 9 => .array .int
  | 10 => .int
  | 11 => .array .int
  | 12 => .array .long
  | 13 => .array .int
  | _ => .array .int
theorem nmX7 : ∀ a, a < 15 → ∀ b, b < 15 → a ≠ b → (TX7 a).2.1 ≠ (TX7 b).2.1 := by decide +kernel
theorem tyX7_ok : ∀ k, k < 15 → parseFieldDescriptor (TX7 k).2.2.1 = some (tyX7 k) := by decide +kernel
abbrev cX7_init : ByteArray := prog_9_method_1_code
def yX7_init : MethodName := ⟨RX7, "<init>", "()V"⟩
abbrev cX7_clear : ByteArray := prog_9_method_2_code
def yX7_clear : MethodName := ⟨RX7, "clear", "()V"⟩
abbrev cX7_isOrder : ByteArray := prog_9_method_3_code
def yX7_isOrder : MethodName := ⟨RX7, "isOrder", "(I)Z"⟩
abbrev cX7_isTarget : ByteArray := prog_9_method_4_code
def yX7_isTarget : MethodName := ⟨RX7, "isTarget", "(I)Z"⟩
abbrev cX7_isNamed : ByteArray := prog_9_method_5_code
def yX7_isNamed : MethodName := ⟨RX7, "isNamed", "(J)Z"⟩
abbrev cX7_isMaker : ByteArray := prog_9_method_6_code
def yX7_isMaker : MethodName := ⟨RX7, "isMaker", "(J)Z"⟩
abbrev cX7_targetOf : ByteArray := prog_9_method_7_code
def yX7_targetOf : MethodName := ⟨RX7, "targetOf", "(J)I"⟩
abbrev cX7_orderOf : ByteArray := prog_9_method_8_code
def yX7_orderOf : MethodName := ⟨RX7, "orderOf", "(J)I"⟩
abbrev cX7_kindOf : ByteArray := prog_9_method_9_code
def yX7_kindOf : MethodName := ⟨RX7, "kindOf", "(J)I"⟩
abbrev cX7_classOf : ByteArray := prog_9_method_10_code
def yX7_classOf : MethodName := ⟨RX7, "classOf", "(J)I"⟩
abbrev cX7_canStand : ByteArray := prog_9_method_11_code
def yX7_canStand : MethodName := ⟨RX7, "canStand", "(II)Z"⟩
abbrev cX7_isMany : ByteArray := prog_9_method_12_code
def yX7_isMany : MethodName := ⟨RX7, "isMany", "(I)Z"⟩
abbrev cX7_count : ByteArray := prog_9_method_13_code
def yX7_count : MethodName := ⟨RX7, "count", "(II)I"⟩
abbrev cX7_fieldOf : ByteArray := prog_9_method_14_code
def yX7_fieldOf : MethodName := ⟨RX7, "fieldOf", "(IJ)I"⟩
abbrev cX7_nearestField : ByteArray := prog_9_method_15_code
def yX7_nearestField : MethodName := ⟨RX7, "nearestField", "(IJ)I"⟩
abbrev cX7_ancestor : ByteArray := prog_9_method_16_code
def yX7_ancestor : MethodName := ⟨RX7, "ancestor", "(II)I"⟩
abbrev cX7_isHeir : ByteArray := prog_9_method_17_code
def yX7_isHeir : MethodName := ⟨RX7, "isHeir", "(II)Z"⟩
def RX8 : String := "MarkHouse$Reader"
def TX8 : u_T := fun k => match k with
  | 0 => ("MarkHouse$Reader", "cutter", "LMarkHouse$Cutter;", true)
  | 1 => ("MarkHouse$Reader", "program", "LMarkHouse$Program;", true)
  | 2 => ("MarkHouse$Reader", "code", "LMarkHouse$Code;", true)
  | 3 => ("MarkHouse$Reader", "marks", "LMarkHouse$Marks;", true)
  | 4 => ("MarkHouse$Reader", "faultKind", "I", false)
  | 5 => ("MarkHouse$Reader", "faultPlace", "I", false)
  | 6 => ("MarkHouse$Reader", "fileWrong", "I", false)
  | 7 => ("MarkHouse$Reader", "at", "I", false)
  | 8 => ("MarkHouse$Reader", "classNow", "I", false)
  | 9 => ("MarkHouse$Reader", "methodNow", "I", false)
  | 10 => ("MarkHouse$Reader", "fileAt", "I", false)
  | _ => ("MarkHouse$Reader", "fileLength", "I", false)
def tyX8 : Nat → FieldType := fun k => match k with
  | 0 => .object "MarkHouse$Cutter"
  | 1 => .object "MarkHouse$Program"
  | 2 => .object "MarkHouse$Code"
  | 3 => .object "MarkHouse$Marks"
  | 4 => .int
  | 5 => .int
  | 6 => .int
  | 7 => .int
  | 8 => .int
  | 9 => .int
  | 10 => .int
  | _ => .int
theorem nmX8 : ∀ a, a < 12 → ∀ b, b < 12 → a ≠ b → (TX8 a).2.1 ≠ (TX8 b).2.1 := by decide +kernel
theorem tyX8_ok : ∀ k, k < 12 → parseFieldDescriptor (TX8 k).2.2.1 = some (tyX8 k) := by decide +kernel
abbrev cX8_init : ByteArray := prog_10_method_1_code
def yX8_init : MethodName := ⟨RX8, "<init>", "(LMarkHouse$Cutter;LMarkHouse$Program;LMarkHouse$Code;LMarkHouse$Marks;)V"⟩
abbrev cX8_cutTape : ByteArray := prog_10_method_2_code
def yX8_cutTape : MethodName := ⟨RX8, "cutTape", "()V"⟩
abbrev cX8_fail : ByteArray := prog_10_method_3_code
def yX8_fail : MethodName := ⟨RX8, "fail", "(II)V"⟩
abbrev cX8_here : ByteArray := prog_10_method_4_code
def yX8_here : MethodName := ⟨RX8, "here", "()I"⟩
abbrev cX8_next : ByteArray := prog_10_method_5_code
def yX8_next : MethodName := ⟨RX8, "next", "()I"⟩
abbrev cX8_pass : ByteArray := prog_10_method_6_code
def yX8_pass : MethodName := ⟨RX8, "pass", "(I)V"⟩
abbrev cX8_passIf : ByteArray := prog_10_method_7_code
def yX8_passIf : MethodName := ⟨RX8, "passIf", "(I)Z"⟩
abbrev cX8_nameHere : ByteArray := prog_10_method_8_code
def yX8_nameHere : MethodName := ⟨RX8, "nameHere", "()J"⟩
abbrev cX8_newName : ByteArray := prog_10_method_9_code
def yX8_newName : MethodName := ⟨RX8, "newName", "(ZZ)J"⟩
abbrev cX8_readFront : ByteArray := prog_10_method_10_code
def yX8_readFront : MethodName := ⟨RX8, "readFront", "()V"⟩
abbrev cX8_readClasses : ByteArray := prog_10_method_11_code
def yX8_readClasses : MethodName := ⟨RX8, "readClasses", "()V"⟩
abbrev cX8_isNamedHere : ByteArray := prog_10_method_12_code
def yX8_isNamedHere : MethodName := ⟨RX8, "isNamedHere", "()Z"⟩
abbrev cX8_readOrder : ByteArray := prog_10_method_13_code
def yX8_readOrder : MethodName := ⟨RX8, "readOrder", "()V"⟩
abbrev cX8_readNewElement : ByteArray := prog_10_method_14_code
def yX8_readNewElement : MethodName := ⟨RX8, "readNewElement", "(LMarkHouse$Order;)I"⟩
abbrev cX8_readKind : ByteArray := prog_10_method_15_code
def yX8_readKind : MethodName := ⟨RX8, "readKind", "()V"⟩
abbrev cX8_readMembers : ByteArray := prog_10_method_16_code
def yX8_readMembers : MethodName := ⟨RX8, "readMembers", "(LMarkHouse$Kind;)V"⟩
abbrev cX8_readSorts : ByteArray := prog_10_method_17_code
def yX8_readSorts : MethodName := ⟨RX8, "readSorts", "(LMarkHouse$Kind;)V"⟩
abbrev cX8_settleGives : ByteArray := prog_10_method_18_code
def yX8_settleGives : MethodName := ⟨RX8, "settleGives", "(LMarkHouse$Kind;I)V"⟩
abbrev cX8_readMaker : ByteArray := prog_10_method_19_code
def yX8_readMaker : MethodName := ⟨RX8, "readMaker", "()V"⟩
abbrev cX8_readClassHead : ByteArray := prog_10_method_20_code
def yX8_readClassHead : MethodName := ⟨RX8, "readClassHead", "()V"⟩
abbrev cX8_readField : ByteArray := prog_10_method_21_code
def yX8_readField : MethodName := ⟨RX8, "readField", "()V"⟩
abbrev cX8_readMethodHead : ByteArray := prog_10_method_22_code
def yX8_readMethodHead : MethodName := ⟨RX8, "readMethodHead", "()V"⟩
abbrev cX8_readSomeMarks : ByteArray := prog_10_method_23_code
def yX8_readSomeMarks : MethodName := ⟨RX8, "readSomeMarks", "(II)V"⟩
abbrev cX8_readMarks : ByteArray := prog_10_method_24_code
def yX8_readMarks : MethodName := ⟨RX8, "readMarks", "(II)V"⟩
abbrev cX8_readMarkName : ByteArray := prog_10_method_25_code
def yX8_readMarkName : MethodName := ⟨RX8, "readMarkName", "(II)I"⟩
abbrev cX8_fits : ByteArray := prog_10_method_26_code
def yX8_fits : MethodName := ⟨RX8, "fits", "(II)Z"⟩
abbrev cX8_readElement : ByteArray := prog_10_method_27_code
def yX8_readElement : MethodName := ⟨RX8, "readElement", "(LMarkHouse$Order;)I"⟩
abbrev cX8_readPairs : ByteArray := prog_10_method_28_code
def yX8_readPairs : MethodName := ⟨RX8, "readPairs", "(ILMarkHouse$Kind;)V"⟩
abbrev cX8_readValue : ByteArray := prog_10_method_29_code
def yX8_readValue : MethodName := ⟨RX8, "readValue", "(I)J"⟩
abbrev cX8_readAct : ByteArray := prog_10_method_30_code
def yX8_readAct : MethodName := ⟨RX8, "readAct", "()V"⟩
abbrev cX8_isActWord : ByteArray := prog_10_method_31_code
def yX8_isActWord : MethodName := ⟨RX8, "isActWord", "(I)Z"⟩
abbrev cX8_readOperands : ByteArray := prog_10_method_32_code
def yX8_readOperands : MethodName := ⟨RX8, "readOperands", "(I)V"⟩
abbrev cX8_elementsTold : ByteArray := prog_10_method_33_code
def yX8_elementsTold : MethodName := ⟨RX8, "elementsTold", "(I)I"⟩
abbrev cX8_readLocal : ByteArray := prog_10_method_34_code
def yX8_readLocal : MethodName := ⟨RX8, "readLocal", "(I)V"⟩
abbrev cX8_readFirstName : ByteArray := prog_10_method_35_code
def yX8_readFirstName : MethodName := ⟨RX8, "readFirstName", "(I)V"⟩
abbrev cX8_readOrderElement : ByteArray := prog_10_method_36_code
def yX8_readOrderElement : MethodName := ⟨RX8, "readOrderElement", "(I)V"⟩
abbrev cX8_settleNames : ByteArray := prog_10_method_37_code
def yX8_settleNames : MethodName := ⟨RX8, "settleNames", "()V"⟩
abbrev cX8_settleNamesOf : ByteArray := prog_10_method_38_code
def yX8_settleNamesOf : MethodName := ⟨RX8, "settleNamesOf", "(II)V"⟩
abbrev cX8_settleDepths : ByteArray := prog_10_method_39_code
def yX8_settleDepths : MethodName := ⟨RX8, "settleDepths", "()V"⟩
abbrev cX8_settleDepthsOf : ByteArray := prog_10_method_40_code
def yX8_settleDepthsOf : MethodName := ⟨RX8, "settleDepthsOf", "(II)V"⟩
abbrev cX8_goOver : ByteArray := prog_10_method_41_code
def yX8_goOver : MethodName := ⟨RX8, "goOver", "(III)J"⟩
abbrev cX8_comeTo : ByteArray := prog_10_method_42_code
def yX8_comeTo : MethodName := ⟨RX8, "comeTo", "(III)J"⟩
abbrev cX8_readFile : ByteArray := prog_10_method_43_code
def yX8_readFile : MethodName := ⟨RX8, "readFile", "(II)V"⟩
abbrev cX8_fileByte : ByteArray := prog_10_method_44_code
def yX8_fileByte : MethodName := ⟨RX8, "fileByte", "(II)I"⟩
abbrev cX8_readFileMark : ByteArray := prog_10_method_45_code
def yX8_readFileMark : MethodName := ⟨RX8, "readFileMark", "(I)V"⟩
abbrev cX8_fileName : ByteArray := prog_10_method_46_code
def yX8_fileName : MethodName := ⟨RX8, "fileName", "()J"⟩
abbrev cX8_fileValue : ByteArray := prog_10_method_47_code
def yX8_fileValue : MethodName := ⟨RX8, "fileValue", "(I)J"⟩
abbrev cX8_fileText : ByteArray := prog_10_method_48_code
def yX8_fileText : MethodName := ⟨RX8, "fileText", "()J"⟩
def RX9 : String := "MarkHouse$Run"
def TX9 : u_T := fun k => match k with
  | 0 => ("MarkHouse$Run", "program", "LMarkHouse$Program;", true)
  | 1 => ("MarkHouse$Run", "code", "LMarkHouse$Code;", true)
  | 2 => ("MarkHouse$Run", "effects", "LMarkHouse$Effects;", true)
  | 3 => ("MarkHouse$Run", "arguments", "[I", true)
  | 4 => ("MarkHouse$Run", "inputs", "[I", true)
  | 5 => ("MarkHouse$Run", "inputCount", "I", false)
  | 6 => ("MarkHouse$Run", "tally", "[I", true)
  | 7 => ("MarkHouse$Run", "method", "[I", true)
  | 8 => ("MarkHouse$Run", "act", "[I", true)
  | 9 => ("MarkHouse$Run", "slots", "[J", true)
  | 10 => ("MarkHouse$Run", "frames", "I", false)
  | 11 => ("MarkHouse$Run", "fields", "[J", true)
  | 12 => ("MarkHouse$Run", "woven", "Z", false)
  | 13 => ("MarkHouse$Run", "result", "J", false)
  | _ => ("MarkHouse$Run", "bottoms", "J", false)
def tyX9 : Nat → FieldType := fun k => match k with
  | 0 => .object "MarkHouse$Program"
  | 1 => .object "MarkHouse$Code"
  | 2 => .object "MarkHouse$Effects"
  | 3 => .array .int
  | 4 => .array .int
  | 5 => .int
  | 6 => .array .int
  | 7 => .array .int
  | 8 => .array .int
  | 9 => .array .long
  | 10 => .int
  | 11 => .array .long
  | 12 => .boolean
  | 13 => .long
  | _ => .long
theorem nmX9 : ∀ a, a < 15 → ∀ b, b < 15 → a ≠ b → (TX9 a).2.1 ≠ (TX9 b).2.1 := by decide +kernel
theorem tyX9_ok : ∀ k, k < 15 → parseFieldDescriptor (TX9 k).2.2.1 = some (tyX9 k) := by decide +kernel
abbrev cX9_init : ByteArray := prog_11_method_1_code
def yX9_init : MethodName := ⟨RX9, "<init>", "(LMarkHouse$Program;LMarkHouse$Code;LMarkHouse$Effects;)V"⟩
abbrev cX9_addInput : ByteArray := prog_11_method_2_code
def yX9_addInput : MethodName := ⟨RX9, "addInput", "(I)I"⟩
abbrev cX9_takeInput : ByteArray := prog_11_method_3_code
def yX9_takeInput : MethodName := ⟨RX9, "takeInput", "()I"⟩
abbrev cX9_stop : ByteArray := prog_11_method_4_code
def yX9_stop : MethodName := ⟨RX9, "stop", "()V"⟩
abbrev cX9_isUnderWay : ByteArray := prog_11_method_5_code
def yX9_isUnderWay : MethodName := ⟨RX9, "isUnderWay", "()Z"⟩
abbrev cX9_value : ByteArray := prog_11_method_6_code
def yX9_value : MethodName := ⟨RX9, "value", "(II)J"⟩
abbrev cX9_start : ByteArray := prog_11_method_7_code
def yX9_start : MethodName := ⟨RX9, "start", "(IZ)V"⟩
abbrev cX9_openFrame : ByteArray := prog_11_method_8_code
def yX9_openFrame : MethodName := ⟨RX9, "openFrame", "(I)V"⟩
abbrev cX9_goOn : ByteArray := prog_11_method_9_code
def yX9_goOn : MethodName := ⟨RX9, "goOn", "(I)I"⟩
abbrev cX9_goOneAct : ByteArray := prog_11_method_10_code
def yX9_goOneAct : MethodName := ⟨RX9, "goOneAct", "()V"⟩
abbrev cX9_isBranch : ByteArray := prog_11_method_11_code
def yX9_isBranch : MethodName := ⟨RX9, "isBranch", "(I)Z"⟩
abbrev cX9_isLow : ByteArray := prog_11_method_12_code
def yX9_isLow : MethodName := ⟨RX9, "isLow", "(JII)Z"⟩
abbrev cX9_keepsMark : ByteArray := prog_11_method_13_code
def yX9_keepsMark : MethodName := ⟨RX9, "keepsMark", "(IIII)Z"⟩
abbrev cX9_passesChecks : ByteArray := prog_11_method_14_code
def yX9_passesChecks : MethodName := ⟨RX9, "passesChecks", "(II)Z"⟩
abbrev cX9_countLeft : ByteArray := prog_11_method_15_code
def yX9_countLeft : MethodName := ⟨RX9, "countLeft", "(II)V"⟩
abbrev cX9_noteLeft : ByteArray := prog_11_method_16_code
def yX9_noteLeft : MethodName := ⟨RX9, "noteLeft", "(II)V"⟩
abbrev cX9_enter : ByteArray := prog_11_method_17_code
def yX9_enter : MethodName := ⟨RX9, "enter", "(II)V"⟩
abbrev cX9_leave : ByteArray := prog_11_method_18_code
def yX9_leave : MethodName := ⟨RX9, "leave", "(II)V"⟩
abbrev cX9_doBranch : ByteArray := prog_11_method_19_code
def yX9_doBranch : MethodName := ⟨RX9, "doBranch", "(II)Z"⟩
abbrev cX9_doPlain : ByteArray := prog_11_method_20_code
def yX9_doPlain : MethodName := ⟨RX9, "doPlain", "(II)V"⟩
abbrev cX9_fieldAt : ByteArray := prog_11_method_21_code
def yX9_fieldAt : MethodName := ⟨RX9, "fieldAt", "(I)I"⟩
abbrev cX9_reckon : ByteArray := prog_11_method_22_code
def yX9_reckon : MethodName := ⟨RX9, "reckon", "(IJJ)J"⟩
abbrev cX9_tellTally : ByteArray := prog_11_method_23_code
def yX9_tellTally : MethodName := ⟨RX9, "tellTally", "(I)I"⟩
abbrev cX9_truthOf : ByteArray := prog_11_method_24_code
def yX9_truthOf : MethodName := ⟨RX9, "truthOf", "(I)I"⟩
def RX10 : String := "MarkHouse$Teller"
def TX10 : u_T := fun k => match k with
  | 0 => ("MarkHouse$Teller", "bytes", "[B", true)
  | 1 => ("MarkHouse$Teller", "length", "I", false)
  | 2 => ("MarkHouse$Teller", "words", "[J", true)
  | 3 => ("MarkHouse$Teller", "program", "LMarkHouse$Program;", true)
  | 4 => ("MarkHouse$Teller", "code", "LMarkHouse$Code;", true)
  | 5 => ("MarkHouse$Teller", "marks", "LMarkHouse$Marks;", true)
  | _ => ("MarkHouse$Teller", "effects", "LMarkHouse$Effects;", true)
def tyX10 : Nat → FieldType := fun k => match k with
  | 0 => .array .byte
  | 1 => .int
  | 2 => .array .long
  | 3 => .object "MarkHouse$Program"
  | 4 => .object "MarkHouse$Code"
  | 5 => .object "MarkHouse$Marks"
  | _ => .object "MarkHouse$Effects"
theorem nmX10 : ∀ a, a < 7 → ∀ b, b < 7 → a ≠ b → (TX10 a).2.1 ≠ (TX10 b).2.1 := by decide +kernel
theorem tyX10_ok : ∀ k, k < 7 → parseFieldDescriptor (TX10 k).2.2.1 = some (tyX10 k) := by decide +kernel
abbrev cX10_init : ByteArray := prog_12_method_1_code
def yX10_init : MethodName := ⟨RX10, "<init>", "([JLMarkHouse$Program;LMarkHouse$Code;LMarkHouse$Marks;LMarkHouse$Effects;)V"⟩
abbrev cX10_put : ByteArray := prog_12_method_2_code
def yX10_put : MethodName := ⟨RX10, "put", "(I)V"⟩
abbrev cX10_putSigns : ByteArray := prog_12_method_3_code
def yX10_putSigns : MethodName := ⟨RX10, "putSigns", "(J)V"⟩
abbrev cX10_putDigits : ByteArray := prog_12_method_4_code
def yX10_putDigits : MethodName := ⟨RX10, "putDigits", "(J)V"⟩
abbrev cX10_putName : ByteArray := prog_12_method_5_code
def yX10_putName : MethodName := ⟨RX10, "putName", "(J)V"⟩
abbrev cX10_putWord : ByteArray := prog_12_method_6_code
def yX10_putWord : MethodName := ⟨RX10, "putWord", "(I)V"⟩
abbrev cX10_putSign : ByteArray := prog_12_method_7_code
def yX10_putSign : MethodName := ⟨RX10, "putSign", "(C)V"⟩
abbrev cX10_putValue : ByteArray := prog_12_method_8_code
def yX10_putValue : MethodName := ⟨RX10, "putValue", "(IJ)V"⟩
abbrev cX10_writeProgram : ByteArray := prog_12_method_9_code
def yX10_writeProgram : MethodName := ⟨RX10, "writeProgram", "()I"⟩
abbrev cX10_writeOrder : ByteArray := prog_12_method_10_code
def yX10_writeOrder : MethodName := ⟨RX10, "writeOrder", "(LMarkHouse$Order;)V"⟩
abbrev cX10_writeKind : ByteArray := prog_12_method_11_code
def yX10_writeKind : MethodName := ⟨RX10, "writeKind", "(ILMarkHouse$Kind;)V"⟩
abbrev cX10_writeSorts : ByteArray := prog_12_method_12_code
def yX10_writeSorts : MethodName := ⟨RX10, "writeSorts", "(I)V"⟩
abbrev cX10_writeClassHead : ByteArray := prog_12_method_13_code
def yX10_writeClassHead : MethodName := ⟨RX10, "writeClassHead", "(I)V"⟩
abbrev cX10_writeMethodHead : ByteArray := prog_12_method_14_code
def yX10_writeMethodHead : MethodName := ⟨RX10, "writeMethodHead", "(I)V"⟩
abbrev cX10_writeMarks : ByteArray := prog_12_method_15_code
def yX10_writeMarks : MethodName := ⟨RX10, "writeMarks", "(I)V"⟩
abbrev cX10_isWhole : ByteArray := prog_12_method_16_code
def yX10_isWhole : MethodName := ⟨RX10, "isWhole", "(I)Z"⟩
abbrev cX10_writeMark : ByteArray := prog_12_method_17_code
def yX10_writeMark : MethodName := ⟨RX10, "writeMark", "(I)V"⟩
abbrev cX10_writeAct : ByteArray := prog_12_method_18_code
def yX10_writeAct : MethodName := ⟨RX10, "writeAct", "(III)V"⟩
abbrev cX10_writeOrderElement : ByteArray := prog_12_method_19_code
def yX10_writeOrderElement : MethodName := ⟨RX10, "writeOrderElement", "(II)V"⟩
abbrev cX10_writeCode : ByteArray := prog_12_method_20_code
def yX10_writeCode : MethodName := ⟨RX10, "writeCode", "(IZ)I"⟩
abbrev cX10_writeChecks : ByteArray := prog_12_method_21_code
def yX10_writeChecks : MethodName := ⟨RX10, "writeChecks", "(II)V"⟩
abbrev cX10_writtenAhead : ByteArray := prog_12_method_22_code
def yX10_writtenAhead : MethodName := ⟨RX10, "writtenAhead", "(IIZ)I"⟩
abbrev cX10_writeFile : ByteArray := prog_12_method_23_code
def yX10_writeFile : MethodName := ⟨RX10, "writeFile", "(I)I"⟩
abbrev cX10_putCounted : ByteArray := prog_12_method_24_code
def yX10_putCounted : MethodName := ⟨RX10, "putCounted", "(J)V"⟩
abbrev cX10_putFour : ByteArray := prog_12_method_25_code
def yX10_putFour : MethodName := ⟨RX10, "putFour", "(J)V"⟩
abbrev cX10_writeElement : ByteArray := prog_12_method_26_code
def yX10_writeElement : MethodName := ⟨RX10, "writeElement", "(ILMarkHouse$Order;)I"⟩
abbrev cX10_writeMember : ByteArray := prog_12_method_27_code
def yX10_writeMember : MethodName := ⟨RX10, "writeMember", "(ILMarkHouse$Kind;I)I"⟩
def RX11 : String := "MarkHouse$Wiring"
def TX11 : u_T := fun k => match k with
  | 0 => ("MarkHouse$Wiring", "program", "LMarkHouse$Program;", true)
  | 1 => ("MarkHouse$Wiring", "marks", "LMarkHouse$Marks;", true)
  | 2 => ("MarkHouse$Wiring", "effects", "LMarkHouse$Effects;", true)
  | 3 => ("MarkHouse$Wiring", "isPart", "[Z", true)
  | 4 => ("MarkHouse$Wiring", "label", "[J", true)
  | 5 => ("MarkHouse$Wiring", "stage", "[I", true)
  | 6 => ("MarkHouse$Wiring", "made", "[I", true)
  | 7 => ("MarkHouse$Wiring", "madeCount", "I", false)
  | 8 => ("MarkHouse$Wiring", "wrongField", "I", false)
  | _ => ("MarkHouse$Wiring", "wrongClass", "I", false)
def tyX11 : Nat → FieldType := fun k => match k with
  | 0 => .object "MarkHouse$Program"
  | 1 => .object "MarkHouse$Marks"
  | 2 => .object "MarkHouse$Effects"
  | 3 => .array .boolean
  | 4 => .array .long
  | 5 => .array .int
  | 6 => .array .int
  | 7 => .int
  | 8 => .int
  | _ => .int
theorem nmX11 : ∀ a, a < 10 → ∀ b, b < 10 → a ≠ b → (TX11 a).2.1 ≠ (TX11 b).2.1 := by decide +kernel
theorem tyX11_ok : ∀ k, k < 10 → parseFieldDescriptor (TX11 k).2.2.1 = some (tyX11 k) := by decide +kernel
abbrev cX11_init : ByteArray := prog_13_method_1_code
def yX11_init : MethodName := ⟨RX11, "<init>", "(LMarkHouse$Program;LMarkHouse$Marks;LMarkHouse$Effects;)V"⟩
abbrev cX11_forget : ByteArray := prog_13_method_2_code
def yX11_forget : MethodName := ⟨RX11, "forget", "()V"⟩
abbrev cX11_tellWired : ByteArray := prog_13_method_3_code
def yX11_tellWired : MethodName := ⟨RX11, "tellWired", "(I)I"⟩
abbrev cX11_makeAll : ByteArray := prog_13_method_4_code
def yX11_makeAll : MethodName := ⟨RX11, "makeAll", "()I"⟩
abbrev cX11_seekParts : ByteArray := prog_13_method_5_code
def yX11_seekParts : MethodName := ⟨RX11, "seekParts", "()V"⟩
abbrev cX11_textOf : ByteArray := prog_13_method_6_code
def yX11_textOf : MethodName := ⟨RX11, "textOf", "(IJ)J"⟩
abbrev cX11_valueOf : ByteArray := prog_13_method_7_code
def yX11_valueOf : MethodName := ⟨RX11, "valueOf", "(IJI)J"⟩
abbrev cX11_make : ByteArray := prog_13_method_8_code
def yX11_make : MethodName := ⟨RX11, "make", "(III)I"⟩
abbrev cX11_meetWant : ByteArray := prog_13_method_9_code
def yX11_meetWant : MethodName := ⟨RX11, "meetWant", "(IIII)I"⟩
abbrev cX11_note : ByteArray := prog_13_method_10_code
def yX11_note : MethodName := ⟨RX11, "note", "(III)I"⟩
def RX12 : String := "MarkHouse"
def TX12 : u_T := fun k => match k with
  | 0 => ("MarkHouse", "cutter", "LMarkHouse$Cutter;", true)
  | 1 => ("MarkHouse", "program", "LMarkHouse$Program;", true)
  | 2 => ("MarkHouse", "code", "LMarkHouse$Code;", true)
  | 3 => ("MarkHouse", "marks", "LMarkHouse$Marks;", true)
  | 4 => ("MarkHouse", "reader", "LMarkHouse$Reader;", true)
  | 5 => ("MarkHouse", "effects", "LMarkHouse$Effects;", true)
  | 6 => ("MarkHouse", "flow", "LMarkHouse$Flow;", true)
  | 7 => ("MarkHouse", "run", "LMarkHouse$Run;", true)
  | 8 => ("MarkHouse", "wiring", "LMarkHouse$Wiring;", true)
  | _ => ("MarkHouse", "teller", "LMarkHouse$Teller;", true)
def tyX12 : Nat → FieldType := fun k => match k with
  | 0 => .object "MarkHouse$Cutter"
  | 1 => .object "MarkHouse$Program"
  | 2 => .object "MarkHouse$Code"
  | 3 => .object "MarkHouse$Marks"
  | 4 => .object "MarkHouse$Reader"
  | 5 => .object "MarkHouse$Effects"
  | 6 => .object "MarkHouse$Flow"
  | 7 => .object "MarkHouse$Run"
  | 8 => .object "MarkHouse$Wiring"
  | _ => .object "MarkHouse$Teller"
theorem nmX12 : ∀ a, a < 10 → ∀ b, b < 10 → a ≠ b → (TX12 a).2.1 ≠ (TX12 b).2.1 := by decide +kernel
theorem tyX12_ok : ∀ k, k < 10 → parseFieldDescriptor (TX12 k).2.2.1 = some (tyX12 k) := by decide +kernel
abbrev cX12_init : ByteArray := prog_1_method_1_code
def yX12_init : MethodName := ⟨RX12, "<init>", "()V"⟩
abbrev cX12_feed : ByteArray := prog_1_method_2_code
def yX12_feed : MethodName := ⟨RX12, "feed", "(IIIII)I"⟩
abbrev cX12_end : ByteArray := prog_1_method_3_code
def yX12_end : MethodName := ⟨RX12, "end", "(I)I"⟩
abbrev cX12_out : ByteArray := prog_1_method_4_code
def yX12_out : MethodName := ⟨RX12, "out", "(I)I"⟩
abbrev cX12_compile : ByteArray := prog_1_method_5_code
def yX12_compile : MethodName := ⟨RX12, "compile", "()I"⟩
abbrev cX12_fault : ByteArray := prog_1_method_6_code
def yX12_fault : MethodName := ⟨RX12, "fault", "(I)I"⟩
abbrev cX12_tell : ByteArray := prog_1_method_7_code
def yX12_tell : MethodName := ⟨RX12, "tell", "()I"⟩
abbrev cX12_size : ByteArray := prog_1_method_8_code
def yX12_size : MethodName := ⟨RX12, "size", "(II)I"⟩
abbrev cX12_methodSize : ByteArray := prog_1_method_9_code
def yX12_methodSize : MethodName := ⟨RX12, "methodSize", "(II)I"⟩
abbrev cX12_order : ByteArray := prog_1_method_10_code
def yX12_order : MethodName := ⟨RX12, "order", "(IIII)I"⟩
abbrev cX12_mark : ByteArray := prog_1_method_11_code
def yX12_mark : MethodName := ⟨RX12, "mark", "(III)I"⟩
abbrev cX12_give : ByteArray := prog_1_method_12_code
def yX12_give : MethodName := ⟨RX12, "give", "(I)I"⟩
abbrev cX12_file : ByteArray := prog_1_method_13_code
def yX12_file : MethodName := ⟨RX12, "file", "(I)I"⟩
abbrev cX12_effective : ByteArray := prog_1_method_14_code
def yX12_effective : MethodName := ⟨RX12, "effective", "(II)I"⟩
abbrev cX12_whence : ByteArray := prog_1_method_15_code
def yX12_whence : MethodName := ⟨RX12, "whence", "(III)I"⟩
abbrev cX12_ask : ByteArray := prog_1_method_16_code
def yX12_ask : MethodName := ⟨RX12, "ask", "(IIII)I"⟩
abbrev cX12_isAskable : ByteArray := prog_1_method_17_code
def yX12_isAskable : MethodName := ⟨RX12, "isAskable", "(II)Z"⟩
abbrev cX12_markOf : ByteArray := prog_1_method_18_code
def yX12_markOf : MethodName := ⟨RX12, "markOf", "(II)I"⟩
abbrev cX12_rounds : ByteArray := prog_1_method_19_code
def yX12_rounds : MethodName := ⟨RX12, "rounds", "()I"⟩
abbrev cX12_flow : ByteArray := prog_1_method_20_code
def yX12_flow : MethodName := ⟨RX12, "flow", "(I)I"⟩
abbrev cX12_error : ByteArray := prog_1_method_21_code
def yX12_error : MethodName := ⟨RX12, "error", "(II)I"⟩
abbrev cX12_way : ByteArray := prog_1_method_22_code
def yX12_way : MethodName := ⟨RX12, "way", "(I)I"⟩
abbrev cX12_step : ByteArray := prog_1_method_23_code
def yX12_step : MethodName := ⟨RX12, "step", "(I)I"⟩
abbrev cX12_state : ByteArray := prog_1_method_24_code
def yX12_state : MethodName := ⟨RX12, "state", "(III)I"⟩
abbrev cX12_find : ByteArray := prog_1_method_25_code
def yX12_find : MethodName := ⟨RX12, "find", "(I)I"⟩
abbrev cX12_plain : ByteArray := prog_1_method_26_code
def yX12_plain : MethodName := ⟨RX12, "plain", "(I)Z"⟩
abbrev cX12_weave : ByteArray := prog_1_method_27_code
def yX12_weave : MethodName := ⟨RX12, "weave", "()I"⟩
abbrev cX12_code : ByteArray := prog_1_method_28_code
def yX12_code : MethodName := ⟨RX12, "code", "(IZ)I"⟩
abbrev cX12_argument : ByteArray := prog_1_method_29_code
def yX12_argument : MethodName := ⟨RX12, "argument", "(II)Z"⟩
abbrev cX12_input : ByteArray := prog_1_method_30_code
def yX12_input : MethodName := ⟨RX12, "input", "(I)I"⟩
abbrev cX12_begin : ByteArray := prog_1_method_31_code
def yX12_begin : MethodName := ⟨RX12, "begin", "(IZ)V"⟩
abbrev cX12_go : ByteArray := prog_1_method_32_code
def yX12_go : MethodName := ⟨RX12, "go", "(I)I"⟩
abbrev cX12_run : ByteArray := prog_1_method_33_code
def yX12_run : MethodName := ⟨RX12, "run", "(I)I"⟩
abbrev cX12_truth : ByteArray := prog_1_method_34_code
def yX12_truth : MethodName := ⟨RX12, "truth", "(I)I"⟩
abbrev cX12_wire : ByteArray := prog_1_method_35_code
def yX12_wire : MethodName := ⟨RX12, "wire", "()I"⟩
abbrev cX12_wired : ByteArray := prog_1_method_36_code
def yX12_wired : MethodName := ⟨RX12, "wired", "(I)I"⟩
abbrev cX12_forget : ByteArray := prog_1_method_37_code
def yX12_forget : MethodName := ⟨RX12, "forget", "()V"⟩
abbrev cX12_pack : ByteArray := prog_1_method_38_code
def yX12_pack : MethodName := ⟨RX12, "pack", "(Ljava/lang/String;)J"⟩
abbrev cX12_isLetter : ByteArray := prog_1_method_39_code
def yX12_isLetter : MethodName := ⟨RX12, "isLetter", "(I)Z"⟩
abbrev cX12_isDigit : ByteArray := prog_1_method_40_code
def yX12_isDigit : MethodName := ⟨RX12, "isDigit", "(I)Z"⟩
abbrev cX12_isTextSign : ByteArray := prog_1_method_41_code
def yX12_isTextSign : MethodName := ⟨RX12, "isTextSign", "(I)Z"⟩
abbrev cX12_nibble : ByteArray := prog_1_method_42_code
def yX12_nibble : MethodName := ⟨RX12, "nibble", "(JI)I"⟩
abbrev cX12_withNibble : ByteArray := prog_1_method_43_code
def yX12_withNibble : MethodName := ⟨RX12, "withNibble", "(JII)J"⟩
def RX13 : String := "MarkHouseModel"
def TX13 : u_T := fun k => match k with
  | 0 => ("MarkHouseModel", "thrown", "I", false)
  | 1 => ("MarkHouseModel", "tape", "[I", true)
  | 2 => ("MarkHouseModel", "taped", "I", false)
  | 3 => ("MarkHouseModel", "out", "[I", true)
  | 4 => ("MarkHouseModel", "outs", "I", false)
  | 5 => ("MarkHouseModel", "some", "Z", false)
  | 6 => ("MarkHouseModel", "words", "[Ljava/lang/String;", true)
  | 7 => ("MarkHouseModel", "lexemes", "I", false)
  | 8 => ("MarkHouseModel", "sort", "[I", true)
  | 9 => ("MarkHouseModel", "at", "[I", true)
  | 10 => ("MarkHouseModel", "what", "[J", true)
  | 11 => ("MarkHouseModel", "faultKind", "I", false)
  | 12 => ("MarkHouseModel", "faultPlace", "I", false)
  | 13 => ("MarkHouseModel", "wrong", "Z", false)
  | 14 => ("MarkHouseModel", "there", "Z", false)
  | 15 => ("MarkHouseModel", "orders", "I", false)
  | 16 => ("MarkHouseModel", "oName", "[J", true)
  | 17 => ("MarkHouseModel", "oMany", "[I", true)
  | 18 => ("MarkHouseModel", "oElement", "[J", true)
  | 19 => ("MarkHouseModel", "isBelow", "[Z", true)
  | 20 => ("MarkHouseModel", "oJoin", "[I", true)
  | 21 => ("MarkHouseModel", "oMeet", "[I", true)
  | 22 => ("MarkHouseModel", "oTop", "[I", true)
  | 23 => ("MarkHouseModel", "oBottom", "[I", true)
  | 24 => ("MarkHouseModel", "kinds", "I", false)
  | 25 => ("MarkHouseModel", "kName", "[J", true)
  | 26 => ("MarkHouseModel", "kMembers", "[I", true)
  | 27 => ("MarkHouseModel", "memberName", "[J", true)
  | 28 => ("MarkHouseModel", "memberText", "[Z", true)
  | 29 => ("MarkHouseModel", "hasDefault", "[Z", true)
  | 30 => ("MarkHouseModel", "memberDefault", "[J", true)
  | 31 => ("MarkHouseModel", "kWhere", "[I", true)
  | 32 => ("MarkHouseModel", "kHeirs", "[Z", true)
  | 33 => ("MarkHouseModel", "kMany", "[Z", true)
  | 34 => ("MarkHouseModel", "makers", "I", false)
  | 35 => ("MarkHouseModel", "makerName", "[J", true)
  | 36 => ("MarkHouseModel", "makerKind", "[I", true)
  | 37 => ("MarkHouseModel", "classes", "I", false)
  | 38 => ("MarkHouseModel", "cName", "[J", true)
  | 39 => ("MarkHouseModel", "cParent", "[I", true)
  | 40 => ("MarkHouseModel", "cFields", "[I", true)
  | 41 => ("MarkHouseModel", "cMethods", "[I", true)
  | 42 => ("MarkHouseModel", "fName", "[J", true)
  | 43 => ("MarkHouseModel", "fValue", "[I", true)
  | 44 => ("MarkHouseModel", "mName", "[J", true)
  | 45 => ("MarkHouseModel", "mParameters", "[I", true)
  | 46 => ("MarkHouseModel", "mLocals", "[I", true)
  | 47 => ("MarkHouseModel", "local", "[J", true)
  | 48 => ("MarkHouseModel", "mActs", "[I", true)
  | 49 => ("MarkHouseModel", "op", "[I", true)
  | 50 => ("MarkHouseModel", "label", "[J", true)
  | 51 => ("MarkHouseModel", "act", "[I", true)
  | 52 => ("MarkHouseModel", "x", "[I", true)
  | 53 => ("MarkHouseModel", "y", "[I", true)
  | 54 => ("MarkHouseModel", "to", "[I", true)
  | 55 => ("MarkHouseModel", "nameAt", "[I", true)
  | 56 => ("MarkHouseModel", "labelAt", "[I", true)
  | 57 => ("MarkHouseModel", "told", "[I", true)
  | 58 => ("MarkHouseModel", "toldOrder", "[I", true)
  | 59 => ("MarkHouseModel", "toldElement", "[I", true)
  | 60 => ("MarkHouseModel", "marks", "[I", true)
  | 61 => ("MarkHouseModel", "markName", "[J", true)
  | 62 => ("MarkHouseModel", "isNo", "[Z", true)
  | 63 => ("MarkHouseModel", "pairs", "[I", true)
  | 64 => ("MarkHouseModel", "pairName", "[J", true)
  | 65 => ("MarkHouseModel", "pairSort", "[I", true)
  | 66 => ("MarkHouseModel", "pairValue", "[J", true)
  | 67 => ("MarkHouseModel", "here", "I", false)
  | 68 => ("MarkHouseModel", "value", "J", false)
  | 69 => ("MarkHouseModel", "named", "[I", true)
  | 70 => ("MarkHouseModel", "depth", "[I", true)
  | 71 => ("MarkHouseModel", "isOver", "[Z", true)
  | 72 => ("MarkHouseModel", "gives", "[I", true)
  | 73 => ("MarkHouseModel", "givesName", "J", false)
  | 74 => ("MarkHouseModel", "eMany", "I", false)
  | 75 => ("MarkHouseModel", "eMark", "[I", true)
  | 76 => ("MarkHouseModel", "ePlace", "I", false)
  | 77 => ("MarkHouseModel", "eSteps", "I", false)
  | 78 => ("MarkHouseModel", "eGiven", "Z", false)
  | 79 => ("MarkHouseModel", "mValue", "J", false)
  | 80 => ("MarkHouseModel", "fAt", "I", false)
  | 81 => ("MarkHouseModel", "fEnd", "I", false)
  | 82 => ("MarkHouseModel", "bad", "Z", false)
  | 83 => ("MarkHouseModel", "had", "[Z", true)
  | 84 => ("MarkHouseModel", "found", "[I", true)
  | 85 => ("MarkHouseModel", "mk", "[I", true)
  | 86 => ("MarkHouseModel", "isEffective", "[Z", true)
  | 87 => ("MarkHouseModel", "st", "[I", true)
  | 88 => ("MarkHouseModel", "come", "[Z", true)
  | 89 => ("MarkHouseModel", "now", "[I", true)
  | 90 => ("MarkHouseModel", "moved", "Z", false)
  | 91 => ("MarkHouseModel", "errors", "I", false)
  | 92 => ("MarkHouseModel", "eMethod", "[I", true)
  | 93 => ("MarkHouseModel", "eAct", "[I", true)
  | 94 => ("MarkHouseModel", "eParameter", "[I", true)
  | 95 => ("MarkHouseModel", "eComes", "[I", true)
  | 96 => ("MarkHouseModel", "eWanted", "[I", true)
  | 97 => ("MarkHouseModel", "flowing", "I", false)
  | 98 => ("MarkHouseModel", "sAct", "[I", true)
  | 99 => ("MarkHouseModel", "sFrom", "[I", true)
  | 100 => ("MarkHouseModel", "sState", "[I", true)
  | 101 => ("MarkHouseModel", "situations", "I", false)
  | 102 => ("MarkHouseModel", "ways", "I", false)
  | 103 => ("MarkHouseModel", "wayAct", "[I", true)
  | 104 => ("MarkHouseModel", "isOpen", "Z", false)
  | 105 => ("MarkHouseModel", "hit", "I", false)
  | 106 => ("MarkHouseModel", "isWoven", "Z", false)
  | 107 => ("MarkHouseModel", "check", "[I", true)
  | 108 => ("MarkHouseModel", "argument", "[I", true)
  | 109 => ("MarkHouseModel", "input", "[I", true)
  | 110 => ("MarkHouseModel", "inputs", "I", false)
  | 111 => ("MarkHouseModel", "running", "I", false)
  | 112 => ("MarkHouseModel", "byChecks", "Z", false)
  | 113 => ("MarkHouseModel", "frames", "I", false)
  | 114 => ("MarkHouseModel", "frMethod", "[I", true)
  | 115 => ("MarkHouseModel", "frAct", "[I", true)
  | 116 => ("MarkHouseModel", "frTop", "[I", true)
  | 117 => ("MarkHouseModel", "val", "[I", true)
  | 118 => ("MarkHouseModel", "el", "[I", true)
  | 119 => ("MarkHouseModel", "fieldNow", "[I", true)
  | 120 => ("MarkHouseModel", "fieldEl", "[I", true)
  | 121 => ("MarkHouseModel", "result", "I", false)
  | 122 => ("MarkHouseModel", "resultEl", "[I", true)
  | 123 => ("MarkHouseModel", "acts", "I", false)
  | 124 => ("MarkHouseModel", "lefts", "I", false)
  | 125 => ("MarkHouseModel", "leftMethod", "I", false)
  | 126 => ("MarkHouseModel", "leftAct", "I", false)
  | 127 => ("MarkHouseModel", "leftOrder", "I", false)
  | 128 => ("MarkHouseModel", "brokens", "I", false)
  | 129 => ("MarkHouseModel", "checksDone", "I", false)
  | 130 => ("MarkHouseModel", "isWired", "Z", false)
  | 131 => ("MarkHouseModel", "wireKind", "I", false)
  | 132 => ("MarkHouseModel", "wireField", "I", false)
  | 133 => ("MarkHouseModel", "wireClass", "I", false)
  | 134 => ("MarkHouseModel", "made", "I", false)
  | 135 => ("MarkHouseModel", "madeClass", "[I", true)
  | 136 => ("MarkHouseModel", "isMade", "[Z", true)
  | 137 => ("MarkHouseModel", "isMaking", "[Z", true)
  | 138 => ("MarkHouseModel", "isPart", "[Z", true)
  | _ => ("MarkHouseModel", "partLabel", "[J", true)
def tyX13 : Nat → FieldType := fun k => match k with
  | 0 => .int
  | 1 => .array .int
  | 2 => .int
  | 3 => .array .int
  | 4 => .int
  | 5 => .boolean
  | 6 => .array (.object "java/lang/String")
  | 7 => .int
  | 8 => .array .int
  | 9 => .array .int
  | 10 => .array .long
  | 11 => .int
  | 12 => .int
  | 13 => .boolean
  | 14 => .boolean
  | 15 => .int
  | 16 => .array .long
  | 17 => .array .int
  | 18 => .array .long
  | 19 => .array .boolean
  | 20 => .array .int
  | 21 => .array .int
  | 22 => .array .int
  | 23 => .array .int
  | 24 => .int
  | 25 => .array .long
  | 26 => .array .int
  | 27 => .array .long
  | 28 => .array .boolean
  | 29 => .array .boolean
  | 30 => .array .long
  | 31 => .array .int
  | 32 => .array .boolean
  | 33 => .array .boolean
  | 34 => .int
  | 35 => .array .long
  | 36 => .array .int
  | 37 => .int
  | 38 => .array .long
  | 39 => .array .int
  | 40 => .array .int
  | 41 => .array .int
  | 42 => .array .long
  | 43 => .array .int
  | 44 => .array .long
  | 45 => .array .int
  | 46 => .array .int
  | 47 => .array .long
  | 48 => .array .int
  | 49 => .array .int
  | 50 => .array .long
  | 51 => .array .int
  | 52 => .array .int
  | 53 => .array .int
  | 54 => .array .int
  | 55 => .array .int
  | 56 => .array .int
  | 57 => .array .int
  | 58 => .array .int
  | 59 => .array .int
  | 60 => .array .int
  | 61 => .array .long
  | 62 => .array .boolean
  | 63 => .array .int
  | 64 => .array .long
  | 65 => .array .int
  | 66 => .array .long
  | 67 => .int
  | 68 => .long
  | 69 => .array .int
  | 70 => .array .int
  | 71 => .array .boolean
  | 72 => .array .int
  | 73 => .long
  | 74 => .int
  | 75 => .array .int
  | 76 => .int
  | 77 => .int
  | 78 => .boolean
  | 79 => .long
  | 80 => .int
  | 81 => .int
  | 82 => .boolean
  | 83 => .array .boolean
  | 84 => .array .int
  | 85 => .array .int
  | 86 => .array .boolean
  | 87 => .array .int
  | 88 => .array .boolean
  | 89 => .array .int
  | 90 => .boolean
  | 91 => .int
  | 92 => .array .int
  | 93 => .array .int
  | 94 => .array .int
  | 95 => .array .int
  | 96 => .array .int
  | 97 => .int
  | 98 => .array .int
  | 99 => .array .int
  | 100 => .array .int
  | 101 => .int
  | 102 => .int
  | 103 => .array .int
  | 104 => .boolean
  | 105 => .int
  | 106 => .boolean
  | 107 => .array .int
  | 108 => .array .int
  | 109 => .array .int
  | 110 => .int
  | 111 => .int
  | 112 => .boolean
  | 113 => .int
  | 114 => .array .int
  | 115 => .array .int
  | 116 => .array .int
  | 117 => .array .int
  | 118 => .array .int
  | 119 => .array .int
  | 120 => .array .int
  | 121 => .int
  | 122 => .array .int
  | 123 => .int
  | 124 => .int
  | 125 => .int
  | 126 => .int
  | 127 => .int
  | 128 => .int
  | 129 => .int
  | 130 => .boolean
  | 131 => .int
  | 132 => .int
  | 133 => .int
  | 134 => .int
  | 135 => .array .int
  | 136 => .array .boolean
  | 137 => .array .boolean
  | 138 => .array .boolean
  | _ => .array .long
theorem nmX13 : ∀ a, a < 140 → ∀ b, b < 140 → a ≠ b → (TX13 a).2.1 ≠ (TX13 b).2.1 := by decide +kernel
theorem tyX13_ok : ∀ k, k < 140 → parseFieldDescriptor (TX13 k).2.2.1 = some (tyX13 k) := by decide +kernel
abbrev cX13_init : ByteArray := prog_15_method_1_code
def yX13_init : MethodName := ⟨RX13, "<init>", "()V"⟩
abbrev cX13_thrown : ByteArray := prog_15_method_2_code
def yX13_thrown : MethodName := ⟨RX13, "thrown", "()I"⟩
abbrev cX13_feed : ByteArray := prog_15_method_3_code
def yX13_feed : MethodName := ⟨RX13, "feed", "(IIIII)I"⟩
abbrev cX13_four : ByteArray := prog_15_method_4_code
def yX13_four : MethodName := ⟨RX13, "four", "(I)V"⟩
abbrev cX13_end : ByteArray := prog_15_method_5_code
def yX13_end : MethodName := ⟨RX13, "end", "(I)I"⟩
abbrev cX13_out : ByteArray := prog_15_method_6_code
def yX13_out : MethodName := ⟨RX13, "out", "(I)I"⟩
abbrev cX13_say : ByteArray := prog_15_method_7_code
def yX13_say : MethodName := ⟨RX13, "say", "(I)V"⟩
abbrev cX13_sayPacked : ByteArray := prog_15_method_8_code
def yX13_sayPacked : MethodName := ⟨RX13, "sayPacked", "(J)V"⟩
abbrev cX13_sizeOf : ByteArray := prog_15_method_9_code
def yX13_sizeOf : MethodName := ⟨RX13, "sizeOf", "(J)I"⟩
abbrev cX13_sayNumber : ByteArray := prog_15_method_10_code
def yX13_sayNumber : MethodName := ⟨RX13, "sayNumber", "(J)V"⟩
abbrev cX13_gap : ByteArray := prog_15_method_11_code
def yX13_gap : MethodName := ⟨RX13, "gap", "()V"⟩
abbrev cX13_sayWord : ByteArray := prog_15_method_12_code
def yX13_sayWord : MethodName := ⟨RX13, "sayWord", "(Ljava/lang/String;)V"⟩
abbrev cX13_sayName : ByteArray := prog_15_method_13_code
def yX13_sayName : MethodName := ⟨RX13, "sayName", "(J)V"⟩
abbrev cX13_sayWhole : ByteArray := prog_15_method_14_code
def yX13_sayWhole : MethodName := ⟨RX13, "sayWhole", "(J)V"⟩
abbrev cX13_sayInt : ByteArray := prog_15_method_15_code
def yX13_sayInt : MethodName := ⟨RX13, "sayInt", "(I)V"⟩
abbrev cX13_sayText : ByteArray := prog_15_method_16_code
def yX13_sayText : MethodName := ⟨RX13, "sayText", "(J)V"⟩
abbrev cX13_isLetter : ByteArray := prog_15_method_17_code
def yX13_isLetter : MethodName := ⟨RX13, "isLetter", "(I)Z"⟩
abbrev cX13_isDigit : ByteArray := prog_15_method_18_code
def yX13_isDigit : MethodName := ⟨RX13, "isDigit", "(I)Z"⟩
abbrev cX13_isSign : ByteArray := prog_15_method_19_code
def yX13_isSign : MethodName := ⟨RX13, "isSign", "(I)Z"⟩
abbrev cX13_fault : ByteArray := prog_15_method_20_code
def yX13_fault : MethodName := ⟨RX13, "fault", "(II)V"⟩
abbrev cX13_lexeme : ByteArray := prog_15_method_21_code
def yX13_lexeme : MethodName := ⟨RX13, "lexeme", "(IIJ)V"⟩
abbrev cX13_packed : ByteArray := prog_15_method_22_code
def yX13_packed : MethodName := ⟨RX13, "packed", "(Ljava/lang/String;)J"⟩
abbrev cX13_wordOf : ByteArray := prog_15_method_23_code
def yX13_wordOf : MethodName := ⟨RX13, "wordOf", "(J)I"⟩
abbrev cX13_cut : ByteArray := prog_15_method_24_code
def yX13_cut : MethodName := ⟨RX13, "cut", "(I)V"⟩
abbrev cX13_orderOf : ByteArray := prog_15_method_25_code
def yX13_orderOf : MethodName := ⟨RX13, "orderOf", "(J)I"⟩
abbrev cX13_kindOf : ByteArray := prog_15_method_26_code
def yX13_kindOf : MethodName := ⟨RX13, "kindOf", "(J)I"⟩
abbrev cX13_makerOf : ByteArray := prog_15_method_27_code
def yX13_makerOf : MethodName := ⟨RX13, "makerOf", "(J)I"⟩
abbrev cX13_classOf : ByteArray := prog_15_method_28_code
def yX13_classOf : MethodName := ⟨RX13, "classOf", "(J)I"⟩
abbrev cX13_isTaken : ByteArray := prog_15_method_29_code
def yX13_isTaken : MethodName := ⟨RX13, "isTaken", "(J)Z"⟩
abbrev cX13_elementOf : ByteArray := prog_15_method_30_code
def yX13_elementOf : MethodName := ⟨RX13, "elementOf", "(IJ)I"⟩
abbrev cX13_memberOf : ByteArray := prog_15_method_31_code
def yX13_memberOf : MethodName := ⟨RX13, "memberOf", "(IJ)I"⟩
abbrev cX13_isWord : ByteArray := prog_15_method_32_code
def yX13_isWord : MethodName := ⟨RX13, "isWord", "(I)Z"⟩
abbrev cX13_isSignHere : ByteArray := prog_15_method_33_code
def yX13_isSignHere : MethodName := ⟨RX13, "isSignHere", "(I)Z"⟩
abbrev cX13_mayWord : ByteArray := prog_15_method_34_code
def yX13_mayWord : MethodName := ⟨RX13, "mayWord", "(I)Z"⟩
abbrev cX13_maySign : ByteArray := prog_15_method_35_code
def yX13_maySign : MethodName := ⟨RX13, "maySign", "(I)Z"⟩
abbrev cX13_cant : ByteArray := prog_15_method_36_code
def yX13_cant : MethodName := ⟨RX13, "cant", "()V"⟩
abbrev cX13_wantSign : ByteArray := prog_15_method_37_code
def yX13_wantSign : MethodName := ⟨RX13, "wantSign", "(I)V"⟩
abbrev cX13_wantName : ByteArray := prog_15_method_38_code
def yX13_wantName : MethodName := ⟨RX13, "wantName", "()J"⟩
abbrev cX13_wantValue : ByteArray := prog_15_method_39_code
def yX13_wantValue : MethodName := ⟨RX13, "wantValue", "(ZZ)V"⟩
abbrev cX13_readProgram : ByteArray := prog_15_method_40_code
def yX13_readProgram : MethodName := ⟨RX13, "readProgram", "()V"⟩
abbrev cX13_newName : ByteArray := prog_15_method_41_code
def yX13_newName : MethodName := ⟨RX13, "newName", "(II)J"⟩
abbrev cX13_element : ByteArray := prog_15_method_42_code
def yX13_element : MethodName := ⟨RX13, "element", "(I)I"⟩
abbrev cX13_cell : ByteArray := prog_15_method_43_code
def yX13_cell : MethodName := ⟨RX13, "cell", "(III)I"⟩
abbrev cX13_readOrder : ByteArray := prog_15_method_44_code
def yX13_readOrder : MethodName := ⟨RX13, "readOrder", "()V"⟩
abbrev cX13_below : ByteArray := prog_15_method_45_code
def yX13_below : MethodName := ⟨RX13, "below", "(III)Z"⟩
abbrev cX13_least : ByteArray := prog_15_method_46_code
def yX13_least : MethodName := ⟨RX13, "least", "(IIIZ)I"⟩
abbrev cX13_isLattice : ByteArray := prog_15_method_47_code
def yX13_isLattice : MethodName := ⟨RX13, "isLattice", "(I)Z"⟩
abbrev cX13_join : ByteArray := prog_15_method_48_code
def yX13_join : MethodName := ⟨RX13, "join", "(III)I"⟩
abbrev cX13_meet : ByteArray := prog_15_method_49_code
def yX13_meet : MethodName := ⟨RX13, "meet", "(III)I"⟩
abbrev cX13_place : ByteArray := prog_15_method_50_code
def yX13_place : MethodName := ⟨RX13, "place", "(II)I"⟩
abbrev cX13_newMark : ByteArray := prog_15_method_51_code
def yX13_newMark : MethodName := ⟨RX13, "newMark", "(IJZ)V"⟩
abbrev cX13_newPair : ByteArray := prog_15_method_52_code
def yX13_newPair : MethodName := ⟨RX13, "newPair", "(IJIJ)V"⟩
abbrev cX13_hasName : ByteArray := prog_15_method_53_code
def yX13_hasName : MethodName := ⟨RX13, "hasName", "(IIJ)Z"⟩
abbrev cX13_readMarks : ByteArray := prog_15_method_54_code
def yX13_readMarks : MethodName := ⟨RX13, "readMarks", "(IIZZ)V"⟩
abbrev cX13_readMark : ByteArray := prog_15_method_55_code
def yX13_readMark : MethodName := ⟨RX13, "readMark", "(IIZ)V"⟩
abbrev cX13_readPairs : ByteArray := prog_15_method_56_code
def yX13_readPairs : MethodName := ⟨RX13, "readPairs", "(II)V"⟩
abbrev cX13_sortBit : ByteArray := prog_15_method_57_code
def yX13_sortBit : MethodName := ⟨RX13, "sortBit", "(I)I"⟩
abbrev cX13_readKind : ByteArray := prog_15_method_58_code
def yX13_readKind : MethodName := ⟨RX13, "readKind", "()V"⟩
abbrev cX13_readMember : ByteArray := prog_15_method_59_code
def yX13_readMember : MethodName := ⟨RX13, "readMember", "(I)V"⟩
abbrev cX13_readMaker : ByteArray := prog_15_method_60_code
def yX13_readMaker : MethodName := ⟨RX13, "readMaker", "()V"⟩
abbrev cX13_readClass : ByteArray := prog_15_method_61_code
def yX13_readClass : MethodName := ⟨RX13, "readClass", "()V"⟩
abbrev cX13_readField : ByteArray := prog_15_method_62_code
def yX13_readField : MethodName := ⟨RX13, "readField", "(I)V"⟩
abbrev cX13_readMethod : ByteArray := prog_15_method_63_code
def yX13_readMethod : MethodName := ⟨RX13, "readMethod", "(I)V"⟩
abbrev cX13_readParameter : ByteArray := prog_15_method_64_code
def yX13_readParameter : MethodName := ⟨RX13, "readParameter", "(II)V"⟩
abbrev cX13_localOf : ByteArray := prog_15_method_65_code
def yX13_localOf : MethodName := ⟨RX13, "localOf", "(IJ)I"⟩
abbrev cX13_readAct : ByteArray := prog_15_method_66_code
def yX13_readAct : MethodName := ⟨RX13, "readAct", "(I)V"⟩
abbrev cX13_parts : ByteArray := prog_15_method_67_code
def yX13_parts : MethodName := ⟨RX13, "parts", "(II)V"⟩
abbrev cX13_elementOfAct : ByteArray := prog_15_method_68_code
def yX13_elementOfAct : MethodName := ⟨RX13, "elementOfAct", "(I)V"⟩
abbrev cX13_toldMarks : ByteArray := prog_15_method_69_code
def yX13_toldMarks : MethodName := ⟨RX13, "toldMarks", "(I)V"⟩
abbrev cX13_slot : ByteArray := prog_15_method_70_code
def yX13_slot : MethodName := ⟨RX13, "slot", "(II)V"⟩
abbrev cX13_fieldOf : ByteArray := prog_15_method_71_code
def yX13_fieldOf : MethodName := ⟨RX13, "fieldOf", "(IJ)I"⟩
abbrev cX13_methodOf : ByteArray := prog_15_method_72_code
def yX13_methodOf : MethodName := ⟨RX13, "methodOf", "(IJ)I"⟩
abbrev cX13_findNames : ByteArray := prog_15_method_73_code
def yX13_findNames : MethodName := ⟨RX13, "findNames", "()V"⟩
abbrev cX13_isMethod : ByteArray := prog_15_method_74_code
def yX13_isMethod : MethodName := ⟨RX13, "isMethod", "(I)Z"⟩
abbrev cX13_findName : ByteArray := prog_15_method_75_code
def yX13_findName : MethodName := ⟨RX13, "findName", "(II)V"⟩
abbrev cX13_takes : ByteArray := prog_15_method_76_code
def yX13_takes : MethodName := ⟨RX13, "takes", "(I)I"⟩
abbrev cX13_gives : ByteArray := prog_15_method_77_code
def yX13_gives : MethodName := ⟨RX13, "gives", "(I)I"⟩
abbrev cX13_findDepths : ByteArray := prog_15_method_78_code
def yX13_findDepths : MethodName := ⟨RX13, "findDepths", "(I)V"⟩
abbrev cX13_leads : ByteArray := prog_15_method_79_code
def yX13_leads : MethodName := ⟨RX13, "leads", "(II)V"⟩
abbrev cX13_compile : ByteArray := prog_15_method_80_code
def yX13_compile : MethodName := ⟨RX13, "compile", "()I"⟩
abbrev cX13_fault_ : ByteArray := prog_15_method_81_code
def yX13_fault_ : MethodName := ⟨RX13, "fault", "(I)I"⟩
abbrev cX13_isClass : ByteArray := prog_15_method_82_code
def yX13_isClass : MethodName := ⟨RX13, "isClass", "(I)Z"⟩
abbrev cX13_isPlace : ByteArray := prog_15_method_83_code
def yX13_isPlace : MethodName := ⟨RX13, "isPlace", "(I)Z"⟩
abbrev cX13_sortOf : ByteArray := prog_15_method_84_code
def yX13_sortOf : MethodName := ⟨RX13, "sortOf", "(I)I"⟩
abbrev cX13_methodAt : ByteArray := prog_15_method_85_code
def yX13_methodAt : MethodName := ⟨RX13, "methodAt", "(I)I"⟩
abbrev cX13_placeOf : ByteArray := prog_15_method_86_code
def yX13_placeOf : MethodName := ⟨RX13, "placeOf", "(I)I"⟩
abbrev cX13_isMethodPlace : ByteArray := prog_15_method_87_code
def yX13_isMethodPlace : MethodName := ⟨RX13, "isMethodPlace", "(I)Z"⟩
abbrev cX13_isFlowing : ByteArray := prog_15_method_88_code
def yX13_isFlowing : MethodName := ⟨RX13, "isFlowing", "(I)Z"⟩
abbrev cX13_above : ByteArray := prog_15_method_89_code
def yX13_above : MethodName := ⟨RX13, "above", "(I)I"⟩
abbrev cX13_isKey : ByteArray := prog_15_method_90_code
def yX13_isKey : MethodName := ⟨RX13, "isKey", "(I)Z"⟩
abbrev cX13_nameOfKey : ByteArray := prog_15_method_91_code
def yX13_nameOfKey : MethodName := ⟨RX13, "nameOfKey", "(I)J"⟩
abbrev cX13_doesCount : ByteArray := prog_15_method_92_code
def yX13_doesCount : MethodName := ⟨RX13, "doesCount", "(II)Z"⟩
abbrev cX13_findGiven : ByteArray := prog_15_method_93_code
def yX13_findGiven : MethodName := ⟨RX13, "findGiven", "(J)V"⟩
abbrev cX13_givenBy : ByteArray := prog_15_method_94_code
def yX13_givenBy : MethodName := ⟨RX13, "givenBy", "(IIJ)I"⟩
abbrev cX13_effect : ByteArray := prog_15_method_95_code
def yX13_effect : MethodName := ⟨RX13, "effect", "(II)V"⟩
abbrev cX13_member : ByteArray := prog_15_method_96_code
def yX13_member : MethodName := ⟨RX13, "member", "(III)I"⟩
abbrev cX13_elementIn : ByteArray := prog_15_method_97_code
def yX13_elementIn : MethodName := ⟨RX13, "elementIn", "(II)I"⟩
abbrev cX13_elementThatCounts : ByteArray := prog_15_method_98_code
def yX13_elementThatCounts : MethodName := ⟨RX13, "elementThatCounts", "(II)I"⟩
abbrev cX13_isSame : ByteArray := prog_15_method_99_code
def yX13_isSame : MethodName := ⟨RX13, "isSame", "(III)Z"⟩
abbrev cX13_effective : ByteArray := prog_15_method_100_code
def yX13_effective : MethodName := ⟨RX13, "effective", "(II)I"⟩
abbrev cX13_whence : ByteArray := prog_15_method_101_code
def yX13_whence : MethodName := ⟨RX13, "whence", "(III)I"⟩
abbrev cX13_ask : ByteArray := prog_15_method_102_code
def yX13_ask : MethodName := ⟨RX13, "ask", "(IIII)I"⟩
abbrev cX13_mark : ByteArray := prog_15_method_103_code
def yX13_mark : MethodName := ⟨RX13, "mark", "(III)I"⟩
abbrev cX13_size : ByteArray := prog_15_method_104_code
def yX13_size : MethodName := ⟨RX13, "size", "(II)I"⟩
abbrev cX13_isOrder : ByteArray := prog_15_method_105_code
def yX13_isOrder : MethodName := ⟨RX13, "isOrder", "(I)Z"⟩
abbrev cX13_order : ByteArray := prog_15_method_106_code
def yX13_order : MethodName := ⟨RX13, "order", "(IIII)I"⟩
abbrev cX13_byteHere : ByteArray := prog_15_method_107_code
def yX13_byteHere : MethodName := ⟨RX13, "byteHere", "(II)I"⟩
abbrev cX13_fileName : ByteArray := prog_15_method_108_code
def yX13_fileName : MethodName := ⟨RX13, "fileName", "()J"⟩
abbrev cX13_fileText : ByteArray := prog_15_method_109_code
def yX13_fileText : MethodName := ⟨RX13, "fileText", "()J"⟩
abbrev cX13_filePair : ByteArray := prog_15_method_110_code
def yX13_filePair : MethodName := ⟨RX13, "filePair", "(I)V"⟩
abbrev cX13_give : ByteArray := prog_15_method_111_code
def yX13_give : MethodName := ⟨RX13, "give", "(I)I"⟩
abbrev cX13_copyMark : ByteArray := prog_15_method_112_code
def yX13_copyMark : MethodName := ⟨RX13, "copyMark", "(II)V"⟩
abbrev cX13_sayFileName : ByteArray := prog_15_method_113_code
def yX13_sayFileName : MethodName := ⟨RX13, "sayFileName", "(J)V"⟩
abbrev cX13_file : ByteArray := prog_15_method_114_code
def yX13_file : MethodName := ⟨RX13, "file", "(I)I"⟩
abbrev cX13_sayMark : ByteArray := prog_15_method_115_code
def yX13_sayMark : MethodName := ⟨RX13, "sayMark", "(I)V"⟩
abbrev cX13_hasPair : ByteArray := prog_15_method_116_code
def yX13_hasPair : MethodName := ⟨RX13, "hasPair", "(IJ)Z"⟩
abbrev cX13_isSound : ByteArray := prog_15_method_117_code
def yX13_isSound : MethodName := ⟨RX13, "isSound", "(I)Z"⟩
abbrev cX13_sayMarks : ByteArray := prog_15_method_118_code
def yX13_sayMarks : MethodName := ⟨RX13, "sayMarks", "(I)V"⟩
abbrev cX13_isNext : ByteArray := prog_15_method_119_code
def yX13_isNext : MethodName := ⟨RX13, "isNext", "(III)Z"⟩
abbrev cX13_tellOrder : ByteArray := prog_15_method_120_code
def yX13_tellOrder : MethodName := ⟨RX13, "tellOrder", "(I)V"⟩
abbrev cX13_tellKind : ByteArray := prog_15_method_121_code
def yX13_tellKind : MethodName := ⟨RX13, "tellKind", "(I)V"⟩
abbrev cX13_tellClass : ByteArray := prog_15_method_122_code
def yX13_tellClass : MethodName := ⟨RX13, "tellClass", "(I)V"⟩
abbrev cX13_sayAct : ByteArray := prog_15_method_123_code
def yX13_sayAct : MethodName := ⟨RX13, "sayAct", "(IIZZ)V"⟩
abbrev cX13_sayElement : ByteArray := prog_15_method_124_code
def yX13_sayElement : MethodName := ⟨RX13, "sayElement", "(II)V"⟩
abbrev cX13_tell : ByteArray := prog_15_method_125_code
def yX13_tell : MethodName := ⟨RX13, "tell", "()I"⟩
abbrev cX13_rounds : ByteArray := prog_15_method_126_code
def yX13_rounds : MethodName := ⟨RX13, "rounds", "()I"⟩
abbrev cX13_markNow : ByteArray := prog_15_method_127_code
def yX13_markNow : MethodName := ⟨RX13, "markNow", "(II)I"⟩
abbrev cX13_markOf : ByteArray := prog_15_method_128_code
def yX13_markOf : MethodName := ⟨RX13, "markOf", "(II)I"⟩
abbrev cX13_findMarks : ByteArray := prog_15_method_129_code
def yX13_findMarks : MethodName := ⟨RX13, "findMarks", "(I)V"⟩
abbrev cX13_fieldPlace : ByteArray := prog_15_method_130_code
def yX13_fieldPlace : MethodName := ⟨RX13, "fieldPlace", "(II)I"⟩
abbrev cX13_first : ByteArray := prog_15_method_131_code
def yX13_first : MethodName := ⟨RX13, "first", "(II)V"⟩
abbrev cX13_toldOf : ByteArray := prog_15_method_132_code
def yX13_toldOf : MethodName := ⟨RX13, "toldOf", "(II)I"⟩
abbrev cX13_does : ByteArray := prog_15_method_133_code
def yX13_does : MethodName := ⟨RX13, "does", "(II)V"⟩
abbrev cX13_comes : ByteArray := prog_15_method_134_code
def yX13_comes : MethodName := ⟨RX13, "comes", "(II)V"⟩
abbrev cX13_flowOf : ByteArray := prog_15_method_135_code
def yX13_flowOf : MethodName := ⟨RX13, "flowOf", "(II)V"⟩
abbrev cX13_wants : ByteArray := prog_15_method_136_code
def yX13_wants : MethodName := ⟨RX13, "wants", "(I)I"⟩
abbrev cX13_wantedAt : ByteArray := prog_15_method_137_code
def yX13_wantedAt : MethodName := ⟨RX13, "wantedAt", "(III)I"⟩
abbrev cX13_fromTop : ByteArray := prog_15_method_138_code
def yX13_fromTop : MethodName := ⟨RX13, "fromTop", "(II)I"⟩
abbrev cX13_flowAll : ByteArray := prog_15_method_139_code
def yX13_flowAll : MethodName := ⟨RX13, "flowAll", "(I)V"⟩
abbrev cX13_flow : ByteArray := prog_15_method_140_code
def yX13_flow : MethodName := ⟨RX13, "flow", "(I)I"⟩
abbrev cX13_error : ByteArray := prog_15_method_141_code
def yX13_error : MethodName := ⟨RX13, "error", "(II)I"⟩
abbrev cX13_state : ByteArray := prog_15_method_142_code
def yX13_state : MethodName := ⟨RX13, "state", "(III)I"⟩
abbrev cX13_meets : ByteArray := prog_15_method_143_code
def yX13_meets : MethodName := ⟨RX13, "meets", "(IIII)V"⟩
abbrev cX13_way : ByteArray := prog_15_method_144_code
def yX13_way : MethodName := ⟨RX13, "way", "(I)I"⟩
abbrev cX13_goes : ByteArray := prog_15_method_145_code
def yX13_goes : MethodName := ⟨RX13, "goes", "(IIIZ)V"⟩
abbrev cX13_step : ByteArray := prog_15_method_146_code
def yX13_step : MethodName := ⟨RX13, "step", "(I)I"⟩
abbrev cX13_find : ByteArray := prog_15_method_147_code
def yX13_find : MethodName := ⟨RX13, "find", "(I)I"⟩
abbrev cX13_plain : ByteArray := prog_15_method_148_code
def yX13_plain : MethodName := ⟨RX13, "plain", "(I)Z"⟩
abbrev cX13_changed : ByteArray := prog_15_method_149_code
def yX13_changed : MethodName := ⟨RX13, "changed", "()V"⟩
abbrev cX13_checkAt : ByteArray := prog_15_method_150_code
def yX13_checkAt : MethodName := ⟨RX13, "checkAt", "(III)I"⟩
abbrev cX13_weave : ByteArray := prog_15_method_151_code
def yX13_weave : MethodName := ⟨RX13, "weave", "()I"⟩
abbrev cX13_checksOf : ByteArray := prog_15_method_152_code
def yX13_checksOf : MethodName := ⟨RX13, "checksOf", "(I)I"⟩
abbrev cX13_numberOf : ByteArray := prog_15_method_153_code
def yX13_numberOf : MethodName := ⟨RX13, "numberOf", "(IIZ)I"⟩
abbrev cX13_code : ByteArray := prog_15_method_154_code
def yX13_code : MethodName := ⟨RX13, "code", "(IZ)I"⟩
abbrev cX13_argument : ByteArray := prog_15_method_155_code
def yX13_argument : MethodName := ⟨RX13, "argument", "(II)Z"⟩
abbrev cX13_input : ByteArray := prog_15_method_156_code
def yX13_input : MethodName := ⟨RX13, "input", "(I)I"⟩
abbrev cX13_frame : ByteArray := prog_15_method_157_code
def yX13_frame : MethodName := ⟨RX13, "frame", "(I)V"⟩
abbrev cX13_plain_ : ByteArray := prog_15_method_158_code
def yX13_plain_ : MethodName := ⟨RX13, "plain", "(II)V"⟩
abbrev cX13_copy : ByteArray := prog_15_method_159_code
def yX13_copy : MethodName := ⟨RX13, "copy", "(II)V"⟩
abbrev cX13_begin : ByteArray := prog_15_method_160_code
def yX13_begin : MethodName := ⟨RX13, "begin", "(IZ)V"⟩
abbrev cX13_go : ByteArray := prog_15_method_161_code
def yX13_go : MethodName := ⟨RX13, "go", "(I)I"⟩
abbrev cX13_passes : ByteArray := prog_15_method_162_code
def yX13_passes : MethodName := ⟨RX13, "passes", "(II)Z"⟩
abbrev cX13_leaves : ByteArray := prog_15_method_163_code
def yX13_leaves : MethodName := ⟨RX13, "leaves", "(II)V"⟩
abbrev cX13_perform : ByteArray := prog_15_method_164_code
def yX13_perform : MethodName := ⟨RX13, "perform", "(II)V"⟩
abbrev cX13_nextInput : ByteArray := prog_15_method_165_code
def yX13_nextInput : MethodName := ⟨RX13, "nextInput", "()I"⟩
abbrev cX13_calls : ByteArray := prog_15_method_166_code
def yX13_calls : MethodName := ⟨RX13, "calls", "(II)V"⟩
abbrev cX13_gives_ : ByteArray := prog_15_method_167_code
def yX13_gives_ : MethodName := ⟨RX13, "gives", "(II)V"⟩
abbrev cX13_run : ByteArray := prog_15_method_168_code
def yX13_run : MethodName := ⟨RX13, "run", "(I)I"⟩
abbrev cX13_truth : ByteArray := prog_15_method_169_code
def yX13_truth : MethodName := ⟨RX13, "truth", "(I)I"⟩
abbrev cX13_textOf : ByteArray := prog_15_method_170_code
def yX13_textOf : MethodName := ⟨RX13, "textOf", "(IIJ)J"⟩
abbrev cX13_hasText : ByteArray := prog_15_method_171_code
def yX13_hasText : MethodName := ⟨RX13, "hasText", "(IIJ)Z"⟩
abbrev cX13_isUnder : ByteArray := prog_15_method_172_code
def yX13_isUnder : MethodName := ⟨RX13, "isUnder", "(II)Z"⟩
abbrev cX13_wires : ByteArray := prog_15_method_173_code
def yX13_wires : MethodName := ⟨RX13, "wires", "(III)V"⟩
abbrev cX13_wire : ByteArray := prog_15_method_174_code
def yX13_wire : MethodName := ⟨RX13, "wire", "()I"⟩
abbrev cX13_make : ByteArray := prog_15_method_175_code
def yX13_make : MethodName := ⟨RX13, "make", "(I)V"⟩
abbrev cX13_wantsOf : ByteArray := prog_15_method_176_code
def yX13_wantsOf : MethodName := ⟨RX13, "wantsOf", "(II)V"⟩
abbrev cX13_wantsOne : ByteArray := prog_15_method_177_code
def yX13_wantsOne : MethodName := ⟨RX13, "wantsOne", "(IIII)V"⟩
abbrev cX13_wired : ByteArray := prog_15_method_178_code
def yX13_wired : MethodName := ⟨RX13, "wired", "(I)I"⟩
def RJ5 : String := "java/lang/AbstractStringBuilder"
def TJ5 : u_T := fun k => match k with
  | _ => ("", "", "", false)
def tyJ5 : Nat → FieldType := fun k => match k with
  | _ => .int
theorem nmJ5 : ∀ a, a < 0 → ∀ b, b < 0 → a ≠ b → (TJ5 a).2.1 ≠ (TJ5 b).2.1 := by decide +kernel
theorem tyJ5_ok : ∀ k, k < 0 → parseFieldDescriptor (TJ5 k).2.2.1 = some (tyJ5 k) := by decide +kernel
abbrev cJ5_init_d00df : ByteArray := prog_16_method_2_code
def yJ5_init_d00df : MethodName := ⟨RJ5, "<init>", "(I)V"⟩
abbrev cJ5_length_8abf5 : ByteArray := prog_16_method_6_code
def yJ5_length_8abf5 : MethodName := ⟨RJ5, "length", "()I"⟩
abbrev cJ5_ensureCapacityInternal_d00df : ByteArray := prog_16_method_9_code
def yJ5_ensureCapacityInternal_d00df : MethodName := ⟨RJ5, "ensureCapacityInternal", "(I)V"⟩
abbrev cJ5_newCapacity_0f7a4 : ByteArray := prog_16_method_10_code
def yJ5_newCapacity_0f7a4 : MethodName := ⟨RJ5, "newCapacity", "(I)I"⟩
abbrev cJ5_inflate_da8c8 : ByteArray := prog_16_method_11_code
def yJ5_inflate_da8c8 : MethodName := ⟨RJ5, "inflate", "()V"⟩
abbrev cJ5_append_cf1ce : ByteArray := prog_16_method_22_code
def yJ5_append_cf1ce : MethodName := ⟨RJ5, "append", "(Ljava/lang/String;)Ljava/lang/AbstractStringBuilder;"⟩
abbrev cJ5_appendNull_278bc : ByteArray := prog_16_method_26_code
def yJ5_appendNull_278bc : MethodName := ⟨RJ5, "appendNull", "()Ljava/lang/AbstractStringBuilder;"⟩
abbrev cJ5_append_c97b9 : ByteArray := prog_16_method_32_code
def yJ5_append_c97b9 : MethodName := ⟨RJ5, "append", "(I)Ljava/lang/AbstractStringBuilder;"⟩
abbrev cJ5_getValue_6d5f1 : ByteArray := prog_16_method_64_code
def yJ5_getValue_6d5f1 : MethodName := ⟨RJ5, "getValue", "()[B"⟩
abbrev cJ5_isLatin1_aae02 : ByteArray := prog_16_method_68_code
def yJ5_isLatin1_aae02 : MethodName := ⟨RJ5, "isLatin1", "()Z"⟩
abbrev cJ5_inflateIfNeededFor_a7421 : ByteArray := prog_16_method_71_code
def yJ5_inflateIfNeededFor_a7421 : MethodName := ⟨RJ5, "inflateIfNeededFor", "(Ljava/lang/String;)V"⟩
abbrev cJ5_putStringAt_47b60 : ByteArray := prog_16_method_73_code
def yJ5_putStringAt_47b60 : MethodName := ⟨RJ5, "putStringAt", "(ILjava/lang/String;)V"⟩
def RJ11 : String := "java/lang/Character"
def TJ11 : u_T := fun k => match k with
  | _ => ("", "", "", false)
def tyJ11 : Nat → FieldType := fun k => match k with
  | _ => .int
theorem nmJ11 : ∀ a, a < 0 → ∀ b, b < 0 → a ≠ b → (TJ11 a).2.1 ≠ (TJ11 b).2.1 := by decide +kernel
theorem tyJ11_ok : ∀ k, k < 0 → parseFieldDescriptor (TJ11 k).2.2.1 = some (tyJ11 k) := by decide +kernel
abbrev cJ11_isValidCodePoint_9a6ad : ByteArray := prog_17_method_11_code
def yJ11_isValidCodePoint_9a6ad : MethodName := ⟨RJ11, "isValidCodePoint", "(I)Z"⟩
abbrev cJ11_highSurrogate_5068e : ByteArray := prog_17_method_28_code
def yJ11_highSurrogate_5068e : MethodName := ⟨RJ11, "highSurrogate", "(I)C"⟩
abbrev cJ11_lowSurrogate_5068e : ByteArray := prog_17_method_29_code
def yJ11_lowSurrogate_5068e : MethodName := ⟨RJ11, "lowSurrogate", "(I)C"⟩
def RJx8e188 : String := "java/lang/Cloneable"
def TJx8e188 : u_T := fun k => match k with
  | _ => ("", "", "", false)
def tyJx8e188 : Nat → FieldType := fun k => match k with
  | _ => .int
theorem nmJx8e188 : ∀ a, a < 0 → ∀ b, b < 0 → a ≠ b → (TJx8e188 a).2.1 ≠ (TJx8e188 b).2.1 := by decide +kernel
theorem tyJx8e188_ok : ∀ k, k < 0 → parseFieldDescriptor (TJx8e188 k).2.2.1 = some (tyJx8e188 k) := by decide +kernel
def RJ6 : String := "java/lang/Integer"
def TJ6 : u_T := fun k => match k with
  | _ => ("", "", "", false)
def tyJ6 : Nat → FieldType := fun k => match k with
  | _ => .int
theorem nmJ6 : ∀ a, a < 0 → ∀ b, b < 0 → a ≠ b → (TJ6 a).2.1 ≠ (TJ6 b).2.1 := by decide +kernel
theorem tyJ6_ok : ∀ k, k < 0 → parseFieldDescriptor (TJ6 k).2.2.1 = some (tyJ6 k) := by decide +kernel
abbrev cJ6_getChars_ba4f3 : ByteArray := prog_22_method_12_code
def yJ6_getChars_ba4f3 : MethodName := ⟨RJ6, "getChars", "(II[B)I"⟩
abbrev cJ6_stringSize_0f7a4 : ByteArray := prog_22_method_13_code
def yJ6_stringSize_0f7a4 : MethodName := ⟨RJ6, "stringSize", "(I)I"⟩
abbrev cJ6_numberOfTrailingZeros_0f7a4 : ByteArray := prog_22_method_48_code
def yJ6_numberOfTrailingZeros_0f7a4 : MethodName := ⟨RJ6, "numberOfTrailingZeros", "(I)I"⟩
abbrev cJ6_bitCount_0f7a4 : ByteArray := prog_22_method_49_code
def yJ6_bitCount_0f7a4 : MethodName := ⟨RJ6, "bitCount", "(I)I"⟩
def RJ13 : String := "java/lang/Long"
def TJ13 : u_T := fun k => match k with
  | _ => ("", "", "", false)
def tyJ13 : Nat → FieldType := fun k => match k with
  | _ => .int
theorem nmJ13 : ∀ a, a < 0 → ∀ b, b < 0 → a ≠ b → (TJ13 a).2.1 ≠ (TJ13 b).2.1 := by decide +kernel
theorem tyJ13_ok : ∀ k, k < 0 → parseFieldDescriptor (TJ13 k).2.2.1 = some (tyJ13 k) := by decide +kernel
abbrev cJ13_numberOfTrailingZeros_95d88 : ByteArray := prog_23_method_49_code
def yJ13_numberOfTrailingZeros_95d88 : MethodName := ⟨RJ13, "numberOfTrailingZeros", "(J)I"⟩
def RJ9 : String := "java/lang/Math"
def TJ9 : u_T := fun k => match k with
  | _ => ("", "", "", false)
def tyJ9 : Nat → FieldType := fun k => match k with
  | _ => .int
theorem nmJ9 : ∀ a, a < 0 → ∀ b, b < 0 → a ≠ b → (TJ9 a).2.1 ≠ (TJ9 b).2.1 := by decide +kernel
theorem tyJ9_ok : ∀ k, k < 0 → parseFieldDescriptor (TJ9 k).2.2.1 = some (tyJ9 k) := by decide +kernel
abbrev cJ9_max_7cf53 : ByteArray := prog_24_method_65_code
def yJ9_max_7cf53 : MethodName := ⟨RJ9, "max", "(II)I"⟩
abbrev cJ9_min_7cf53 : ByteArray := prog_24_method_69_code
def yJ9_min_7cf53 : MethodName := ⟨RJ9, "min", "(II)I"⟩
def RJ0 : String := "java/lang/String"
def TJ0 : u_T := fun k => match k with
  | 0 => ("java/lang/String", "value", "[B", true)
  | 1 => ("java/lang/String", "coder", "B", true)
  | 2 => ("java/lang/String", "hash", "I", false)
  | _ => ("java/lang/String", "hashIsZero", "Z", false)
def tyJ0 : Nat → FieldType := fun k => match k with
  | 0 => .array .byte
  | 1 => .byte
  | 2 => .int
  | _ => .boolean
theorem nmJ0 : ∀ a, a < 4 → ∀ b, b < 4 → a ≠ b → (TJ0 a).2.1 ≠ (TJ0 b).2.1 := by decide +kernel
theorem tyJ0_ok : ∀ k, k < 4 → parseFieldDescriptor (TJ0 k).2.2.1 = some (tyJ0 k) := by decide +kernel
abbrev cJ0_init_81219 : ByteArray := prog_26_method_53_code
def yJ0_init_81219 : MethodName := ⟨RJ0, "<init>", "(Ljava/lang/StringBuilder;)V"⟩
abbrev cJ0_length_8abf5 : ByteArray := prog_26_method_54_code
def yJ0_length_8abf5 : MethodName := ⟨RJ0, "length", "()I"⟩
abbrev cJ0_charAt_5068e : ByteArray := prog_26_method_56_code
def yJ0_charAt_5068e : MethodName := ⟨RJ0, "charAt", "(I)C"⟩
abbrev cJ0_indexOf_0f7a4 : ByteArray := prog_26_method_79_code
def yJ0_indexOf_0f7a4 : MethodName := ⟨RJ0, "indexOf", "(I)I"⟩
abbrev cJ0_indexOf_7cf53 : ByteArray := prog_26_method_80_code
def yJ0_indexOf_7cf53 : MethodName := ⟨RJ0, "indexOf", "(II)I"⟩
abbrev cJ0_getBytes_840e7 : ByteArray := prog_26_method_147_code
def yJ0_getBytes_840e7 : MethodName := ⟨RJ0, "getBytes", "([BIB)V"⟩
abbrev cJ0_init_db425 : ByteArray := prog_26_method_150_code
def yJ0_init_db425 : MethodName := ⟨RJ0, "<init>", "(Ljava/lang/AbstractStringBuilder;Ljava/lang/Void;)V"⟩
abbrev cJ0_coder_7d493 : ByteArray := prog_26_method_152_code
def yJ0_coder_7d493 : MethodName := ⟨RJ0, "coder", "()B"⟩
abbrev cJ0_isLatin1_aae02 : ByteArray := prog_26_method_154_code
def yJ0_isLatin1_aae02 : MethodName := ⟨RJ0, "isLatin1", "()Z"⟩
abbrev cJ0_checkIndex_df160 : ByteArray := prog_26_method_155_code
def yJ0_checkIndex_df160 : MethodName := ⟨RJ0, "checkIndex", "(II)V"⟩
abbrev cJ0_checkBoundsOffCount_cabcc : ByteArray := prog_26_method_157_code
def yJ0_checkBoundsOffCount_cabcc : MethodName := ⟨RJ0, "checkBoundsOffCount", "(III)I"⟩
abbrev cJ0_checkBoundsBeginEnd_23922 : ByteArray := prog_26_method_158_code
def yJ0_checkBoundsBeginEnd_23922 : MethodName := ⟨RJ0, "checkBoundsBeginEnd", "(III)V"⟩
def RJ4 : String := "java/lang/StringBuilder"
def TJ4 : u_T := fun k => match k with
  | 0 => ("java/lang/AbstractStringBuilder", "value", "[B", false)
  | 1 => ("java/lang/AbstractStringBuilder", "coder", "B", false)
  | 2 => ("java/lang/AbstractStringBuilder", "maybeLatin1", "Z", false)
  | _ => ("java/lang/AbstractStringBuilder", "count", "I", false)
def tyJ4 : Nat → FieldType := fun k => match k with
  | 0 => .array .byte
  | 1 => .byte
  | 2 => .boolean
  | _ => .int
theorem nmJ4 : ∀ a, a < 4 → ∀ b, b < 4 → a ≠ b → (TJ4 a).2.1 ≠ (TJ4 b).2.1 := by decide +kernel
theorem tyJ4_ok : ∀ k, k < 4 → parseFieldDescriptor (TJ4 k).2.2.1 = some (tyJ4 k) := by decide +kernel
abbrev cJ4_init_da8c8 : ByteArray := prog_27_method_1_code
def yJ4_init_da8c8 : MethodName := ⟨RJ4, "<init>", "()V"⟩
abbrev cJ4_append_15ec4 : ByteArray := prog_27_method_7_code
def yJ4_append_15ec4 : MethodName := ⟨RJ4, "append", "(Ljava/lang/String;)Ljava/lang/StringBuilder;"⟩
abbrev cJ4_append_bf812 : ByteArray := prog_27_method_15_code
def yJ4_append_bf812 : MethodName := ⟨RJ4, "append", "(I)Ljava/lang/StringBuilder;"⟩
abbrev cJ4_toString_0e30d : ByteArray := prog_27_method_42_code
def yJ4_toString_0e30d : MethodName := ⟨RJ4, "toString", "()Ljava/lang/String;"⟩
abbrev cJ4_length_8abf5 : ByteArray := prog_27_method_93_code
def yJ4_length_8abf5 : MethodName := ⟨RJ4, "length", "()I"⟩
def RJ1 : String := "java/lang/StringLatin1"
def TJ1 : u_T := fun k => match k with
  | _ => ("", "", "", false)
def tyJ1 : Nat → FieldType := fun k => match k with
  | _ => .int
theorem nmJ1 : ∀ a, a < 0 → ∀ b, b < 0 → a ≠ b → (TJ1 a).2.1 ≠ (TJ1 b).2.1 := by decide +kernel
theorem tyJ1_ok : ∀ k, k < 0 → parseFieldDescriptor (TJ1 k).2.2.1 = some (tyJ1 k) := by decide +kernel
abbrev cJ1_charAt_3b067 : ByteArray := prog_28_method_2_code
def yJ1_charAt_3b067 : MethodName := ⟨RJ1, "charAt", "([BI)C"⟩
abbrev cJ1_canEncode_9a6ad : ByteArray := prog_28_method_4_code
def yJ1_canEncode_9a6ad : MethodName := ⟨RJ1, "canEncode", "(I)Z"⟩
abbrev cJ1_indexOf_4cfef : ByteArray := prog_28_method_22_code
def yJ1_indexOf_4cfef : MethodName := ⟨RJ1, "indexOf", "([BIII)I"⟩
abbrev cJ1_indexOfChar_4cfef : ByteArray := prog_28_method_23_code
def yJ1_indexOfChar_4cfef : MethodName := ⟨RJ1, "indexOfChar", "([BIII)I"⟩
abbrev cJ1_inflate_0e8fd : ByteArray := prog_28_method_50_code
def yJ1_inflate_0e8fd : MethodName := ⟨RJ1, "inflate", "([BI[BII)V"⟩
def RJ2 : String := "java/lang/StringUTF16"
def TJ2 : u_T := fun k => match k with
  | _ => ("", "", "", false)
def tyJ2 : Nat → FieldType := fun k => match k with
  | _ => .int
theorem nmJ2 : ∀ a, a < 0 → ∀ b, b < 0 → a ≠ b → (TJ2 a).2.1 ≠ (TJ2 b).2.1 := by decide +kernel
theorem tyJ2_ok : ∀ k, k < 0 → parseFieldDescriptor (TJ2 k).2.2.1 = some (tyJ2 k) := by decide +kernel
abbrev cJ2_newBytesFor_77867 : ByteArray := prog_29_method_2_code
def yJ2_newBytesFor_77867 : MethodName := ⟨RJ2, "newBytesFor", "(I)[B"⟩
abbrev cJ2_newBytesLength_0f7a4 : ByteArray := prog_29_method_3_code
def yJ2_newBytesLength_0f7a4 : MethodName := ⟨RJ2, "newBytesLength", "(I)I"⟩
abbrev cJ2_putChar_b72d1 : ByteArray := prog_29_method_4_code
def yJ2_putChar_b72d1 : MethodName := ⟨RJ2, "putChar", "([BII)V"⟩
abbrev cJ2_getChar_3b067 : ByteArray := prog_29_method_5_code
def yJ2_getChar_3b067 : MethodName := ⟨RJ2, "getChar", "([BI)C"⟩
abbrev cJ2_length_9d52b : ByteArray := prog_29_method_6_code
def yJ2_length_9d52b : MethodName := ⟨RJ2, "length", "([B)I"⟩
abbrev cJ2_coderFromArrayLen_85cad : ByteArray := prog_29_method_15_code
def yJ2_coderFromArrayLen_85cad : MethodName := ⟨RJ2, "coderFromArrayLen", "([BI)B"⟩
abbrev cJ2_compress_39247 : ByteArray := prog_29_method_17_code
def yJ2_compress_39247 : MethodName := ⟨RJ2, "compress", "([BII)[B"⟩
abbrev cJ2_compress_5af95 : ByteArray := prog_29_method_22_code
def yJ2_compress_5af95 : MethodName := ⟨RJ2, "compress", "([BI[BII)I"⟩
abbrev cJ2_indexOf_4cfef : ByteArray := prog_29_method_40_code
def yJ2_indexOf_4cfef : MethodName := ⟨RJ2, "indexOf", "([BIII)I"⟩
abbrev cJ2_indexOfChar_4cfef : ByteArray := prog_29_method_47_code
def yJ2_indexOfChar_4cfef : MethodName := ⟨RJ2, "indexOfChar", "([BIII)I"⟩
abbrev cJ2_indexOfCharUnsafe_4cfef : ByteArray := prog_29_method_48_code
def yJ2_indexOfCharUnsafe_4cfef : MethodName := ⟨RJ2, "indexOfCharUnsafe", "([BIII)I"⟩
abbrev cJ2_indexOfSupplementary_4cfef : ByteArray := prog_29_method_49_code
def yJ2_indexOfSupplementary_4cfef : MethodName := ⟨RJ2, "indexOfSupplementary", "([BIII)I"⟩
abbrev cJ2_getChars_46870 : ByteArray := prog_29_method_77_code
def yJ2_getChars_46870 : MethodName := ⟨RJ2, "getChars", "(III[B)I"⟩
abbrev cJ2_putCharsAt_cd4e5 : ByteArray := prog_29_method_81_code
def yJ2_putCharsAt_cd4e5 : MethodName := ⟨RJ2, "putCharsAt", "([BICCCC)I"⟩
abbrev cJ2_charAt_3b067 : ByteArray := prog_29_method_83_code
def yJ2_charAt_3b067 : MethodName := ⟨RJ2, "charAt", "([BI)C"⟩
abbrev cJ2_inflate_0e8fd : ByteArray := prog_29_method_86_code
def yJ2_inflate_0e8fd : MethodName := ⟨RJ2, "inflate", "([BI[BII)V"⟩
abbrev cJ2_getChars_ba4f3 : ByteArray := prog_29_method_89_code
def yJ2_getChars_ba4f3 : MethodName := ⟨RJ2, "getChars", "(II[B)I"⟩
abbrev cJ2_checkIndex_2214a : ByteArray := prog_29_method_91_code
def yJ2_checkIndex_2214a : MethodName := ⟨RJ2, "checkIndex", "(I[B)V"⟩
abbrev cJ2_checkBoundsBeginEnd_d044e : ByteArray := prog_29_method_93_code
def yJ2_checkBoundsBeginEnd_d044e : MethodName := ⟨RJ2, "checkBoundsBeginEnd", "(II[B)V"⟩
abbrev cJ2_checkBoundsOffCount_d044e : ByteArray := prog_29_method_94_code
def yJ2_checkBoundsOffCount_d044e : MethodName := ⟨RJ2, "checkBoundsOffCount", "(II[B)V"⟩
def RJ10 : String := "java/lang/System"
def TJ10 : u_T := fun k => match k with
  | _ => ("", "", "", false)
def tyJ10 : Nat → FieldType := fun k => match k with
  | _ => .int
theorem nmJ10 : ∀ a, a < 0 → ∀ b, b < 0 → a ≠ b → (TJ10 a).2.1 ≠ (TJ10 b).2.1 := by decide +kernel
theorem tyJ10_ok : ∀ k, k < 0 → parseFieldDescriptor (TJ10 k).2.2.1 = some (tyJ10 k) := by decide +kernel
def RJ7 : String := "java/util/Arrays"
def TJ7 : u_T := fun k => match k with
  | _ => ("", "", "", false)
def tyJ7 : Nat → FieldType := fun k => match k with
  | _ => .int
theorem nmJ7 : ∀ a, a < 0 → ∀ b, b < 0 → a ≠ b → (TJ7 a).2.1 ≠ (TJ7 b).2.1 := by decide +kernel
theorem tyJ7_ok : ∀ k, k < 0 → parseFieldDescriptor (TJ7 k).2.2.1 = some (tyJ7 k) := by decide +kernel
abbrev cJ7_rangeCheck_23922 : ByteArray := prog_32_method_30_code
def yJ7_rangeCheck_23922 : MethodName := ⟨RJ7, "rangeCheck", "(III)V"⟩
abbrev cJ7_fill_bad5a : ByteArray := prog_32_method_102_code
def yJ7_fill_bad5a : MethodName := ⟨RJ7, "fill", "([JIIJ)V"⟩
abbrev cJ7_fill_53178 : ByteArray := prog_32_method_103_code
def yJ7_fill_53178 : MethodName := ⟨RJ7, "fill", "([II)V"⟩
abbrev cJ7_fill_fda19 : ByteArray := prog_32_method_104_code
def yJ7_fill_fda19 : MethodName := ⟨RJ7, "fill", "([IIII)V"⟩
abbrev cJ7_copyOf_9075b : ByteArray := prog_32_method_121_code
def yJ7_copyOf_9075b : MethodName := ⟨RJ7, "copyOf", "([BI)[B"⟩
abbrev cJ7_checkLength_df160 : ByteArray := prog_32_method_131_code
def yJ7_checkLength_df160 : MethodName := ⟨RJ7, "checkLength", "(II)V"⟩
abbrev cJ7_copyOfRange_39247 : ByteArray := prog_32_method_132_code
def yJ7_copyOfRange_39247 : MethodName := ⟨RJ7, "copyOfRange", "([BII)[B"⟩
abbrev cJ7_copyOfRangeByte_39247 : ByteArray := prog_32_method_133_code
def yJ7_copyOfRangeByte_39247 : MethodName := ⟨RJ7, "copyOfRangeByte", "([BII)[B"⟩
def RJ8 : String := "jdk/internal/util/ArraysSupport"
def TJ8 : u_T := fun k => match k with
  | _ => ("", "", "", false)
def tyJ8 : Nat → FieldType := fun k => match k with
  | _ => .int
theorem nmJ8 : ∀ a, a < 0 → ∀ b, b < 0 → a ≠ b → (TJ8 a).2.1 ≠ (TJ8 b).2.1 := by decide +kernel
theorem tyJ8_ok : ∀ k, k < 0 → parseFieldDescriptor (TJ8 k).2.2.1 = some (tyJ8 k) := by decide +kernel
abbrev cJ8_newLength_cabcc : ByteArray := prog_34_method_27_code
def yJ8_newLength_cabcc : MethodName := ⟨RJ8, "newLength", "(III)I"⟩
abbrev cJ8_hugeLength_7cf53 : ByteArray := prog_34_method_28_code
def yJ8_hugeLength_7cf53 : MethodName := ⟨RJ8, "hugeLength", "(II)I"⟩
def RJ3 : String := "jdk/internal/util/Preconditions"
def TJ3 : u_T := fun k => match k with
  | _ => ("", "", "", false)
def tyJ3 : Nat → FieldType := fun k => match k with
  | _ => .int
theorem nmJ3 : ∀ a, a < 0 → ∀ b, b < 0 → a ≠ b → (TJ3 a).2.1 ≠ (TJ3 b).2.1 := by decide +kernel
theorem tyJ3_ok : ∀ k, k < 0 → parseFieldDescriptor (TJ3 k).2.2.1 = some (tyJ3 k) := by decide +kernel
abbrev cJ3_checkIndex_8e157 : ByteArray := prog_35_method_11_code
def yJ3_checkIndex_8e157 : MethodName := ⟨RJ3, "checkIndex", "(IILjava/util/function/BiFunction;)I"⟩
abbrev cJ3_checkFromToIndex_8c36e : ByteArray := prog_35_method_12_code
def yJ3_checkFromToIndex_8c36e : MethodName := ⟨RJ3, "checkFromToIndex", "(IIILjava/util/function/BiFunction;)I"⟩
abbrev cJ3_checkFromIndexSize_8c36e : ByteArray := prog_35_method_13_code
def yJ3_checkFromIndexSize_8c36e : MethodName := ⟨RJ3, "checkFromIndexSize", "(IIILjava/util/function/BiFunction;)I"⟩
def RL : String := "MarkHouseLaw"
abbrev cL_compile : ByteArray := method_3_code
def yL_compile : MethodName := ⟨RL, "compile", "(LMarkHouse;[J)I"⟩
abbrev cL_begin : ByteArray := method_4_code
def yL_begin : MethodName := ⟨RL, "begin", "(LMarkHouse;IZ)I"⟩
abbrev cL_go : ByteArray := method_5_code
def yL_go : MethodName := ⟨RL, "go", "(LMarkHouse;I[J)I"⟩
abbrev cL_law : ByteArray := code
def yL_law : MethodName := ⟨RL, "law", "([I)Z"⟩
abbrev vwCl : List vw_C := [(RJ0, TJ0, 4), (RJ4, TJ4, 4), (RX0, TX0, 20), (RX1, TX1, 8), (RX2, TX2, 10), (RX3, TX3, 17), (RX4, TX4, 10), (RX5, TX5, 14), (RX6, TX6, 9), (RX7, TX7, 15), (RX8, TX8, 12), (RX9, TX9, 15), (RX10, TX10, 7), (RX11, TX11, 10), (RX12, TX12, 10), (RX13, TX13, 140)]
end
section
/-! THE TABLES of the abstract machine: by wip/whole/gentab.py -/
def rx_B : Nat := 1000000
def rx_K (a : Nat) : Nat := rx_B + 2 * a
def rt_look {α : Type} : List (Nat × α) → Nat → Option α
  | [], _ => none
  | q :: r, i => match Nat.beq q.1 i with
    | true => some q.2
    | false => rt_look r i
theorem rt_look_mem {α : Type} {i : Nat} {x : α} : ∀ {l : List (Nat × α)}, rt_look l i = some x → (i, x) ∈ l
  | [], h => by cases h
  | q :: r, h => by
    unfold rt_look at h
    split at h
    · rename_i e
      cases h
      rw [← Nat.eq_of_beq_eq_true e]
      exact List.mem_cons_self
    · exact List.mem_cons_of_mem _ (rt_look_mem h)
def rt_nth {α : Type} : List α → Nat → Option α
  | [], _ => none
  | a :: _, 0 => some a
  | _ :: r, n + 1 => rt_nth r n
theorem rt_nth_mem {α : Type} {x : α} : ∀ {l : List α} {n : Nat}, rt_nth l n = some x → x ∈ l
  | [], _, h => by cases h
  | a :: r, 0, h => by cases h; exact List.mem_cons_self
  | a :: r, n + 1, h => List.mem_cons_of_mem _ (rt_nth_mem (l := r) h)
/-- fields read, fields written, calls, constants, classes made, arrays of references made, statics: by place of the class's pool -/
abbrev rt_C : Type := String × List (Nat × Nat × Nat) × List (Nat × Nat × Nat × FieldType × Bool) × List (Nat × Nat × Nat × Nat) × List (Nat × Value) × List (Nat × Nat × Nat × List Value) × List (Nat × Nat) × List (Nat × Option Value)
/-- the class's number, name, descriptor, bytes, locals, result, code by 32 places, throws, handlers, where they are -/
abbrev rt_M : Type := Nat × String × String × ByteArray × Nat × Option FieldType × List (Nat × List (Nat × Instr)) × List (Nat × String × Nat × Nat) × List (Nat × Nat × Nat × Nat) × List (Nat × String × Nat × Fin 4)
def rt_c0 : rt_C := ("MarkHouseLaw", [], [], [(7, 0, 59, 0), (15, 0, 84, 2), (23, 0, 85, 1), (27, 2, 55, 0), (30, 2, 91, 0), (31, 0, 56, 5), (35, 0, 93, 5), (36, 0, 57, 1), (39, 0, 95, 1), (40, 0, 58, 1), (43, 0, 96, 1), (44, 3, 16, 2), (49, 0, 106, 0), (50, 0, 92, 0), (53, 0, 60, 1), (56, 0, 107, 1), (57, 0, 61, 0), (60, 0, 123, 0), (61, 0, 62, 2), (65, 0, 118, 2), (66, 0, 63, 4), (70, 0, 120, 4), (71, 0, 64, 3), (75, 0, 117, 3), (76, 0, 65, 1), (79, 0, 121, 1), (80, 0, 66, 1), (83, 0, 122, 1), (84, 0, 67, 2), (87, 0, 114, 2), (88, 0, 68, 3), (91, 0, 115, 3), (92, 0, 69, 4), (95, 0, 116, 4), (96, 0, 71, 2), (99, 0, 125, 2), (100, 0, 72, 0), (103, 0, 124, 0), (104, 0, 73, 1), (107, 0, 126, 1), (108, 0, 74, 2), (111, 0, 127, 2), (112, 0, 75, 1), (115, 0, 129, 1), (116, 0, 76, 1), (119, 0, 130, 1), (120, 0, 77, 3), (123, 0, 128, 3), (124, 0, 78, 1), (127, 0, 131, 1), (128, 0, 79, 1), (132, 0, 132, 1), (133, 0, 80, 0), (136, 0, 134, 0), (137, 0, 81, 2), (141, 0, 135, 2), (142, 0, 82, 2), (146, 0, 136, 2), (147, 0, 83, 1), (150, 0, 137, 1), (151, 3, 17, 3), (154, 0, 139, 2), (155, 3, 18, 3), (158, 0, 140, 1), (159, 0, 86, 1), (162, 0, 141, 1), (163, 0, 87, 1), (166, 0, 142, 1), (167, 0, 88, 0), (170, 0, 143, 0), (171, 0, 89, 1), (174, 0, 144, 1)], [], [(8, 14, 10, [.null, .null, .null, .null, .null, .null, .null, .null, .null, .null]), (28, 15, 140, [.int 0, .null, .int 0, .null, .int 0, .int 0, .null, .int 0, .null, .null, .null, .int 0, .int 0, .int 0, .int 0, .int 0, .null, .null, .null, .null, .null, .null, .null, .null, .int 0, .null, .null, .null, .null, .null, .null, .null, .null, .null, .int 0, .null, .null, .int 0, .null, .null, .null, .null, .null, .null, .null, .null, .null, .null, .null, .null, .null, .null, .null, .null, .null, .null, .null, .null, .null, .null, .null, .null, .null, .null, .null, .null, .null, .int 0, .long 0, .null, .null, .null, .null, .long 0, .int 0, .null, .int 0, .int 0, .int 0, .long 0, .int 0, .int 0, .int 0, .null, .null, .null, .null, .null, .null, .null, .int 0, .int 0, .null, .null, .null, .null, .null, .int 0, .null, .null, .null, .int 0, .int 0, .null, .int 0, .int 0, .int 0, .null, .null, .null, .int 0, .int 0, .int 0, .int 0, .null, .null, .null, .null, .null, .null, .null, .int 0, .null, .int 0, .int 0, .int 0, .int 0, .int 0, .int 0, .int 0, .int 0, .int 0, .int 0, .int 0, .int 0, .null, .null, .null, .null, .null])], [], [])
def rt_c1 : rt_C := ("MarkHouse$Code", [(15, 2, 2), (46, 2, 13), (67, 2, 0), (71, 2, 7), (81, 9, 0), (87, 9, 10), (90, 9, 11), (93, 9, 14)], [(9, 2, 1, .array .long, true), (15, 2, 2, .array .int, true), (19, 2, 3, .array .int, true), (22, 2, 4, .array .long, true), (25, 2, 5, .array .int, true), (28, 2, 6, .array .int, true), (31, 2, 8, .array .int, true), (34, 2, 9, .array .int, true), (37, 2, 10, .array .int, true), (40, 2, 11, .array .int, true), (43, 2, 12, .array .int, true), (46, 2, 13, .array .int, true), (49, 2, 14, .array .long, true), (52, 2, 15, .array .long, true), (55, 2, 16, .array .long, true), (58, 2, 17, .array .int, true), (61, 2, 18, .array .int, true), (64, 2, 19, .array .int, true), (67, 2, 0, .object "MarkHouse$Program", true)], [(3, 6, 0, 0), (75, 1, 154, 4), (96, 0, 22, 1)], [], [], [], [])
def rt_c2 : rt_C := ("MarkHouse$Cutter", [(9, 3, 0), (15, 3, 2), (19, 3, 3), (26, 3, 5), (41, 3, 1), (44, 3, 7), (47, 3, 6)], [(9, 3, 0, .array .byte, true), (15, 3, 2, .array .int, true), (19, 3, 3, .array .int, true), (22, 3, 4, .array .long, true), (26, 3, 5, .array .long, true), (41, 3, 1, .int, false), (44, 3, 7, .int, false), (47, 3, 6, .int, false)], [(3, 6, 0, 0), (31, 0, 145, 0), (37, 0, 146, 1), (50, 0, 26, 0)], [(29, .ref (rx_K 0))], [], [], [])
def rt_c3 : rt_C := ("MarkHouse$Effects", [], [(9, 4, 6, .array .int, true), (15, 4, 7, .array .int, true), (18, 4, 9, .array .int, true), (21, 4, 0, .object "MarkHouse$Program", true), (25, 4, 1, .object "MarkHouse$Code", true), (29, 4, 2, .object "MarkHouse$Marks", true)], [(3, 6, 0, 0)], [], [], [], [])
def rt_c4 : rt_C := ("MarkHouse$Flow", [(9, 5, 3), (53, 5, 6)], [(9, 5, 3, .int, false), (15, 5, 4, .array .long, true), (19, 5, 5, .array .int, true), (23, 5, 7, .array .int, true), (26, 5, 8, .array .long, true), (29, 5, 9, .array .int, true), (32, 5, 10, .array .int, true), (35, 5, 11, .array .int, true), (38, 5, 15, .array .int, true), (41, 5, 0, .object "MarkHouse$Program", true), (45, 5, 1, .object "MarkHouse$Code", true), (49, 5, 2, .object "MarkHouse$Effects", true), (53, 5, 6, .int, false), (56, 5, 16, .int, false)], [(3, 6, 0, 0)], [], [], [], [])
def rt_c5 : rt_C := ("MarkHouse$Kind", [], [(9, 6, 2, .array .long, true), (15, 6, 3, .array .int, true), (19, 6, 4, .array .boolean, true), (23, 6, 5, .array .long, true), (26, 6, 9, .array .int, true)], [(3, 6, 0, 0)], [], [], [], [])
def rt_c6 : rt_C := ("MarkHouse$Marks", [(45, 7, 10)], [(9, 7, 0, .array .long, true), (15, 7, 1, .array .int, true), (19, 7, 2, .array .int, true), (22, 7, 3, .array .boolean, true), (26, 7, 4, .array .int, true), (29, 7, 5, .array .long, true), (32, 7, 6, .array .byte, true), (36, 7, 7, .array .long, true), (39, 7, 8, .array .int, true), (42, 7, 9, .array .int, true), (45, 7, 10, .array .int, true), (48, 7, 12, .int, false), (52, 7, 11, .int, false), (55, 7, 13, .int, false)], [(3, 6, 0, 0), (58, 1, 153, 2)], [], [], [], [])
def rt_c7 : rt_C := ("MarkHouse$Order", [], [(9, 8, 4, .array .long, true), (15, 8, 5, .array .int, true), (19, 8, 6, .array .int, true), (22, 8, 7, .array .int, true), (25, 8, 8, .array .int, true)], [(3, 6, 0, 0)], [], [], [], [])
def rt_c8 : rt_C := ("MarkHouse$Program", [(11, 9, 1), (19, 9, 3), (51, 9, 0), (55, 9, 2), (59, 9, 4)], [(11, 9, 1, .array (.object "MarkHouse$Order"), true), (19, 9, 3, .array (.object "MarkHouse$Kind"), true), (23, 9, 5, .array .long, true), (27, 9, 6, .array .int, true), (31, 9, 8, .array .long, true), (34, 9, 9, .array .int, true), (37, 9, 11, .array .int, true), (40, 9, 12, .array .long, true), (43, 9, 13, .array .int, true), (46, 9, 14, .array .int, true), (51, 9, 0, .boolean, false), (55, 9, 2, .int, false), (59, 9, 4, .int, false), (62, 9, 7, .int, false), (65, 9, 10, .int, false)], [(3, 6, 0, 0), (49, 12, 34, 0), (50, 12, 31, 0), (68, 0, 37, 1)], [], [(9, 8, 9, [.long 0, .int 0, .int 0, .int 0, .null, .null, .null, .null, .null]), (17, 6, 10, [.long 0, .int 0, .null, .null, .null, .null, .int 0, .int 0, .int 0, .null])], [(9, 4), (17, 5)], [])
def rt_c9 : rt_C := ("MarkHouse$Reader", [(9, 10, 0), (15, 10, 1), (19, 10, 2), (23, 10, 3), (49, 10, 7), (72, 3, 3), (76, 3, 2), (118, 9, 10)], [(9, 10, 0, .object "MarkHouse$Cutter", true), (15, 10, 1, .object "MarkHouse$Program", true), (19, 10, 2, .object "MarkHouse$Code", true), (23, 10, 3, .object "MarkHouse$Marks", true), (32, 2, 7, .int, false), (43, 10, 4, .int, false), (46, 10, 5, .int, false), (49, 10, 7, .int, false), (58, 3, 1, .int, false)], [(3, 6, 0, 0), (27, 0, 36, 0), (38, 0, 33, 0), (52, 0, 25, 0), (61, 0, 41, 2), (79, 0, 42, 0), (82, 0, 43, 0)], [(67, .ref (rx_K 1))], [], [], [])
def rt_c10 : rt_C := ("MarkHouse$Run", [(15, 11, 4), (18, 11, 6), (21, 11, 7), (24, 11, 8), (38, 11, 1), (46, 11, 5), (99, 11, 10)], [(9, 11, 3, .array .int, true), (15, 11, 4, .array .int, true), (18, 11, 6, .array .int, true), (21, 11, 7, .array .int, true), (24, 11, 8, .array .int, true), (27, 11, 9, .array .long, true), (31, 11, 11, .array .long, true), (34, 11, 0, .object "MarkHouse$Program", true), (38, 11, 1, .object "MarkHouse$Code", true), (42, 11, 2, .object "MarkHouse$Effects", true), (46, 11, 5, .int, false)], [(3, 6, 0, 0), (56, 1, 153, 2), (62, 1, 154, 4), (114, 0, 49, 0)], [], [], [], [])
def rt_c11 : rt_C := ("MarkHouse$Teller", [], [(9, 12, 0, .array .byte, true), (15, 12, 2, .array .long, true), (19, 12, 3, .object "MarkHouse$Program", true), (23, 12, 4, .object "MarkHouse$Code", true), (27, 12, 5, .object "MarkHouse$Marks", true), (31, 12, 6, .object "MarkHouse$Effects", true)], [(3, 6, 0, 0)], [], [], [], [])
def rt_c12 : rt_C := ("MarkHouse$Wiring", [(23, 13, 6), (26, 13, 8), (30, 13, 9), (45, 13, 7)], [(9, 13, 3, .array .boolean, true), (15, 13, 4, .array .long, true), (19, 13, 5, .array .int, true), (23, 13, 6, .array .int, true), (26, 13, 8, .int, false), (30, 13, 9, .int, false), (33, 13, 0, .object "MarkHouse$Program", true), (37, 13, 1, .object "MarkHouse$Marks", true), (41, 13, 2, .object "MarkHouse$Effects", true), (45, 13, 7, .int, false)], [(3, 6, 0, 0)], [], [], [], [])
def rt_c13 : rt_C := ("MarkHouse", [(12, 14, 0), (19, 14, 1), (28, 14, 2), (35, 14, 3), (44, 14, 4), (53, 14, 5), (62, 14, 6), (69, 14, 7), (78, 14, 8), (84, 3, 5), (91, 14, 9), (95, 3, 1), (103, 12, 1), (104, 12, 0), (126, 9, 0), (133, 9, 10), (136, 10, 4), (139, 10, 5), (150, 7, 10), (174, 9, 1), (178, 8, 1), (195, 7, 1), (198, 7, 3), (205, 7, 2), (212, 10, 6), (215, 3, 0), (236, 4, 3), (239, 4, 4), (242, 4, 5), (255, 9, 3), (259, 6, 1), (281, 5, 16), (284, 5, 6), (296, 5, 15), (299, 5, 3), (313, 8, 2), (322, 9, 2), (332, 11, 3)], [(12, 14, 0, .object "MarkHouse$Cutter", true), (19, 14, 1, .object "MarkHouse$Program", true), (28, 14, 2, .object "MarkHouse$Code", true), (35, 14, 3, .object "MarkHouse$Marks", true), (44, 14, 4, .object "MarkHouse$Reader", true), (53, 14, 5, .object "MarkHouse$Effects", true), (62, 14, 6, .object "MarkHouse$Flow", true), (69, 14, 7, .object "MarkHouse$Run", true), (78, 14, 8, .object "MarkHouse$Wiring", true), (91, 14, 9, .object "MarkHouse$Teller", true), (95, 3, 1, .int, false), (126, 9, 0, .boolean, false), (281, 5, 16, .int, false)], [(3, 6, 0, 0), (11, 2, 23, 0), (18, 2, 35, 0), (25, 2, 19, 1), (34, 12, 32, 0), (41, 2, 39, 4), (50, 2, 27, 3), (59, 2, 28, 3), (68, 2, 46, 3), (75, 2, 52, 3), (88, 2, 51, 5), (99, 0, 24, 1), (108, 0, 90, 0), (111, 0, 40, 0), (114, 0, 44, 0), (117, 0, 45, 0), (146, 0, 21, 1), (154, 0, 22, 1), (170, 0, 37, 1), (230, 0, 70, 2), (266, 0, 38, 1), (287, 0, 30, 1), (312, 0, 29, 0), (319, 0, 20, 0), (335, 0, 47, 1), (359, 0, 49, 0), (368, 0, 50, 1), (377, 0, 54, 1), (380, 0, 48, 0), (383, 0, 53, 0)], [], [(9, 3, 8, [.null, .int 0, .null, .null, .null, .null, .int 0, .int 0]), (16, 9, 15, [.int 0, .null, .int 0, .null, .int 0, .null, .null, .int 0, .null, .null, .int 0, .null, .null, .null, .null]), (23, 2, 20, [.null, .null, .null, .null, .null, .null, .null, .int 0, .null, .null, .null, .null, .null, .null, .null, .null, .null, .null, .null, .null]), (32, 7, 14, [.null, .null, .null, .null, .null, .null, .null, .null, .null, .null, .null, .int 0, .int 0, .int 0]), (39, 10, 12, [.null, .null, .null, .null, .int 0, .int 0, .int 0, .int 0, .int 0, .int 0, .int 0, .int 0]), (48, 4, 10, [.null, .null, .null, .int 0, .int 0, .int 0, .null, .null, .int 0, .null]), (57, 5, 17, [.null, .null, .null, .int 0, .null, .null, .int 0, .null, .null, .null, .null, .null, .int 0, .int 0, .int 0, .null, .int 0]), (66, 11, 15, [.null, .null, .null, .null, .null, .int 0, .null, .null, .null, .null, .int 0, .null, .int 0, .long 0, .long 0]), (73, 13, 10, [.null, .null, .null, .null, .null, .null, .null, .int 0, .int 0, .int 0]), (82, 12, 7, [.null, .int 0, .null, .null, .null, .null, .null])], [], [])
def rt_c14 : rt_C := ("MarkHouseModel", [(9, 15, 1), (13, 15, 3), (84, 15, 8), (87, 15, 9), (90, 15, 10), (97, 15, 17), (100, 15, 18), (113, 15, 22), (116, 15, 23), (119, 15, 25), (122, 15, 26), (146, 15, 35), (149, 15, 36), (158, 15, 40), (161, 15, 41), (167, 15, 43), (173, 15, 45), (176, 15, 46), (182, 15, 48), (185, 15, 49), (200, 15, 54), (218, 15, 60), (221, 15, 61), (224, 15, 62), (227, 15, 63), (231, 15, 64), (234, 15, 65), (237, 15, 66), (243, 15, 70), (252, 15, 75), (255, 15, 83), (258, 15, 84), (264, 15, 86), (268, 15, 87), (271, 15, 88), (277, 15, 92), (280, 15, 93), (283, 15, 94), (286, 15, 95), (289, 15, 96), (292, 15, 97), (296, 15, 98), (299, 15, 99), (305, 15, 103), (308, 15, 107), (311, 15, 108), (314, 15, 109), (317, 15, 114), (320, 15, 115), (326, 15, 117), (329, 15, 118), (332, 15, 119), (335, 15, 120), (338, 15, 122), (341, 15, 135), (344, 15, 136), (347, 15, 137), (350, 15, 138), (353, 15, 139), (356, 15, 0), (359, 15, 2), (366, 15, 4), (409, 15, 13), (412, 15, 11), (415, 15, 12), (418, 15, 7), (447, 15, 15), (450, 15, 24), (453, 15, 34), (456, 15, 37), (471, 15, 67), (634, 15, 14), (678, 15, 74), (681, 15, 77), (684, 15, 78), (687, 15, 76), (697, 15, 79), (733, 15, 82), (736, 15, 80), (739, 15, 81), (859, 15, 91), (874, 15, 102), (877, 15, 101), (880, 15, 104), (883, 15, 105), (894, 15, 106), (897, 15, 111), (900, 15, 130), (910, 15, 110), (913, 15, 113), (919, 15, 112), (922, 15, 121), (925, 15, 123), (928, 15, 124), (931, 15, 125), (934, 15, 126), (937, 15, 127), (940, 15, 128), (943, 15, 129), (969, 15, 131), (972, 15, 132), (975, 15, 133), (978, 15, 134)], [(9, 15, 1, .array .int, true), (13, 15, 3, .array .int, true), (80, 15, 6, .array (.object "java/lang/String"), true), (84, 15, 8, .array .int, true), (87, 15, 9, .array .int, true), (90, 15, 10, .array .long, true), (94, 15, 16, .array .long, true), (97, 15, 17, .array .int, true), (100, 15, 18, .array .long, true), (103, 15, 19, .array .boolean, true), (107, 15, 20, .array .int, true), (110, 15, 21, .array .int, true), (113, 15, 22, .array .int, true), (116, 15, 23, .array .int, true), (119, 15, 25, .array .long, true), (122, 15, 26, .array .int, true), (125, 15, 27, .array .long, true), (128, 15, 28, .array .boolean, true), (131, 15, 29, .array .boolean, true), (134, 15, 30, .array .long, true), (137, 15, 31, .array .int, true), (140, 15, 32, .array .boolean, true), (143, 15, 33, .array .boolean, true), (146, 15, 35, .array .long, true), (149, 15, 36, .array .int, true), (152, 15, 38, .array .long, true), (155, 15, 39, .array .int, true), (158, 15, 40, .array .int, true), (161, 15, 41, .array .int, true), (164, 15, 42, .array .long, true), (167, 15, 43, .array .int, true), (170, 15, 44, .array .long, true), (173, 15, 45, .array .int, true), (176, 15, 46, .array .int, true), (179, 15, 47, .array .long, true), (182, 15, 48, .array .int, true), (185, 15, 49, .array .int, true), (188, 15, 50, .array .long, true), (191, 15, 51, .array .int, true), (194, 15, 52, .array .int, true), (197, 15, 53, .array .int, true), (200, 15, 54, .array .int, true), (203, 15, 55, .array .int, true), (206, 15, 56, .array .int, true), (209, 15, 57, .array .int, true), (212, 15, 58, .array .int, true), (215, 15, 59, .array .int, true), (218, 15, 60, .array .int, true), (221, 15, 61, .array .long, true), (224, 15, 62, .array .boolean, true), (227, 15, 63, .array .int, true), (231, 15, 64, .array .long, true), (234, 15, 65, .array .int, true), (237, 15, 66, .array .long, true), (240, 15, 69, .array .int, true), (243, 15, 70, .array .int, true), (246, 15, 71, .array .boolean, true), (249, 15, 72, .array .int, true), (252, 15, 75, .array .int, true), (255, 15, 83, .array .boolean, true), (258, 15, 84, .array .int, true), (261, 15, 85, .array .int, true), (264, 15, 86, .array .boolean, true), (268, 15, 87, .array .int, true), (271, 15, 88, .array .boolean, true), (274, 15, 89, .array .int, true), (277, 15, 92, .array .int, true), (280, 15, 93, .array .int, true), (283, 15, 94, .array .int, true), (286, 15, 95, .array .int, true), (289, 15, 96, .array .int, true), (292, 15, 97, .int, false), (296, 15, 98, .array .int, true), (299, 15, 99, .array .int, true), (302, 15, 100, .array .int, true), (305, 15, 103, .array .int, true), (308, 15, 107, .array .int, true), (311, 15, 108, .array .int, true), (314, 15, 109, .array .int, true), (317, 15, 114, .array .int, true), (320, 15, 115, .array .int, true), (323, 15, 116, .array .int, true), (326, 15, 117, .array .int, true), (329, 15, 118, .array .int, true), (332, 15, 119, .array .int, true), (335, 15, 120, .array .int, true), (338, 15, 122, .array .int, true), (341, 15, 135, .array .int, true), (344, 15, 136, .array .boolean, true), (347, 15, 137, .array .boolean, true), (350, 15, 138, .array .boolean, true), (353, 15, 139, .array .long, true), (356, 15, 0, .int, false), (359, 15, 2, .int, false), (366, 15, 4, .int, false), (378, 15, 5, .boolean, false), (409, 15, 13, .boolean, false), (412, 15, 11, .int, false), (415, 15, 12, .int, false), (418, 15, 7, .int, false), (447, 15, 15, .int, false), (450, 15, 24, .int, false), (453, 15, 34, .int, false), (456, 15, 37, .int, false), (471, 15, 67, .int, false), (634, 15, 14, .boolean, false), (733, 15, 82, .boolean, false), (736, 15, 80, .int, false), (739, 15, 81, .int, false), (874, 15, 102, .int, false), (877, 15, 101, .int, false), (880, 15, 104, .boolean, false), (883, 15, 105, .int, false), (894, 15, 106, .boolean, false), (897, 15, 111, .int, false), (900, 15, 130, .boolean, false), (910, 15, 110, .int, false), (913, 15, 113, .int, false), (919, 15, 112, .boolean, false), (922, 15, 121, .int, false), (925, 15, 123, .int, false), (928, 15, 124, .int, false), (931, 15, 125, .int, false), (934, 15, 126, .int, false), (937, 15, 127, .int, false), (940, 15, 128, .int, false), (943, 15, 129, .int, false), (969, 15, 131, .int, false), (972, 15, 132, .int, false), (975, 15, 133, .int, false), (978, 15, 134, .int, false)], [(3, 6, 0, 0), (362, 0, 94, 1), (432, 0, 97, 2), (440, 0, 98, 3), (474, 0, 100, 1), (480, 0, 103, 0), (490, 0, 102, 1), (614, 0, 105, 1), (637, 0, 133, 0), (640, 0, 99, 1), (643, 0, 104, 0), (652, 0, 109, 1), (655, 1, 110, 1), (709, 0, 113, 1), (718, 0, 108, 1), (721, 0, 111, 1), (724, 0, 119, 1), (829, 0, 112, 1)], [(18, .ref (rx_K 2)), (20, .ref (rx_K 3)), (22, .ref (rx_K 4)), (24, .ref (rx_K 5)), (26, .ref (rx_K 6)), (28, .ref (rx_K 7)), (30, .ref (rx_K 8)), (32, .ref (rx_K 9)), (34, .ref (rx_K 10)), (36, .ref (rx_K 11)), (38, .ref (rx_K 12)), (40, .ref (rx_K 13)), (42, .ref (rx_K 14)), (44, .ref (rx_K 15)), (46, .ref (rx_K 16)), (48, .ref (rx_K 17)), (50, .ref (rx_K 18)), (52, .ref (rx_K 19)), (54, .ref (rx_K 20)), (56, .ref (rx_K 21)), (58, .ref (rx_K 22)), (60, .ref (rx_K 23)), (62, .ref (rx_K 24)), (64, .ref (rx_K 25)), (66, .ref (rx_K 26)), (68, .ref (rx_K 27)), (70, .ref (rx_K 28)), (72, .ref (rx_K 29)), (74, .ref (rx_K 30)), (76, .ref (rx_K 31)), (78, .ref (rx_K 32)), (230, .int (97520)), (267, .int (61440)), (369, .long (255)), (374, .long (10)), (376, .long (48)), (981, .long (1885434484)), (983, .long (465490306412))], [], [(16, 6)], [])
def rt_c15 : rt_C := ("java/lang/String", [(9, 0, 0), (15, 0, 1)], [], [(335, 0, 147, 0), (492, 0, 148, 0), (495, 1, 150, 2), (1059, 1, 155, 3)], [], [], [], [(38, some (.int 1)), (1053, none)])
def rt_c16 : rt_C := ("java/lang/StringLatin1", [], [], [(9, 1, 149, 2)], [], [], [], [])
def rt_c17 : rt_C := ("java/util/Arrays", [], [], [(13, 1, 151, 3)], [(48, .ref (rx_K 33)), (57, .ref (rx_K 34)), (59, .ref (rx_K 35))], [(45, 1, 4, [.null, .int 0, .int 0, .int 0])], [], [])
def rt_c18 : rt_C := ("jdk/internal/util/Preconditions", [], [], [], [], [], [], [])
def rt_CT : List rt_C := [rt_c0, rt_c1, rt_c2, rt_c3, rt_c4, rt_c5, rt_c6, rt_c7, rt_c8, rt_c9, rt_c10, rt_c11, rt_c12, rt_c13, rt_c14, rt_c15, rt_c16, rt_c17, rt_c18]
def rt_i0_0 : List (Nat × Instr) := [(0, .new 8), (3, .dup), (4, .invokespecial 27), (7, .astore_n 1), (8, .new 28), (11, .dup), (12, .invokespecial 30), (15, .astore_n 2), (16, .iconst 1), (17, .newarray .long), (19, .astore_n 3), (20, .iconst 0), (21, .istore 4), (23, .iload 4), (25, .aload_n 0), (26, .arraylength), (27, .bipush 6), (29, .isub), (30, .if_icmp .gt 1310)]
def rt_i0_1 : List (Nat × Instr) := [(33, .aload_n 0), (34, .iload 4), (36, .iaload), (37, .bipush 63), (39, .iand), (40, .tableswitch 1294 0 32 #[148, 221, 246, 271, 315, 340, 353, 390, 451, 500, 525, 550, 587, 636, 697, 734, 747, 772, 809, 834, 859, 908, 933, 958, 971, 1024, 1061, 1086, 1150, 1206, 1231, 1256, 1269])]
def rt_i0_5 : List (Nat × Instr) := [(188, .aload_n 1), (189, .aload_n 0), (190, .iload 4)]
def rt_i0_6 : List (Nat × Instr) := [(192, .iconst 1), (193, .iadd), (194, .iaload), (195, .aload_n 0), (196, .iload 4), (198, .iconst 2), (199, .iadd), (200, .iaload), (201, .aload_n 0), (202, .iload 4), (204, .iconst 3), (205, .iadd), (206, .iaload), (207, .aload_n 0), (208, .iload 4), (210, .iconst 4), (211, .iadd), (212, .iaload), (213, .aload_n 0), (214, .iload 4), (216, .iconst 5), (217, .iadd), (218, .iaload), (219, .invokevirtual 31), (222, .aload_n 2), (223, .aload_n 0)]
def rt_i0_7 : List (Nat × Instr) := [(224, .iload 4), (226, .iconst 1), (227, .iadd), (228, .iaload), (229, .aload_n 0), (230, .iload 4), (232, .iconst 2), (233, .iadd), (234, .iaload), (235, .aload_n 0), (236, .iload 4), (238, .iconst 3), (239, .iadd), (240, .iaload), (241, .aload_n 0), (242, .iload 4), (244, .iconst 4), (245, .iadd), (246, .iaload), (247, .aload_n 0), (248, .iload 4), (250, .iconst 5), (251, .iadd), (252, .iaload), (253, .invokevirtual 35)]
def rt_i0_8 : List (Nat × Instr) := [(256, .if_icmp .eq 1078), (259, .iconst 0), (260, .ireturn), (261, .aload_n 1), (262, .aload_n 0), (263, .iload 4), (265, .iconst 1), (266, .iadd), (267, .iaload), (268, .invokevirtual 36), (271, .aload_n 2), (272, .aload_n 0), (273, .iload 4), (275, .iconst 1), (276, .iadd), (277, .iaload), (278, .invokevirtual 39), (281, .if_icmp .eq 1053), (284, .iconst 0), (285, .ireturn), (286, .aload_n 1), (287, .aload_n 0)]
def rt_i0_9 : List (Nat × Instr) := [(288, .iload 4), (290, .iconst 1), (291, .iadd), (292, .iaload), (293, .invokevirtual 40), (296, .aload_n 2), (297, .aload_n 0), (298, .iload 4), (300, .iconst 1), (301, .iadd), (302, .iaload), (303, .invokevirtual 43), (306, .if_icmp .eq 1028), (309, .iconst 0), (310, .ireturn), (311, .aload_n 1), (312, .aload_n 3), (313, .invokestatic 44), (316, .istore 5), (318, .aload_n 2), (319, .invokevirtual 49)]
def rt_i0_10 : List (Nat × Instr) := [(322, .istore 6), (324, .aload_n 2), (325, .invokevirtual 50), (328, .iload 5), (330, .if_icmp .eq 5), (333, .iconst 0), (334, .ireturn), (335, .iload 5), (337, .ifCond .ne 15), (340, .aload_n 3), (341, .iconst 0), (342, .laload), (343, .iload 6), (345, .i2l), (346, .lcmp), (347, .ifCond .eq 5), (350, .iconst 0), (351, .ireturn)]
def rt_i0_11 : List (Nat × Instr) := [(352, .goto 982), (355, .aload_n 1), (356, .aload_n 0), (357, .iload 4), (359, .iconst 1), (360, .iadd), (361, .iaload), (362, .invokevirtual 53), (365, .aload_n 2), (366, .aload_n 0), (367, .iload 4), (369, .iconst 1), (370, .iadd), (371, .iaload), (372, .invokevirtual 56), (375, .if_icmp .eq 959), (378, .iconst 0), (379, .ireturn), (380, .aload_n 1), (381, .invokevirtual 57)]
def rt_i0_12 : List (Nat × Instr) := [(384, .aload_n 2), (385, .invokevirtual 60), (388, .if_icmp .eq 946), (391, .iconst 0), (392, .ireturn), (393, .aload_n 1), (394, .aload_n 0), (395, .iload 4), (397, .iconst 1), (398, .iadd), (399, .iaload), (400, .aload_n 0), (401, .iload 4), (403, .iconst 2), (404, .iadd), (405, .iaload), (406, .invokevirtual 61), (409, .aload_n 2), (410, .aload_n 0), (411, .iload 4), (413, .iconst 1), (414, .iadd), (415, .iaload)]
def rt_i0_13 : List (Nat × Instr) := [(416, .aload_n 0), (417, .iload 4), (419, .iconst 2), (420, .iadd), (421, .iaload), (422, .invokevirtual 65), (425, .if_icmp .eq 909), (428, .iconst 0), (429, .ireturn), (430, .aload_n 1), (431, .aload_n 0), (432, .iload 4), (434, .iconst 1), (435, .iadd), (436, .iaload), (437, .aload_n 0), (438, .iload 4), (440, .iconst 2), (441, .iadd), (442, .iaload), (443, .aload_n 0), (444, .iload 4), (446, .iconst 3), (447, .iadd)]
def rt_i0_14 : List (Nat × Instr) := [(448, .iaload), (449, .aload_n 0), (450, .iload 4), (452, .iconst 4), (453, .iadd), (454, .iaload), (455, .invokevirtual 66), (458, .aload_n 2), (459, .aload_n 0), (460, .iload 4), (462, .iconst 1), (463, .iadd), (464, .iaload), (465, .aload_n 0), (466, .iload 4), (468, .iconst 2), (469, .iadd), (470, .iaload), (471, .aload_n 0), (472, .iload 4), (474, .iconst 3), (475, .iadd), (476, .iaload), (477, .aload_n 0), (478, .iload 4)]
def rt_i0_15 : List (Nat × Instr) := [(480, .iconst 4), (481, .iadd), (482, .iaload), (483, .invokevirtual 70), (486, .if_icmp .eq 848), (489, .iconst 0), (490, .ireturn), (491, .aload_n 1), (492, .aload_n 0), (493, .iload 4), (495, .iconst 1), (496, .iadd), (497, .iaload), (498, .aload_n 0), (499, .iload 4), (501, .iconst 2), (502, .iadd), (503, .iaload), (504, .aload_n 0), (505, .iload 4), (507, .iconst 3), (508, .iadd), (509, .iaload), (510, .invokevirtual 71)]
def rt_i0_16 : List (Nat × Instr) := [(513, .aload_n 2), (514, .aload_n 0), (515, .iload 4), (517, .iconst 1), (518, .iadd), (519, .iaload), (520, .aload_n 0), (521, .iload 4), (523, .iconst 2), (524, .iadd), (525, .iaload), (526, .aload_n 0), (527, .iload 4), (529, .iconst 3), (530, .iadd), (531, .iaload), (532, .invokevirtual 75), (535, .if_icmp .eq 799), (538, .iconst 0), (539, .ireturn), (540, .aload_n 1), (541, .aload_n 0), (542, .iload 4)]
def rt_i0_17 : List (Nat × Instr) := [(544, .iconst 1), (545, .iadd), (546, .iaload), (547, .invokevirtual 76), (550, .aload_n 2), (551, .aload_n 0), (552, .iload 4), (554, .iconst 1), (555, .iadd), (556, .iaload), (557, .invokevirtual 79), (560, .if_icmp .eq 774), (563, .iconst 0), (564, .ireturn), (565, .aload_n 1), (566, .aload_n 0), (567, .iload 4), (569, .iconst 1), (570, .iadd), (571, .iaload), (572, .invokevirtual 80), (575, .aload_n 2)]
def rt_i0_18 : List (Nat × Instr) := [(576, .aload_n 0), (577, .iload 4), (579, .iconst 1), (580, .iadd), (581, .iaload), (582, .invokevirtual 83), (585, .if_icmp .eq 749), (588, .iconst 0), (589, .ireturn), (590, .aload_n 1), (591, .aload_n 0), (592, .iload 4), (594, .iconst 1), (595, .iadd), (596, .iaload), (597, .aload_n 0), (598, .iload 4), (600, .iconst 2), (601, .iadd), (602, .iaload), (603, .invokevirtual 84), (606, .aload_n 2), (607, .aload_n 0)]
def rt_i0_19 : List (Nat × Instr) := [(608, .iload 4), (610, .iconst 1), (611, .iadd), (612, .iaload), (613, .aload_n 0), (614, .iload 4), (616, .iconst 2), (617, .iadd), (618, .iaload), (619, .invokevirtual 87), (622, .if_icmp .eq 712), (625, .iconst 0), (626, .ireturn), (627, .aload_n 1), (628, .aload_n 0), (629, .iload 4), (631, .iconst 1), (632, .iadd), (633, .iaload), (634, .aload_n 0), (635, .iload 4), (637, .iconst 2), (638, .iadd), (639, .iaload)]
def rt_i0_20 : List (Nat × Instr) := [(640, .aload_n 0), (641, .iload 4), (643, .iconst 3), (644, .iadd), (645, .iaload), (646, .invokevirtual 88), (649, .aload_n 2), (650, .aload_n 0), (651, .iload 4), (653, .iconst 1), (654, .iadd), (655, .iaload), (656, .aload_n 0), (657, .iload 4), (659, .iconst 2), (660, .iadd), (661, .iaload), (662, .aload_n 0), (663, .iload 4), (665, .iconst 3), (666, .iadd), (667, .iaload), (668, .invokevirtual 91), (671, .if_icmp .eq 663)]
def rt_i0_21 : List (Nat × Instr) := [(674, .iconst 0), (675, .ireturn), (676, .aload_n 1), (677, .aload_n 0), (678, .iload 4), (680, .iconst 1), (681, .iadd), (682, .iaload), (683, .aload_n 0), (684, .iload 4), (686, .iconst 2), (687, .iadd), (688, .iaload), (689, .aload_n 0), (690, .iload 4), (692, .iconst 3), (693, .iadd), (694, .iaload), (695, .aload_n 0), (696, .iload 4), (698, .iconst 4), (699, .iadd), (700, .iaload), (701, .invokevirtual 92)]
def rt_i0_22 : List (Nat × Instr) := [(704, .aload_n 2), (705, .aload_n 0), (706, .iload 4), (708, .iconst 1), (709, .iadd), (710, .iaload), (711, .aload_n 0), (712, .iload 4), (714, .iconst 2), (715, .iadd), (716, .iaload), (717, .aload_n 0), (718, .iload 4), (720, .iconst 3), (721, .iadd), (722, .iaload), (723, .aload_n 0), (724, .iload 4), (726, .iconst 4), (727, .iadd), (728, .iaload), (729, .invokevirtual 95), (732, .if_icmp .eq 602), (735, .iconst 0)]
def rt_i0_23 : List (Nat × Instr) := [(736, .ireturn), (737, .aload_n 1), (738, .aload_n 0), (739, .iload 4), (741, .iconst 1), (742, .iadd), (743, .iaload), (744, .aload_n 0), (745, .iload 4), (747, .iconst 2), (748, .iadd), (749, .iaload), (750, .invokevirtual 96), (753, .aload_n 2), (754, .aload_n 0), (755, .iload 4), (757, .iconst 1), (758, .iadd), (759, .iaload), (760, .aload_n 0), (761, .iload 4), (763, .iconst 2), (764, .iadd), (765, .iaload), (766, .invokevirtual 99)]
def rt_i0_24 : List (Nat × Instr) := [(769, .if_icmp .eq 565), (772, .iconst 0), (773, .ireturn), (774, .aload_n 1), (775, .invokevirtual 100), (778, .aload_n 2), (779, .invokevirtual 103), (782, .if_icmp .eq 552), (785, .iconst 0), (786, .ireturn), (787, .aload_n 1), (788, .aload_n 0), (789, .iload 4), (791, .iconst 1), (792, .iadd), (793, .iaload), (794, .invokevirtual 104), (797, .aload_n 2), (798, .aload_n 0), (799, .iload 4)]
def rt_i0_25 : List (Nat × Instr) := [(801, .iconst 1), (802, .iadd), (803, .iaload), (804, .invokevirtual 107), (807, .if_icmp .eq 527), (810, .iconst 0), (811, .ireturn), (812, .aload_n 1), (813, .aload_n 0), (814, .iload 4), (816, .iconst 1), (817, .iadd), (818, .iaload), (819, .aload_n 0), (820, .iload 4), (822, .iconst 2), (823, .iadd), (824, .iaload), (825, .invokevirtual 108), (828, .aload_n 2), (829, .aload_n 0), (830, .iload 4)]
def rt_i0_26 : List (Nat × Instr) := [(832, .iconst 1), (833, .iadd), (834, .iaload), (835, .aload_n 0), (836, .iload 4), (838, .iconst 2), (839, .iadd), (840, .iaload), (841, .invokevirtual 111), (844, .if_icmp .eq 490), (847, .iconst 0), (848, .ireturn), (849, .aload_n 1), (850, .aload_n 0), (851, .iload 4), (853, .iconst 1), (854, .iadd), (855, .iaload), (856, .invokevirtual 112), (859, .aload_n 2), (860, .aload_n 0), (861, .iload 4), (863, .iconst 1)]
def rt_i0_27 : List (Nat × Instr) := [(864, .iadd), (865, .iaload), (866, .invokevirtual 115), (869, .if_icmp .eq 465), (872, .iconst 0), (873, .ireturn), (874, .aload_n 1), (875, .aload_n 0), (876, .iload 4), (878, .iconst 1), (879, .iadd), (880, .iaload), (881, .invokevirtual 116), (884, .aload_n 2), (885, .aload_n 0), (886, .iload 4), (888, .iconst 1), (889, .iadd), (890, .iaload), (891, .invokevirtual 119), (894, .if_icmp .eq 440)]
def rt_i0_28 : List (Nat × Instr) := [(897, .iconst 0), (898, .ireturn), (899, .aload_n 1), (900, .aload_n 0), (901, .iload 4), (903, .iconst 1), (904, .iadd), (905, .iaload), (906, .aload_n 0), (907, .iload 4), (909, .iconst 2), (910, .iadd), (911, .iaload), (912, .aload_n 0), (913, .iload 4), (915, .iconst 3), (916, .iadd), (917, .iaload), (918, .invokevirtual 120), (921, .aload_n 2), (922, .aload_n 0), (923, .iload 4), (925, .iconst 1), (926, .iadd), (927, .iaload)]
def rt_i0_29 : List (Nat × Instr) := [(928, .aload_n 0), (929, .iload 4), (931, .iconst 2), (932, .iadd), (933, .iaload), (934, .aload_n 0), (935, .iload 4), (937, .iconst 3), (938, .iadd), (939, .iaload), (940, .invokevirtual 123), (943, .if_icmp .eq 391), (946, .iconst 0), (947, .ireturn), (948, .aload_n 1), (949, .aload_n 0), (950, .iload 4), (952, .iconst 1), (953, .iadd), (954, .iaload), (955, .invokevirtual 124), (958, .aload_n 2), (959, .aload_n 0)]
def rt_i0_30 : List (Nat × Instr) := [(960, .iload 4), (962, .iconst 1), (963, .iadd), (964, .iaload), (965, .invokevirtual 127), (968, .if_icmp .eq 366), (971, .iconst 0), (972, .ireturn), (973, .aload_n 1), (974, .aload_n 0), (975, .iload 4), (977, .iconst 1), (978, .iadd), (979, .iaload), (980, .invokevirtual 128), (983, .aload_n 2), (984, .aload_n 0), (985, .iload 4), (987, .iconst 1), (988, .iadd), (989, .iaload), (990, .invokevirtual 132)]
def rt_i0_31 : List (Nat × Instr) := [(993, .if_icmp .eq 341), (996, .iconst 0), (997, .ireturn), (998, .aload_n 1), (999, .invokevirtual 133), (1002, .aload_n 2), (1003, .invokevirtual 136), (1006, .if_icmp .eq 328), (1009, .iconst 0), (1010, .ireturn), (1011, .aload_n 1), (1012, .aload_n 0), (1013, .iload 4), (1015, .iconst 1), (1016, .iadd), (1017, .iaload), (1018, .aload_n 0), (1019, .iload 4), (1021, .iconst 2), (1022, .iadd), (1023, .iaload)]
def rt_i0_32 : List (Nat × Instr) := [(1024, .ifCond .eq 7), (1027, .iconst 1), (1028, .goto 4), (1031, .iconst 0), (1032, .invokevirtual 137), (1035, .aload_n 2), (1036, .aload_n 0), (1037, .iload 4), (1039, .iconst 1), (1040, .iadd), (1041, .iaload), (1042, .aload_n 0), (1043, .iload 4), (1045, .iconst 2), (1046, .iadd), (1047, .iaload), (1048, .ifCond .eq 7), (1051, .iconst 1), (1052, .goto 4), (1055, .iconst 0)]
def rt_i0_33 : List (Nat × Instr) := [(1056, .invokevirtual 141), (1059, .if_icmp .eq 275), (1062, .iconst 0), (1063, .ireturn), (1064, .aload_n 1), (1065, .aload_n 0), (1066, .iload 4), (1068, .iconst 1), (1069, .iadd), (1070, .iaload), (1071, .aload_n 0), (1072, .iload 4), (1074, .iconst 2), (1075, .iadd), (1076, .iaload), (1077, .invokevirtual 142), (1080, .aload_n 2), (1081, .aload_n 0), (1082, .iload 4), (1084, .iconst 1), (1085, .iadd), (1086, .iaload), (1087, .aload_n 0)]
def rt_i0_34 : List (Nat × Instr) := [(1088, .iload 4), (1090, .iconst 2), (1091, .iadd), (1092, .iaload), (1093, .invokevirtual 146), (1096, .if_icmp .eq 238), (1099, .iconst 0), (1100, .ireturn), (1101, .aload_n 1), (1102, .aload_n 0), (1103, .iload 4), (1105, .iconst 1), (1106, .iadd), (1107, .iaload), (1108, .invokevirtual 147), (1111, .aload_n 2), (1112, .aload_n 0), (1113, .iload 4), (1115, .iconst 1), (1116, .iadd), (1117, .iaload), (1118, .invokevirtual 150)]
def rt_i0_35 : List (Nat × Instr) := [(1121, .if_icmp .eq 213), (1124, .iconst 0), (1125, .ireturn), (1126, .aload_n 1), (1127, .aload_n 0), (1128, .iload 4), (1130, .iconst 1), (1131, .iadd), (1132, .iaload), (1133, .aload_n 0), (1134, .iload 4), (1136, .iconst 2), (1137, .iadd), (1138, .iaload), (1139, .ifCond .eq 7), (1142, .iconst 1), (1143, .goto 4), (1146, .iconst 0), (1147, .invokestatic 151), (1150, .istore 5)]
def rt_i0_36 : List (Nat × Instr) := [(1152, .aload_n 2), (1153, .aload_n 0), (1154, .iload 4), (1156, .iconst 1), (1157, .iadd), (1158, .iaload), (1159, .aload_n 0), (1160, .iload 4), (1162, .iconst 2), (1163, .iadd), (1164, .iaload), (1165, .ifCond .eq 7), (1168, .iconst 1), (1169, .goto 4), (1172, .iconst 0), (1173, .invokevirtual 154), (1176, .aload_n 2), (1177, .invokevirtual 50), (1180, .iload 5), (1182, .if_icmp .eq 5)]
def rt_i0_37 : List (Nat × Instr) := [(1185, .iconst 0), (1186, .ireturn), (1187, .goto 147), (1190, .aload_n 1), (1191, .aload_n 0), (1192, .iload 4), (1194, .iconst 1), (1195, .iadd), (1196, .iaload), (1197, .aload_n 3), (1198, .invokestatic 155), (1201, .istore 5), (1203, .aload_n 2), (1204, .aload_n 0), (1205, .iload 4), (1207, .iconst 1), (1208, .iadd), (1209, .iaload), (1210, .invokevirtual 158), (1213, .istore 6), (1215, .aload_n 2)]
def rt_i0_38 : List (Nat × Instr) := [(1216, .invokevirtual 50), (1219, .iload 5), (1221, .if_icmp .eq 5), (1224, .iconst 0), (1225, .ireturn), (1226, .iload 5), (1228, .ifCond .ne 15), (1231, .aload_n 3), (1232, .iconst 0), (1233, .laload), (1234, .iload 6), (1236, .i2l), (1237, .lcmp), (1238, .ifCond .eq 5), (1241, .iconst 0), (1242, .ireturn), (1243, .goto 91), (1246, .aload_n 1), (1247, .aload_n 0)]
def rt_i0_39 : List (Nat × Instr) := [(1248, .iload 4), (1250, .iconst 1), (1251, .iadd), (1252, .iaload), (1253, .invokevirtual 159), (1256, .aload_n 2), (1257, .aload_n 0), (1258, .iload 4), (1260, .iconst 1), (1261, .iadd), (1262, .iaload), (1263, .invokevirtual 162), (1266, .if_icmp .eq 68), (1269, .iconst 0), (1270, .ireturn), (1271, .aload_n 1), (1272, .aload_n 0), (1273, .iload 4), (1275, .iconst 1), (1276, .iadd), (1277, .iaload), (1278, .invokevirtual 163)]
def rt_i0_40 : List (Nat × Instr) := [(1281, .aload_n 2), (1282, .aload_n 0), (1283, .iload 4), (1285, .iconst 1), (1286, .iadd), (1287, .iaload), (1288, .invokevirtual 166), (1291, .if_icmp .eq 43), (1294, .iconst 0), (1295, .ireturn), (1296, .aload_n 1), (1297, .invokevirtual 167), (1300, .aload_n 2), (1301, .invokevirtual 170), (1304, .if_icmp .eq 30), (1307, .iconst 0), (1308, .ireturn), (1309, .aload_n 1), (1310, .aload_n 0), (1311, .iload 4)]
def rt_i0_41 : List (Nat × Instr) := [(1313, .iconst 1), (1314, .iadd), (1315, .iaload), (1316, .invokevirtual 171), (1319, .aload_n 2), (1320, .aload_n 0), (1321, .iload 4), (1323, .iconst 1), (1324, .iadd), (1325, .iaload), (1326, .invokevirtual 174), (1329, .if_icmp .eq 5), (1332, .iconst 0), (1333, .ireturn), (1334, .iinc 4 6), (1337, .goto (-1314)), (1340, .iconst 1), (1341, .ireturn)]
def rt_m0 : rt_M := (0, "law", "([I)Z", code, 7, ret, [(0, rt_i0_0), (1, rt_i0_1), (5, rt_i0_5), (6, rt_i0_6), (7, rt_i0_7), (8, rt_i0_8), (9, rt_i0_9), (10, rt_i0_10), (11, rt_i0_11), (12, rt_i0_12), (13, rt_i0_13), (14, rt_i0_14), (15, rt_i0_15), (16, rt_i0_16), (17, rt_i0_17), (18, rt_i0_18), (19, rt_i0_19), (20, rt_i0_20), (21, rt_i0_21), (22, rt_i0_22), (23, rt_i0_23), (24, rt_i0_24), (25, rt_i0_25), (26, rt_i0_26), (27, rt_i0_27), (28, rt_i0_28), (29, rt_i0_29), (30, rt_i0_30), (31, rt_i0_31), (32, rt_i0_32), (33, rt_i0_33), (34, rt_i0_34), (35, rt_i0_35), (36, rt_i0_36), (37, rt_i0_37), (38, rt_i0_38), (39, rt_i0_39), (40, rt_i0_40), (41, rt_i0_41)], [], [], [])
def rt_i16_0 : List (Nat × Instr) := [(0, .aload_n 1), (1, .iconst 0), (2, .aload_n 0), (3, .invokevirtual 7), (6, .i2l), (7, .lastore), (8, .goto 6), (11, .astore_n 2), (12, .iconst 1), (13, .ireturn), (14, .iconst 0), (15, .ireturn)]
def rt_m16 : rt_M := (0, "compile", "(LMarkHouse;[J)I", method_3_code, 3, (some FieldType.int), [(0, rt_i16_0)], [], [(0, 8, 11, 13)], [(3, "java/lang/IllegalArgumentException", 11, 2)])
def rt_i17_0 : List (Nat × Instr) := [(0, .aload_n 0), (1, .iload_n 1), (2, .iload_n 2), (3, .invokevirtual 15), (6, .goto 9), (9, .astore_n 3), (10, .iconst 1), (11, .ireturn), (12, .astore_n 3), (13, .iconst 2), (14, .ireturn), (15, .iconst 0), (16, .ireturn)]
def rt_m17 : rt_M := (0, "begin", "(LMarkHouse;IZ)I", method_4_code, 4, (some FieldType.int), [(0, rt_i17_0)], [], [(0, 6, 9, 19), (0, 6, 12, 21)], [(3, "java/lang/IllegalStateException", 9, 3), (3, "java/util/NoSuchElementException", 12, 3)])
def rt_i18_0 : List (Nat × Instr) := [(0, .aload_n 2), (1, .iconst 0), (2, .aload_n 0), (3, .iload_n 1), (4, .invokevirtual 23), (7, .i2l), (8, .lastore), (9, .goto 9), (12, .astore_n 3), (13, .iconst 1), (14, .ireturn), (15, .astore_n 3), (16, .iconst 2), (17, .ireturn), (18, .iconst 0), (19, .ireturn)]
def rt_m18 : rt_M := (0, "go", "(LMarkHouse;I[J)I", method_5_code, 4, (some FieldType.int), [(0, rt_i18_0)], [], [(0, 9, 12, 13), (0, 9, 15, 19)], [(4, "java/lang/IllegalArgumentException", 12, 3), (4, "java/lang/IllegalStateException", 15, 3)])
def rt_i19_0 : List (Nat × Instr) := [(0, .aload_n 0), (1, .invokespecial 3), (4, .aload_n 0), (5, .bipush 96), (7, .newarray .long), (9, .putfield 9), (12, .aload_n 0), (13, .bipush 96), (15, .newarray .int), (17, .putfield 15), (20, .aload_n 0), (21, .bipush 96), (23, .newarray .int), (25, .putfield 19), (28, .aload_n 0), (29, .sipush 768)]
def rt_i19_1 : List (Nat × Instr) := [(32, .newarray .long), (34, .putfield 22), (37, .aload_n 0), (38, .bipush 96), (40, .newarray .int), (42, .putfield 25), (45, .aload_n 0), (46, .bipush 96), (48, .newarray .int), (50, .putfield 28), (53, .aload_n 0), (54, .sipush 1024), (57, .newarray .int), (59, .putfield 31), (62, .aload_n 0), (63, .sipush 1024)]
def rt_i19_2 : List (Nat × Instr) := [(66, .newarray .int), (68, .putfield 34), (71, .aload_n 0), (72, .sipush 1024), (75, .newarray .int), (77, .putfield 37), (80, .aload_n 0), (81, .sipush 1024), (84, .newarray .int), (86, .putfield 40), (89, .aload_n 0), (90, .sipush 1024), (93, .newarray .int), (95, .putfield 43)]
def rt_i19_3 : List (Nat × Instr) := [(98, .aload_n 0), (99, .sipush 1024), (102, .newarray .int), (104, .putfield 46), (107, .aload_n 0), (108, .sipush 1024), (111, .newarray .long), (113, .putfield 49), (116, .aload_n 0), (117, .sipush 1024), (120, .newarray .long), (122, .putfield 52), (125, .aload_n 0), (126, .sipush 1024)]
def rt_i19_4 : List (Nat × Instr) := [(129, .newarray .long), (131, .putfield 55), (134, .aload_n 0), (135, .sipush 1024), (138, .newarray .int), (140, .putfield 58), (143, .aload_n 0), (144, .sipush 1024), (147, .newarray .int), (149, .putfield 61), (152, .aload_n 0), (153, .sipush 1024), (156, .newarray .int), (158, .putfield 64)]
def rt_i19_5 : List (Nat × Instr) := [(161, .aload_n 0), (162, .aload_n 1), (163, .putfield 67), (166, .return_)]
def rt_m19 : rt_M := (1, "<init>", "(LMarkHouse$Program;)V", prog_2_method_1_code, 2, none, [(0, rt_i19_0), (1, rt_i19_1), (2, rt_i19_2), (3, rt_i19_3), (4, rt_i19_4), (5, rt_i19_5)], [], [], [])
def rt_i20_0 : List (Nat × Instr) := [(0, .aload_n 0), (1, .getfield 46), (4, .iconst 0), (5, .aload_n 0), (6, .getfield 71), (9, .iconst 0), (10, .invokestatic 75), (13, .return_)]
def rt_m20 : rt_M := (1, "clearChecks", "()V", prog_2_method_2_code, 1, none, [(0, rt_i20_0)], [], [], [])
def rt_i21_0 : List (Nat × Instr) := [(0, .iload_n 1), (1, .bipush 100), (3, .idiv), (4, .istore_n 2), (5, .iload_n 1), (6, .bipush 100), (8, .irem), (9, .istore_n 3), (10, .aload_n 0), (11, .getfield 67), (14, .getfield 81), (17, .ifCond .eq 18), (20, .iload_n 1), (21, .ifCond .lt 14), (24, .iload_n 2), (25, .aload_n 0), (26, .getfield 67), (29, .getfield 87)]
def rt_i21_1 : List (Nat × Instr) := [(32, .if_icmp .lt 5), (35, .iconst (-1)), (36, .ireturn), (37, .iload_n 3), (38, .ifCond .ne 5), (41, .iconst 0), (42, .ireturn), (43, .iload_n 3), (44, .bipush 20), (46, .if_icmp .ge 22), (49, .iload_n 3), (50, .aload_n 0), (51, .getfield 67), (54, .getfield 90), (57, .iload_n 2), (58, .iaload), (59, .if_icmp .gt 7), (62, .iconst 1), (63, .goto 4)]
def rt_i21_2 : List (Nat × Instr) := [(66, .iconst (-1)), (67, .ireturn), (68, .iload_n 3), (69, .bipush 20), (71, .isub), (72, .bipush 10), (74, .idiv), (75, .aload_n 0), (76, .getfield 67), (79, .getfield 93), (82, .iload_n 2), (83, .iaload), (84, .if_icmp .ge 20), (87, .iload_n 3), (88, .bipush 10), (90, .irem), (91, .aload_n 0), (92, .getfield 15), (95, .aload_n 0)]
def rt_i21_3 : List (Nat × Instr) := [(96, .iload_n 1), (97, .invokevirtual 96), (100, .iaload), (101, .if_icmp .le 5), (104, .iconst (-1)), (105, .ireturn), (106, .iload_n 3), (107, .bipush 10), (109, .irem), (110, .ifCond .ne 7), (113, .iconst 2), (114, .goto 4), (117, .iconst 3), (118, .ireturn)]
def rt_m21 : rt_M := (1, "sortOf", "(I)I", prog_2_method_3_code, 4, (some FieldType.int), [(0, rt_i21_0), (1, rt_i21_1), (2, rt_i21_2), (3, rt_i21_3)], [], [], [])
def rt_i22_0 : List (Nat × Instr) := [(0, .iload_n 1), (1, .bipush 100), (3, .idiv), (4, .bipush 8), (6, .imul), (7, .iload_n 1), (8, .bipush 100), (10, .irem), (11, .bipush 20), (13, .isub), (14, .bipush 10), (16, .idiv), (17, .iadd), (18, .ireturn)]
def rt_m22 : rt_M := (1, "methodAt", "(I)I", prog_2_method_4_code, 2, (some FieldType.int), [(0, rt_i22_0)], [], [], [])
def rt_i23_0 : List (Nat × Instr) := [(0, .aload_n 0), (1, .invokespecial 3), (4, .aload_n 0), (5, .sipush 4000), (8, .newarray .byte), (10, .putfield 9), (13, .aload_n 0), (14, .sipush 4001), (17, .newarray .int), (19, .putfield 15), (22, .aload_n 0), (23, .sipush 4001), (26, .newarray .int), (28, .putfield 19), (31, .aload_n 0)]
def rt_i23_1 : List (Nat × Instr) := [(32, .sipush 4001), (35, .newarray .long), (37, .putfield 22), (40, .aload_n 0), (41, .bipush 31), (43, .newarray .long), (45, .putfield 26), (48, .iconst 0), (49, .istore_n 1), (50, .iconst 0), (51, .istore_n 2), (52, .iload_n 2), (53, .ldc 29), (55, .invokevirtual 31), (58, .if_icmp .ge 55), (61, .iload_n 1), (62, .bipush 31)]
def rt_i23_2 : List (Nat × Instr) := [(64, .if_icmp .ge 49), (67, .ldc 29), (69, .iload_n 2), (70, .invokevirtual 37), (73, .bipush 32), (75, .if_icmp .ne 9), (78, .iinc 1 1), (81, .goto 26), (84, .aload_n 0), (85, .getfield 26), (88, .iload_n 1), (89, .aload_n 0), (90, .getfield 26), (93, .iload_n 1), (94, .laload), (95, .bipush 8)]
def rt_i23_3 : List (Nat × Instr) := [(97, .lshl), (98, .ldc 29), (100, .iload_n 2), (101, .invokevirtual 37), (104, .i2l), (105, .lor), (106, .lastore), (107, .iinc 2 1), (110, .goto (-58)), (113, .return_)]
def rt_m23 : rt_M := (2, "<init>", "()V", prog_3_method_1_code, 3, none, [(0, rt_i23_0), (1, rt_i23_1), (2, rt_i23_2), (3, rt_i23_3)], [], [], [])
def rt_i24_0 : List (Nat × Instr) := [(0, .bipush 24), (2, .istore_n 2), (3, .iload_n 2), (4, .ifCond .lt 39), (7, .aload_n 0), (8, .getfield 41), (11, .sipush 4000), (14, .if_icmp .ge 29), (17, .aload_n 0), (18, .getfield 9), (21, .aload_n 0), (22, .dup), (23, .getfield 41), (26, .dup_x1), (27, .iconst 1), (28, .iadd), (29, .putfield 41)]
def rt_i24_1 : List (Nat × Instr) := [(32, .iload_n 1), (33, .iload_n 2), (34, .ishr), (35, .i2b), (36, .bastore), (37, .iinc 2 (-8)), (40, .goto (-37)), (43, .return_)]
def rt_m24 : rt_M := (2, "addWord", "(I)V", prog_3_method_2_code, 3, none, [(0, rt_i24_0), (1, rt_i24_1)], [], [], [])
def rt_i25_0 : List (Nat × Instr) := [(0, .aload_n 0), (1, .iconst 0), (2, .putfield 44), (5, .aload_n 0), (6, .iconst 0), (7, .putfield 47), (10, .iconst 0), (11, .istore_n 1), (12, .iload_n 1), (13, .sipush 4000), (16, .if_icmp .gt 76), (19, .aload_n 0), (20, .invokevirtual 50), (23, .aload_n 0), (24, .getfield 19), (27, .aload_n 0), (28, .getfield 47), (31, .aload_n 0)]
def rt_i25_1 : List (Nat × Instr) := [(32, .getfield 44), (35, .iastore), (36, .aload_n 0), (37, .getfield 44), (40, .aload_n 0), (41, .getfield 41), (44, .if_icmp .lt 15), (47, .aload_n 0), (48, .getfield 15), (51, .aload_n 0), (52, .getfield 47), (55, .iconst 0), (56, .iastore), (57, .iconst (-1)), (58, .ireturn), (59, .aload_n 0), (60, .invokevirtual 53), (63, .ifCond .ne 13)]
def rt_i25_2 : List (Nat × Instr) := [(66, .aload_n 0), (67, .getfield 19), (70, .aload_n 0), (71, .getfield 47), (74, .iaload), (75, .ireturn), (76, .aload_n 0), (77, .dup), (78, .getfield 47), (81, .iconst 1), (82, .iadd), (83, .putfield 47), (86, .iinc 1 1), (89, .goto (-77)), (92, .iconst (-1)), (93, .ireturn)]
def rt_m25 : rt_M := (2, "cutAll", "()I", prog_3_method_3_code, 2, (some FieldType.int), [(0, rt_i25_0), (1, rt_i25_1), (2, rt_i25_2)], [], [], [])
def rt_i26_0 : List (Nat × Instr) := [(0, .aload_n 0), (1, .getfield 44), (4, .aload_n 0), (5, .getfield 41), (8, .if_icmp .ge 44), (11, .aload_n 0), (12, .getfield 9), (15, .aload_n 0), (16, .getfield 44), (19, .baload), (20, .bipush 32), (22, .if_icmp .eq 17), (25, .aload_n 0), (26, .getfield 9), (29, .aload_n 0), (30, .getfield 44)]
def rt_i26_1 : List (Nat × Instr) := [(33, .baload), (34, .bipush 10), (36, .if_icmp .ne 16), (39, .aload_n 0), (40, .dup), (41, .getfield 44), (44, .iconst 1), (45, .iadd), (46, .putfield 44), (49, .goto (-49)), (52, .return_)]
def rt_m26 : rt_M := (2, "skipBlanks", "()V", prog_3_method_4_code, 1, none, [(0, rt_i26_0), (1, rt_i26_1)], [], [], [])
def rt_i27_0 : List (Nat × Instr) := [(0, .aload_n 0), (1, .invokespecial 3), (4, .aload_n 0), (5, .sipush 4800), (8, .newarray .int), (10, .putfield 9), (13, .aload_n 0), (14, .sipush 4800), (17, .newarray .int), (19, .putfield 15), (22, .aload_n 0), (23, .bipush 6), (25, .newarray .int), (27, .putfield 18), (30, .aload_n 0), (31, .aload_n 1)]
def rt_i27_1 : List (Nat × Instr) := [(32, .putfield 21), (35, .aload_n 0), (36, .aload_n 2), (37, .putfield 25), (40, .aload_n 0), (41, .aload_n 3), (42, .putfield 29), (45, .return_)]
def rt_m27 : rt_M := (3, "<init>", "(LMarkHouse$Program;LMarkHouse$Code;LMarkHouse$Marks;)V", prog_4_method_1_code, 4, none, [(0, rt_i27_0), (1, rt_i27_1)], [], [], [])
def rt_i28_0 : List (Nat × Instr) := [(0, .aload_n 0), (1, .invokespecial 3), (4, .aload_n 0), (5, .iconst (-1)), (6, .putfield 9), (9, .aload_n 0), (10, .sipush 1024), (13, .newarray .long), (15, .putfield 15), (18, .aload_n 0), (19, .sipush 2048), (22, .newarray .int), (24, .putfield 19), (27, .aload_n 0), (28, .sipush 400), (31, .newarray .int)]
def rt_i28_1 : List (Nat × Instr) := [(33, .putfield 23), (36, .aload_n 0), (37, .sipush 400), (40, .newarray .long), (42, .putfield 26), (45, .aload_n 0), (46, .sipush 400), (49, .newarray .int), (51, .putfield 29), (54, .aload_n 0), (55, .sipush 400), (58, .newarray .int), (60, .putfield 32), (63, .aload_n 0)]
def rt_i28_2 : List (Nat × Instr) := [(64, .bipush 40), (66, .newarray .int), (68, .putfield 35), (71, .aload_n 0), (72, .sipush 400), (75, .newarray .int), (77, .putfield 38), (80, .aload_n 0), (81, .aload_n 1), (82, .putfield 41), (85, .aload_n 0), (86, .aload_n 2), (87, .putfield 45), (90, .aload_n 0), (91, .aload_n 3), (92, .putfield 49), (95, .return_)]
def rt_m28 : rt_M := (4, "<init>", "(LMarkHouse$Program;LMarkHouse$Code;LMarkHouse$Effects;)V", prog_5_method_1_code, 4, none, [(0, rt_i28_0), (1, rt_i28_1), (2, rt_i28_2)], [], [], [])
def rt_i29_0 : List (Nat × Instr) := [(0, .aload_n 0), (1, .iconst (-1)), (2, .putfield 9), (5, .aload_n 0), (6, .iconst 0), (7, .putfield 53), (10, .aload_n 0), (11, .iconst 0), (12, .putfield 56), (15, .return_)]
def rt_m29 : rt_M := (4, "forget", "()V", prog_5_method_2_code, 1, none, [(0, rt_i29_0)], [], [], [])
def rt_i30_0 : List (Nat × Instr) := [(0, .aload_n 0), (1, .getfield 9), (4, .ifCond .lt 19), (7, .iload_n 1), (8, .ifCond .lt 15), (11, .iload_n 1), (12, .aload_n 0), (13, .getfield 53), (16, .if_icmp .ge 7), (19, .iconst 1), (20, .goto 4), (23, .iconst 0), (24, .ireturn)]
def rt_m30 : rt_M := (4, "isError", "(I)Z", prog_5_method_14_code, 2, (some FieldType.boolean), [(0, rt_i30_0)], [], [], [])
def rt_i31_0 : List (Nat × Instr) := [(0, .aload_n 0), (1, .invokespecial 3), (4, .aload_n 0), (5, .iconst 4), (6, .newarray .long), (8, .putfield 9), (11, .aload_n 0), (12, .iconst 4), (13, .newarray .int), (15, .putfield 15), (18, .aload_n 0), (19, .iconst 4), (20, .newarray .boolean), (22, .putfield 19), (25, .aload_n 0), (26, .iconst 4), (27, .newarray .long), (29, .putfield 23)]
def rt_i31_1 : List (Nat × Instr) := [(32, .aload_n 0), (33, .bipush 16), (35, .newarray .int), (37, .putfield 26), (40, .return_)]
def rt_m31 : rt_M := (5, "<init>", "()V", prog_6_method_1_code, 1, none, [(0, rt_i31_0), (1, rt_i31_1)], [], [], [])
def rt_i32_0 : List (Nat × Instr) := [(0, .aload_n 0), (1, .invokespecial 3), (4, .aload_n 0), (5, .sipush 4096), (8, .newarray .long), (10, .putfield 9), (13, .aload_n 0), (14, .sipush 4096), (17, .newarray .int), (19, .putfield 15), (22, .aload_n 0), (23, .sipush 4096), (26, .newarray .int), (28, .putfield 19), (31, .aload_n 0)]
def rt_i32_1 : List (Nat × Instr) := [(32, .sipush 4096), (35, .newarray .boolean), (37, .putfield 22), (40, .aload_n 0), (41, .sipush 4096), (44, .newarray .int), (46, .putfield 26), (49, .aload_n 0), (50, .sipush 16384), (53, .newarray .long), (55, .putfield 29), (58, .aload_n 0), (59, .sipush 16384), (62, .newarray .byte)]
def rt_i32_2 : List (Nat × Instr) := [(64, .putfield 32), (67, .aload_n 0), (68, .sipush 16384), (71, .newarray .long), (73, .putfield 36), (76, .aload_n 0), (77, .sipush 2242), (80, .newarray .int), (82, .putfield 39), (85, .aload_n 0), (86, .sipush 2242), (89, .newarray .int), (91, .putfield 42), (94, .aload_n 0), (95, .sipush 2242)]
def rt_i32_3 : List (Nat × Instr) := [(98, .newarray .int), (100, .putfield 45), (103, .aload_n 0), (104, .iconst (-1)), (105, .putfield 48), (108, .return_)]
def rt_m32 : rt_M := (6, "<init>", "()V", prog_7_method_1_code, 1, none, [(0, rt_i32_0), (1, rt_i32_1), (2, rt_i32_2), (3, rt_i32_3)], [], [], [])
def rt_i33_0 : List (Nat × Instr) := [(0, .aload_n 0), (1, .iconst 0), (2, .putfield 52), (5, .aload_n 0), (6, .iconst (-1)), (7, .putfield 48), (10, .aload_n 0), (11, .iconst 0), (12, .putfield 55), (15, .aload_n 0), (16, .getfield 45), (19, .iconst 0), (20, .invokestatic 58), (23, .return_)]
def rt_m33 : rt_M := (6, "clearAll", "()V", prog_7_method_2_code, 1, none, [(0, rt_i33_0)], [], [], [])
def rt_i34_0 : List (Nat × Instr) := [(0, .aload_n 0), (1, .invokespecial 3), (4, .aload_n 0), (5, .bipush 12), (7, .newarray .long), (9, .putfield 9), (12, .aload_n 0), (13, .bipush 12), (15, .newarray .int), (17, .putfield 15), (20, .aload_n 0), (21, .bipush 12), (23, .newarray .int), (25, .putfield 19), (28, .aload_n 0), (29, .sipush 144)]
def rt_i34_1 : List (Nat × Instr) := [(32, .newarray .int), (34, .putfield 22), (37, .aload_n 0), (38, .sipush 144), (41, .newarray .int), (43, .putfield 25), (46, .return_)]
def rt_m34 : rt_M := (7, "<init>", "()V", prog_8_method_1_code, 1, none, [(0, rt_i34_0), (1, rt_i34_1)], [], [], [])
def rt_i35_0 : List (Nat × Instr) := [(0, .aload_n 0), (1, .invokespecial 3), (4, .aload_n 0), (5, .iconst 4), (6, .anewarray 9), (9, .putfield 11), (12, .aload_n 0), (13, .bipush 12), (15, .anewarray 17), (18, .putfield 19), (21, .aload_n 0), (22, .bipush 6), (24, .newarray .long), (26, .putfield 23), (29, .aload_n 0), (30, .bipush 6)]
def rt_i35_1 : List (Nat × Instr) := [(32, .newarray .int), (34, .putfield 27), (37, .aload_n 0), (38, .bipush 12), (40, .newarray .long), (42, .putfield 31), (45, .aload_n 0), (46, .bipush 12), (48, .newarray .int), (50, .putfield 34), (53, .aload_n 0), (54, .bipush 12), (56, .newarray .int), (58, .putfield 37), (61, .aload_n 0), (62, .bipush 96)]
def rt_i35_2 : List (Nat × Instr) := [(64, .newarray .long), (66, .putfield 40), (69, .aload_n 0), (70, .bipush 96), (72, .newarray .int), (74, .putfield 43), (77, .aload_n 0), (78, .bipush 12), (80, .newarray .int), (82, .putfield 46), (85, .iconst 0), (86, .istore_n 1), (87, .iload_n 1), (88, .iconst 4), (89, .if_icmp .ge 22), (92, .aload_n 0), (93, .getfield 11)]
def rt_i35_3 : List (Nat × Instr) := [(96, .iload_n 1), (97, .new 9), (100, .dup), (101, .invokespecial 49), (104, .aastore), (105, .iinc 1 1), (108, .goto (-21)), (111, .iconst 0), (112, .istore_n 1), (113, .iload_n 1), (114, .bipush 12), (116, .if_icmp .ge 22), (119, .aload_n 0), (120, .getfield 19), (123, .iload_n 1), (124, .new 17), (127, .dup)]
def rt_i35_4 : List (Nat × Instr) := [(128, .invokespecial 50), (131, .aastore), (132, .iinc 1 1), (135, .goto (-22)), (138, .return_)]
def rt_m35 : rt_M := (8, "<init>", "()V", prog_9_method_1_code, 2, none, [(0, rt_i35_0), (1, rt_i35_1), (2, rt_i35_2), (3, rt_i35_3), (4, rt_i35_4)], [], [], [])
def rt_i36_0 : List (Nat × Instr) := [(0, .aload_n 0), (1, .iconst 0), (2, .putfield 51), (5, .aload_n 0), (6, .iconst 0), (7, .putfield 55), (10, .aload_n 0), (11, .iconst 0), (12, .putfield 59), (15, .aload_n 0), (16, .iconst 0), (17, .putfield 62), (20, .aload_n 0), (21, .iconst 0), (22, .putfield 65), (25, .return_)]
def rt_m36 : rt_M := (8, "clear", "()V", prog_9_method_2_code, 1, none, [(0, rt_i36_0)], [], [], [])
def rt_i37_0 : List (Nat × Instr) := [(0, .aload_n 0), (1, .getfield 51), (4, .ifCond .eq 19), (7, .iload_n 1), (8, .ifCond .lt 15), (11, .iload_n 1), (12, .aload_n 0), (13, .getfield 55), (16, .if_icmp .ge 7), (19, .iconst 1), (20, .goto 4), (23, .iconst 0), (24, .ireturn)]
def rt_m37 : rt_M := (8, "isOrder", "(I)Z", prog_9_method_3_code, 2, (some FieldType.boolean), [(0, rt_i37_0)], [], [], [])
def rt_i38_0 : List (Nat × Instr) := [(0, .aload_n 0), (1, .getfield 51), (4, .ifCond .eq 36), (7, .iload_n 1), (8, .ifCond .lt 32), (11, .iload_n 1), (12, .aload_n 0), (13, .getfield 59), (16, .if_icmp .lt 20), (19, .iload_n 1), (20, .bipush 100), (22, .if_icmp .lt 18), (25, .aload_n 0), (26, .iload_n 1), (27, .bipush 100), (29, .isub), (30, .invokevirtual 68)]
def rt_i38_1 : List (Nat × Instr) := [(33, .ifCond .eq 7), (36, .iconst 1), (37, .goto 4), (40, .iconst 0), (41, .ireturn)]
def rt_m38 : rt_M := (8, "isTarget", "(I)Z", prog_9_method_4_code, 2, (some FieldType.boolean), [(0, rt_i38_0), (1, rt_i38_1)], [], [], [])
def rt_i39_0 : List (Nat × Instr) := [(0, .aload_n 0), (1, .invokespecial 3), (4, .aload_n 0), (5, .aload_n 1), (6, .putfield 9), (9, .aload_n 0), (10, .aload_n 2), (11, .putfield 15), (14, .aload_n 0), (15, .aload_n 3), (16, .putfield 19), (19, .aload_n 0), (20, .aload 4), (22, .putfield 23), (25, .return_)]
def rt_m39 : rt_M := (9, "<init>", "(LMarkHouse$Cutter;LMarkHouse$Program;LMarkHouse$Code;LMarkHouse$Marks;)V", prog_10_method_1_code, 5, none, [(0, rt_i39_0)], [], [], [])
def rt_i40_0 : List (Nat × Instr) := [(0, .aload_n 0), (1, .getfield 15), (4, .invokevirtual 27), (7, .aload_n 0), (8, .getfield 19), (11, .iconst 0), (12, .putfield 32), (15, .aload_n 0), (16, .getfield 23), (19, .invokevirtual 38), (22, .aload_n 0), (23, .iconst 0), (24, .putfield 43), (27, .aload_n 0), (28, .iconst 0), (29, .putfield 46)]
def rt_i40_1 : List (Nat × Instr) := [(32, .aload_n 0), (33, .iconst 0), (34, .putfield 49), (37, .aload_n 0), (38, .getfield 9), (41, .invokevirtual 52), (44, .istore_n 1), (45, .aload_n 0), (46, .getfield 9), (49, .iconst 0), (50, .putfield 58), (53, .iload_n 1), (54, .ifCond .lt 9), (57, .aload_n 0), (58, .iconst 1), (59, .iload_n 1), (60, .invokevirtual 61), (63, .return_)]
def rt_m40 : rt_M := (9, "cutTape", "()V", prog_10_method_2_code, 2, none, [(0, rt_i40_0), (1, rt_i40_1)], [], [], [])
def rt_i41_0 : List (Nat × Instr) := [(0, .aload_n 0), (1, .iload_n 1), (2, .putfield 43), (5, .aload_n 0), (6, .iload_n 2), (7, .putfield 46), (10, .new 65), (13, .dup), (14, .ldc 67), (16, .invokespecial 69), (19, .athrow)]
def rt_m41 : rt_M := (9, "fail", "(II)V", prog_10_method_3_code, 3, none, [(0, rt_i41_0)], [(10, "java/lang/IllegalArgumentException", 5, 82)], [], [])
def rt_i42_0 : List (Nat × Instr) := [(0, .aload_n 0), (1, .getfield 9), (4, .getfield 72), (7, .aload_n 0), (8, .getfield 49), (11, .iaload), (12, .ireturn)]
def rt_m42 : rt_M := (9, "here", "()I", prog_10_method_4_code, 1, (some FieldType.int), [(0, rt_i42_0)], [], [], [])
def rt_i43_0 : List (Nat × Instr) := [(0, .aload_n 0), (1, .getfield 9), (4, .getfield 76), (7, .aload_n 0), (8, .getfield 49), (11, .iaload), (12, .ireturn)]
def rt_m43 : rt_M := (9, "next", "()I", prog_10_method_5_code, 1, (some FieldType.int), [(0, rt_i43_0)], [], [], [])
def rt_i44_0 : List (Nat × Instr) := [(0, .iconst 0), (1, .istore_n 1), (2, .iload_n 1), (3, .sipush 4000), (6, .if_icmp .ge 23), (9, .aload_n 0), (10, .invokevirtual 82), (13, .sipush 200), (16, .if_icmp .ne 13), (19, .aload_n 0), (20, .invokevirtual 93), (23, .iinc 1 1), (26, .goto (-24)), (29, .iconst 0), (30, .istore_n 1), (31, .iload_n 1)]
def rt_i44_1 : List (Nat × Instr) := [(32, .sipush 4000), (35, .if_icmp .ge 23), (38, .aload_n 0), (39, .invokevirtual 82), (42, .sipush 201), (45, .if_icmp .ne 13), (48, .aload_n 0), (49, .invokevirtual 96), (52, .iinc 1 1), (55, .goto (-24)), (58, .iconst 0), (59, .istore_n 1), (60, .iload_n 1), (61, .sipush 4000)]
def rt_i44_2 : List (Nat × Instr) := [(64, .if_icmp .ge 23), (67, .aload_n 0), (68, .invokevirtual 82), (71, .sipush 206), (74, .if_icmp .ne 13), (77, .aload_n 0), (78, .invokevirtual 99), (81, .iinc 1 1), (84, .goto (-24)), (87, .return_)]
def rt_m44 : rt_M := (9, "readFront", "()V", prog_10_method_10_code, 2, none, [(0, rt_i44_0), (1, rt_i44_1), (2, rt_i44_2)], [], [], [])
def rt_i45_0 : List (Nat × Instr) := [(0, .iconst 0), (1, .istore_n 1), (2, .iload_n 1), (3, .sipush 4000), (6, .if_icmp .ge 122), (9, .aload_n 0), (10, .invokevirtual 82), (13, .sipush 202), (16, .if_icmp .ne 112), (19, .aload_n 0), (20, .invokevirtual 102), (23, .iconst 0), (24, .istore_n 2), (25, .iload_n 2), (26, .sipush 4000), (29, .if_icmp .ge 87)]
def rt_i45_1 : List (Nat × Instr) := [(32, .aload_n 0), (33, .invokevirtual 82), (36, .sipush 203), (39, .if_icmp .eq 13), (42, .aload_n 0), (43, .invokevirtual 82), (46, .sipush 204), (49, .if_icmp .ne 67), (52, .aload_n 0), (53, .invokevirtual 82), (56, .sipush 203), (59, .if_icmp .ne 10), (62, .aload_n 0), (63, .invokevirtual 105)]
def rt_i45_2 : List (Nat × Instr) := [(66, .goto 44), (69, .aload_n 0), (70, .invokevirtual 108), (73, .iconst 0), (74, .istore_n 3), (75, .iload_n 3), (76, .bipush 40), (78, .if_icmp .gt 26), (81, .iload_n 3), (82, .ifCond .eq 12), (85, .aload_n 0), (86, .invokevirtual 82), (89, .bipush 125), (91, .if_icmp .eq 13), (94, .aload_n 0), (95, .invokevirtual 111)]
def rt_i45_3 : List (Nat × Instr) := [(98, .iinc 3 1), (101, .goto (-26)), (104, .aload_n 0), (105, .bipush 125), (107, .invokevirtual 114), (110, .iinc 2 1), (113, .goto (-88)), (116, .aload_n 0), (117, .bipush 125), (119, .invokevirtual 114), (122, .iinc 1 1), (125, .goto (-123))]
def rt_i45_4 : List (Nat × Instr) := [(128, .aload_n 0), (129, .getfield 15), (132, .getfield 118), (135, .ifCond .eq 10), (138, .aload_n 0), (139, .invokevirtual 82), (142, .ifCond .eq 12), (145, .aload_n 0), (146, .iconst 2), (147, .aload_n 0), (148, .invokevirtual 79), (151, .invokevirtual 61), (154, .return_)]
def rt_m45 : rt_M := (9, "readClasses", "()V", prog_10_method_11_code, 4, none, [(0, rt_i45_0), (1, rt_i45_1), (2, rt_i45_2), (3, rt_i45_3), (4, rt_i45_4)], [], [], [])
def rt_i46_0 : List (Nat × Instr) := [(0, .aload_n 0), (1, .invokespecial 3), (4, .aload_n 0), (5, .iconst 4), (6, .newarray .int), (8, .putfield 9), (11, .aload_n 0), (12, .bipush 64), (14, .newarray .int), (16, .putfield 15), (19, .aload_n 0), (20, .bipush 12), (22, .newarray .int), (24, .putfield 18), (27, .aload_n 0), (28, .bipush 12), (30, .newarray .int)]
def rt_i46_1 : List (Nat × Instr) := [(32, .putfield 21), (35, .aload_n 0), (36, .bipush 12), (38, .newarray .int), (40, .putfield 24), (43, .aload_n 0), (44, .sipush 192), (47, .newarray .long), (49, .putfield 27), (52, .aload_n 0), (53, .bipush 96), (55, .newarray .long), (57, .putfield 31), (60, .aload_n 0), (61, .aload_n 1), (62, .putfield 34)]
def rt_i46_2 : List (Nat × Instr) := [(65, .aload_n 0), (66, .aload_n 2), (67, .putfield 38), (70, .aload_n 0), (71, .aload_n 3), (72, .putfield 42), (75, .bipush 7), (77, .istore 4), (79, .iload 4), (81, .bipush 9), (83, .if_icmp .gt 17), (86, .aload_n 0), (87, .getfield 18), (90, .iload 4), (92, .iconst (-1)), (93, .iastore), (94, .iinc 4 1)]
def rt_i46_3 : List (Nat × Instr) := [(97, .goto (-18)), (100, .return_)]
def rt_m46 : rt_M := (10, "<init>", "(LMarkHouse$Program;LMarkHouse$Code;LMarkHouse$Effects;)V", prog_11_method_1_code, 5, none, [(0, rt_i46_0), (1, rt_i46_1), (2, rt_i46_2), (3, rt_i46_3)], [], [], [])
def rt_i47_0 : List (Nat × Instr) := [(0, .aload_n 0), (1, .getfield 46), (4, .bipush 64), (6, .if_icmp .lt 5), (9, .iconst (-1)), (10, .ireturn), (11, .aload_n 0), (12, .getfield 15), (15, .aload_n 0), (16, .dup), (17, .getfield 46), (20, .dup_x1), (21, .iconst 1), (22, .iadd), (23, .putfield 46), (26, .iload_n 1), (27, .iastore), (28, .aload_n 0), (29, .getfield 46)]
def rt_i47_1 : List (Nat × Instr) := [(32, .ireturn)]
def rt_m47 : rt_M := (10, "addInput", "(I)I", prog_11_method_2_code, 2, (some FieldType.int), [(0, rt_i47_0), (1, rt_i47_1)], [], [], [])
def rt_i48_0 : List (Nat × Instr) := [(0, .aload_n 0), (1, .getfield 18), (4, .iconst 0), (5, .invokestatic 56), (8, .aload_n 0), (9, .getfield 18), (12, .bipush 7), (14, .bipush 10), (16, .iconst (-1)), (17, .invokestatic 62), (20, .return_)]
def rt_m48 : rt_M := (10, "stop", "()V", prog_11_method_4_code, 1, none, [(0, rt_i48_0)], [], [], [])
def rt_i49_0 : List (Nat × Instr) := [(0, .aload_n 0), (1, .getfield 18), (4, .iconst 0), (5, .iaload), (6, .iconst 1), (7, .if_icmp .ne 7), (10, .iconst 1), (11, .goto 4), (14, .iconst 0), (15, .ireturn)]
def rt_m49 : rt_M := (10, "isUnderWay", "()Z", prog_11_method_5_code, 1, (some FieldType.boolean), [(0, rt_i49_0)], [], [], [])
def rt_i50_0 : List (Nat × Instr) := [(0, .iload_n 1), (1, .ifCond .lt 9), (4, .iload_n 1), (5, .bipush 12), (7, .if_icmp .lt 5), (10, .iconst (-1)), (11, .ireturn), (12, .aload_n 0), (13, .getfield 18), (16, .iconst 0), (17, .iaload), (18, .ifCond .ne 7), (21, .iconst 1), (22, .goto 4), (25, .iconst 0), (26, .istore_n 2), (27, .iload_n 1), (28, .tableswitch 91 3 5 #[28, 55, 75])]
def rt_i50_1 : List (Nat × Instr) := [(56, .iload_n 2), (57, .ifCond .eq 7), (60, .iconst 0), (61, .goto 21)]
def rt_i50_2 : List (Nat × Instr) := [(64, .aload_n 0), (65, .getfield 38), (68, .aload_n 0), (69, .getfield 21), (72, .aload_n 0), (73, .getfield 99), (76, .iconst 1), (77, .isub), (78, .iaload), (79, .invokevirtual 192), (82, .ireturn), (83, .iload_n 2), (84, .ifCond .eq 7), (87, .iconst 0), (88, .goto 14), (91, .aload_n 0), (92, .getfield 24), (95, .aload_n 0)]
def rt_i50_3 : List (Nat × Instr) := [(96, .getfield 99), (99, .iconst 1), (100, .isub), (101, .iaload), (102, .ireturn), (103, .aload_n 0), (104, .invokevirtual 114), (107, .ifCond .eq 10), (110, .aload_n 0), (111, .getfield 99), (114, .goto 4), (117, .iconst 0), (118, .ireturn), (119, .aload_n 0), (120, .getfield 18), (123, .iload_n 1), (124, .iaload), (125, .ireturn)]
def rt_m50 : rt_M := (10, "tellTally", "(I)I", prog_11_method_23_code, 3, (some FieldType.int), [(0, rt_i50_0), (1, rt_i50_1), (2, rt_i50_2), (3, rt_i50_3)], [], [], [])
def rt_i51_0 : List (Nat × Instr) := [(0, .aload_n 0), (1, .invokespecial 3), (4, .aload_n 0), (5, .sipush 8000), (8, .newarray .byte), (10, .putfield 9), (13, .aload_n 0), (14, .aload_n 1), (15, .putfield 15), (18, .aload_n 0), (19, .aload_n 2), (20, .putfield 19), (23, .aload_n 0), (24, .aload_n 3), (25, .putfield 23), (28, .aload_n 0), (29, .aload 4), (31, .putfield 27)]
def rt_i51_1 : List (Nat × Instr) := [(34, .aload_n 0), (35, .aload 5), (37, .putfield 31), (40, .return_)]
def rt_m51 : rt_M := (11, "<init>", "([JLMarkHouse$Program;LMarkHouse$Code;LMarkHouse$Marks;LMarkHouse$Effects;)V", prog_12_method_1_code, 6, none, [(0, rt_i51_0), (1, rt_i51_1)], [], [], [])
def rt_i52_0 : List (Nat × Instr) := [(0, .aload_n 0), (1, .invokespecial 3), (4, .aload_n 0), (5, .bipush 12), (7, .newarray .boolean), (9, .putfield 9), (12, .aload_n 0), (13, .bipush 12), (15, .newarray .long), (17, .putfield 15), (20, .aload_n 0), (21, .bipush 12), (23, .newarray .int), (25, .putfield 19), (28, .aload_n 0), (29, .bipush 12), (31, .newarray .int)]
def rt_i52_1 : List (Nat × Instr) := [(33, .putfield 23), (36, .aload_n 0), (37, .iconst (-1)), (38, .putfield 26), (41, .aload_n 0), (42, .iconst (-1)), (43, .putfield 30), (46, .aload_n 0), (47, .aload_n 1), (48, .putfield 33), (51, .aload_n 0), (52, .aload_n 2), (53, .putfield 37), (56, .aload_n 0), (57, .aload_n 3), (58, .putfield 41), (61, .return_)]
def rt_m52 : rt_M := (12, "<init>", "(LMarkHouse$Program;LMarkHouse$Marks;LMarkHouse$Effects;)V", prog_13_method_1_code, 4, none, [(0, rt_i52_0), (1, rt_i52_1)], [], [], [])
def rt_i53_0 : List (Nat × Instr) := [(0, .aload_n 0), (1, .iconst 0), (2, .putfield 45), (5, .aload_n 0), (6, .iconst (-1)), (7, .putfield 26), (10, .aload_n 0), (11, .iconst (-1)), (12, .putfield 30), (15, .return_)]
def rt_m53 : rt_M := (12, "forget", "()V", prog_13_method_2_code, 1, none, [(0, rt_i53_0)], [], [], [])
def rt_i54_0 : List (Nat × Instr) := [(0, .iload_n 1), (1, .ifCond .ne 8), (4, .aload_n 0), (5, .getfield 26), (8, .ireturn), (9, .iload_n 1), (10, .iconst 1), (11, .if_icmp .ne 8), (14, .aload_n 0), (15, .getfield 30), (18, .ireturn), (19, .iload_n 1), (20, .iconst 2), (21, .if_icmp .lt 24), (24, .iload_n 1), (25, .iconst 2), (26, .isub), (27, .aload_n 0), (28, .getfield 45), (31, .if_icmp .ge 14)]
def rt_i54_1 : List (Nat × Instr) := [(34, .aload_n 0), (35, .getfield 23), (38, .iload_n 1), (39, .iconst 2), (40, .isub), (41, .iaload), (42, .goto 4), (45, .iconst (-1)), (46, .ireturn)]
def rt_m54 : rt_M := (12, "tellWired", "(I)I", prog_13_method_3_code, 2, (some FieldType.int), [(0, rt_i54_0), (1, rt_i54_1)], [], [], [])
def rt_i55_0 : List (Nat × Instr) := [(0, .aload_n 0), (1, .invokespecial 3), (4, .aload_n 0), (5, .new 9), (8, .dup), (9, .invokespecial 11), (12, .putfield 12), (15, .aload_n 0), (16, .new 16), (19, .dup), (20, .invokespecial 18), (23, .putfield 19), (26, .aload_n 0), (27, .new 23), (30, .dup), (31, .aload_n 0)]
def rt_i55_1 : List (Nat × Instr) := [(32, .getfield 19), (35, .invokespecial 25), (38, .putfield 28), (41, .aload_n 0), (42, .new 32), (45, .dup), (46, .invokespecial 34), (49, .putfield 35), (52, .aload_n 0), (53, .new 39), (56, .dup), (57, .aload_n 0), (58, .getfield 12), (61, .aload_n 0), (62, .getfield 19)]
def rt_i55_2 : List (Nat × Instr) := [(65, .aload_n 0), (66, .getfield 28), (69, .aload_n 0), (70, .getfield 35), (73, .invokespecial 41), (76, .putfield 44), (79, .aload_n 0), (80, .new 48), (83, .dup), (84, .aload_n 0), (85, .getfield 19), (88, .aload_n 0), (89, .getfield 28), (92, .aload_n 0), (93, .getfield 35)]
def rt_i55_3 : List (Nat × Instr) := [(96, .invokespecial 50), (99, .putfield 53), (102, .aload_n 0), (103, .new 57), (106, .dup), (107, .aload_n 0), (108, .getfield 19), (111, .aload_n 0), (112, .getfield 28), (115, .aload_n 0), (116, .getfield 53), (119, .invokespecial 59), (122, .putfield 62), (125, .aload_n 0), (126, .new 66)]
def rt_i55_4 : List (Nat × Instr) := [(129, .dup), (130, .aload_n 0), (131, .getfield 19), (134, .aload_n 0), (135, .getfield 28), (138, .aload_n 0), (139, .getfield 53), (142, .invokespecial 68), (145, .putfield 69), (148, .aload_n 0), (149, .new 73), (152, .dup), (153, .aload_n 0), (154, .getfield 19), (157, .aload_n 0), (158, .getfield 35)]
def rt_i55_5 : List (Nat × Instr) := [(161, .aload_n 0), (162, .getfield 53), (165, .invokespecial 75), (168, .putfield 78), (171, .aload_n 0), (172, .new 82), (175, .dup), (176, .aload_n 0), (177, .getfield 12), (180, .getfield 84), (183, .aload_n 0), (184, .getfield 19), (187, .aload_n 0), (188, .getfield 28), (191, .aload_n 0)]
def rt_i55_6 : List (Nat × Instr) := [(192, .getfield 35), (195, .aload_n 0), (196, .getfield 53), (199, .invokespecial 88), (202, .putfield 91), (205, .return_)]
def rt_m55 : rt_M := (13, "<init>", "()V", prog_1_method_1_code, 1, none, [(0, rt_i55_0), (1, rt_i55_1), (2, rt_i55_2), (3, rt_i55_3), (4, rt_i55_4), (5, rt_i55_5), (6, rt_i55_6)], [], [], [])
def rt_i56_0 : List (Nat × Instr) := [(0, .aload_n 0), (1, .getfield 12), (4, .getfield 95), (7, .bipush 20), (9, .iadd), (10, .sipush 4000), (13, .if_icmp .le 5), (16, .iconst (-1)), (17, .ireturn), (18, .aload_n 0), (19, .getfield 12), (22, .iload_n 1), (23, .invokevirtual 99), (26, .aload_n 0), (27, .getfield 12), (30, .iload_n 2), (31, .invokevirtual 99)]
def rt_i56_1 : List (Nat × Instr) := [(34, .aload_n 0), (35, .getfield 12), (38, .iload_n 3), (39, .invokevirtual 99), (42, .aload_n 0), (43, .getfield 12), (46, .iload 4), (48, .invokevirtual 99), (51, .aload_n 0), (52, .getfield 12), (55, .iload 5), (57, .invokevirtual 99), (60, .aload_n 0), (61, .getfield 12)]
def rt_i56_2 : List (Nat × Instr) := [(64, .getfield 95), (67, .ireturn)]
def rt_m56 : rt_M := (13, "feed", "(IIIII)I", prog_1_method_2_code, 6, (some FieldType.int), [(0, rt_i56_0), (1, rt_i56_1), (2, rt_i56_2)], [], [], [])
def rt_i57_0 : List (Nat × Instr) := [(0, .iload_n 1), (1, .ifCond .lt 14), (4, .iload_n 1), (5, .aload_n 0), (6, .getfield 12), (9, .getfield 95), (12, .if_icmp .le 5), (15, .iconst (-1)), (16, .ireturn), (17, .aload_n 0), (18, .getfield 12), (21, .iload_n 1), (22, .putfield 95), (25, .iload_n 1), (26, .ireturn)]
def rt_m57 : rt_M := (13, "end", "(I)I", prog_1_method_3_code, 2, (some FieldType.int), [(0, rt_i57_0)], [], [], [])
def rt_i58_0 : List (Nat × Instr) := [(0, .iload_n 1), (1, .ifCond .lt 14), (4, .iload_n 1), (5, .aload_n 0), (6, .getfield 91), (9, .getfield 103), (12, .if_icmp .lt 5), (15, .iconst (-1)), (16, .ireturn), (17, .aload_n 0), (18, .getfield 91), (21, .getfield 104), (24, .iload_n 1), (25, .baload), (26, .sipush 255), (29, .iand), (30, .ireturn)]
def rt_m58 : rt_M := (13, "out", "(I)I", prog_1_method_4_code, 2, (some FieldType.int), [(0, rt_i58_0)], [], [], [])
def rt_i59_0 : List (Nat × Instr) := [(0, .aload_n 0), (1, .invokevirtual 108), (4, .aload_n 0), (5, .getfield 44), (8, .invokevirtual 111), (11, .aload_n 0), (12, .getfield 44), (15, .invokevirtual 114), (18, .aload_n 0), (19, .getfield 44), (22, .invokevirtual 117), (25, .aload_n 0), (26, .getfield 44), (29, .invokevirtual 120)]
def rt_i59_1 : List (Nat × Instr) := [(32, .aload_n 0), (33, .getfield 44), (36, .invokevirtual 123), (39, .aload_n 0), (40, .getfield 19), (43, .iconst 1), (44, .putfield 126), (47, .aload_n 0), (48, .getfield 53), (51, .invokevirtual 130), (54, .aload_n 0), (55, .getfield 19), (58, .getfield 133), (61, .ireturn)]
def rt_m59 : rt_M := (13, "compile", "()I", prog_1_method_5_code, 1, (some FieldType.int), [(0, rt_i59_0), (1, rt_i59_1)], [], [], [])
def rt_i60_0 : List (Nat × Instr) := [(0, .iload_n 1), (1, .ifCond .ne 11), (4, .aload_n 0), (5, .getfield 44), (8, .getfield 136), (11, .ireturn), (12, .iload_n 1), (13, .iconst 1), (14, .if_icmp .ne 13), (17, .aload_n 0), (18, .getfield 44), (21, .getfield 139), (24, .goto 4), (27, .iconst (-1)), (28, .ireturn)]
def rt_m60 : rt_M := (13, "fault", "(I)I", prog_1_method_6_code, 2, (some FieldType.int), [(0, rt_i60_0)], [], [], [])
def rt_i61_0 : List (Nat × Instr) := [(0, .aload_n 0), (1, .getfield 19), (4, .getfield 126), (7, .ifCond .eq 13), (10, .aload_n 0), (11, .getfield 91), (14, .invokevirtual 142), (17, .goto 4), (20, .iconst (-1)), (21, .ireturn)]
def rt_m61 : rt_M := (13, "tell", "()I", prog_1_method_7_code, 1, (some FieldType.int), [(0, rt_i61_0)], [], [], [])
def rt_i62_0 : List (Nat × Instr) := [(0, .aload_n 0), (1, .getfield 19), (4, .getfield 126), (7, .ifCond .ne 5), (10, .iconst (-1)), (11, .ireturn), (12, .iload_n 1), (13, .bipush 10), (15, .if_icmp .ne 28), (18, .aload_n 0), (19, .getfield 28), (22, .iload_n 2), (23, .invokevirtual 146), (26, .ifCond .ge 7), (29, .iconst (-1)), (30, .goto 12)]
def rt_i62_1 : List (Nat × Instr) := [(33, .aload_n 0), (34, .getfield 35), (37, .getfield 150), (40, .iload_n 2), (41, .iaload), (42, .ireturn), (43, .iload_n 1), (44, .bipush 8), (46, .if_icmp .eq 9), (49, .iload_n 1), (50, .bipush 9), (52, .if_icmp .ne 33), (55, .aload_n 0), (56, .getfield 28), (59, .iload_n 2), (60, .invokevirtual 146), (63, .iconst 2)]
def rt_i62_2 : List (Nat × Instr) := [(64, .if_icmp .ne 19), (67, .aload_n 0), (68, .iload_n 1), (69, .aload_n 0), (70, .getfield 28), (73, .iload_n 2), (74, .invokevirtual 154), (77, .invokevirtual 157), (80, .goto 4), (83, .iconst (-1)), (84, .ireturn), (85, .aload_n 0), (86, .getfield 19), (89, .iload_n 1), (90, .iload_n 2), (91, .invokevirtual 161), (94, .ireturn)]
def rt_m62 : rt_M := (13, "size", "(II)I", prog_1_method_8_code, 3, (some FieldType.int), [(0, rt_i62_0), (1, rt_i62_1), (2, rt_i62_2)], [], [], [])
def rt_i63_0 : List (Nat × Instr) := [(0, .aload_n 0), (1, .getfield 19), (4, .iload_n 1), (5, .invokevirtual 170), (8, .ifCond .ne 5), (11, .iconst (-1)), (12, .ireturn), (13, .aload_n 0), (14, .getfield 19), (17, .getfield 174), (20, .iload_n 1), (21, .aaload), (22, .astore 5), (24, .iload_n 2), (25, .ifCond .lt 25), (28, .iload_n 2), (29, .aload 5), (31, .getfield 178)]
def rt_i63_1 : List (Nat × Instr) := [(34, .if_icmp .ge 16), (37, .iload_n 3), (38, .ifCond .lt 12), (41, .iload_n 3), (42, .aload 5), (44, .getfield 178), (47, .if_icmp .lt 5), (50, .iconst (-1)), (51, .ireturn), (52, .iload 4), (54, .tableswitch 58 0 2 #[26, 42, 50])]
def rt_i63_2 : List (Nat × Instr) := [(80, .aload 5), (82, .iload_n 2), (83, .iload_n 3), (84, .invokevirtual 182), (87, .ifCond .eq 7), (90, .iconst 1), (91, .goto 4), (94, .iconst 0), (95, .ireturn)]
def rt_i63_3 : List (Nat × Instr) := [(96, .aload 5), (98, .iload_n 2), (99, .iload_n 3), (100, .invokevirtual 186), (103, .ireturn), (104, .aload 5), (106, .iload_n 2), (107, .iload_n 3), (108, .invokevirtual 189), (111, .ireturn), (112, .iconst (-1)), (113, .ireturn)]
def rt_m63 : rt_M := (13, "order", "(IIII)I", prog_1_method_10_code, 6, (some FieldType.int), [(0, rt_i63_0), (1, rt_i63_1), (2, rt_i63_2), (3, rt_i63_3)], [], [], [])
def rt_i64_0 : List (Nat × Instr) := [(0, .aload_n 0), (1, .getfield 28), (4, .iload_n 1), (5, .invokevirtual 146), (8, .ifCond .lt 20), (11, .iload_n 2), (12, .ifCond .lt 16), (15, .iload_n 2), (16, .aload_n 0), (17, .getfield 35), (20, .getfield 150), (23, .iload_n 1), (24, .iaload), (25, .if_icmp .lt 5), (28, .iconst (-1)), (29, .ireturn), (30, .aload_n 0), (31, .getfield 35)]
def rt_i64_1 : List (Nat × Instr) := [(34, .iload_n 1), (35, .iload_n 2), (36, .invokevirtual 192), (39, .istore 4), (41, .iload_n 3), (42, .tableswitch 105 0 3 #[30, 41, 60, 78])]
def rt_i64_2 : List (Nat × Instr) := [(72, .aload_n 0), (73, .getfield 35), (76, .getfield 195), (79, .iload 4), (81, .iaload), (82, .ireturn), (83, .aload_n 0), (84, .getfield 35), (87, .getfield 198), (90, .iload 4), (92, .baload), (93, .ifCond .eq 7)]
def rt_i64_3 : List (Nat × Instr) := [(96, .iconst 1), (97, .goto 4), (100, .iconst 0), (101, .ireturn), (102, .aload_n 0), (103, .getfield 35), (106, .iload 4), (108, .invokevirtual 202), (111, .ifCond .eq 7), (114, .iconst 1), (115, .goto 4), (118, .iconst 0), (119, .ireturn), (120, .aload_n 0), (121, .getfield 35), (124, .iload 4), (126, .invokevirtual 202)]
def rt_i64_4 : List (Nat × Instr) := [(129, .ifCond .eq 7), (132, .iconst 0), (133, .goto 13), (136, .aload_n 0), (137, .getfield 35), (140, .getfield 205), (143, .iload 4), (145, .iaload), (146, .ireturn), (147, .iconst (-1)), (148, .ireturn)]
def rt_m64 : rt_M := (13, "mark", "(III)I", prog_1_method_11_code, 5, (some FieldType.int), [(0, rt_i64_0), (1, rt_i64_1), (2, rt_i64_2), (3, rt_i64_3), (4, rt_i64_4)], [], [], [])
def rt_i65_0 : List (Nat × Instr) := [(0, .aload_n 0), (1, .getfield 12), (4, .getfield 95), (7, .istore_n 2), (8, .aload_n 0), (9, .getfield 12), (12, .iconst 0), (13, .putfield 95), (16, .aload_n 0), (17, .getfield 28), (20, .iload_n 1), (21, .invokevirtual 146), (24, .istore_n 3), (25, .iload_n 3), (26, .ifCond .ge 5), (29, .iconst (-1)), (30, .ireturn), (31, .aload_n 0)]
def rt_i65_1 : List (Nat × Instr) := [(32, .getfield 44), (35, .iload_n 2), (36, .iconst (-1)), (37, .invokevirtual 208), (40, .aload_n 0), (41, .getfield 44), (44, .getfield 212), (47, .ifCond .lt 15), (50, .sipush (-1000)), (53, .aload_n 0), (54, .getfield 44), (57, .getfield 212), (60, .isub), (61, .ireturn), (62, .aload_n 0), (63, .getfield 12)]
def rt_i65_2 : List (Nat × Instr) := [(66, .getfield 215), (69, .iconst 0), (70, .baload), (71, .sipush 255), (74, .iand), (75, .aload_n 0), (76, .getfield 35), (79, .iload_n 1), (80, .invokevirtual 218), (83, .if_icmp .le 5), (86, .iconst (-1)), (87, .ireturn), (88, .aload_n 0), (89, .getfield 35), (92, .iload_n 1), (93, .invokevirtual 221)]
def rt_i65_3 : List (Nat × Instr) := [(96, .aload_n 0), (97, .getfield 44), (100, .iload_n 2), (101, .iload_n 1), (102, .invokevirtual 208), (105, .aload_n 0), (106, .getfield 53), (109, .iload_n 1), (110, .iload_n 3), (111, .invokevirtual 224), (114, .aload_n 0), (115, .invokevirtual 108), (118, .aload_n 0), (119, .getfield 35), (122, .getfield 150), (125, .iload_n 1), (126, .iaload), (127, .ireturn)]
def rt_m65 : rt_M := (13, "give", "(I)I", prog_1_method_12_code, 4, (some FieldType.int), [(0, rt_i65_0), (1, rt_i65_1), (2, rt_i65_2), (3, rt_i65_3)], [], [], [])
def rt_i66_0 : List (Nat × Instr) := [(0, .aload_n 0), (1, .getfield 28), (4, .iload_n 1), (5, .invokevirtual 146), (8, .ifCond .ge 7), (11, .iconst (-1)), (12, .goto 11), (15, .aload_n 0), (16, .getfield 91), (19, .iload_n 1), (20, .invokevirtual 227), (23, .ireturn)]
def rt_m66 : rt_M := (13, "file", "(I)I", prog_1_method_13_code, 2, (some FieldType.int), [(0, rt_i66_0)], [], [], [])
def rt_i67_0 : List (Nat × Instr) := [(0, .aload_n 0), (1, .iload_n 1), (2, .iload_n 2), (3, .invokevirtual 230), (6, .ifCond .eq 15), (9, .aload_n 0), (10, .getfield 53), (13, .iload_n 1), (14, .iload_n 2), (15, .invokevirtual 233), (18, .goto 4), (21, .iconst (-1)), (22, .ireturn)]
def rt_m67 : rt_M := (13, "effective", "(II)I", prog_1_method_14_code, 3, (some FieldType.int), [(0, rt_i67_0)], [], [], [])
def rt_i68_0 : List (Nat × Instr) := [(0, .aload_n 0), (1, .iload_n 1), (2, .iload_n 2), (3, .invokevirtual 230), (6, .ifCond .eq 15), (9, .aload_n 0), (10, .getfield 53), (13, .iload_n 1), (14, .iload_n 2), (15, .invokevirtual 233), (18, .ifCond .ne 5), (21, .iconst (-1)), (22, .ireturn), (23, .iload_n 3), (24, .tableswitch 81 0 3 #[32, 40, 48, 64])]
def rt_i68_1 : List (Nat × Instr) := [(56, .aload_n 0), (57, .getfield 53), (60, .getfield 236), (63, .ireturn)]
def rt_i68_2 : List (Nat × Instr) := [(64, .aload_n 0), (65, .getfield 53), (68, .getfield 239), (71, .ireturn), (72, .aload_n 0), (73, .getfield 53), (76, .getfield 242), (79, .ifCond .lt 7), (82, .iconst 1), (83, .goto 4), (86, .iconst 0), (87, .ireturn), (88, .aload_n 0), (89, .getfield 53), (92, .iload_n 2), (93, .invokevirtual 245)]
def rt_i68_3 : List (Nat × Instr) := [(96, .ifCond .eq 7), (99, .iconst 1), (100, .goto 4), (103, .iconst 0), (104, .ireturn), (105, .iconst (-1)), (106, .ireturn)]
def rt_m68 : rt_M := (13, "whence", "(III)I", prog_1_method_15_code, 4, (some FieldType.int), [(0, rt_i68_0), (1, rt_i68_1), (2, rt_i68_2), (3, rt_i68_3)], [], [], [])
def rt_i69_0 : List (Nat × Instr) := [(0, .aload_n 0), (1, .iload_n 1), (2, .iload_n 2), (3, .invokevirtual 230), (6, .ifCond .eq 20), (9, .iload_n 3), (10, .ifCond .lt 16), (13, .iload_n 3), (14, .aload_n 0), (15, .getfield 53), (18, .iload_n 1), (19, .iload_n 2), (20, .invokevirtual 233), (23, .if_icmp .lt 5), (26, .iconst (-1)), (27, .ireturn), (28, .aload_n 0), (29, .getfield 53)]
def rt_i69_1 : List (Nat × Instr) := [(32, .iload_n 2), (33, .iload_n 3), (34, .invokevirtual 248), (37, .istore 5), (39, .iload_n 2), (40, .bipush 100), (42, .if_icmp .lt 34), (45, .iload 4), (47, .ifCond .ne 27), (50, .aload_n 0), (51, .getfield 91), (54, .iload 5), (56, .aload_n 0), (57, .getfield 19), (60, .getfield 174), (63, .iload_n 2)]
def rt_i69_2 : List (Nat × Instr) := [(64, .bipush 100), (66, .isub), (67, .aaload), (68, .invokevirtual 251), (71, .goto 4), (74, .iconst (-1)), (75, .ireturn), (76, .aload_n 0), (77, .getfield 19), (80, .getfield 255), (83, .iload_n 2), (84, .aaload), (85, .astore 6), (87, .iload 4), (89, .ifCond .lt 29), (92, .iload 4), (94, .aload 6)]
def rt_i69_3 : List (Nat × Instr) := [(96, .getfield 259), (99, .if_icmp .ge 19), (102, .aload_n 0), (103, .getfield 91), (106, .iload 5), (108, .aload 6), (110, .iload 4), (112, .invokevirtual 262), (115, .goto 4), (118, .iconst (-1)), (119, .ireturn)]
def rt_m69 : rt_M := (13, "ask", "(IIII)I", prog_1_method_16_code, 7, (some FieldType.int), [(0, rt_i69_0), (1, rt_i69_1), (2, rt_i69_2), (3, rt_i69_3)], [], [], [])
def rt_i70_0 : List (Nat × Instr) := [(0, .aload_n 0), (1, .getfield 28), (4, .iload_n 1), (5, .invokevirtual 146), (8, .ifCond .lt 18), (11, .aload_n 0), (12, .getfield 19), (15, .iload_n 2), (16, .invokevirtual 266), (19, .ifCond .eq 7), (22, .iconst 1), (23, .goto 4), (26, .iconst 0), (27, .ireturn)]
def rt_m70 : rt_M := (13, "isAskable", "(II)Z", prog_1_method_17_code, 3, (some FieldType.boolean), [(0, rt_i70_0)], [], [], [])
def rt_i71_0 : List (Nat × Instr) := [(0, .aload_n 0), (1, .getfield 28), (4, .iload_n 1), (5, .invokevirtual 146), (8, .ifCond .le 14), (11, .aload_n 0), (12, .getfield 19), (15, .iload_n 2), (16, .invokevirtual 170), (19, .ifCond .ne 5), (22, .iconst (-1)), (23, .ireturn), (24, .aload_n 0), (25, .getfield 53), (28, .invokevirtual 269), (31, .aload_n 0)]
def rt_i71_1 : List (Nat × Instr) := [(32, .getfield 53), (35, .iload_n 1), (36, .iload_n 2), (37, .invokevirtual 272), (40, .ireturn)]
def rt_m71 : rt_M := (13, "markOf", "(II)I", prog_1_method_18_code, 3, (some FieldType.int), [(0, rt_i71_0), (1, rt_i71_1)], [], [], [])
def rt_i72_0 : List (Nat × Instr) := [(0, .aload_n 0), (1, .getfield 19), (4, .getfield 126), (7, .ifCond .ne 5), (10, .iconst (-1)), (11, .ireturn), (12, .aload_n 0), (13, .getfield 53), (16, .invokevirtual 275), (19, .istore_n 1), (20, .aload_n 0), (21, .invokevirtual 108), (24, .iload_n 1), (25, .ireturn)]
def rt_m72 : rt_M := (13, "rounds", "()I", prog_1_method_19_code, 2, (some FieldType.int), [(0, rt_i72_0)], [], [], [])
def rt_i73_0 : List (Nat × Instr) := [(0, .aload_n 0), (1, .getfield 19), (4, .iload_n 1), (5, .invokevirtual 170), (8, .ifCond .ne 5), (11, .iconst (-1)), (12, .ireturn), (13, .aload_n 0), (14, .getfield 53), (17, .invokevirtual 269), (20, .aload_n 0), (21, .getfield 62), (24, .iload_n 1), (25, .invokevirtual 278), (28, .aload_n 0), (29, .getfield 62)]
def rt_i73_1 : List (Nat × Instr) := [(32, .iconst 0), (33, .putfield 281), (36, .aload_n 0), (37, .getfield 62), (40, .getfield 284), (43, .ireturn)]
def rt_m73 : rt_M := (13, "flow", "(I)I", prog_1_method_20_code, 2, (some FieldType.int), [(0, rt_i73_0), (1, rt_i73_1)], [], [], [])
def rt_i74_0 : List (Nat × Instr) := [(0, .aload_n 0), (1, .getfield 62), (4, .iload_n 1), (5, .invokevirtual 287), (8, .ifCond .eq 15), (11, .aload_n 0), (12, .getfield 62), (15, .iload_n 1), (16, .iload_n 2), (17, .invokevirtual 290), (20, .goto 4), (23, .iconst (-1)), (24, .ireturn)]
def rt_m74 : rt_M := (13, "error", "(II)I", prog_1_method_21_code, 3, (some FieldType.int), [(0, rt_i74_0)], [], [], [])
def rt_i75_0 : List (Nat × Instr) := [(0, .aload_n 0), (1, .getfield 62), (4, .iload_n 1), (5, .invokevirtual 287), (8, .ifCond .eq 14), (11, .aload_n 0), (12, .getfield 62), (15, .iload_n 1), (16, .invokevirtual 293), (19, .goto 4), (22, .iconst (-1)), (23, .ireturn)]
def rt_m75 : rt_M := (13, "way", "(I)I", prog_1_method_22_code, 2, (some FieldType.int), [(0, rt_i75_0)], [], [], [])
def rt_i76_0 : List (Nat × Instr) := [(0, .iload_n 1), (1, .ifCond .lt 14), (4, .iload_n 1), (5, .aload_n 0), (6, .getfield 62), (9, .getfield 281), (12, .if_icmp .lt 7), (15, .iconst (-1)), (16, .goto 12), (19, .aload_n 0), (20, .getfield 62), (23, .getfield 296), (26, .iload_n 1), (27, .iaload), (28, .ireturn)]
def rt_m76 : rt_M := (13, "step", "(I)I", prog_1_method_23_code, 2, (some FieldType.int), [(0, rt_i76_0)], [], [], [])
def rt_i77_0 : List (Nat × Instr) := [(0, .aload_n 0), (1, .getfield 62), (4, .getfield 299), (7, .ifCond .lt 15), (10, .aload_n 0), (11, .getfield 28), (14, .iload_n 1), (15, .invokevirtual 146), (18, .iconst 2), (19, .if_icmp .eq 5), (22, .iconst (-1)), (23, .ireturn), (24, .aload_n 0), (25, .getfield 62), (28, .aload_n 0), (29, .getfield 28)]
def rt_i77_1 : List (Nat × Instr) := [(32, .iload_n 1), (33, .invokevirtual 154), (36, .iload_n 2), (37, .iload_n 3), (38, .invokevirtual 302), (41, .ireturn)]
def rt_m77 : rt_M := (13, "state", "(III)I", prog_1_method_24_code, 4, (some FieldType.int), [(0, rt_i77_0), (1, rt_i77_1)], [], [], [])
def rt_i78_0 : List (Nat × Instr) := [(0, .aload_n 0), (1, .getfield 19), (4, .iload_n 1), (5, .invokevirtual 170), (8, .ifCond .ne 5), (11, .iconst (-1)), (12, .ireturn), (13, .aload_n 0), (14, .invokevirtual 108), (17, .aload_n 0), (18, .getfield 53), (21, .invokevirtual 269), (24, .aload_n 0), (25, .getfield 53), (28, .iload_n 1), (29, .invokevirtual 306)]
def rt_i78_1 : List (Nat × Instr) := [(32, .istore_n 2), (33, .aload_n 0), (34, .getfield 62), (37, .iload_n 1), (38, .invokevirtual 309), (41, .aload_n 0), (42, .getfield 62), (45, .invokevirtual 312), (48, .iload_n 2), (49, .ireturn)]
def rt_m78 : rt_M := (13, "find", "(I)I", prog_1_method_25_code, 3, (some FieldType.int), [(0, rt_i78_0), (1, rt_i78_1)], [], [], [])
def rt_i79_0 : List (Nat × Instr) := [(0, .aload_n 0), (1, .getfield 19), (4, .iload_n 1), (5, .invokevirtual 170), (8, .ifCond .ne 5), (11, .iconst 0), (12, .ireturn), (13, .aload_n 0), (14, .invokevirtual 108), (17, .aload_n 0), (18, .getfield 53), (21, .iload_n 1), (22, .aload_n 0), (23, .getfield 19), (26, .getfield 174), (29, .iload_n 1), (30, .aaload), (31, .getfield 313)]
def rt_i79_1 : List (Nat × Instr) := [(34, .invokevirtual 316), (37, .iconst 1), (38, .ireturn)]
def rt_m79 : rt_M := (13, "plain", "(I)Z", prog_1_method_26_code, 2, (some FieldType.boolean), [(0, rt_i79_0), (1, rt_i79_1)], [], [], [])
def rt_i80_0 : List (Nat × Instr) := [(0, .aload_n 0), (1, .getfield 19), (4, .getfield 126), (7, .ifCond .ne 5), (10, .iconst (-1)), (11, .ireturn), (12, .aload_n 0), (13, .getfield 53), (16, .invokevirtual 269), (19, .aload_n 0), (20, .getfield 28), (23, .invokevirtual 319), (26, .aload_n 0), (27, .getfield 62), (30, .getfield 299)]
def rt_i80_1 : List (Nat × Instr) := [(33, .istore_n 1), (34, .iconst 0), (35, .istore_n 2), (36, .iconst 0), (37, .istore_n 3), (38, .iload_n 3), (39, .aload_n 0), (40, .getfield 19), (43, .getfield 322), (46, .if_icmp .ge 27), (49, .aload_n 0), (50, .getfield 62), (53, .iload_n 3), (54, .invokevirtual 278), (57, .iload_n 2), (58, .aload_n 0), (59, .getfield 62), (62, .invokevirtual 325)]
def rt_i80_2 : List (Nat × Instr) := [(65, .iadd), (66, .istore_n 2), (67, .iinc 3 1), (70, .goto (-32)), (73, .iload_n 1), (74, .ifCond .lt 14), (77, .aload_n 0), (78, .getfield 62), (81, .iload_n 1), (82, .invokevirtual 278), (85, .goto 10), (88, .aload_n 0), (89, .getfield 62), (92, .invokevirtual 312), (95, .iload_n 2)]
def rt_i80_3 : List (Nat × Instr) := [(96, .ireturn)]
def rt_m80 : rt_M := (13, "weave", "()I", prog_1_method_27_code, 4, (some FieldType.int), [(0, rt_i80_0), (1, rt_i80_1), (2, rt_i80_2), (3, rt_i80_3)], [], [], [])
def rt_i81_0 : List (Nat × Instr) := [(0, .aload_n 0), (1, .getfield 28), (4, .iload_n 1), (5, .invokevirtual 146), (8, .iconst 2), (9, .if_icmp .ne 22), (12, .aload_n 0), (13, .getfield 91), (16, .aload_n 0), (17, .getfield 28), (20, .iload_n 1), (21, .invokevirtual 154), (24, .iload_n 2), (25, .invokevirtual 328), (28, .goto 4), (31, .iconst (-1))]
def rt_i81_1 : List (Nat × Instr) := [(32, .ireturn)]
def rt_m81 : rt_M := (13, "code", "(IZ)I", prog_1_method_28_code, 3, (some FieldType.int), [(0, rt_i81_0), (1, rt_i81_1)], [], [], [])
def rt_i82_0 : List (Nat × Instr) := [(0, .iload_n 1), (1, .ifCond .lt 8), (4, .iload_n 1), (5, .iconst 4), (6, .if_icmp .lt 5), (9, .iconst 0), (10, .ireturn), (11, .aload_n 0), (12, .getfield 69), (15, .getfield 332), (18, .iload_n 1), (19, .iload_n 2), (20, .iastore), (21, .iconst 1), (22, .ireturn)]
def rt_m82 : rt_M := (13, "argument", "(II)Z", prog_1_method_29_code, 3, (some FieldType.boolean), [(0, rt_i82_0)], [], [], [])
def rt_i83_0 : List (Nat × Instr) := [(0, .aload_n 0), (1, .getfield 69), (4, .iload_n 1), (5, .invokevirtual 335), (8, .ireturn)]
def rt_m83 : rt_M := (13, "input", "(I)I", prog_1_method_30_code, 2, (some FieldType.int), [(0, rt_i83_0)], [], [], [])
def rt_i84_0 : List (Nat × Instr) := [(0, .aload_n 0), (1, .getfield 19), (4, .getfield 126), (7, .ifCond .ne 14), (10, .new 338), (13, .dup), (14, .ldc_w 340), (17, .invokespecial 342), (20, .athrow), (21, .aload_n 0), (22, .getfield 28), (25, .iload_n 1), (26, .invokevirtual 146), (29, .iconst 2), (30, .if_icmp .eq 14)]
def rt_i84_1 : List (Nat × Instr) := [(33, .new 345), (36, .dup), (37, .ldc_w 347), (40, .invokespecial 349), (43, .athrow), (44, .aload_n 0), (45, .getfield 53), (48, .invokevirtual 269), (51, .aload_n 0), (52, .getfield 69), (55, .aload_n 0), (56, .getfield 28), (59, .iload_n 1), (60, .invokevirtual 154), (63, .iload_n 2)]
def rt_i84_2 : List (Nat × Instr) := [(64, .invokevirtual 350), (67, .return_)]
def rt_m84 : rt_M := (13, "begin", "(IZ)V", prog_1_method_31_code, 3, none, [(0, rt_i84_0), (1, rt_i84_1), (2, rt_i84_2)], [(10, "java/lang/IllegalStateException", 5, 82)], [], [])
def rt_i85_0 : List (Nat × Instr) := [(0, .iload_n 1), (1, .iconst 1), (2, .if_icmp .lt 10), (5, .iload_n 1), (6, .sipush 10000), (9, .if_icmp .le 14), (12, .new 354), (15, .dup), (16, .ldc_w 356), (19, .invokespecial 358), (22, .athrow), (23, .aload_n 0), (24, .getfield 69), (27, .invokevirtual 359), (30, .ifCond .ne 14)]
def rt_i85_1 : List (Nat × Instr) := [(33, .new 338), (36, .dup), (37, .ldc_w 363), (40, .invokespecial 342), (43, .athrow), (44, .aload_n 0), (45, .getfield 69), (48, .iload_n 1), (49, .invokevirtual 365), (52, .ireturn)]
def rt_m85 : rt_M := (13, "go", "(I)I", prog_1_method_32_code, 2, (some FieldType.int), [(0, rt_i85_0), (1, rt_i85_1)], [(12, "java/lang/IllegalArgumentException", 5, 82), (33, "java/lang/IllegalStateException", 5, 82)], [], [])
def rt_i86_0 : List (Nat × Instr) := [(0, .aload_n 0), (1, .getfield 69), (4, .iload_n 1), (5, .invokevirtual 368), (8, .ireturn)]
def rt_m86 : rt_M := (13, "run", "(I)I", prog_1_method_33_code, 2, (some FieldType.int), [(0, rt_i86_0)], [], [], [])
def rt_i87_0 : List (Nat × Instr) := [(0, .aload_n 0), (1, .getfield 19), (4, .iload_n 1), (5, .invokevirtual 170), (8, .ifCond .eq 14), (11, .aload_n 0), (12, .getfield 69), (15, .iload_n 1), (16, .invokevirtual 371), (19, .goto 4), (22, .iconst (-1)), (23, .ireturn)]
def rt_m87 : rt_M := (13, "truth", "(I)I", prog_1_method_34_code, 2, (some FieldType.int), [(0, rt_i87_0)], [], [], [])
def rt_i88_0 : List (Nat × Instr) := [(0, .aload_n 0), (1, .getfield 19), (4, .getfield 126), (7, .ifCond .eq 13), (10, .aload_n 0), (11, .getfield 78), (14, .invokevirtual 374), (17, .goto 4), (20, .iconst (-1)), (21, .ireturn)]
def rt_m88 : rt_M := (13, "wire", "()I", prog_1_method_35_code, 1, (some FieldType.int), [(0, rt_i88_0)], [], [], [])
def rt_i89_0 : List (Nat × Instr) := [(0, .aload_n 0), (1, .getfield 78), (4, .iload_n 1), (5, .invokevirtual 377), (8, .ireturn)]
def rt_m89 : rt_M := (13, "wired", "(I)I", prog_1_method_36_code, 2, (some FieldType.int), [(0, rt_i89_0)], [], [], [])
def rt_i90_0 : List (Nat × Instr) := [(0, .aload_n 0), (1, .getfield 28), (4, .invokevirtual 319), (7, .aload_n 0), (8, .getfield 69), (11, .invokevirtual 380), (14, .aload_n 0), (15, .getfield 62), (18, .invokevirtual 312), (21, .aload_n 0), (22, .getfield 78), (25, .invokevirtual 383), (28, .return_)]
def rt_m90 : rt_M := (13, "forget", "()V", prog_1_method_37_code, 1, none, [(0, rt_i90_0)], [], [], [])
def rt_i91_0 : List (Nat × Instr) := [(0, .aload_n 0), (1, .invokespecial 3), (4, .aload_n 0), (5, .sipush 4000), (8, .newarray .int), (10, .putfield 9), (13, .aload_n 0), (14, .sipush 8000), (17, .newarray .int), (19, .putfield 13), (22, .aload_n 0), (23, .bipush 31), (25, .anewarray 16), (28, .dup), (29, .iconst 0), (30, .ldc 18)]
def rt_i91_1 : List (Nat × Instr) := [(32, .aastore), (33, .dup), (34, .iconst 1), (35, .ldc 20), (37, .aastore), (38, .dup), (39, .iconst 2), (40, .ldc 22), (42, .aastore), (43, .dup), (44, .iconst 3), (45, .ldc 24), (47, .aastore), (48, .dup), (49, .iconst 4), (50, .ldc 26), (52, .aastore), (53, .dup), (54, .iconst 5), (55, .ldc 28), (57, .aastore), (58, .dup), (59, .bipush 6), (61, .ldc 30), (63, .aastore)]
def rt_i91_2 : List (Nat × Instr) := [(64, .dup), (65, .bipush 7), (67, .ldc 32), (69, .aastore), (70, .dup), (71, .bipush 8), (73, .ldc 34), (75, .aastore), (76, .dup), (77, .bipush 9), (79, .ldc 36), (81, .aastore), (82, .dup), (83, .bipush 10), (85, .ldc 38), (87, .aastore), (88, .dup), (89, .bipush 11), (91, .ldc 40), (93, .aastore), (94, .dup), (95, .bipush 12)]
def rt_i91_3 : List (Nat × Instr) := [(97, .ldc 42), (99, .aastore), (100, .dup), (101, .bipush 13), (103, .ldc 44), (105, .aastore), (106, .dup), (107, .bipush 14), (109, .ldc 46), (111, .aastore), (112, .dup), (113, .bipush 15), (115, .ldc 48), (117, .aastore), (118, .dup), (119, .bipush 16), (121, .ldc 50), (123, .aastore), (124, .dup), (125, .bipush 17), (127, .ldc 52)]
def rt_i91_4 : List (Nat × Instr) := [(129, .aastore), (130, .dup), (131, .bipush 18), (133, .ldc 54), (135, .aastore), (136, .dup), (137, .bipush 19), (139, .ldc 56), (141, .aastore), (142, .dup), (143, .bipush 20), (145, .ldc 58), (147, .aastore), (148, .dup), (149, .bipush 21), (151, .ldc 60), (153, .aastore), (154, .dup), (155, .bipush 22), (157, .ldc 62), (159, .aastore)]
def rt_i91_5 : List (Nat × Instr) := [(160, .dup), (161, .bipush 23), (163, .ldc 64), (165, .aastore), (166, .dup), (167, .bipush 24), (169, .ldc 66), (171, .aastore), (172, .dup), (173, .bipush 25), (175, .ldc 68), (177, .aastore), (178, .dup), (179, .bipush 26), (181, .ldc 70), (183, .aastore), (184, .dup), (185, .bipush 27), (187, .ldc 72), (189, .aastore), (190, .dup), (191, .bipush 28)]
def rt_i91_6 : List (Nat × Instr) := [(193, .ldc 74), (195, .aastore), (196, .dup), (197, .bipush 29), (199, .ldc 76), (201, .aastore), (202, .dup), (203, .bipush 30), (205, .ldc 78), (207, .aastore), (208, .putfield 80), (211, .aload_n 0), (212, .sipush 4001), (215, .newarray .int), (217, .putfield 84), (220, .aload_n 0), (221, .sipush 4001)]
def rt_i91_7 : List (Nat × Instr) := [(224, .newarray .int), (226, .putfield 87), (229, .aload_n 0), (230, .sipush 4001), (233, .newarray .long), (235, .putfield 90), (238, .aload_n 0), (239, .iconst 4), (240, .newarray .long), (242, .putfield 94), (245, .aload_n 0), (246, .iconst 4), (247, .newarray .int), (249, .putfield 97), (252, .aload_n 0), (253, .bipush 48), (255, .newarray .long)]
def rt_i91_8 : List (Nat × Instr) := [(257, .putfield 100), (260, .aload_n 0), (261, .sipush 576), (264, .newarray .boolean), (266, .putfield 103), (269, .aload_n 0), (270, .sipush 576), (273, .newarray .int), (275, .putfield 107), (278, .aload_n 0), (279, .sipush 576), (282, .newarray .int), (284, .putfield 110), (287, .aload_n 0)]
def rt_i91_9 : List (Nat × Instr) := [(288, .iconst 4), (289, .newarray .int), (291, .putfield 113), (294, .aload_n 0), (295, .iconst 4), (296, .newarray .int), (298, .putfield 116), (301, .aload_n 0), (302, .bipush 12), (304, .newarray .long), (306, .putfield 119), (309, .aload_n 0), (310, .bipush 12), (312, .newarray .int), (314, .putfield 122), (317, .aload_n 0), (318, .bipush 48)]
def rt_i91_10 : List (Nat × Instr) := [(320, .newarray .long), (322, .putfield 125), (325, .aload_n 0), (326, .bipush 48), (328, .newarray .boolean), (330, .putfield 128), (333, .aload_n 0), (334, .bipush 48), (336, .newarray .boolean), (338, .putfield 131), (341, .aload_n 0), (342, .bipush 48), (344, .newarray .long), (346, .putfield 134), (349, .aload_n 0), (350, .bipush 12)]
def rt_i91_11 : List (Nat × Instr) := [(352, .newarray .int), (354, .putfield 137), (357, .aload_n 0), (358, .bipush 12), (360, .newarray .boolean), (362, .putfield 140), (365, .aload_n 0), (366, .bipush 12), (368, .newarray .boolean), (370, .putfield 143), (373, .aload_n 0), (374, .bipush 6), (376, .newarray .long), (378, .putfield 146), (381, .aload_n 0), (382, .bipush 6)]
def rt_i91_12 : List (Nat × Instr) := [(384, .newarray .int), (386, .putfield 149), (389, .aload_n 0), (390, .bipush 12), (392, .newarray .long), (394, .putfield 152), (397, .aload_n 0), (398, .bipush 12), (400, .newarray .int), (402, .putfield 155), (405, .aload_n 0), (406, .bipush 12), (408, .newarray .int), (410, .putfield 158), (413, .aload_n 0), (414, .bipush 12)]
def rt_i91_13 : List (Nat × Instr) := [(416, .newarray .int), (418, .putfield 161), (421, .aload_n 0), (422, .bipush 96), (424, .newarray .long), (426, .putfield 164), (429, .aload_n 0), (430, .bipush 96), (432, .newarray .int), (434, .putfield 167), (437, .aload_n 0), (438, .bipush 96), (440, .newarray .long), (442, .putfield 170), (445, .aload_n 0), (446, .bipush 96)]
def rt_i91_14 : List (Nat × Instr) := [(448, .newarray .int), (450, .putfield 173), (453, .aload_n 0), (454, .bipush 96), (456, .newarray .int), (458, .putfield 176), (461, .aload_n 0), (462, .sipush 768), (465, .newarray .long), (467, .putfield 179), (470, .aload_n 0), (471, .bipush 96), (473, .newarray .int), (475, .putfield 182), (478, .aload_n 0), (479, .sipush 3840)]
def rt_i91_15 : List (Nat × Instr) := [(482, .newarray .int), (484, .putfield 185), (487, .aload_n 0), (488, .sipush 3840), (491, .newarray .long), (493, .putfield 188), (496, .aload_n 0), (497, .sipush 3840), (500, .newarray .int), (502, .putfield 191), (505, .aload_n 0), (506, .sipush 3840), (509, .newarray .int), (511, .putfield 194)]
def rt_i91_16 : List (Nat × Instr) := [(514, .aload_n 0), (515, .sipush 3840), (518, .newarray .int), (520, .putfield 197), (523, .aload_n 0), (524, .sipush 3840), (527, .newarray .int), (529, .putfield 200), (532, .aload_n 0), (533, .sipush 3840), (536, .newarray .int), (538, .putfield 203), (541, .aload_n 0), (542, .sipush 3840)]
def rt_i91_17 : List (Nat × Instr) := [(545, .newarray .int), (547, .putfield 206), (550, .aload_n 0), (551, .sipush 3840), (554, .newarray .int), (556, .putfield 209), (559, .aload_n 0), (560, .sipush 15360), (563, .newarray .int), (565, .putfield 212), (568, .aload_n 0), (569, .sipush 15360), (572, .newarray .int), (574, .putfield 215)]
def rt_i91_18 : List (Nat × Instr) := [(577, .aload_n 0), (578, .sipush 1219), (581, .newarray .int), (583, .putfield 218), (586, .aload_n 0), (587, .sipush 24380), (590, .newarray .long), (592, .putfield 221), (595, .aload_n 0), (596, .sipush 24380), (599, .newarray .boolean), (601, .putfield 224), (604, .aload_n 0), (605, .sipush 24380)]
def rt_i91_19 : List (Nat × Instr) := [(608, .newarray .int), (610, .putfield 227), (613, .aload_n 0), (614, .ldc 230), (616, .newarray .long), (618, .putfield 231), (621, .aload_n 0), (622, .ldc 230), (624, .newarray .int), (626, .putfield 234), (629, .aload_n 0), (630, .ldc 230), (632, .newarray .long), (634, .putfield 237), (637, .aload_n 0), (638, .sipush 3840)]
def rt_i91_20 : List (Nat × Instr) := [(641, .newarray .int), (643, .putfield 240), (646, .aload_n 0), (647, .sipush 3840), (650, .newarray .int), (652, .putfield 243), (655, .aload_n 0), (656, .bipush 40), (658, .newarray .boolean), (660, .putfield 246), (663, .aload_n 0), (664, .bipush 12), (666, .newarray .int), (668, .putfield 249), (671, .aload_n 0)]
def rt_i91_21 : List (Nat × Instr) := [(672, .bipush 20), (674, .newarray .int), (676, .putfield 252), (679, .aload_n 0), (680, .bipush 72), (682, .newarray .boolean), (684, .putfield 255), (687, .aload_n 0), (688, .sipush 4800), (691, .newarray .int), (693, .putfield 258), (696, .aload_n 0), (697, .sipush 1200), (700, .newarray .int), (702, .putfield 261)]
def rt_i91_22 : List (Nat × Instr) := [(705, .aload_n 0), (706, .sipush 1200), (709, .newarray .boolean), (711, .putfield 264), (714, .aload_n 0), (715, .ldc_w 267), (718, .newarray .int), (720, .putfield 268), (723, .aload_n 0), (724, .sipush 3840), (727, .newarray .boolean), (729, .putfield 271), (732, .aload_n 0), (733, .bipush 16), (735, .newarray .int)]
def rt_i91_23 : List (Nat × Instr) := [(737, .putfield 274), (740, .aload_n 0), (741, .sipush 15360), (744, .newarray .int), (746, .putfield 277), (749, .aload_n 0), (750, .sipush 15360), (753, .newarray .int), (755, .putfield 280), (758, .aload_n 0), (759, .sipush 15360), (762, .newarray .int), (764, .putfield 283), (767, .aload_n 0)]
def rt_i91_24 : List (Nat × Instr) := [(768, .sipush 15360), (771, .newarray .int), (773, .putfield 286), (776, .aload_n 0), (777, .sipush 15360), (780, .newarray .int), (782, .putfield 289), (785, .aload_n 0), (786, .iconst (-1)), (787, .putfield 292), (790, .aload_n 0), (791, .sipush 400), (794, .newarray .int), (796, .putfield 296), (799, .aload_n 0)]
def rt_i91_25 : List (Nat × Instr) := [(800, .sipush 400), (803, .newarray .int), (805, .putfield 299), (808, .aload_n 0), (809, .sipush 6400), (812, .newarray .int), (814, .putfield 302), (817, .aload_n 0), (818, .sipush 400), (821, .newarray .int), (823, .putfield 305), (826, .aload_n 0), (827, .ldc_w 267), (830, .newarray .int)]
def rt_i91_26 : List (Nat × Instr) := [(832, .putfield 308), (835, .aload_n 0), (836, .iconst 4), (837, .newarray .int), (839, .putfield 311), (842, .aload_n 0), (843, .bipush 64), (845, .newarray .int), (847, .putfield 314), (850, .aload_n 0), (851, .bipush 12), (853, .newarray .int), (855, .putfield 317), (858, .aload_n 0), (859, .bipush 12), (861, .newarray .int), (863, .putfield 320)]
def rt_i91_27 : List (Nat × Instr) := [(866, .aload_n 0), (867, .bipush 12), (869, .newarray .int), (871, .putfield 323), (874, .aload_n 0), (875, .sipush 192), (878, .newarray .int), (880, .putfield 326), (883, .aload_n 0), (884, .sipush 768), (887, .newarray .int), (889, .putfield 329), (892, .aload_n 0), (893, .bipush 96), (895, .newarray .int)]
def rt_i91_28 : List (Nat × Instr) := [(897, .putfield 332), (900, .aload_n 0), (901, .sipush 384), (904, .newarray .int), (906, .putfield 335), (909, .aload_n 0), (910, .iconst 4), (911, .newarray .int), (913, .putfield 338), (916, .aload_n 0), (917, .bipush 12), (919, .newarray .int), (921, .putfield 341), (924, .aload_n 0), (925, .bipush 12), (927, .newarray .boolean)]
def rt_i91_29 : List (Nat × Instr) := [(929, .putfield 344), (932, .aload_n 0), (933, .bipush 12), (935, .newarray .boolean), (937, .putfield 347), (940, .aload_n 0), (941, .bipush 12), (943, .newarray .boolean), (945, .putfield 350), (948, .aload_n 0), (949, .bipush 12), (951, .newarray .long), (953, .putfield 353), (956, .return_)]
def rt_m91 : rt_M := (14, "<init>", "()V", prog_15_method_1_code, 1, none, [(0, rt_i91_0), (1, rt_i91_1), (2, rt_i91_2), (3, rt_i91_3), (4, rt_i91_4), (5, rt_i91_5), (6, rt_i91_6), (7, rt_i91_7), (8, rt_i91_8), (9, rt_i91_9), (10, rt_i91_10), (11, rt_i91_11), (12, rt_i91_12), (13, rt_i91_13), (14, rt_i91_14), (15, rt_i91_15), (16, rt_i91_16), (17, rt_i91_17), (18, rt_i91_18), (19, rt_i91_19), (20, rt_i91_20), (21, rt_i91_21), (22, rt_i91_22), (23, rt_i91_23), (24, rt_i91_24), (25, rt_i91_25), (26, rt_i91_26), (27, rt_i91_27), (28, rt_i91_28), (29, rt_i91_29)], [], [], [])
def rt_i92_0 : List (Nat × Instr) := [(0, .aload_n 0), (1, .getfield 356), (4, .ireturn)]
def rt_m92 : rt_M := (14, "thrown", "()I", prog_15_method_2_code, 1, (some FieldType.int), [(0, rt_i92_0)], [], [], [])
def rt_i93_0 : List (Nat × Instr) := [(0, .aload_n 0), (1, .iconst 0), (2, .putfield 356), (5, .aload_n 0), (6, .getfield 359), (9, .bipush 20), (11, .iadd), (12, .sipush 4000), (15, .if_icmp .le 5), (18, .iconst (-1)), (19, .ireturn), (20, .aload_n 0), (21, .iload_n 1), (22, .invokevirtual 362), (25, .aload_n 0), (26, .iload_n 2), (27, .invokevirtual 362), (30, .aload_n 0), (31, .iload_n 3)]
def rt_i93_1 : List (Nat × Instr) := [(32, .invokevirtual 362), (35, .aload_n 0), (36, .iload 4), (38, .invokevirtual 362), (41, .aload_n 0), (42, .iload 5), (44, .invokevirtual 362), (47, .aload_n 0), (48, .getfield 359), (51, .ireturn)]
def rt_m93 : rt_M := (14, "feed", "(IIIII)I", prog_15_method_3_code, 6, (some FieldType.int), [(0, rt_i93_0), (1, rt_i93_1)], [], [], [])
def rt_i94_0 : List (Nat × Instr) := [(0, .bipush 24), (2, .istore_n 2), (3, .iload_n 2), (4, .ifCond .lt 35), (7, .aload_n 0), (8, .getfield 9), (11, .aload_n 0), (12, .getfield 359), (15, .iload_n 1), (16, .iload_n 2), (17, .ishr), (18, .sipush 255), (21, .iand), (22, .iastore), (23, .aload_n 0), (24, .dup), (25, .getfield 359), (28, .iconst 1), (29, .iadd), (30, .putfield 359)]
def rt_i94_1 : List (Nat × Instr) := [(33, .iinc 2 (-8)), (36, .goto (-33)), (39, .return_)]
def rt_m94 : rt_M := (14, "four", "(I)V", prog_15_method_4_code, 3, none, [(0, rt_i94_0), (1, rt_i94_1)], [], [], [])
def rt_i95_0 : List (Nat × Instr) := [(0, .aload_n 0), (1, .iconst 0), (2, .putfield 356), (5, .iload_n 1), (6, .ifCond .lt 11), (9, .iload_n 1), (10, .aload_n 0), (11, .getfield 359), (14, .if_icmp .le 5), (17, .iconst (-1)), (18, .ireturn), (19, .aload_n 0), (20, .iload_n 1), (21, .putfield 359), (24, .iload_n 1), (25, .ireturn)]
def rt_m95 : rt_M := (14, "end", "(I)I", prog_15_method_5_code, 2, (some FieldType.int), [(0, rt_i95_0)], [], [], [])
def rt_i96_0 : List (Nat × Instr) := [(0, .aload_n 0), (1, .iconst 0), (2, .putfield 356), (5, .iload_n 1), (6, .ifCond .lt 20), (9, .iload_n 1), (10, .aload_n 0), (11, .getfield 366), (14, .if_icmp .ge 12), (17, .aload_n 0), (18, .getfield 13), (21, .iload_n 1), (22, .iaload), (23, .goto 4), (26, .iconst (-1)), (27, .ireturn)]
def rt_m96 : rt_M := (14, "out", "(I)I", prog_15_method_6_code, 2, (some FieldType.int), [(0, rt_i96_0)], [], [], [])
def rt_i97_0 : List (Nat × Instr) := [(0, .aload_n 0), (1, .getfield 409), (4, .ifCond .eq 4), (7, .return_), (8, .aload_n 0), (9, .iconst 1), (10, .putfield 409), (13, .aload_n 0), (14, .iload_n 1), (15, .putfield 412), (18, .aload_n 0), (19, .iload_n 2), (20, .putfield 415), (23, .return_)]
def rt_m97 : rt_M := (14, "fault", "(II)V", prog_15_method_20_code, 3, none, [(0, rt_i97_0)], [], [], [])
def rt_i98_0 : List (Nat × Instr) := [(0, .aload_n 0), (1, .getfield 84), (4, .aload_n 0), (5, .getfield 418), (8, .iload_n 1), (9, .iastore), (10, .aload_n 0), (11, .getfield 87), (14, .aload_n 0), (15, .getfield 418), (18, .iload_n 2), (19, .iastore), (20, .aload_n 0), (21, .getfield 90), (24, .aload_n 0), (25, .getfield 418), (28, .lload_n 3), (29, .lastore), (30, .aload_n 0), (31, .dup)]
def rt_i98_1 : List (Nat × Instr) := [(32, .getfield 418), (35, .iconst 1), (36, .iadd), (37, .putfield 418), (40, .return_)]
def rt_m98 : rt_M := (14, "lexeme", "(IIJ)V", prog_15_method_21_code, 5, none, [(0, rt_i98_0), (1, rt_i98_1)], [], [], [])
def rt_i99_0 : List (Nat × Instr) := [(0, .aload_n 0), (1, .iconst 0), (2, .putfield 418), (5, .iconst 0), (6, .istore_n 2), (7, .iload_n 2), (8, .iload_n 1), (9, .if_icmp .ge 410), (12, .aload_n 0), (13, .getfield 409), (16, .ifCond .ne 403), (19, .aload_n 0), (20, .getfield 9), (23, .iload_n 2), (24, .iaload), (25, .istore_n 3), (26, .iload_n 2), (27, .istore 4), (29, .iload_n 3), (30, .bipush 32)]
def rt_i99_1 : List (Nat × Instr) := [(32, .if_icmp .eq 9), (35, .iload_n 3), (36, .bipush 10), (38, .if_icmp .ne 9), (41, .iinc 2 1), (44, .goto 372), (47, .iload_n 3), (48, .invokestatic 425), (51, .ifCond .eq 123), (54, .lconst 0), (55, .lstore 5), (57, .iload_n 2), (58, .iload_n 1), (59, .if_icmp .ge 48), (62, .aload_n 0), (63, .getfield 9)]
def rt_i99_2 : List (Nat × Instr) := [(66, .iload_n 2), (67, .iaload), (68, .invokestatic 425), (71, .ifCond .ne 15), (74, .aload_n 0), (75, .getfield 9), (78, .iload_n 2), (79, .iaload), (80, .invokestatic 429), (83, .ifCond .eq 24), (86, .lload 5), (88, .bipush 8), (90, .lshl), (91, .aload_n 0), (92, .getfield 9), (95, .iload_n 2)]
def rt_i99_3 : List (Nat × Instr) := [(96, .iaload), (97, .i2l), (98, .lor), (99, .lstore 5), (101, .iinc 2 1), (104, .goto (-47)), (107, .iload_n 2), (108, .iload 4), (110, .isub), (111, .bipush 8), (113, .if_icmp .le 10), (116, .aload_n 0), (117, .iconst 1), (118, .iload 4), (120, .invokevirtual 432), (123, .iload_n 2), (124, .iload 4), (126, .isub), (127, .bipush 8)]
def rt_i99_4 : List (Nat × Instr) := [(129, .if_icmp .le 7), (132, .iconst (-1)), (133, .goto 9), (136, .aload_n 0), (137, .lload 5), (139, .invokevirtual 436), (142, .istore 7), (144, .iload 7), (146, .ifCond .lt 16), (149, .aload_n 0), (150, .iconst 4), (151, .iload 4), (153, .iload 7), (155, .i2l), (156, .invokevirtual 440), (159, .goto 12)]
def rt_i99_5 : List (Nat × Instr) := [(162, .aload_n 0), (163, .iconst 0), (164, .iload 4), (166, .lload 5), (168, .invokevirtual 440), (171, .goto 245), (174, .iload_n 3), (175, .invokestatic 429), (178, .ifCond .eq 91), (181, .lconst 0), (182, .lstore 5), (184, .iload_n 2), (185, .iload_n 1), (186, .if_icmp .ge 55), (189, .aload_n 0), (190, .getfield 9)]
def rt_i99_6 : List (Nat × Instr) := [(193, .iload_n 2), (194, .iaload), (195, .invokestatic 429), (198, .ifCond .eq 43), (201, .iload_n 2), (202, .iload 4), (204, .isub), (205, .bipush 9), (207, .if_icmp .ge 24), (210, .ldc2_w 374), (213, .lload 5), (215, .lmul), (216, .aload_n 0), (217, .getfield 9), (220, .iload_n 2), (221, .iaload), (222, .i2l), (223, .ladd)]
def rt_i99_7 : List (Nat × Instr) := [(224, .ldc2_w 376), (227, .lsub), (228, .goto 5), (231, .lload 5), (233, .lstore 5), (235, .iinc 2 1), (238, .goto (-54)), (241, .iload_n 2), (242, .iload 4), (244, .isub), (245, .bipush 9), (247, .if_icmp .le 10), (250, .aload_n 0), (251, .iconst 1), (252, .iload 4), (254, .invokevirtual 432)]
def rt_i99_8 : List (Nat × Instr) := [(257, .aload_n 0), (258, .iconst 1), (259, .iload 4), (261, .lload 5), (263, .invokevirtual 440), (266, .goto 150), (269, .iload_n 3), (270, .bipush 39), (272, .if_icmp .ne 115), (275, .lconst 0), (276, .lstore 5), (278, .iinc 2 1), (281, .iload_n 2), (282, .iload_n 1), (283, .if_icmp .ge 66), (286, .iload_n 2), (287, .iload 4)]
def rt_i99_9 : List (Nat × Instr) := [(289, .isub), (290, .bipush 8), (292, .if_icmp .gt 57), (295, .aload_n 0), (296, .getfield 9), (299, .iload_n 2), (300, .iaload), (301, .bipush 32), (303, .if_icmp .lt 46), (306, .aload_n 0), (307, .getfield 9), (310, .iload_n 2), (311, .iaload), (312, .bipush 126), (314, .if_icmp .gt 35), (317, .aload_n 0), (318, .getfield 9)]
def rt_i99_10 : List (Nat × Instr) := [(321, .iload_n 2), (322, .iaload), (323, .bipush 39), (325, .if_icmp .eq 24), (328, .lload 5), (330, .bipush 8), (332, .lshl), (333, .aload_n 0), (334, .getfield 9), (337, .iload_n 2), (338, .iaload), (339, .i2l), (340, .lor), (341, .lstore 5), (343, .iinc 2 1), (346, .goto (-65)), (349, .iload_n 2), (350, .iload_n 1), (351, .if_icmp .ge 14)]
def rt_i99_11 : List (Nat × Instr) := [(354, .aload_n 0), (355, .getfield 9), (358, .iload_n 2), (359, .iaload), (360, .bipush 39), (362, .if_icmp .eq 10), (365, .aload_n 0), (366, .iconst 1), (367, .iload 4), (369, .invokevirtual 432), (372, .iinc 2 1), (375, .aload_n 0), (376, .iconst 2), (377, .iload 4), (379, .lload 5), (381, .invokevirtual 440)]
def rt_i99_12 : List (Nat × Instr) := [(384, .goto 32), (387, .iload_n 3), (388, .invokestatic 444), (391, .ifCond .eq 18), (394, .aload_n 0), (395, .iconst 3), (396, .iload 4), (398, .iload_n 3), (399, .i2l), (400, .invokevirtual 440), (403, .iinc 2 1), (406, .goto 10), (409, .aload_n 0), (410, .iconst 1), (411, .iload 4), (413, .invokevirtual 432)]
def rt_i99_13 : List (Nat × Instr) := [(416, .goto (-409)), (419, .aload_n 0), (420, .iconst 5), (421, .iload_n 1), (422, .lconst 0), (423, .invokevirtual 440), (426, .return_)]
def rt_m99 : rt_M := (14, "cut", "(I)V", prog_15_method_24_code, 8, none, [(0, rt_i99_0), (1, rt_i99_1), (2, rt_i99_2), (3, rt_i99_3), (4, rt_i99_4), (5, rt_i99_5), (6, rt_i99_6), (7, rt_i99_7), (8, rt_i99_8), (9, rt_i99_9), (10, rt_i99_10), (11, rt_i99_11), (12, rt_i99_12), (13, rt_i99_13)], [], [], [])
def rt_i100_0 : List (Nat × Instr) := [(0, .aload_n 0), (1, .getfield 84), (4, .aload_n 0), (5, .getfield 471), (8, .iaload), (9, .iconst 4), (10, .if_icmp .ne 22), (13, .aload_n 0), (14, .getfield 90), (17, .aload_n 0), (18, .getfield 471), (21, .laload), (22, .iload_n 1), (23, .i2l), (24, .lcmp), (25, .ifCond .ne 7), (28, .iconst 1), (29, .goto 4)]
def rt_i100_1 : List (Nat × Instr) := [(32, .iconst 0), (33, .ireturn)]
def rt_m100 : rt_M := (14, "isWord", "(I)Z", prog_15_method_32_code, 2, (some FieldType.boolean), [(0, rt_i100_0), (1, rt_i100_1)], [], [], [])
def rt_i101_0 : List (Nat × Instr) := [(0, .aload_n 0), (1, .getfield 84), (4, .aload_n 0), (5, .getfield 471), (8, .iaload), (9, .iconst 3), (10, .if_icmp .ne 22), (13, .aload_n 0), (14, .getfield 90), (17, .aload_n 0), (18, .getfield 471), (21, .laload), (22, .iload_n 1), (23, .i2l), (24, .lcmp), (25, .ifCond .ne 7), (28, .iconst 1), (29, .goto 4)]
def rt_i101_1 : List (Nat × Instr) := [(32, .iconst 0), (33, .ireturn)]
def rt_m101 : rt_M := (14, "isSignHere", "(I)Z", prog_15_method_33_code, 2, (some FieldType.boolean), [(0, rt_i101_0), (1, rt_i101_1)], [], [], [])
def rt_i102_0 : List (Nat × Instr) := [(0, .aload_n 0), (1, .getfield 409), (4, .ifCond .ne 11), (7, .aload_n 0), (8, .iload_n 1), (9, .invokevirtual 474), (12, .ifCond .ne 5), (15, .iconst 0), (16, .ireturn), (17, .aload_n 0), (18, .dup), (19, .getfield 471), (22, .iconst 1), (23, .iadd), (24, .putfield 471), (27, .iconst 1), (28, .ireturn)]
def rt_m102 : rt_M := (14, "mayWord", "(I)Z", prog_15_method_34_code, 2, (some FieldType.boolean), [(0, rt_i102_0)], [], [], [])
def rt_i103_0 : List (Nat × Instr) := [(0, .aload_n 0), (1, .iconst 2), (2, .aload_n 0), (3, .getfield 87), (6, .aload_n 0), (7, .getfield 471), (10, .iaload), (11, .invokevirtual 432), (14, .return_)]
def rt_m103 : rt_M := (14, "cant", "()V", prog_15_method_36_code, 1, none, [(0, rt_i103_0)], [], [], [])
def rt_i104_0 : List (Nat × Instr) := [(0, .aload_n 0), (1, .iconst 0), (2, .putfield 471), (5, .aload_n 0), (6, .iconst 0), (7, .putfield 447), (10, .aload_n 0), (11, .iconst 0), (12, .putfield 450), (15, .aload_n 0), (16, .iconst 0), (17, .putfield 453), (20, .aload_n 0), (21, .iconst 0), (22, .putfield 456), (25, .iconst 0), (26, .istore_n 1), (27, .iload_n 1), (28, .sipush 1218), (31, .if_icmp .ge 16)]
def rt_i104_1 : List (Nat × Instr) := [(34, .aload_n 0), (35, .getfield 218), (38, .iload_n 1), (39, .iconst 0), (40, .iastore), (41, .iinc 1 1), (44, .goto (-17)), (47, .aload_n 0), (48, .getfield 409), (51, .ifCond .ne 18), (54, .aload_n 0), (55, .iconst 0), (56, .invokevirtual 490), (59, .ifCond .eq 10), (62, .aload_n 0), (63, .invokevirtual 493)]
def rt_i104_2 : List (Nat × Instr) := [(66, .goto (-19)), (69, .aload_n 0), (70, .getfield 409), (73, .ifCond .ne 18), (76, .aload_n 0), (77, .iconst 1), (78, .invokevirtual 490), (81, .ifCond .eq 10), (84, .aload_n 0), (85, .invokevirtual 496), (88, .goto (-19)), (91, .aload_n 0), (92, .getfield 409), (95, .ifCond .ne 19)]
def rt_i104_3 : List (Nat × Instr) := [(98, .aload_n 0), (99, .bipush 6), (101, .invokevirtual 490), (104, .ifCond .eq 10), (107, .aload_n 0), (108, .invokevirtual 499), (111, .goto (-20)), (114, .aload_n 0), (115, .getfield 409), (118, .ifCond .ne 15), (121, .aload_n 0), (122, .iconst 2), (123, .invokevirtual 474), (126, .ifCond .ne 7)]
def rt_i104_4 : List (Nat × Instr) := [(129, .aload_n 0), (130, .invokevirtual 480), (133, .aload_n 0), (134, .getfield 409), (137, .ifCond .ne 18), (140, .aload_n 0), (141, .iconst 2), (142, .invokevirtual 490), (145, .ifCond .eq 10), (148, .aload_n 0), (149, .invokevirtual 502), (152, .goto (-19)), (155, .aload_n 0), (156, .getfield 409), (159, .ifCond .ne 20)]
def rt_i104_5 : List (Nat × Instr) := [(162, .aload_n 0), (163, .getfield 84), (166, .aload_n 0), (167, .getfield 471), (170, .iaload), (171, .iconst 5), (172, .if_icmp .eq 7), (175, .aload_n 0), (176, .invokevirtual 480), (179, .return_)]
def rt_m104 : rt_M := (14, "readProgram", "()V", prog_15_method_40_code, 2, none, [(0, rt_i104_0), (1, rt_i104_1), (2, rt_i104_2), (3, rt_i104_3), (4, rt_i104_4), (5, rt_i104_5)], [], [], [])
def rt_i105_0 : List (Nat × Instr) := [(0, .iload_n 1), (1, .ifCond .lt 34), (4, .iload_n 1), (5, .bipush 8), (7, .idiv), (8, .aload_n 0), (9, .getfield 456), (12, .if_icmp .ge 23), (15, .iload_n 1), (16, .bipush 8), (18, .irem), (19, .aload_n 0), (20, .getfield 161), (23, .iload_n 1), (24, .bipush 8), (26, .idiv), (27, .iaload), (28, .if_icmp .ge 7), (31, .iconst 1)]
def rt_i105_1 : List (Nat × Instr) := [(32, .goto 4), (35, .iconst 0), (36, .ireturn)]
def rt_m105 : rt_M := (14, "isMethod", "(I)Z", prog_15_method_74_code, 2, (some FieldType.boolean), [(0, rt_i105_0), (1, rt_i105_1)], [], [], [])
def rt_i106_0 : List (Nat × Instr) := [(0, .aload_n 0), (1, .getfield 359), (4, .istore_n 1), (5, .aload_n 0), (6, .iconst 0), (7, .putfield 359), (10, .aload_n 0), (11, .iconst 0), (12, .putfield 409), (15, .aload_n 0), (16, .iconst 0), (17, .putfield 412), (20, .aload_n 0), (21, .iconst 0), (22, .putfield 415), (25, .aload_n 0), (26, .iconst 0), (27, .putfield 634), (30, .aload_n 0), (31, .invokevirtual 637)]
def rt_i106_1 : List (Nat × Instr) := [(34, .aload_n 0), (35, .iload_n 1), (36, .invokevirtual 640), (39, .aload_n 0), (40, .getfield 409), (43, .ifCond .ne 7), (46, .aload_n 0), (47, .invokevirtual 643), (50, .aload_n 0), (51, .getfield 409), (54, .ifCond .ne 7), (57, .aload_n 0), (58, .invokevirtual 646), (61, .iconst 0), (62, .istore_n 2), (63, .iload_n 2)]
def rt_i106_2 : List (Nat × Instr) := [(64, .bipush 96), (66, .if_icmp .ge 29), (69, .aload_n 0), (70, .getfield 409), (73, .ifCond .ne 22), (76, .aload_n 0), (77, .iload_n 2), (78, .invokevirtual 614), (81, .ifCond .eq 8), (84, .aload_n 0), (85, .iload_n 2), (86, .invokevirtual 649), (89, .iinc 2 1), (92, .goto (-29)), (95, .aload_n 0)]
def rt_i106_3 : List (Nat × Instr) := [(96, .aload_n 0), (97, .getfield 409), (100, .ifCond .eq 7), (103, .iconst 1), (104, .goto 4), (107, .iconst 0), (108, .putfield 356), (111, .aload_n 0), (112, .getfield 409), (115, .ifCond .eq 5), (118, .iconst 0), (119, .ireturn), (120, .aload_n 0), (121, .iconst 1), (122, .putfield 634), (125, .iconst 0), (126, .istore_n 2), (127, .iload_n 2)]
def rt_i106_4 : List (Nat × Instr) := [(128, .aload_n 0), (129, .getfield 447), (132, .if_icmp .ge 42), (135, .iconst 0), (136, .istore_n 3), (137, .iload_n 3), (138, .sipush 1200), (141, .if_icmp .ge 27), (144, .aload_n 0), (145, .getfield 258), (148, .sipush 1200), (151, .iload_n 2), (152, .imul), (153, .iload_n 3), (154, .iadd), (155, .aload_n 0), (156, .getfield 113), (159, .iload_n 2)]
def rt_i106_5 : List (Nat × Instr) := [(160, .iaload), (161, .iastore), (162, .iinc 3 1), (165, .goto (-28)), (168, .iinc 2 1), (171, .goto (-44)), (174, .aload_n 0), (175, .getfield 456), (178, .ireturn)]
def rt_m106 : rt_M := (14, "compile", "()I", prog_15_method_80_code, 4, (some FieldType.int), [(0, rt_i106_0), (1, rt_i106_1), (2, rt_i106_2), (3, rt_i106_3), (4, rt_i106_4), (5, rt_i106_5)], [], [], [])
def rt_i107_0 : List (Nat × Instr) := [(0, .aload_n 0), (1, .iconst 0), (2, .putfield 356), (5, .iload_n 1), (6, .ifCond .ne 10), (9, .aload_n 0), (10, .getfield 412), (13, .goto 16), (16, .iload_n 1), (17, .iconst 1), (18, .if_icmp .ne 10), (21, .aload_n 0), (22, .getfield 415), (25, .goto 4), (28, .iconst (-1)), (29, .ireturn)]
def rt_m107 : rt_M := (14, "fault", "(I)I", prog_15_method_81_code, 2, (some FieldType.int), [(0, rt_i107_0)], [], [], [])
def rt_i108_0 : List (Nat × Instr) := [(0, .aload_n 0), (1, .getfield 634), (4, .ifCond .eq 19), (7, .iload_n 1), (8, .ifCond .lt 15), (11, .iload_n 1), (12, .aload_n 0), (13, .getfield 456), (16, .if_icmp .ge 7), (19, .iconst 1), (20, .goto 4), (23, .iconst 0), (24, .ireturn)]
def rt_m108 : rt_M := (14, "isClass", "(I)Z", prog_15_method_82_code, 2, (some FieldType.boolean), [(0, rt_i108_0)], [], [], [])
def rt_i109_0 : List (Nat × Instr) := [(0, .aload_n 0), (1, .getfield 634), (4, .ifCond .eq 18), (7, .iload_n 1), (8, .ifCond .lt 14), (11, .iload_n 1), (12, .bipush 100), (14, .idiv), (15, .aload_n 0), (16, .getfield 456), (19, .if_icmp .lt 5), (22, .iconst 0), (23, .ireturn), (24, .iload_n 1), (25, .bipush 100), (27, .idiv), (28, .istore_n 2), (29, .iload_n 1), (30, .bipush 100)]
def rt_i109_1 : List (Nat × Instr) := [(32, .irem), (33, .istore_n 3), (34, .iload_n 3), (35, .ifCond .ne 5), (38, .iconst 1), (39, .ireturn), (40, .iload_n 3), (41, .bipush 8), (43, .if_icmp .gt 21), (46, .iload_n 3), (47, .iconst 1), (48, .isub), (49, .aload_n 0), (50, .getfield 158), (53, .iload_n 2), (54, .iaload), (55, .if_icmp .ge 7), (58, .iconst 1), (59, .goto 4), (62, .iconst 0), (63, .ireturn)]
def rt_i109_2 : List (Nat × Instr) := [(64, .iload_n 3), (65, .bipush 20), (67, .if_icmp .ge 5), (70, .iconst 0), (71, .ireturn), (72, .iload_n 3), (73, .bipush 20), (75, .isub), (76, .bipush 10), (78, .idiv), (79, .istore 4), (81, .iload 4), (83, .aload_n 0), (84, .getfield 161), (87, .iload_n 2), (88, .iaload), (89, .if_icmp .ge 29), (92, .iload_n 3), (93, .bipush 20), (95, .isub)]
def rt_i109_3 : List (Nat × Instr) := [(96, .bipush 10), (98, .irem), (99, .aload_n 0), (100, .getfield 173), (103, .bipush 8), (105, .iload_n 2), (106, .imul), (107, .iload 4), (109, .iadd), (110, .iaload), (111, .if_icmp .gt 7), (114, .iconst 1), (115, .goto 4), (118, .iconst 0), (119, .ireturn)]
def rt_m109 : rt_M := (14, "isPlace", "(I)Z", prog_15_method_83_code, 5, (some FieldType.boolean), [(0, rt_i109_0), (1, rt_i109_1), (2, rt_i109_2), (3, rt_i109_3)], [], [], [])
def rt_i110_0 : List (Nat × Instr) := [(0, .iload_n 0), (1, .bipush 100), (3, .irem), (4, .istore_n 1), (5, .iload_n 1), (6, .ifCond .ne 7), (9, .iconst 1), (10, .goto 29), (13, .iload_n 1), (14, .bipush 20), (16, .if_icmp .ge 7), (19, .iconst 2), (20, .goto 19), (23, .iload_n 1), (24, .bipush 20), (26, .isub), (27, .bipush 10), (29, .irem), (30, .ifCond .ne 7)]
def rt_i110_1 : List (Nat × Instr) := [(33, .iconst 4), (34, .goto 5), (37, .bipush 8), (39, .ireturn)]
def rt_m110 : rt_M := (14, "sortOf", "(I)I", prog_15_method_84_code, 2, (some FieldType.int), [(0, rt_i110_0), (1, rt_i110_1)], [], [], [])
def rt_i111_0 : List (Nat × Instr) := [(0, .aload_n 0), (1, .iload_n 1), (2, .invokevirtual 652), (5, .ifCond .eq 15), (8, .iload_n 1), (9, .invokestatic 655), (12, .iconst 4), (13, .if_icmp .ne 7), (16, .iconst 1), (17, .goto 4), (20, .iconst 0), (21, .ireturn)]
def rt_m111 : rt_M := (14, "isMethodPlace", "(I)Z", prog_15_method_87_code, 2, (some FieldType.boolean), [(0, rt_i111_0)], [], [], [])
def rt_i112_0 : List (Nat × Instr) := [(0, .aload_n 0), (1, .iload_n 1), (2, .invokevirtual 652), (5, .ifCond .eq 15), (8, .iload_n 1), (9, .invokestatic 655), (12, .iconst 1), (13, .if_icmp .eq 7), (16, .iconst 1), (17, .goto 4), (20, .iconst 0), (21, .ireturn)]
def rt_m112 : rt_M := (14, "isFlowing", "(I)Z", prog_15_method_88_code, 2, (some FieldType.boolean), [(0, rt_i112_0)], [], [], [])
def rt_i113_0 : List (Nat × Instr) := [(0, .aload_n 0), (1, .getfield 634), (4, .ifCond .eq 36), (7, .iload_n 1), (8, .ifCond .lt 11), (11, .iload_n 1), (12, .aload_n 0), (13, .getfield 450), (16, .if_icmp .lt 20), (19, .iload_n 1), (20, .bipush 100), (22, .if_icmp .lt 18), (25, .iload_n 1), (26, .bipush 100), (28, .aload_n 0), (29, .getfield 447)]
def rt_i113_1 : List (Nat × Instr) := [(32, .iadd), (33, .if_icmp .ge 7), (36, .iconst 1), (37, .goto 4), (40, .iconst 0), (41, .ireturn)]
def rt_m113 : rt_M := (14, "isKey", "(I)Z", prog_15_method_90_code, 2, (some FieldType.boolean), [(0, rt_i113_0), (1, rt_i113_1)], [], [], [])
def rt_i114_0 : List (Nat × Instr) := [(0, .aload_n 0), (1, .iconst 0), (2, .putfield 356), (5, .aload_n 0), (6, .iload_n 1), (7, .invokevirtual 652), (10, .ifCond .eq 11), (13, .aload_n 0), (14, .iload_n 2), (15, .invokevirtual 709), (18, .ifCond .ne 5), (21, .iconst (-1)), (22, .ireturn), (23, .aload_n 0), (24, .iload_n 1), (25, .iload_n 2), (26, .invokevirtual 712), (29, .aload_n 0), (30, .getfield 678)]
def rt_i114_1 : List (Nat × Instr) := [(33, .ireturn)]
def rt_m114 : rt_M := (14, "effective", "(II)I", prog_15_method_100_code, 3, (some FieldType.int), [(0, rt_i114_0), (1, rt_i114_1)], [], [], [])
def rt_i115_0 : List (Nat × Instr) := [(0, .aload_n 0), (1, .iconst 0), (2, .putfield 356), (5, .aload_n 0), (6, .iload_n 1), (7, .invokevirtual 652), (10, .ifCond .eq 11), (13, .aload_n 0), (14, .iload_n 2), (15, .invokevirtual 709), (18, .ifCond .ne 5), (21, .iconst (-1)), (22, .ireturn), (23, .aload_n 0), (24, .iload_n 1), (25, .iload_n 2), (26, .invokevirtual 712), (29, .aload_n 0), (30, .getfield 678)]
def rt_i115_1 : List (Nat × Instr) := [(33, .ifCond .ne 5), (36, .iconst (-1)), (37, .ireturn), (38, .iload_n 3), (39, .tableswitch 146 0 3 #[29, 34, 39, 52])]
def rt_i115_2 : List (Nat × Instr) := [(68, .aload_n 0), (69, .getfield 687), (72, .ireturn), (73, .aload_n 0), (74, .getfield 681), (77, .ireturn), (78, .aload_n 0), (79, .getfield 684), (82, .ifCond .eq 7), (85, .iconst 1), (86, .goto 4), (89, .iconst 0), (90, .ireturn), (91, .iconst 0), (92, .istore 4), (94, .iconst 0), (95, .istore 5)]
def rt_i115_3 : List (Nat × Instr) := [(97, .iload 5), (99, .aload_n 0), (100, .getfield 218), (103, .aload_n 0), (104, .getfield 687), (107, .iaload), (108, .if_icmp .ge 66), (111, .aload_n 0), (112, .getfield 684), (115, .ifCond .eq 59), (118, .aload_n 0), (119, .aload_n 0), (120, .getfield 687), (123, .iload 5), (125, .aload_n 0), (126, .iload_n 2), (127, .invokevirtual 674)]
def rt_i115_4 : List (Nat × Instr) := [(130, .invokevirtual 690), (133, .istore 6), (135, .iload 4), (137, .ifCond .ne 24), (140, .iload 6), (142, .ifCond .lt 23), (145, .aload_n 0), (146, .iload 6), (148, .aload_n 0), (149, .getfield 252), (152, .iconst 0), (153, .iaload), (154, .iload_n 2), (155, .invokevirtual 715), (158, .ifCond .ne 7)]
def rt_i115_5 : List (Nat × Instr) := [(161, .iconst 1), (162, .goto 4), (165, .iconst 0), (166, .istore 4), (168, .iinc 5 1), (171, .goto (-74)), (174, .iload 4), (176, .ifCond .eq 7), (179, .iconst 1), (180, .goto 4), (183, .iconst 0), (184, .ireturn), (185, .iconst (-1)), (186, .ireturn)]
def rt_m115 : rt_M := (14, "whence", "(III)I", prog_15_method_101_code, 7, (some FieldType.int), [(0, rt_i115_0), (1, rt_i115_1), (2, rt_i115_2), (3, rt_i115_3), (4, rt_i115_4), (5, rt_i115_5)], [], [], [])
def rt_i116_0 : List (Nat × Instr) := [(0, .aload_n 0), (1, .iconst 0), (2, .putfield 356), (5, .aload_n 0), (6, .iload_n 1), (7, .invokevirtual 652), (10, .ifCond .eq 11), (13, .aload_n 0), (14, .iload_n 2), (15, .invokevirtual 709), (18, .ifCond .ne 5), (21, .iconst (-1)), (22, .ireturn), (23, .aload_n 0), (24, .iload_n 1), (25, .iload_n 2), (26, .invokevirtual 712), (29, .iload_n 3), (30, .ifCond .lt 37)]
def rt_i116_1 : List (Nat × Instr) := [(33, .iload_n 3), (34, .aload_n 0), (35, .getfield 678), (38, .if_icmp .ge 29), (41, .iload 4), (43, .ifCond .lt 24), (46, .iload 4), (48, .iload_n 2), (49, .bipush 100), (51, .if_icmp .ge 12), (54, .aload_n 0), (55, .getfield 122), (58, .iload_n 2), (59, .iaload), (60, .goto 4), (63, .iconst 1)]
def rt_i116_2 : List (Nat × Instr) := [(64, .if_icmp .lt 5), (67, .iconst (-1)), (68, .ireturn), (69, .aload_n 0), (70, .iconst 0), (71, .putfield 378), (74, .iload_n 2), (75, .bipush 100), (77, .if_icmp .lt 53), (80, .aload_n 0), (81, .aload_n 0), (82, .getfield 252), (85, .iload_n 3), (86, .iaload), (87, .iload_n 2), (88, .bipush 100), (90, .isub), (91, .invokevirtual 700), (94, .istore 5)]
def rt_i116_3 : List (Nat × Instr) := [(96, .iload 5), (98, .ifCond .ge 6), (101, .bipush (-2)), (103, .ireturn), (104, .aload_n 0), (105, .iconst 0), (106, .putfield 366), (109, .aload_n 0), (110, .aload_n 0), (111, .getfield 100), (114, .bipush 12), (116, .iload_n 2), (117, .bipush 100), (119, .isub), (120, .imul), (121, .iload 5), (123, .iadd), (124, .laload), (125, .invokevirtual 393)]
def rt_i116_4 : List (Nat × Instr) := [(128, .iconst 3), (129, .ireturn), (130, .aload_n 0), (131, .aload_n 0), (132, .getfield 252), (135, .iload_n 3), (136, .iaload), (137, .iload_n 2), (138, .iload 4), (140, .invokevirtual 706), (143, .istore 5), (145, .iload 5), (147, .ifCond .ge 6), (150, .iload 5), (152, .ireturn), (153, .aload_n 0), (154, .iconst 0), (155, .putfield 366), (158, .iload 5)]
def rt_i116_5 : List (Nat × Instr) := [(160, .iconst 2), (161, .if_icmp .ne 14), (164, .aload_n 0), (165, .aload_n 0), (166, .getfield 697), (169, .invokevirtual 393), (172, .goto 43), (175, .aload_n 0), (176, .getfield 697), (179, .lconst 0), (180, .lcmp), (181, .ifCond .ge 9), (184, .aload_n 0), (185, .bipush 45), (187, .invokevirtual 371), (190, .aload_n 0), (191, .aload_n 0)]
def rt_i116_6 : List (Nat × Instr) := [(192, .getfield 697), (195, .lconst 0), (196, .lcmp), (197, .ifCond .ge 11), (200, .aload_n 0), (201, .getfield 697), (204, .lneg), (205, .goto 7), (208, .aload_n 0), (209, .getfield 697), (212, .invokevirtual 397), (215, .iload 5), (217, .ireturn)]
def rt_m116 : rt_M := (14, "ask", "(IIII)I", prog_15_method_102_code, 6, (some FieldType.int), [(0, rt_i116_0), (1, rt_i116_1), (2, rt_i116_2), (3, rt_i116_3), (4, rt_i116_4), (5, rt_i116_5), (6, rt_i116_6)], [], [], [])
def rt_i117_0 : List (Nat × Instr) := [(0, .aload_n 0), (1, .iconst 0), (2, .putfield 356), (5, .aload_n 0), (6, .iload_n 1), (7, .invokevirtual 652), (10, .ifCond .eq 17), (13, .iload_n 2), (14, .ifCond .lt 13), (17, .iload_n 2), (18, .aload_n 0), (19, .getfield 218), (22, .iload_n 1), (23, .iaload), (24, .if_icmp .lt 5), (27, .iconst (-1)), (28, .ireturn), (29, .aload_n 0), (30, .iload_n 1), (31, .iload_n 2)]
def rt_i117_1 : List (Nat × Instr) := [(32, .invokevirtual 543), (35, .istore 4), (37, .aload_n 0), (38, .aload_n 0), (39, .getfield 221), (42, .iload 4), (44, .laload), (45, .invokevirtual 459), (48, .istore 5), (50, .iload_n 3), (51, .tableswitch 93 0 3 #[29, 54, 69, 85])]
def rt_i117_2 : List (Nat × Instr) := [(80, .iload 5), (82, .ifCond .lt 11), (85, .bipush 100), (87, .iload 5), (89, .iadd), (90, .goto 14), (93, .aload_n 0), (94, .aload_n 0), (95, .getfield 221)]
def rt_i117_3 : List (Nat × Instr) := [(98, .iload 4), (100, .laload), (101, .invokevirtual 462), (104, .ireturn), (105, .aload_n 0), (106, .iload_n 1), (107, .iload_n 2), (108, .invokevirtual 667), (111, .ifCond .eq 7), (114, .iconst 1), (115, .goto 4), (118, .iconst 0), (119, .ireturn), (120, .aload_n 0), (121, .getfield 224), (124, .iload 4), (126, .baload), (127, .ifCond .eq 7)]
def rt_i117_4 : List (Nat × Instr) := [(130, .iconst 1), (131, .goto 4), (134, .iconst 0), (135, .ireturn), (136, .aload_n 0), (137, .getfield 227), (140, .iload 4), (142, .iaload), (143, .ireturn), (144, .iconst (-1)), (145, .ireturn)]
def rt_m117 : rt_M := (14, "mark", "(III)I", prog_15_method_103_code, 6, (some FieldType.int), [(0, rt_i117_0), (1, rt_i117_1), (2, rt_i117_2), (3, rt_i117_3), (4, rt_i117_4)], [], [], [])
def rt_i118_0 : List (Nat × Instr) := [(0, .aload_n 0), (1, .iconst 0), (2, .putfield 356), (5, .aload_n 0), (6, .getfield 634), (9, .ifCond .ne 5), (12, .iconst (-1)), (13, .ireturn), (14, .iload_n 1), (15, .tableswitch 224 0 10 #[57, 62, 67, 72, 77, 100, 123, 142, 161, 183, 205])]
def rt_i118_2 : List (Nat × Instr) := [(72, .aload_n 0), (73, .getfield 447), (76, .ireturn), (77, .aload_n 0), (78, .getfield 450), (81, .ireturn), (82, .aload_n 0), (83, .getfield 453), (86, .ireturn), (87, .aload_n 0), (88, .getfield 456), (91, .ireturn), (92, .iload_n 2), (93, .ifCond .lt 20)]
def rt_i118_3 : List (Nat × Instr) := [(96, .iload_n 2), (97, .aload_n 0), (98, .getfield 447), (101, .if_icmp .ge 12), (104, .aload_n 0), (105, .getfield 97), (108, .iload_n 2), (109, .iaload), (110, .goto 4), (113, .iconst (-1)), (114, .ireturn), (115, .iload_n 2), (116, .ifCond .lt 20), (119, .iload_n 2), (120, .aload_n 0), (121, .getfield 450), (124, .if_icmp .ge 12), (127, .aload_n 0)]
def rt_i118_4 : List (Nat × Instr) := [(128, .getfield 122), (131, .iload_n 2), (132, .iaload), (133, .goto 4), (136, .iconst (-1)), (137, .ireturn), (138, .aload_n 0), (139, .iload_n 2), (140, .invokevirtual 718), (143, .ifCond .eq 12), (146, .aload_n 0), (147, .getfield 158), (150, .iload_n 2), (151, .iaload), (152, .goto 4), (155, .iconst (-1)), (156, .ireturn), (157, .aload_n 0), (158, .iload_n 2), (159, .invokevirtual 718)]
def rt_i118_5 : List (Nat × Instr) := [(162, .ifCond .eq 12), (165, .aload_n 0), (166, .getfield 161), (169, .iload_n 2), (170, .iaload), (171, .goto 4), (174, .iconst (-1)), (175, .ireturn), (176, .aload_n 0), (177, .iload_n 2), (178, .invokevirtual 721), (181, .ifCond .eq 15), (184, .aload_n 0), (185, .getfield 173), (188, .iload_n 2), (189, .invokestatic 658)]
def rt_i118_6 : List (Nat × Instr) := [(192, .iaload), (193, .goto 4), (196, .iconst (-1)), (197, .ireturn), (198, .aload_n 0), (199, .iload_n 2), (200, .invokevirtual 721), (203, .ifCond .eq 15), (206, .aload_n 0), (207, .getfield 182), (210, .iload_n 2), (211, .invokestatic 658), (214, .iaload), (215, .goto 4), (218, .iconst (-1)), (219, .ireturn), (220, .aload_n 0), (221, .iload_n 2), (222, .invokevirtual 652)]
def rt_i118_7 : List (Nat × Instr) := [(225, .ifCond .eq 12), (228, .aload_n 0), (229, .getfield 218), (232, .iload_n 2), (233, .iaload), (234, .goto 4), (237, .iconst (-1)), (238, .ireturn), (239, .iconst (-1)), (240, .ireturn)]
def rt_m118 : rt_M := (14, "size", "(II)I", prog_15_method_104_code, 3, (some FieldType.int), [(0, rt_i118_0), (2, rt_i118_2), (3, rt_i118_3), (4, rt_i118_4), (5, rt_i118_5), (6, rt_i118_6), (7, rt_i118_7)], [], [], [])
def rt_i119_0 : List (Nat × Instr) := [(0, .aload_n 0), (1, .getfield 634), (4, .ifCond .eq 19), (7, .iload_n 1), (8, .ifCond .lt 15), (11, .iload_n 1), (12, .aload_n 0), (13, .getfield 447), (16, .if_icmp .ge 7), (19, .iconst 1), (20, .goto 4), (23, .iconst 0), (24, .ireturn)]
def rt_m119 : rt_M := (14, "isOrder", "(I)Z", prog_15_method_105_code, 2, (some FieldType.boolean), [(0, rt_i119_0)], [], [], [])
def rt_i120_0 : List (Nat × Instr) := [(0, .aload_n 0), (1, .iconst 0), (2, .putfield 356), (5, .aload_n 0), (6, .iload_n 1), (7, .invokevirtual 724), (10, .ifCond .eq 31), (13, .iload_n 2), (14, .ifCond .lt 27), (17, .iload_n 2), (18, .aload_n 0), (19, .getfield 97), (22, .iload_n 1), (23, .iaload), (24, .if_icmp .ge 17), (27, .iload_n 3), (28, .ifCond .lt 13), (31, .iload_n 3)]
def rt_i120_1 : List (Nat × Instr) := [(32, .aload_n 0), (33, .getfield 97), (36, .iload_n 1), (37, .iaload), (38, .if_icmp .lt 5), (41, .iconst (-1)), (42, .ireturn), (43, .iload 4), (45, .ifCond .ne 21), (48, .aload_n 0), (49, .iload_n 1), (50, .iload_n 2), (51, .iload_n 3), (52, .invokevirtual 535), (55, .ifCond .eq 7), (58, .iconst 1), (59, .goto 40), (62, .iconst 0), (63, .goto 36)]
def rt_i120_2 : List (Nat × Instr) := [(66, .iload 4), (68, .iconst 1), (69, .if_icmp .ne 13), (72, .aload_n 0), (73, .iload_n 1), (74, .iload_n 2), (75, .iload_n 3), (76, .invokevirtual 727), (79, .goto 20), (82, .iload 4), (84, .iconst 2), (85, .if_icmp .ne 13), (88, .aload_n 0), (89, .iload_n 1), (90, .iload_n 2), (91, .iload_n 3), (92, .invokevirtual 730), (95, .goto 4)]
def rt_i120_3 : List (Nat × Instr) := [(98, .iconst (-1)), (99, .ireturn)]
def rt_m120 : rt_M := (14, "order", "(IIII)I", prog_15_method_106_code, 5, (some FieldType.int), [(0, rt_i120_0), (1, rt_i120_1), (2, rt_i120_2), (3, rt_i120_3)], [], [], [])
def rt_i121_0 : List (Nat × Instr) := [(0, .aload_n 0), (1, .iconst 0), (2, .putfield 356), (5, .aload_n 0), (6, .aload_n 0), (7, .getfield 359), (10, .putfield 739), (13, .aload_n 0), (14, .iconst 0), (15, .putfield 359), (18, .aload_n 0), (19, .iload_n 1), (20, .invokevirtual 652), (23, .ifCond .ne 5), (26, .iconst (-1)), (27, .ireturn), (28, .aload_n 0), (29, .iconst 0), (30, .putfield 736)]
def rt_i121_1 : List (Nat × Instr) := [(33, .aload_n 0), (34, .iconst 0), (35, .putfield 733), (38, .aload_n 0), (39, .getfield 218), (42, .sipush 1218), (45, .iconst 0), (46, .iastore), (47, .aload_n 0), (48, .iconst 0), (49, .bipush 20), (51, .invokevirtual 742), (54, .istore_n 2), (55, .iconst 0), (56, .istore_n 3), (57, .iload_n 3), (58, .iload_n 2), (59, .if_icmp .ge 149), (62, .aload_n 0), (63, .getfield 733)]
def rt_i121_2 : List (Nat × Instr) := [(66, .ifCond .ne 142), (69, .aload_n 0), (70, .invokevirtual 745), (73, .lstore 4), (75, .aload_n 0), (76, .getfield 733), (79, .ifCond .ne 33), (82, .aload_n 0), (83, .getfield 736), (86, .aload_n 0), (87, .getfield 739), (90, .if_icmp .ge 22), (93, .aload_n 0), (94, .getfield 9)]
def rt_i121_3 : List (Nat × Instr) := [(97, .aload_n 0), (98, .getfield 736), (101, .iaload), (102, .sipush 255), (105, .if_icmp .ne 7), (108, .iconst 1), (109, .goto 4), (112, .iconst 0), (113, .istore 6), (115, .iload 6), (117, .ifCond .eq 16), (120, .aload_n 0), (121, .sipush 255), (124, .sipush 255), (127, .invokevirtual 742)]
def rt_i121_4 : List (Nat × Instr) := [(130, .goto 9), (133, .aload_n 0), (134, .iconst 0), (135, .iconst 4), (136, .invokevirtual 742), (139, .istore 7), (141, .aload_n 0), (142, .getfield 733), (145, .ifCond .eq 6), (148, .goto 60), (151, .aload_n 0), (152, .sipush 1218), (155, .lload 4), (157, .iload 6), (159, .invokevirtual 555)]
def rt_i121_5 : List (Nat × Instr) := [(162, .iconst 0), (163, .istore 8), (165, .iload 8), (167, .iload 7), (169, .if_icmp .ge 33), (172, .iload 6), (174, .ifCond .ne 28), (177, .aload_n 0), (178, .getfield 733), (181, .ifCond .ne 21), (184, .aload_n 0), (185, .aload_n 0), (186, .sipush 1218), (189, .iload_n 3), (190, .invokevirtual 543)]
def rt_i121_6 : List (Nat × Instr) := [(193, .invokevirtual 751), (196, .iinc 8 1), (199, .goto (-34)), (202, .iinc 3 1), (205, .goto (-148)), (208, .aload_n 0), (209, .getfield 733), (212, .ifCond .ne 14), (215, .aload_n 0), (216, .getfield 736), (219, .aload_n 0), (220, .getfield 739), (223, .if_icmp .ge 12)]
def rt_i121_7 : List (Nat × Instr) := [(226, .sipush (-1000)), (229, .aload_n 0), (230, .getfield 736), (233, .isub), (234, .ireturn), (235, .aload_n 0), (236, .getfield 218), (239, .iload_n 1), (240, .iconst 0), (241, .iastore), (242, .iconst 0), (243, .istore_n 3), (244, .iload_n 3), (245, .iload_n 2), (246, .if_icmp .ge 22), (249, .aload_n 0), (250, .aload_n 0), (251, .sipush 1218), (254, .iload_n 3), (255, .invokevirtual 543)]
def rt_i121_8 : List (Nat × Instr) := [(258, .iload_n 1), (259, .invokevirtual 754), (262, .iinc 3 1), (265, .goto (-21)), (268, .aload_n 0), (269, .invokevirtual 637), (272, .iload_n 2), (273, .ireturn)]
def rt_m121 : rt_M := (14, "give", "(I)I", prog_15_method_111_code, 9, (some FieldType.int), [(0, rt_i121_0), (1, rt_i121_1), (2, rt_i121_2), (3, rt_i121_3), (4, rt_i121_4), (5, rt_i121_5), (6, rt_i121_6), (7, rt_i121_7), (8, rt_i121_8)], [], [], [])
def rt_i122_0 : List (Nat × Instr) := [(0, .aload_n 0), (1, .iconst 0), (2, .putfield 356), (5, .aload_n 0), (6, .iload_n 1), (7, .invokevirtual 652), (10, .ifCond .ne 5), (13, .iconst (-1)), (14, .ireturn), (15, .aload_n 0), (16, .iconst 0), (17, .putfield 366), (20, .aload_n 0), (21, .aload_n 0), (22, .getfield 218), (25, .iload_n 1), (26, .iaload), (27, .invokevirtual 371), (30, .iconst 0), (31, .istore_n 2)]
def rt_i122_1 : List (Nat × Instr) := [(32, .iload_n 2), (33, .aload_n 0), (34, .getfield 218), (37, .iload_n 1), (38, .iaload), (39, .if_icmp .ge 168), (42, .aload_n 0), (43, .iload_n 1), (44, .iload_n 2), (45, .invokevirtual 543), (48, .istore_n 3), (49, .aload_n 0), (50, .aload_n 0), (51, .getfield 221), (54, .iload_n 3), (55, .laload), (56, .invokevirtual 760), (59, .aload_n 0), (60, .aload_n 0), (61, .getfield 224)]
def rt_i122_2 : List (Nat × Instr) := [(64, .iload_n 3), (65, .baload), (66, .ifCond .eq 9), (69, .sipush 255), (72, .goto 9), (75, .aload_n 0), (76, .getfield 227), (79, .iload_n 3), (80, .iaload), (81, .invokevirtual 371), (84, .iconst 0), (85, .istore 4), (87, .iload 4), (89, .aload_n 0), (90, .getfield 227), (93, .iload_n 3), (94, .iaload), (95, .if_icmp .ge 106)]
def rt_i122_3 : List (Nat × Instr) := [(98, .iload_n 3), (99, .iconst 4), (100, .imul), (101, .iload 4), (103, .iadd), (104, .istore 5), (106, .aload_n 0), (107, .aload_n 0), (108, .getfield 231), (111, .iload 5), (113, .laload), (114, .invokevirtual 760), (117, .aload_n 0), (118, .aload_n 0), (119, .getfield 234), (122, .iload 5), (124, .iaload), (125, .invokevirtual 371)]
def rt_i122_4 : List (Nat × Instr) := [(128, .aload_n 0), (129, .getfield 234), (132, .iload 5), (134, .iaload), (135, .iconst 1), (136, .if_icmp .eq 14), (139, .aload_n 0), (140, .aload_n 0), (141, .getfield 237), (144, .iload 5), (146, .laload), (147, .invokevirtual 760), (150, .bipush 24), (152, .istore 6), (154, .iload 6), (156, .ifCond .lt 39), (159, .aload_n 0)]
def rt_i122_5 : List (Nat × Instr) := [(160, .getfield 234), (163, .iload 5), (165, .iaload), (166, .iconst 1), (167, .if_icmp .ne 28), (170, .aload_n 0), (171, .aload_n 0), (172, .getfield 237), (175, .iload 5), (177, .laload), (178, .iload 6), (180, .lshr), (181, .ldc2_w 369), (184, .land), (185, .l2i), (186, .invokevirtual 371), (189, .iinc 6 (-8))]
def rt_i122_6 : List (Nat × Instr) := [(192, .goto (-38)), (195, .iinc 4 1), (198, .goto (-111)), (201, .iinc 2 1), (204, .goto (-172)), (207, .aload_n 0), (208, .getfield 366), (211, .ireturn)]
def rt_m122 : rt_M := (14, "file", "(I)I", prog_15_method_114_code, 7, (some FieldType.int), [(0, rt_i122_0), (1, rt_i122_1), (2, rt_i122_2), (3, rt_i122_3), (4, rt_i122_4), (5, rt_i122_5), (6, rt_i122_6)], [], [], [])
def rt_i123_0 : List (Nat × Instr) := [(0, .aload_n 0), (1, .iconst 0), (2, .putfield 356), (5, .aload_n 0), (6, .getfield 634), (9, .ifCond .ne 5), (12, .iconst (-1)), (13, .ireturn), (14, .aload_n 0), (15, .iconst 0), (16, .putfield 366), (19, .aload_n 0), (20, .iconst 0), (21, .putfield 378), (24, .iconst 0), (25, .istore_n 1), (26, .iload_n 1), (27, .aload_n 0), (28, .getfield 447), (31, .if_icmp .ge 14)]
def rt_i123_1 : List (Nat × Instr) := [(34, .aload_n 0), (35, .iload_n 1), (36, .invokevirtual 820), (39, .iinc 1 1), (42, .goto (-16)), (45, .iconst 0), (46, .istore_n 1), (47, .iload_n 1), (48, .aload_n 0), (49, .getfield 450), (52, .if_icmp .ge 14), (55, .aload_n 0), (56, .iload_n 1), (57, .invokevirtual 823), (60, .iinc 1 1), (63, .goto (-16))]
def rt_i123_2 : List (Nat × Instr) := [(66, .iconst 0), (67, .istore_n 1), (68, .iload_n 1), (69, .aload_n 0), (70, .getfield 453), (73, .if_icmp .ge 69), (76, .aload_n 0), (77, .ldc 30), (79, .invokevirtual 402), (82, .aload_n 0), (83, .aload_n 0), (84, .getfield 146), (87, .iload_n 1), (88, .laload), (89, .invokevirtual 765), (92, .aload_n 0), (93, .ldc_w 794)]
def rt_i123_3 : List (Nat × Instr) := [(96, .invokevirtual 402), (99, .aload_n 0), (100, .aload_n 0), (101, .getfield 119), (104, .aload_n 0), (105, .getfield 149), (108, .iload_n 1), (109, .iaload), (110, .laload), (111, .invokevirtual 765), (114, .aload_n 0), (115, .ldc 32), (117, .invokevirtual 402), (120, .aload_n 0), (121, .sipush 1212), (124, .iload_n 1), (125, .iadd), (126, .invokevirtual 803)]
def rt_i123_4 : List (Nat × Instr) := [(129, .aload_n 0), (130, .ldc_w 801), (133, .invokevirtual 402), (136, .iinc 1 1), (139, .goto (-71)), (142, .iconst 0), (143, .istore_n 1), (144, .iload_n 1), (145, .aload_n 0), (146, .getfield 456), (149, .if_icmp .ge 14), (152, .aload_n 0), (153, .iload_n 1), (154, .invokevirtual 826), (157, .iinc 1 1)]
def rt_i123_5 : List (Nat × Instr) := [(160, .goto (-16)), (163, .aload_n 0), (164, .getfield 366), (167, .ireturn)]
def rt_m123 : rt_M := (14, "tell", "()I", prog_15_method_125_code, 2, (some FieldType.int), [(0, rt_i123_0), (1, rt_i123_1), (2, rt_i123_2), (3, rt_i123_3), (4, rt_i123_4), (5, rt_i123_5)], [], [], [])
def rt_i124_0 : List (Nat × Instr) := [(0, .aload_n 0), (1, .iconst 0), (2, .putfield 356), (5, .aload_n 0), (6, .getfield 634), (9, .ifCond .ne 5), (12, .iconst (-1)), (13, .ireturn), (14, .iconst 0), (15, .istore_n 1), (16, .iconst 1), (17, .istore_n 2), (18, .iload_n 2), (19, .ifCond .eq 242), (22, .iconst 0), (23, .istore_n 3), (24, .iload_n 3), (25, .aload_n 0), (26, .getfield 453), (29, .if_icmp .ge 66)]
def rt_i124_1 : List (Nat × Instr) := [(32, .iconst 0), (33, .istore 4), (35, .iload 4), (37, .aload_n 0), (38, .getfield 456), (41, .if_icmp .ge 48), (44, .aload_n 0), (45, .bipush 100), (47, .iload 4), (49, .imul), (50, .aload_n 0), (51, .getfield 149), (54, .iload_n 3), (55, .iaload), (56, .invokevirtual 712), (59, .aload_n 0), (60, .getfield 255), (63, .bipush 12)]
def rt_i124_2 : List (Nat × Instr) := [(65, .iload_n 3), (66, .imul), (67, .iload 4), (69, .iadd), (70, .aload_n 0), (71, .getfield 678), (74, .ifCond .le 7), (77, .iconst 1), (78, .goto 4), (81, .iconst 0), (82, .bastore), (83, .iinc 4 1), (86, .goto (-51)), (89, .iinc 3 1), (92, .goto (-68)), (95, .iconst 0)]
def rt_i124_3 : List (Nat × Instr) := [(96, .istore_n 2), (97, .iconst 0), (98, .istore_n 3), (99, .iload_n 3), (100, .aload_n 0), (101, .getfield 453), (104, .if_icmp .ge 142), (107, .iconst 0), (108, .istore 4), (110, .iload 4), (112, .aload_n 0), (113, .getfield 456), (116, .if_icmp .ge 124), (119, .sipush 1212), (122, .iload_n 3), (123, .iadd), (124, .istore 5), (126, .iconst 0), (127, .istore 6)]
def rt_i124_4 : List (Nat × Instr) := [(129, .iload 6), (131, .aload_n 0), (132, .getfield 218), (135, .iload 5), (137, .iaload), (138, .if_icmp .ge 96), (141, .aload_n 0), (142, .getfield 255), (145, .bipush 12), (147, .iload_n 3), (148, .imul), (149, .iload 4), (151, .iadd), (152, .baload), (153, .ifCond .eq 81), (156, .aload_n 0), (157, .getfield 218)]
def rt_i124_5 : List (Nat × Instr) := [(160, .bipush 100), (162, .iload 4), (164, .imul), (165, .iaload), (166, .bipush 20), (168, .if_icmp .eq 60), (171, .aload_n 0), (172, .bipush 100), (174, .iload 4), (176, .imul), (177, .aload_n 0), (178, .getfield 218), (181, .bipush 100), (183, .iload 4), (185, .imul), (186, .iaload), (187, .aload_n 0), (188, .getfield 221), (191, .aload_n 0)]
def rt_i124_6 : List (Nat × Instr) := [(192, .iload 5), (194, .iload 6), (196, .invokevirtual 543), (199, .laload), (200, .invokevirtual 551), (203, .ifCond .eq 6), (206, .goto 22), (209, .aload_n 0), (210, .aload_n 0), (211, .iload 5), (213, .iload 6), (215, .invokevirtual 543), (218, .bipush 100), (220, .iload 4), (222, .imul), (223, .invokevirtual 754)]
def rt_i124_7 : List (Nat × Instr) := [(226, .iconst 1), (227, .istore_n 2), (228, .iinc 6 1), (231, .goto (-102)), (234, .iinc 4 1), (237, .goto (-127)), (240, .iinc 3 1), (243, .goto (-144)), (246, .iload_n 1), (247, .iload_n 2), (248, .ifCond .eq 7), (251, .iconst 1), (252, .goto 4), (255, .iconst 0)]
def rt_i124_8 : List (Nat × Instr) := [(256, .iadd), (257, .istore_n 1), (258, .goto (-240)), (261, .aload_n 0), (262, .invokevirtual 637), (265, .iload_n 1), (266, .ireturn)]
def rt_m124 : rt_M := (14, "rounds", "()I", prog_15_method_126_code, 7, (some FieldType.int), [(0, rt_i124_0), (1, rt_i124_1), (2, rt_i124_2), (3, rt_i124_3), (4, rt_i124_4), (5, rt_i124_5), (6, rt_i124_6), (7, rt_i124_7), (8, rt_i124_8)], [], [], [])
def rt_i125_0 : List (Nat × Instr) := [(0, .aload_n 0), (1, .iconst 0), (2, .putfield 356), (5, .aload_n 0), (6, .iload_n 1), (7, .invokevirtual 829), (10, .ifCond .eq 20), (13, .aload_n 0), (14, .iload_n 2), (15, .invokevirtual 724), (18, .ifCond .eq 12), (21, .aload_n 0), (22, .iload_n 1), (23, .iload_n 2), (24, .invokevirtual 832), (27, .goto 4), (30, .iconst (-1)), (31, .ireturn)]
def rt_m125 : rt_M := (14, "markOf", "(II)I", prog_15_method_128_code, 3, (some FieldType.int), [(0, rt_i125_0)], [], [], [])
def rt_i126_0 : List (Nat × Instr) := [(0, .aload_n 0), (1, .iconst 0), (2, .putfield 356), (5, .aload_n 0), (6, .iload_n 1), (7, .invokevirtual 724), (10, .ifCond .ne 5), (13, .iconst (-1)), (14, .ireturn), (15, .aload_n 0), (16, .iload_n 1), (17, .invokevirtual 871), (20, .aload_n 0), (21, .iload_n 1), (22, .putfield 292), (25, .aload_n 0), (26, .iconst 0), (27, .putfield 874), (30, .aload_n 0), (31, .getfield 859)]
def rt_i126_1 : List (Nat × Instr) := [(34, .ireturn)]
def rt_m126 : rt_M := (14, "flow", "(I)I", prog_15_method_140_code, 2, (some FieldType.int), [(0, rt_i126_0), (1, rt_i126_1)], [], [], [])
def rt_i127_0 : List (Nat × Instr) := [(0, .aload_n 0), (1, .iconst 0), (2, .putfield 356), (5, .aload_n 0), (6, .getfield 292), (9, .ifCond .lt 15), (12, .iload_n 1), (13, .ifCond .lt 11), (16, .iload_n 1), (17, .aload_n 0), (18, .getfield 859), (21, .if_icmp .lt 5), (24, .iconst (-1)), (25, .ireturn), (26, .iload_n 2), (27, .tableswitch 71 0 4 #[33, 43, 50, 57, 64])]
def rt_i127_1 : List (Nat × Instr) := [(60, .aload_n 0), (61, .getfield 277)]
def rt_i127_2 : List (Nat × Instr) := [(64, .iload_n 1), (65, .iaload), (66, .invokestatic 661), (69, .ireturn), (70, .aload_n 0), (71, .getfield 280), (74, .iload_n 1), (75, .iaload), (76, .ireturn), (77, .aload_n 0), (78, .getfield 283), (81, .iload_n 1), (82, .iaload), (83, .ireturn), (84, .aload_n 0), (85, .getfield 286), (88, .iload_n 1), (89, .iaload), (90, .ireturn), (91, .aload_n 0), (92, .getfield 289), (95, .iload_n 1)]
def rt_i127_3 : List (Nat × Instr) := [(96, .iaload), (97, .ireturn), (98, .iconst (-1)), (99, .ireturn)]
def rt_m127 : rt_M := (14, "error", "(II)I", prog_15_method_141_code, 3, (some FieldType.int), [(0, rt_i127_0), (1, rt_i127_1), (2, rt_i127_2), (3, rt_i127_3)], [], [], [])
def rt_i128_0 : List (Nat × Instr) := [(0, .aload_n 0), (1, .iconst 0), (2, .putfield 356), (5, .aload_n 0), (6, .getfield 292), (9, .ifCond .lt 15), (12, .aload_n 0), (13, .iload_n 1), (14, .invokevirtual 721), (17, .ifCond .eq 7), (20, .iload_n 3), (21, .ifCond .ge 5), (24, .iconst (-1)), (25, .ireturn), (26, .iload_n 1), (27, .invokestatic 658), (30, .istore 4)]
def rt_i128_1 : List (Nat × Instr) := [(32, .iload_n 2), (33, .ifCond .lt 29), (36, .iload_n 2), (37, .aload_n 0), (38, .getfield 182), (41, .iload 4), (43, .iaload), (44, .if_icmp .ge 18), (47, .aload_n 0), (48, .getfield 271), (51, .bipush 40), (53, .iload 4), (55, .imul), (56, .iload_n 2), (57, .iadd), (58, .baload), (59, .ifCond .ne 5), (62, .iconst (-1)), (63, .ireturn)]
def rt_i128_2 : List (Nat × Instr) := [(64, .bipush 40), (66, .iload 4), (68, .imul), (69, .iload_n 2), (70, .iadd), (71, .istore 5), (73, .iload_n 3), (74, .bipush 8), (76, .if_icmp .ge 17), (79, .iload_n 3), (80, .aload_n 0), (81, .getfield 176), (84, .iload 4), (86, .iaload), (87, .if_icmp .lt 22), (90, .goto 17), (93, .iload_n 3), (94, .bipush 8)]
def rt_i128_3 : List (Nat × Instr) := [(96, .isub), (97, .aload_n 0), (98, .getfield 243), (101, .iload 5), (103, .iaload), (104, .if_icmp .lt 5), (107, .iconst (-1)), (108, .ireturn), (109, .aload_n 0), (110, .getfield 268), (113, .bipush 16), (115, .iload 5), (117, .imul), (118, .iload_n 3), (119, .iadd), (120, .iaload), (121, .ireturn)]
def rt_m128 : rt_M := (14, "state", "(III)I", prog_15_method_142_code, 6, (some FieldType.int), [(0, rt_i128_0), (1, rt_i128_1), (2, rt_i128_2), (3, rt_i128_3)], [], [], [])
def rt_i129_0 : List (Nat × Instr) := [(0, .aload_n 0), (1, .iconst 0), (2, .putfield 356), (5, .aload_n 0), (6, .getfield 292), (9, .ifCond .lt 15), (12, .iload_n 1), (13, .ifCond .lt 11), (16, .iload_n 1), (17, .aload_n 0), (18, .getfield 859), (21, .if_icmp .lt 5), (24, .iconst (-1)), (25, .ireturn), (26, .aload_n 0), (27, .getfield 277), (30, .iload_n 1), (31, .iaload)]
def rt_i129_1 : List (Nat × Instr) := [(32, .istore_n 2), (33, .aload_n 0), (34, .getfield 292), (37, .istore_n 3), (38, .aload_n 0), (39, .iload_n 3), (40, .invokevirtual 856), (43, .aload_n 0), (44, .iconst 0), (45, .putfield 877), (48, .aload_n 0), (49, .iconst 0), (50, .putfield 880), (53, .aload_n 0), (54, .iconst (-1)), (55, .putfield 883), (58, .aload_n 0), (59, .iload_n 2), (60, .iload_n 3), (61, .invokevirtual 844)]
def rt_i129_2 : List (Nat × Instr) := [(64, .aload_n 0), (65, .iload_n 2), (66, .iconst 0), (67, .iconst (-1)), (68, .iload_n 1), (69, .invokevirtual 886), (72, .iconst 0), (73, .istore 4), (75, .iload 4), (77, .aload_n 0), (78, .getfield 877), (81, .if_icmp .ge 189), (84, .aload_n 0), (85, .getfield 883), (88, .ifCond .ge 182), (91, .aload_n 0), (92, .getfield 880), (95, .ifCond .ne 175)]
def rt_i129_3 : List (Nat × Instr) := [(98, .bipush 40), (100, .iload_n 2), (101, .imul), (102, .aload_n 0), (103, .getfield 296), (106, .iload 4), (108, .iaload), (109, .iadd), (110, .istore 5), (112, .aload_n 0), (113, .getfield 185), (116, .iload 5), (118, .iaload), (119, .bipush 21), (121, .if_icmp .eq 19), (124, .aload_n 0), (125, .getfield 185)]
def rt_i129_4 : List (Nat × Instr) := [(128, .iload 5), (130, .iaload), (131, .bipush 27), (133, .if_icmp .eq 7), (136, .iconst 1), (137, .goto 4), (140, .iconst 0), (141, .istore 6), (143, .aload_n 0), (144, .getfield 200), (147, .iload 5), (149, .iaload), (150, .ifCond .lt 31), (153, .iload 6), (155, .ifCond .eq 22), (158, .aload_n 0), (159, .getfield 200)]
def rt_i129_5 : List (Nat × Instr) := [(162, .iload 5), (164, .iaload), (165, .aload_n 0), (166, .getfield 296), (169, .iload 4), (171, .iaload), (172, .iconst 1), (173, .iadd), (174, .if_icmp .ge 7), (177, .iconst 1), (178, .goto 4), (181, .iconst 0), (182, .istore 7), (184, .iload 7), (186, .ifCond .eq 12), (189, .aload_n 0), (190, .iload_n 2), (191, .iload 4)]
def rt_i129_6 : List (Nat × Instr) := [(193, .iload_n 1), (194, .iconst 1), (195, .invokevirtual 890), (198, .iload 6), (200, .ifCond .eq 26), (203, .aload_n 0), (204, .getfield 883), (207, .ifCond .ge 19), (210, .aload_n 0), (211, .getfield 880), (214, .ifCond .ne 12), (217, .aload_n 0), (218, .iload_n 2), (219, .iload 4), (221, .iload_n 1), (222, .iconst 0), (223, .invokevirtual 890)]
def rt_i129_7 : List (Nat × Instr) := [(226, .aload_n 0), (227, .getfield 200), (230, .iload 5), (232, .iaload), (233, .ifCond .lt 31), (236, .iload 7), (238, .ifCond .ne 26), (241, .aload_n 0), (242, .getfield 883), (245, .ifCond .ge 19), (248, .aload_n 0), (249, .getfield 880), (252, .ifCond .ne 12), (255, .aload_n 0)]
def rt_i129_8 : List (Nat × Instr) := [(256, .iload_n 2), (257, .iload 4), (259, .iload_n 1), (260, .iconst 1), (261, .invokevirtual 890), (264, .iinc 4 1), (267, .goto (-192)), (270, .aload_n 0), (271, .getfield 883), (274, .ifCond .ge 17), (277, .aload_n 0), (278, .getfield 880), (281, .ifCond .eq 8), (284, .bipush (-2)), (286, .goto 4)]
def rt_i129_9 : List (Nat × Instr) := [(289, .iconst 0), (290, .ireturn), (291, .iconst 0), (292, .istore 4), (294, .aload_n 0), (295, .getfield 883), (298, .istore 5), (300, .iload 5), (302, .ifCond .lt 18), (305, .iinc 4 1), (308, .aload_n 0), (309, .getfield 299), (312, .iload 5), (314, .iaload), (315, .istore 5), (317, .goto (-17))]
def rt_i129_10 : List (Nat × Instr) := [(320, .aload_n 0), (321, .iload 4), (323, .putfield 874), (326, .aload_n 0), (327, .getfield 883), (330, .istore 5), (332, .iload 5), (334, .ifCond .lt 32), (337, .iinc 4 (-1)), (340, .aload_n 0), (341, .getfield 305), (344, .iload 4), (346, .aload_n 0), (347, .getfield 296), (350, .iload 5)]
def rt_i129_11 : List (Nat × Instr) := [(352, .iaload), (353, .iastore), (354, .aload_n 0), (355, .getfield 299), (358, .iload 5), (360, .iaload), (361, .istore 5), (363, .goto (-31)), (366, .aload_n 0), (367, .getfield 874), (370, .ireturn)]
def rt_m129 : rt_M := (14, "way", "(I)I", prog_15_method_144_code, 8, (some FieldType.int), [(0, rt_i129_0), (1, rt_i129_1), (2, rt_i129_2), (3, rt_i129_3), (4, rt_i129_4), (5, rt_i129_5), (6, rt_i129_6), (7, rt_i129_7), (8, rt_i129_8), (9, rt_i129_9), (10, rt_i129_10), (11, rt_i129_11)], [], [], [])
def rt_i130_0 : List (Nat × Instr) := [(0, .aload_n 0), (1, .iconst 0), (2, .putfield 356), (5, .aload_n 0), (6, .getfield 292), (9, .ifCond .lt 24), (12, .iload_n 1), (13, .ifCond .lt 20), (16, .iload_n 1), (17, .aload_n 0), (18, .getfield 874), (21, .if_icmp .ge 12), (24, .aload_n 0), (25, .getfield 305), (28, .iload_n 1), (29, .iaload), (30, .goto 4)]
def rt_i130_1 : List (Nat × Instr) := [(33, .iconst (-1)), (34, .ireturn)]
def rt_m130 : rt_M := (14, "step", "(I)I", prog_15_method_146_code, 2, (some FieldType.int), [(0, rt_i130_0), (1, rt_i130_1)], [], [], [])
def rt_i131_0 : List (Nat × Instr) := [(0, .aload_n 0), (1, .iconst 0), (2, .putfield 356), (5, .aload_n 0), (6, .iload_n 1), (7, .invokevirtual 724), (10, .ifCond .ne 5), (13, .iconst (-1)), (14, .ireturn), (15, .aload_n 0), (16, .invokevirtual 637), (19, .iconst 0), (20, .istore_n 2), (21, .iconst 0), (22, .istore_n 3), (23, .iload_n 3), (24, .sipush 1200), (27, .if_icmp .ge 60), (30, .aload_n 0), (31, .iload_n 3)]
def rt_i131_1 : List (Nat × Instr) := [(32, .invokevirtual 829), (35, .ifCond .ne 6), (38, .goto 43), (41, .aload_n 0), (42, .iload_n 3), (43, .bipush 100), (45, .iload_n 1), (46, .iadd), (47, .invokevirtual 712), (50, .aload_n 0), (51, .getfield 678), (54, .ifCond .le 6), (57, .goto 24), (60, .aload_n 0), (61, .getfield 258)]
def rt_i131_2 : List (Nat × Instr) := [(64, .sipush 1200), (67, .iload_n 1), (68, .imul), (69, .iload_n 3), (70, .iadd), (71, .aload_n 0), (72, .getfield 116), (75, .iload_n 1), (76, .iaload), (77, .iastore), (78, .iinc 2 1), (81, .iinc 3 1), (84, .goto (-61)), (87, .iconst 1), (88, .istore_n 3), (89, .iload_n 3), (90, .ifCond .eq 226), (93, .iconst 0), (94, .istore_n 3), (95, .aload_n 0)]
def rt_i131_3 : List (Nat × Instr) := [(96, .iload_n 1), (97, .invokevirtual 856), (100, .iconst 0), (101, .istore 4), (103, .iload 4), (105, .bipush 96), (107, .if_icmp .ge 206), (110, .aload_n 0), (111, .iload 4), (113, .invokevirtual 614), (116, .ifCond .ne 6), (119, .goto 188), (122, .aload_n 0), (123, .iload 4), (125, .iload_n 1), (126, .invokevirtual 862)]
def rt_i131_4 : List (Nat × Instr) := [(129, .bipush 40), (131, .iload 4), (133, .imul), (134, .istore 5), (136, .iload 5), (138, .bipush 40), (140, .iload 4), (142, .imul), (143, .aload_n 0), (144, .getfield 182), (147, .iload 4), (149, .iaload), (150, .iadd), (151, .if_icmp .ge 156), (154, .iconst 0), (155, .istore 6), (157, .iload 6), (159, .aload_n 0)]
def rt_i131_5 : List (Nat × Instr) := [(160, .iload 5), (162, .invokevirtual 853), (165, .if_icmp .ge 136), (168, .aload_n 0), (169, .getfield 271), (172, .iload 5), (174, .baload), (175, .ifCond .eq 126), (178, .aload_n 0), (179, .iload 4), (181, .iload 5), (183, .iload 6), (185, .invokevirtual 868), (188, .istore 7), (190, .aload_n 0), (191, .getfield 268)]
def rt_i131_6 : List (Nat × Instr) := [(194, .bipush 16), (196, .iload 5), (198, .imul), (199, .bipush 8), (201, .iadd), (202, .aload_n 0), (203, .getfield 243), (206, .iload 5), (208, .iaload), (209, .iadd), (210, .iconst 1), (211, .isub), (212, .aload_n 0), (213, .iload 5), (215, .iload 6), (217, .invokevirtual 865), (220, .isub), (221, .iaload), (222, .istore 8)]
def rt_i131_7 : List (Nat × Instr) := [(224, .aload_n 0), (225, .getfield 264), (228, .iload 7), (230, .baload), (231, .ifCond .ne 64), (234, .aload_n 0), (235, .iload_n 1), (236, .iload 8), (238, .aload_n 0), (239, .getfield 258), (242, .sipush 1200), (245, .iload_n 1), (246, .imul), (247, .iload 7), (249, .iadd), (250, .iaload), (251, .invokevirtual 535), (254, .ifCond .eq 6)]
def rt_i131_8 : List (Nat × Instr) := [(257, .goto 38), (260, .aload_n 0), (261, .getfield 258), (264, .sipush 1200), (267, .iload_n 1), (268, .imul), (269, .iload 7), (271, .iadd), (272, .aload_n 0), (273, .iload_n 1), (274, .iload 8), (276, .aload_n 0), (277, .getfield 258), (280, .sipush 1200), (283, .iload_n 1), (284, .imul), (285, .iload 7), (287, .iadd)]
def rt_i131_9 : List (Nat × Instr) := [(288, .iaload), (289, .invokevirtual 727), (292, .iastore), (293, .iconst 1), (294, .istore_n 3), (295, .iinc 6 1), (298, .goto (-141)), (301, .iinc 5 1), (304, .goto (-168)), (307, .iinc 4 1), (310, .goto (-207)), (313, .goto (-224)), (316, .iload_n 2), (317, .ireturn)]
def rt_m131 : rt_M := (14, "find", "(I)I", prog_15_method_147_code, 9, (some FieldType.int), [(0, rt_i131_0), (1, rt_i131_1), (2, rt_i131_2), (3, rt_i131_3), (4, rt_i131_4), (5, rt_i131_5), (6, rt_i131_6), (7, rt_i131_7), (8, rt_i131_8), (9, rt_i131_9)], [], [], [])
def rt_i132_0 : List (Nat × Instr) := [(0, .aload_n 0), (1, .iconst 0), (2, .putfield 356), (5, .aload_n 0), (6, .iload_n 1), (7, .invokevirtual 724), (10, .ifCond .ne 5), (13, .iconst 0), (14, .ireturn), (15, .aload_n 0), (16, .invokevirtual 637), (19, .iconst 0), (20, .istore_n 2), (21, .iload_n 2), (22, .sipush 1200), (25, .if_icmp .ge 27), (28, .aload_n 0), (29, .getfield 258)]
def rt_i132_1 : List (Nat × Instr) := [(32, .sipush 1200), (35, .iload_n 1), (36, .imul), (37, .iload_n 2), (38, .iadd), (39, .aload_n 0), (40, .getfield 113), (43, .iload_n 1), (44, .iaload), (45, .iastore), (46, .iinc 2 1), (49, .goto (-28)), (52, .iconst 1), (53, .ireturn)]
def rt_m132 : rt_M := (14, "plain", "(I)Z", prog_15_method_148_code, 3, (some FieldType.boolean), [(0, rt_i132_0), (1, rt_i132_1)], [], [], [])
def rt_i133_0 : List (Nat × Instr) := [(0, .aload_n 0), (1, .iconst 0), (2, .putfield 894), (5, .aload_n 0), (6, .iconst 0), (7, .putfield 897), (10, .aload_n 0), (11, .iconst (-1)), (12, .putfield 292), (15, .aload_n 0), (16, .iconst 0), (17, .putfield 874), (20, .aload_n 0), (21, .iconst 0), (22, .putfield 900), (25, .return_)]
def rt_m133 : rt_M := (14, "changed", "()V", prog_15_method_149_code, 1, none, [(0, rt_i133_0)], [], [], [])
def rt_i134_0 : List (Nat × Instr) := [(0, .aload_n 0), (1, .iconst 0), (2, .putfield 356), (5, .aload_n 0), (6, .getfield 634), (9, .ifCond .ne 5), (12, .iconst (-1)), (13, .ireturn), (14, .iconst 0), (15, .istore_n 1), (16, .iload_n 1), (17, .ldc_w 267), (20, .if_icmp .ge 16), (23, .aload_n 0), (24, .getfield 308), (27, .iload_n 1), (28, .iconst (-1)), (29, .iastore), (30, .iinc 1 1)]
def rt_i134_1 : List (Nat × Instr) := [(33, .goto (-17)), (36, .iconst 0), (37, .istore_n 1), (38, .iconst 0), (39, .istore_n 2), (40, .iload_n 2), (41, .aload_n 0), (42, .getfield 447), (45, .if_icmp .ge 74), (48, .aload_n 0), (49, .iload_n 2), (50, .invokevirtual 871), (53, .iconst 0), (54, .istore_n 3), (55, .iload_n 3), (56, .aload_n 0), (57, .getfield 859), (60, .if_icmp .ge 46), (63, .aload_n 0)]
def rt_i134_2 : List (Nat × Instr) := [(64, .getfield 308), (67, .bipush 40), (69, .aload_n 0), (70, .getfield 277), (73, .iload_n 3), (74, .iaload), (75, .imul), (76, .aload_n 0), (77, .getfield 280), (80, .iload_n 3), (81, .iaload), (82, .iadd), (83, .iload_n 2), (84, .aload_n 0), (85, .getfield 283), (88, .iload_n 3), (89, .iaload), (90, .invokestatic 903), (93, .aload_n 0), (94, .getfield 289)]
def rt_i134_3 : List (Nat × Instr) := [(97, .iload_n 3), (98, .iaload), (99, .iastore), (100, .iinc 3 1), (103, .goto (-48)), (106, .iload_n 1), (107, .aload_n 0), (108, .getfield 859), (111, .iadd), (112, .istore_n 1), (113, .iinc 2 1), (116, .goto (-76)), (119, .aload_n 0), (120, .iconst 1), (121, .putfield 894), (124, .aload_n 0), (125, .getfield 292)]
def rt_i134_4 : List (Nat × Instr) := [(128, .ifCond .lt 11), (131, .aload_n 0), (132, .aload_n 0), (133, .getfield 292), (136, .invokevirtual 871), (139, .iload_n 1), (140, .ireturn)]
def rt_m134 : rt_M := (14, "weave", "()I", prog_15_method_151_code, 4, (some FieldType.int), [(0, rt_i134_0), (1, rt_i134_1), (2, rt_i134_2), (3, rt_i134_3), (4, rt_i134_4)], [], [], [])
def rt_i135_0 : List (Nat × Instr) := [(0, .aload_n 0), (1, .iconst 0), (2, .putfield 356), (5, .aload_n 0), (6, .iload_n 1), (7, .invokevirtual 721), (10, .ifCond .ne 5), (13, .iconst (-1)), (14, .ireturn), (15, .iload_n 1), (16, .invokestatic 658), (19, .istore_n 3), (20, .aload_n 0), (21, .iconst 0), (22, .putfield 366), (25, .aload_n 0), (26, .iconst 0), (27, .putfield 378), (30, .iconst 0), (31, .istore 4)]
def rt_i135_1 : List (Nat × Instr) := [(33, .iload 4), (35, .aload_n 0), (36, .getfield 182), (39, .iload_n 3), (40, .iaload), (41, .if_icmp .ge 145), (44, .bipush 40), (46, .iload_n 3), (47, .imul), (48, .iload 4), (50, .iadd), (51, .istore 5), (53, .iconst 0), (54, .istore 6), (56, .iload 6), (58, .aload_n 0), (59, .getfield 447), (62, .if_icmp .ge 102)]
def rt_i135_2 : List (Nat × Instr) := [(65, .iload_n 2), (66, .ifCond .eq 98), (69, .aload_n 0), (70, .getfield 894), (73, .ifCond .eq 91), (76, .iconst 0), (77, .istore 7), (79, .iload 7), (81, .iconst 4), (82, .if_icmp .ge 76), (85, .aload_n 0), (86, .getfield 308), (89, .iload 5), (91, .iload 6), (93, .iload 7), (95, .invokestatic 903)]
def rt_i135_3 : List (Nat × Instr) := [(98, .iaload), (99, .ifCond .ge 6), (102, .goto 50), (105, .aload_n 0), (106, .ldc_w 909), (109, .invokevirtual 402), (112, .aload_n 0), (113, .iload 6), (115, .aload_n 0), (116, .getfield 308), (119, .iload 5), (121, .iload 6), (123, .iload 7), (125, .invokestatic 903)]
def rt_i135_4 : List (Nat × Instr) := [(128, .iaload), (129, .invokevirtual 813), (132, .aload_n 0), (133, .aload_n 0), (134, .iload 5), (136, .iload 7), (138, .invokevirtual 865), (141, .i2l), (142, .invokevirtual 406), (145, .aload_n 0), (146, .ldc_w 801), (149, .invokevirtual 402), (152, .iinc 7 1), (155, .goto (-76)), (158, .iinc 6 1)]
def rt_i135_5 : List (Nat × Instr) := [(161, .goto (-105)), (164, .aload_n 0), (165, .iload_n 3), (166, .iload 5), (168, .iconst 1), (169, .iload_n 2), (170, .invokevirtual 808), (173, .aload_n 0), (174, .ldc_w 801), (177, .invokevirtual 402), (180, .iinc 4 1), (183, .goto (-150)), (186, .aload_n 0), (187, .getfield 366), (190, .ireturn)]
def rt_m135 : rt_M := (14, "code", "(IZ)I", prog_15_method_154_code, 8, (some FieldType.int), [(0, rt_i135_0), (1, rt_i135_1), (2, rt_i135_2), (3, rt_i135_3), (4, rt_i135_4), (5, rt_i135_5)], [], [], [])
def rt_i136_0 : List (Nat × Instr) := [(0, .aload_n 0), (1, .iconst 0), (2, .putfield 356), (5, .iload_n 1), (6, .ifCond .lt 8), (9, .iload_n 1), (10, .iconst 3), (11, .if_icmp .le 5), (14, .iconst 0), (15, .ireturn), (16, .aload_n 0), (17, .getfield 311), (20, .iload_n 1), (21, .iload_n 2), (22, .iastore), (23, .iconst 1), (24, .ireturn)]
def rt_m136 : rt_M := (14, "argument", "(II)Z", prog_15_method_155_code, 3, (some FieldType.boolean), [(0, rt_i136_0)], [], [], [])
def rt_i137_0 : List (Nat × Instr) := [(0, .aload_n 0), (1, .iconst 0), (2, .putfield 356), (5, .aload_n 0), (6, .getfield 910), (9, .bipush 64), (11, .if_icmp .ne 5), (14, .iconst (-1)), (15, .ireturn), (16, .aload_n 0), (17, .getfield 314), (20, .aload_n 0), (21, .getfield 910), (24, .iload_n 1), (25, .iastore), (26, .aload_n 0), (27, .dup), (28, .getfield 910), (31, .iconst 1)]
def rt_i137_1 : List (Nat × Instr) := [(32, .iadd), (33, .putfield 910), (36, .aload_n 0), (37, .getfield 910), (40, .ireturn)]
def rt_m137 : rt_M := (14, "input", "(I)I", prog_15_method_156_code, 2, (some FieldType.int), [(0, rt_i137_0), (1, rt_i137_1)], [], [], [])
def rt_i138_0 : List (Nat × Instr) := [(0, .aload_n 0), (1, .getfield 326), (4, .iload_n 1), (5, .iload_n 2), (6, .iastore), (7, .iconst 0), (8, .istore_n 3), (9, .iload_n 3), (10, .aload_n 0), (11, .getfield 447), (14, .if_icmp .ge 25), (17, .aload_n 0), (18, .getfield 329), (21, .iconst 4), (22, .iload_n 1), (23, .imul), (24, .iload_n 3), (25, .iadd), (26, .aload_n 0), (27, .getfield 116), (30, .iload_n 3), (31, .iaload)]
def rt_i138_1 : List (Nat × Instr) := [(32, .iastore), (33, .iinc 3 1), (36, .goto (-27)), (39, .return_)]
def rt_m138 : rt_M := (14, "plain", "(II)V", prog_15_method_158_code, 4, none, [(0, rt_i138_0), (1, rt_i138_1)], [], [], [])
def rt_i139_0 : List (Nat × Instr) := [(0, .aload_n 0), (1, .aload_n 0), (2, .getfield 634), (5, .ifCond .ne 7), (8, .iconst 1), (9, .goto 16), (12, .aload_n 0), (13, .iload_n 1), (14, .invokevirtual 721), (17, .ifCond .ne 7), (20, .iconst 2), (21, .goto 4), (24, .iconst 0), (25, .putfield 356), (28, .aload_n 0), (29, .getfield 356)]
def rt_i139_1 : List (Nat × Instr) := [(32, .ifCond .le 4), (35, .return_), (36, .aload_n 0), (37, .iconst 1), (38, .putfield 897), (41, .aload_n 0), (42, .iload_n 2), (43, .putfield 919), (46, .aload_n 0), (47, .iconst 0), (48, .putfield 913), (51, .aload_n 0), (52, .iconst 0), (53, .putfield 922), (56, .aload_n 0), (57, .iconst 0), (58, .putfield 925), (61, .aload_n 0), (62, .iconst 0), (63, .putfield 928)]
def rt_i139_2 : List (Nat × Instr) := [(66, .aload_n 0), (67, .iconst (-1)), (68, .putfield 931), (71, .aload_n 0), (72, .iconst (-1)), (73, .putfield 934), (76, .aload_n 0), (77, .iconst (-1)), (78, .putfield 937), (81, .aload_n 0), (82, .iconst 0), (83, .putfield 940), (86, .aload_n 0), (87, .iconst 0), (88, .putfield 943), (91, .iconst 0), (92, .istore_n 3), (93, .iload_n 3), (94, .bipush 96)]
def rt_i139_3 : List (Nat × Instr) := [(96, .if_icmp .ge 57), (99, .aload_n 0), (100, .getfield 332), (103, .iload_n 3), (104, .aload_n 0), (105, .getfield 167), (108, .iload_n 3), (109, .iaload), (110, .iastore), (111, .iconst 0), (112, .istore 4), (114, .iload 4), (116, .aload_n 0), (117, .getfield 447), (120, .if_icmp .ge 27), (123, .aload_n 0), (124, .getfield 335), (127, .iconst 4)]
def rt_i139_4 : List (Nat × Instr) := [(128, .iload_n 3), (129, .imul), (130, .iload 4), (132, .iadd), (133, .aload_n 0), (134, .getfield 116), (137, .iload 4), (139, .iaload), (140, .iastore), (141, .iinc 4 1), (144, .goto (-30)), (147, .iinc 3 1), (150, .goto (-57)), (153, .aload_n 0), (154, .iload_n 1), (155, .invokestatic 658), (158, .invokevirtual 946)]
def rt_i139_5 : List (Nat × Instr) := [(161, .iconst 0), (162, .istore_n 3), (163, .iload_n 3), (164, .aload_n 0), (165, .getfield 173), (168, .iload_n 1), (169, .invokestatic 658), (172, .iaload), (173, .if_icmp .ge 21), (176, .aload_n 0), (177, .getfield 326), (180, .iload_n 3), (181, .aload_n 0), (182, .getfield 311), (185, .iload_n 3), (186, .iaload), (187, .iastore), (188, .iinc 3 1), (191, .goto (-28))]
def rt_i139_6 : List (Nat × Instr) := [(194, .return_)]
def rt_m139 : rt_M := (14, "begin", "(IZ)V", prog_15_method_160_code, 5, none, [(0, rt_i139_0), (1, rt_i139_1), (2, rt_i139_2), (3, rt_i139_3), (4, rt_i139_4), (5, rt_i139_5), (6, rt_i139_6)], [], [], [])
def rt_i140_0 : List (Nat × Instr) := [(0, .aload_n 0), (1, .iload_n 1), (2, .iconst 1), (3, .if_icmp .lt 10), (6, .iload_n 1), (7, .sipush 10000), (10, .if_icmp .le 7), (13, .iconst 1), (14, .goto 16), (17, .aload_n 0), (18, .getfield 897), (21, .iconst 1), (22, .if_icmp .eq 7), (25, .iconst 2), (26, .goto 4), (29, .iconst 0), (30, .putfield 356)]
def rt_i140_1 : List (Nat × Instr) := [(33, .aload_n 0), (34, .getfield 356), (37, .ifCond .le 5), (40, .iconst 0), (41, .ireturn), (42, .iconst 0), (43, .istore_n 2), (44, .iload_n 2), (45, .iload_n 1), (46, .if_icmp .ge 127), (49, .aload_n 0), (50, .getfield 897), (53, .iconst 1), (54, .if_icmp .ne 119), (57, .aload_n 0), (58, .getfield 913), (61, .iconst 1), (62, .isub), (63, .istore_n 3)]
def rt_i140_2 : List (Nat × Instr) := [(64, .bipush 40), (66, .aload_n 0), (67, .getfield 317), (70, .iload_n 3), (71, .iaload), (72, .imul), (73, .aload_n 0), (74, .getfield 320), (77, .iload_n 3), (78, .iaload), (79, .iadd), (80, .istore 4), (82, .aload_n 0), (83, .getfield 919), (86, .ifCond .eq 28), (89, .aload_n 0), (90, .getfield 894), (93, .ifCond .eq 21)]
def rt_i140_3 : List (Nat × Instr) := [(96, .aload_n 0), (97, .iload_n 3), (98, .iload 4), (100, .invokevirtual 949), (103, .ifCond .ne 11), (106, .aload_n 0), (107, .iconst 4), (108, .putfield 897), (111, .goto 59), (114, .aload_n 0), (115, .getfield 185), (118, .iload 4), (120, .iaload), (121, .bipush 20), (123, .if_icmp .ne 20), (126, .aload_n 0), (127, .getfield 913)]
def rt_i140_4 : List (Nat × Instr) := [(130, .bipush 12), (132, .if_icmp .ne 11), (135, .aload_n 0), (136, .iconst 3), (137, .putfield 897), (140, .goto 30), (143, .aload_n 0), (144, .iload_n 3), (145, .iload 4), (147, .invokevirtual 952), (150, .aload_n 0), (151, .dup), (152, .getfield 925), (155, .iconst 1), (156, .iadd), (157, .putfield 925)]
def rt_i140_5 : List (Nat × Instr) := [(160, .iinc 2 1), (163, .aload_n 0), (164, .iload_n 3), (165, .iload 4), (167, .invokevirtual 955), (170, .goto (-126)), (173, .iload_n 2), (174, .ireturn)]
def rt_m140 : rt_M := (14, "go", "(I)I", prog_15_method_161_code, 5, (some FieldType.int), [(0, rt_i140_0), (1, rt_i140_1), (2, rt_i140_2), (3, rt_i140_3), (4, rt_i140_4), (5, rt_i140_5)], [], [], [])
def rt_i141_0 : List (Nat × Instr) := [(0, .aload_n 0), (1, .iconst 0), (2, .putfield 356), (5, .iload_n 1), (6, .ifCond .lt 9), (9, .iload_n 1), (10, .bipush 11), (12, .if_icmp .le 5), (15, .iconst (-1)), (16, .ireturn), (17, .aload_n 0), (18, .getfield 897), (21, .ifCond .ne 7), (24, .iconst 1), (25, .goto 4), (28, .iconst 0), (29, .istore_n 2), (30, .iload_n 1), (31, .bipush 7)]
def rt_i141_1 : List (Nat × Instr) := [(33, .if_icmp .lt 48), (36, .iload_n 1), (37, .bipush 9), (39, .if_icmp .gt 42), (42, .iload_n 2), (43, .ifCond .eq 7), (46, .iconst (-1)), (47, .goto 33), (50, .iload_n 1), (51, .bipush 7), (53, .if_icmp .ne 10), (56, .aload_n 0), (57, .getfield 931), (60, .goto 20), (63, .iload_n 1)]
def rt_i141_2 : List (Nat × Instr) := [(64, .bipush 8), (66, .if_icmp .ne 10), (69, .aload_n 0), (70, .getfield 934), (73, .goto 7), (76, .aload_n 0), (77, .getfield 937), (80, .ireturn), (81, .iload_n 2), (82, .ifCond .eq 5), (85, .iconst 0), (86, .ireturn), (87, .iload_n 1), (88, .tableswitch 141 0 10 #[60, 65, 82, 87, 102, 114, 131, 141, 141, 141, 136])]
def rt_i141_4 : List (Nat × Instr) := [(148, .aload_n 0), (149, .getfield 897), (152, .ireturn), (153, .aload_n 0), (154, .getfield 897), (157, .iconst 2), (158, .if_icmp .ne 10)]
def rt_i141_5 : List (Nat × Instr) := [(161, .aload_n 0), (162, .getfield 922), (165, .goto 4), (168, .iconst 0), (169, .ireturn), (170, .aload_n 0), (171, .getfield 925), (174, .ireturn), (175, .aload_n 0), (176, .getfield 317), (179, .aload_n 0), (180, .getfield 913), (183, .iconst 1), (184, .isub), (185, .iaload), (186, .invokestatic 661), (189, .ireturn), (190, .aload_n 0), (191, .getfield 320)]
def rt_i141_6 : List (Nat × Instr) := [(194, .aload_n 0), (195, .getfield 913), (198, .iconst 1), (199, .isub), (200, .iaload), (201, .ireturn), (202, .aload_n 0), (203, .getfield 897), (206, .iconst 1), (207, .if_icmp .ne 10), (210, .aload_n 0), (211, .getfield 913), (214, .goto 4), (217, .iconst 0), (218, .ireturn), (219, .aload_n 0), (220, .getfield 928), (223, .ireturn)]
def rt_i141_7 : List (Nat × Instr) := [(224, .aload_n 0), (225, .getfield 940), (228, .ireturn), (229, .aload_n 0), (230, .getfield 943), (233, .ireturn)]
def rt_m141 : rt_M := (14, "run", "(I)I", prog_15_method_168_code, 3, (some FieldType.int), [(0, rt_i141_0), (1, rt_i141_1), (2, rt_i141_2), (4, rt_i141_4), (5, rt_i141_5), (6, rt_i141_6), (7, rt_i141_7)], [], [], [])
def rt_i142_0 : List (Nat × Instr) := [(0, .aload_n 0), (1, .iconst 0), (2, .putfield 356), (5, .aload_n 0), (6, .iload_n 1), (7, .invokevirtual 724), (10, .ifCond .eq 20), (13, .aload_n 0), (14, .getfield 897), (17, .iconst 2), (18, .if_icmp .ne 12), (21, .aload_n 0), (22, .getfield 338), (25, .iload_n 1), (26, .iaload), (27, .goto 4), (30, .iconst (-1)), (31, .ireturn)]
def rt_m142 : rt_M := (14, "truth", "(I)I", prog_15_method_169_code, 2, (some FieldType.int), [(0, rt_i142_0)], [], [], [])
def rt_i143_0 : List (Nat × Instr) := [(0, .aload_n 0), (1, .iconst 0), (2, .putfield 356), (5, .aload_n 0), (6, .getfield 634), (9, .ifCond .ne 5), (12, .iconst (-1)), (13, .ireturn), (14, .aload_n 0), (15, .iconst 1), (16, .putfield 900), (19, .aload_n 0), (20, .iconst 0), (21, .putfield 969), (24, .aload_n 0), (25, .iconst (-1)), (26, .putfield 972), (29, .aload_n 0), (30, .iconst (-1)), (31, .putfield 975)]
def rt_i143_1 : List (Nat × Instr) := [(34, .aload_n 0), (35, .iconst 0), (36, .putfield 978), (39, .aload_n 0), (40, .ldc2_w 981), (43, .invokevirtual 462), (46, .istore_n 1), (47, .iconst 0), (48, .istore_n 2), (49, .iload_n 2), (50, .aload_n 0), (51, .getfield 456), (54, .if_icmp .ge 95), (57, .aload_n 0), (58, .getfield 344), (61, .iload_n 2), (62, .iconst 0), (63, .bastore)]
def rt_i143_2 : List (Nat × Instr) := [(64, .aload_n 0), (65, .getfield 347), (68, .iload_n 2), (69, .iconst 0), (70, .bastore), (71, .aload_n 0), (72, .getfield 350), (75, .iload_n 2), (76, .iconst 0), (77, .bastore), (78, .iload_n 1), (79, .ifCond .ge 6), (82, .goto 61), (85, .aload_n 0), (86, .bipush 100), (88, .iload_n 2), (89, .imul), (90, .iload_n 1), (91, .invokevirtual 712), (94, .aload_n 0), (95, .getfield 350)]
def rt_i143_3 : List (Nat × Instr) := [(98, .iload_n 2), (99, .aload_n 0), (100, .getfield 678), (103, .ifCond .le 7), (106, .iconst 1), (107, .goto 4), (110, .iconst 0), (111, .bastore), (112, .aload_n 0), (113, .getfield 353), (116, .iload_n 2), (117, .aload_n 0), (118, .getfield 678), (121, .ifCond .le 20), (124, .aload_n 0), (125, .aload_n 0), (126, .getfield 252)]
def rt_i143_4 : List (Nat × Instr) := [(129, .iconst 0), (130, .iaload), (131, .iload_n 1), (132, .ldc2_w 983), (135, .invokevirtual 985), (138, .goto 4), (141, .lconst 0), (142, .lastore), (143, .iinc 2 1), (146, .goto (-97)), (149, .iconst 0), (150, .istore_n 2), (151, .iload_n 2), (152, .aload_n 0), (153, .getfield 456), (156, .if_icmp .ge 39), (159, .aload_n 0)]
def rt_i143_5 : List (Nat × Instr) := [(160, .getfield 969), (163, .ifCond .ne 32), (166, .aload_n 0), (167, .getfield 350), (170, .iload_n 2), (171, .baload), (172, .ifCond .eq 17), (175, .aload_n 0), (176, .getfield 344), (179, .iload_n 2), (180, .baload), (181, .ifCond .ne 8), (184, .aload_n 0), (185, .iload_n 2), (186, .invokevirtual 989), (189, .iinc 2 1)]
def rt_i143_6 : List (Nat × Instr) := [(192, .goto (-41)), (195, .aload_n 0), (196, .getfield 969), (199, .ireturn)]
def rt_m143 : rt_M := (14, "wire", "()I", prog_15_method_174_code, 3, (some FieldType.int), [(0, rt_i143_0), (1, rt_i143_1), (2, rt_i143_2), (3, rt_i143_3), (4, rt_i143_4), (5, rt_i143_5), (6, rt_i143_6)], [], [], [])
def rt_i144_0 : List (Nat × Instr) := [(0, .aload_n 0), (1, .iconst 0), (2, .putfield 356), (5, .aload_n 0), (6, .getfield 634), (9, .ifCond .eq 10), (12, .aload_n 0), (13, .getfield 900), (16, .ifCond .ne 5), (19, .iconst (-1)), (20, .ireturn), (21, .iload_n 1), (22, .ifCond .ne 8), (25, .aload_n 0), (26, .getfield 972), (29, .ireturn), (30, .iload_n 1), (31, .iconst 1)]
def rt_i144_1 : List (Nat × Instr) := [(32, .if_icmp .ne 8), (35, .aload_n 0), (36, .getfield 975), (39, .ireturn), (40, .iload_n 1), (41, .iconst 2), (42, .if_icmp .lt 24), (45, .iload_n 1), (46, .iconst 2), (47, .isub), (48, .aload_n 0), (49, .getfield 978), (52, .if_icmp .ge 14), (55, .aload_n 0), (56, .getfield 341), (59, .iload_n 1), (60, .iconst 2), (61, .isub), (62, .iaload), (63, .goto 4)]
def rt_i144_2 : List (Nat × Instr) := [(66, .iconst (-1)), (67, .ireturn)]
def rt_m144 : rt_M := (14, "wired", "(I)I", prog_15_method_178_code, 2, (some FieldType.int), [(0, rt_i144_0), (1, rt_i144_1), (2, rt_i144_2)], [], [], [])
def rt_i145_0 : List (Nat × Instr) := [(0, .aload_n 0), (1, .getfield 9), (4, .arraylength), (5, .aload_n 0), (6, .invokevirtual 335), (9, .ishr), (10, .ireturn)]
def rt_m145 : rt_M := (15, "length", "()I", prog_26_method_54_code, 1, (some FieldType.int), [(0, rt_i145_0)], [], [], [])
def rt_i146_0 : List (Nat × Instr) := [(0, .aload_n 0), (1, .invokevirtual 492), (4, .ifCond .eq 12), (7, .aload_n 0), (8, .getfield 9), (11, .iload_n 1), (12, .invokestatic 495), (15, .ireturn), (16, .aload_n 0), (17, .getfield 9), (20, .iload_n 1), (21, .invokestatic 498), (24, .ireturn)]
def rt_m146 : rt_M := (15, "charAt", "(I)C", prog_26_method_56_code, 2, (some FieldType.char), [(0, rt_i146_0)], [], [], [])
def rt_i147_0 : List (Nat × Instr) := [(0, .getstatic 38), (3, .ifCond .eq 10), (6, .aload_n 0), (7, .getfield 15), (10, .goto 4), (13, .iconst 1), (14, .ireturn)]
def rt_m147 : rt_M := (15, "coder", "()B", prog_26_method_152_code, 1, (some FieldType.byte), [(0, rt_i147_0)], [], [], [])
def rt_i148_0 : List (Nat × Instr) := [(0, .getstatic 38), (3, .ifCond .eq 14), (6, .aload_n 0), (7, .getfield 15), (10, .ifCond .ne 7), (13, .iconst 1), (14, .goto 4), (17, .iconst 0), (18, .ireturn)]
def rt_m148 : rt_M := (15, "isLatin1", "()Z", prog_26_method_154_code, 1, (some FieldType.boolean), [(0, rt_i148_0)], [], [], [])
def rt_i149_0 : List (Nat × Instr) := [(0, .iload_n 0), (1, .iload_n 1), (2, .getstatic 1053), (5, .invokestatic 1059), (8, .pop), (9, .return_)]
def rt_m149 : rt_M := (15, "checkIndex", "(II)V", prog_26_method_155_code, 2, none, [(0, rt_i149_0)], [], [], [])
def rt_i150_0 : List (Nat × Instr) := [(0, .iload_n 1), (1, .aload_n 0), (2, .arraylength), (3, .invokestatic 9), (6, .aload_n 0), (7, .iload_n 1), (8, .baload), (9, .sipush 255), (12, .iand), (13, .i2c), (14, .ireturn)]
def rt_m150 : rt_M := (16, "charAt", "([BI)C", prog_28_method_2_code, 2, (some FieldType.char), [(0, rt_i150_0)], [], [], [])
def rt_i151_0 : List (Nat × Instr) := [(0, .iload_n 1), (1, .iload_n 2), (2, .if_icmp .le 44), (5, .new 43), (8, .dup), (9, .new 45), (12, .dup), (13, .invokespecial 47), (16, .ldc 48), (18, .invokevirtual 50), (21, .iload_n 1), (22, .invokevirtual 54), (25, .ldc 57), (27, .invokevirtual 50), (30, .iload_n 2), (31, .invokevirtual 54)]
def rt_i151_1 : List (Nat × Instr) := [(34, .ldc 59), (36, .invokevirtual 50), (39, .invokevirtual 61), (42, .invokespecial 65), (45, .athrow), (46, .iload_n 1), (47, .ifCond .ge 12), (50, .new 68), (53, .dup), (54, .iload_n 1), (55, .invokespecial 70), (58, .athrow), (59, .iload_n 2), (60, .iload_n 0), (61, .if_icmp .le 12)]
def rt_i151_2 : List (Nat × Instr) := [(64, .new 68), (67, .dup), (68, .iload_n 2), (69, .invokespecial 70), (72, .athrow), (73, .return_)]
def rt_m151 : rt_M := (17, "rangeCheck", "(III)V", prog_32_method_30_code, 3, none, [(0, rt_i151_0), (1, rt_i151_1), (2, rt_i151_2)], [], [], [])
def rt_i152_0 : List (Nat × Instr) := [(0, .aload_n 0), (1, .arraylength), (2, .iload_n 1), (3, .iload_n 2), (4, .invokestatic 13), (7, .iload_n 1), (8, .istore 5), (10, .iload 5), (12, .iload_n 2), (13, .if_icmp .ge 14), (16, .aload_n 0), (17, .iload 5), (19, .lload_n 3), (20, .lastore), (21, .iinc 5 1), (24, .goto (-14)), (27, .return_)]
def rt_m152 : rt_M := (17, "fill", "([JIIJ)V", prog_32_method_102_code, 6, none, [(0, rt_i152_0)], [], [], [])
def rt_i153_0 : List (Nat × Instr) := [(0, .iconst 0), (1, .istore_n 2), (2, .aload_n 0), (3, .arraylength), (4, .istore_n 3), (5, .iload_n 2), (6, .iload_n 3), (7, .if_icmp .ge 13), (10, .aload_n 0), (11, .iload_n 2), (12, .iload_n 1), (13, .iastore), (14, .iinc 2 1), (17, .goto (-12)), (20, .return_)]
def rt_m153 : rt_M := (17, "fill", "([II)V", prog_32_method_103_code, 4, none, [(0, rt_i153_0)], [], [], [])
def rt_i154_0 : List (Nat × Instr) := [(0, .aload_n 0), (1, .arraylength), (2, .iload_n 1), (3, .iload_n 2), (4, .invokestatic 13), (7, .iload_n 1), (8, .istore 4), (10, .iload 4), (12, .iload_n 2), (13, .if_icmp .ge 14), (16, .aload_n 0), (17, .iload 4), (19, .iload_n 3), (20, .iastore), (21, .iinc 4 1), (24, .goto (-14)), (27, .return_)]
def rt_m154 : rt_M := (17, "fill", "([IIII)V", prog_32_method_104_code, 5, none, [(0, rt_i154_0)], [], [], [])
def rt_i155_0 : List (Nat × Instr) := [(0, .iload_n 0), (1, .ifCond .lt 8), (4, .iload_n 0), (5, .iload_n 1), (6, .if_icmp .lt 10), (9, .aload_n 2), (10, .iload_n 0), (11, .iload_n 1), (12, .invokestatic 95), (15, .athrow), (16, .iload_n 0), (17, .ireturn)]
def rt_m155 : rt_M := (18, "checkIndex", "(IILjava/util/function/BiFunction;)I", prog_35_method_11_code, 3, (some FieldType.int), [(0, rt_i155_0)], [], [], [])
def rt_r0 : List rt_M := [rt_m0]
def rt_r1 : List rt_M := [rt_m16, rt_m17, rt_m18, rt_m19, rt_m20, rt_m21, rt_m22, rt_m23, rt_m24, rt_m25, rt_m26, rt_m27, rt_m28, rt_m29, rt_m30, rt_m31]
def rt_r2 : List rt_M := [rt_m32, rt_m33, rt_m34, rt_m35, rt_m36, rt_m37, rt_m38, rt_m39, rt_m40, rt_m41, rt_m42, rt_m43, rt_m44, rt_m45, rt_m46, rt_m47]
def rt_r3 : List rt_M := [rt_m48, rt_m49, rt_m50, rt_m51, rt_m52, rt_m53, rt_m54, rt_m55, rt_m56, rt_m57, rt_m58, rt_m59, rt_m60, rt_m61, rt_m62, rt_m63]
def rt_r4 : List rt_M := [rt_m64, rt_m65, rt_m66, rt_m67, rt_m68, rt_m69, rt_m70, rt_m71, rt_m72, rt_m73, rt_m74, rt_m75, rt_m76, rt_m77, rt_m78, rt_m79]
def rt_r5 : List rt_M := [rt_m80, rt_m81, rt_m82, rt_m83, rt_m84, rt_m85, rt_m86, rt_m87, rt_m88, rt_m89, rt_m90, rt_m91, rt_m92, rt_m93, rt_m94, rt_m95]
def rt_r6 : List rt_M := [rt_m96, rt_m97, rt_m98, rt_m99, rt_m100, rt_m101, rt_m102, rt_m103, rt_m104, rt_m105, rt_m106, rt_m107, rt_m108, rt_m109, rt_m110, rt_m111]
def rt_r7 : List rt_M := [rt_m112, rt_m113, rt_m114, rt_m115, rt_m116, rt_m117, rt_m118, rt_m119, rt_m120, rt_m121, rt_m122, rt_m123, rt_m124, rt_m125, rt_m126, rt_m127]
def rt_r8 : List rt_M := [rt_m128, rt_m129, rt_m130, rt_m131, rt_m132, rt_m133, rt_m134, rt_m135, rt_m136, rt_m137, rt_m138, rt_m139, rt_m140, rt_m141, rt_m142, rt_m143]
def rt_r9 : List rt_M := [rt_m144, rt_m145, rt_m146, rt_m147, rt_m148, rt_m149, rt_m150, rt_m151, rt_m152, rt_m153, rt_m154, rt_m155]
def rt_MS : List (List rt_M) := [rt_r1, rt_r2, rt_r3, rt_r4, rt_r5, rt_r6, rt_r7, rt_r8, rt_r9]
def rt_MT : List (List rt_M) := rt_r0 :: rt_MS
def rt_m (mi : Nat) : Option rt_M := match rt_nth rt_MT (mi / 16) with
  | some r => rt_nth r (mi % 16)
  | none => none
def rt_cn (c : Nat) : String := match rt_nth rt_CT c with
  | some r => r.1
  | none => ""
def rt_yn (mi : Nat) : MethodName := match rt_m mi with
  | some M => ⟨rt_cn M.1, M.2.1, M.2.2.1⟩
  | none => ⟨"", "", ""⟩
def rt_wf (own : String) (r : Nat × Nat × Nat) : Cond := match vwCl[r.2.1]? with
  | some q => .fieldLink own r.1 (q.2.1 r.2.2).1 (q.2.1 r.2.2).2.1 (q.2.1 r.2.2).2.2.1
  | none => .initialized own
def rt_wc (own : String) (r : Nat × Nat × Nat × Nat) : List Cond := match r.2.1 with
  | 0 => [.methodLink own r.1 (rt_yn r.2.2.1), .instanceMethod (rt_yn r.2.2.1), .selects (rt_yn r.2.2.1).cls (rt_yn r.2.2.1) (rt_yn r.2.2.1)]
  | 1 => [.methodLink own r.1 (rt_yn r.2.2.1), .static (rt_yn r.2.2.1)]
  | 2 => [.methodLink own r.1 (rt_yn r.2.2.1), .instanceMethod (rt_yn r.2.2.1)]
  | 3 => [.methodLink own r.1 (rt_yn r.2.2.1), .static (rt_yn r.2.2.1)]
  | 6 => [.methodLink own r.1 Lib.objectInit]
  | 11 => [.static (rt_yn r.2.2.1)]
  | 12 => [.instanceMethod (rt_yn r.2.2.1)]
  | _ => []
def rt_wk (own : String) (r : Nat × Value) : List Cond := match r.2 with
  | .int v => [.constant own r.1 v]
  | .long v => [.constantLong own r.1 v]
  | _ => []
def rt_wn (own : String) (r : Nat × Nat × Nat × List Value) : List Cond := match vwCl[r.2.1]? with
  | some q => [.classLink own r.1 q.1, .instantiable q.1 r.2.2.1, .initialized q.1]
  | none => []
def rt_tyn (t : Nat) : String := match t with
  | 4 => "MarkHouse$Order"
  | 5 => "MarkHouse$Kind"
  | _ => "java/lang/String"
def rt_wq (own : String) (r : Nat × Nat) : Cond := .classLink own r.1 (rt_tyn r.2)
/-- the words of a class's pool, of a method -/
def rt_cw (r : rt_C) : List Cond := r.2.1.map (rt_wf r.1) ++ r.2.2.1.map (fun q => rt_wf r.1 (q.1, q.2.1, q.2.2.1)) ++ r.2.2.2.1.flatMap (rt_wc r.1) ++ r.2.2.2.2.1.flatMap (rt_wk r.1) ++ r.2.2.2.2.2.1.flatMap (rt_wn r.1) ++ r.2.2.2.2.2.2.1.map (rt_wq r.1)
def rt_mw (M : rt_M) : List Cond := [if M.2.2.2.2.2.2.2.2.1 = [] then Cond.code ⟨rt_cn M.1, M.2.1, M.2.2.1⟩ M.2.2.2.1 M.2.2.2.2.1 M.2.2.2.2.2.1 else Cond.codeWith ⟨rt_cn M.1, M.2.1, M.2.2.1⟩ M.2.2.2.1 M.2.2.2.2.1 M.2.2.2.2.2.1 M.2.2.2.2.2.2.2.2.1, .initialized (rt_cn M.1)]
def rt_tb (a : Nat) : List Cond := match a with
  | 0 => k2_sels lw_privs
  | 1 => tables_1_1
  | 2 => tables_1_2
  | 3 => tables_1_3
  | 4 => tables_1_4
  | 5 => tables_1_5
  | 6 => tables_1_6
  | 7 => tables_1_7
  | 8 => tables_1_8
  | 9 => tables_1_9
  | 10 => tables_1_10
  | 11 => tables_1_11
  | 12 => tables_1_12
  | 13 => tables_1_13
  | 14 => tables_1_14
  | 15 => tables_1_15
  | _ => []
theorem rt_tb_in {a : Nat} {w : Cond} (h : w ∈ rt_tb a) : w ∈ lw_tbl := by
  unfold rt_tb at h
  unfold lw_tbl tables_1
  simp only [List.mem_append]
  split at h <;> first | (cases h; done) | exact Or.inl h | exact Or.inr (Or.inl h) | exact Or.inr (Or.inr (Or.inl h)) | exact Or.inr (Or.inr (Or.inr (Or.inl h))) | exact Or.inr (Or.inr (Or.inr (Or.inr (Or.inl h)))) | exact Or.inr (Or.inr (Or.inr (Or.inr (Or.inr (Or.inl h))))) | exact Or.inr (Or.inr (Or.inr (Or.inr (Or.inr (Or.inr (Or.inl h)))))) | exact Or.inr (Or.inr (Or.inr (Or.inr (Or.inr (Or.inr (Or.inr (Or.inl h))))))) | exact Or.inr (Or.inr (Or.inr (Or.inr (Or.inr (Or.inr (Or.inr (Or.inr (Or.inl h)))))))) | exact Or.inr (Or.inr (Or.inr (Or.inr (Or.inr (Or.inr (Or.inr (Or.inr (Or.inr (Or.inl h))))))))) | exact Or.inr (Or.inr (Or.inr (Or.inr (Or.inr (Or.inr (Or.inr (Or.inr (Or.inr (Or.inr (Or.inl h)))))))))) | exact Or.inr (Or.inr (Or.inr (Or.inr (Or.inr (Or.inr (Or.inr (Or.inr (Or.inr (Or.inr (Or.inr (Or.inl h))))))))))) | exact Or.inr (Or.inr (Or.inr (Or.inr (Or.inr (Or.inr (Or.inr (Or.inr (Or.inr (Or.inr (Or.inr (Or.inr (Or.inl h)))))))))))) | exact Or.inr (Or.inr (Or.inr (Or.inr (Or.inr (Or.inr (Or.inr (Or.inr (Or.inr (Or.inr (Or.inr (Or.inr (Or.inr (Or.inl h))))))))))))) | exact Or.inr (Or.inr (Or.inr (Or.inr (Or.inr (Or.inr (Or.inr (Or.inr (Or.inr (Or.inr (Or.inr (Or.inr (Or.inr (Or.inr (Or.inl h)))))))))))))) | exact Or.inr (Or.inr (Or.inr (Or.inr (Or.inr (Or.inr (Or.inr (Or.inr (Or.inr (Or.inr (Or.inr (Or.inr (Or.inr (Or.inr (Or.inr (h)))))))))))))))
theorem rt_in {ws : List Cond} (ps : List (Nat × Nat)) (h : ws = ps.filterMap (fun i => (rt_tb i.1)[i.2]?)) (g : ws.all goodWord = true) : ∀ w ∈ ws, w ∈ lw_tbl ∧ goodWord w = true := by
  intro w hw
  refine ⟨?_, List.all_eq_true.mp g w hw⟩
  rw [h] at hw
  obtain ⟨i, -, hi⟩ := List.mem_filterMap.mp hw
  exact rt_tb_in (List.mem_of_getElem? hi)
theorem rt_km {M : rt_M} {c i : Cond} (a b a' b' : Nat) (hm : rt_mw M = [c, i]) (h1 : (rt_tb a)[b]? = some c) (h2 : (rt_tb a')[b']? = some i) (g1 : goodWord c = true) (g2 : goodWord i = true) : ∀ w ∈ rt_mw M, w ∈ lw_tbl ∧ goodWord w = true := by
  intro w hw
  rw [hm] at hw
  rcases List.mem_cons.mp hw with rfl | hw
  · exact ⟨rt_tb_in (List.mem_of_getElem? h1), g1⟩
  · rw [List.mem_singleton.mp hw]
    exact ⟨rt_tb_in (List.mem_of_getElem? h2), g2⟩
set_option maxRecDepth 100000 in
theorem rt_in0 : ∀ w ∈ rt_cw rt_c0, w ∈ lw_tbl ∧ goodWord w = true := rt_in [(8, 203), (8, 204), (8, 205), (10, 100), (10, 101), (10, 102), (10, 151), (10, 152), (10, 153), (1, 36), (1, 37), (10, 232), (10, 233), (4, 124), (4, 125), (4, 126), (12, 216), (12, 217), (12, 218), (4, 132), (4, 133), (4, 134), (12, 224), (12, 225), (12, 226), (4, 136), (4, 137), (4, 138), (12, 228), (12, 229), (12, 230), (8, 199), (8, 200), (12, 232), (12, 233), (12, 234), (12, 212), (12, 213), (12, 214), (4, 140), (4, 141), (4, 142), (14, 5), (14, 6), (14, 7), (4, 144), (4, 145), (4, 146), (14, 158), (14, 159), (14, 160), (5, 25), (5, 26), (5, 27), (14, 95), (14, 96), (14, 97), (5, 50), (5, 51), (5, 52), (14, 107), (14, 108), (14, 109), (5, 64), (5, 65), (5, 66), (14, 91), (14, 92), (14, 93), (5, 73), (5, 74), (5, 75), (14, 123), (14, 124), (14, 125), (6, 224), (6, 225), (6, 226), (14, 147), (14, 148), (14, 149), (7, 0), (7, 1), (7, 2), (14, 9), (14, 10), (14, 11), (7, 48), (7, 49), (7, 50), (14, 54), (14, 55), (14, 56), (7, 62), (7, 63), (7, 64), (14, 74), (14, 75), (14, 76), (7, 78), (7, 79), (7, 80), (15, 10), (15, 11), (15, 12), (7, 97), (7, 98), (7, 99), (15, 6), (15, 7), (15, 8), (7, 124), (7, 125), (7, 126), (15, 22), (15, 23), (15, 24), (7, 222), (7, 223), (7, 224), (15, 69), (15, 70), (15, 71), (7, 234), (7, 235), (7, 236), (15, 77), (15, 78), (15, 79), (8, 19), (8, 20), (8, 21), (15, 89), (15, 90), (15, 91), (8, 23), (8, 24), (8, 25), (15, 73), (15, 74), (15, 75), (8, 31), (8, 32), (8, 33), (15, 93), (15, 94), (15, 95), (8, 52), (8, 53), (8, 54), (15, 97), (15, 98), (15, 99), (8, 60), (8, 61), (8, 62), (15, 101), (15, 102), (15, 103), (8, 68), (8, 69), (8, 70), (15, 108), (15, 109), (15, 110), (8, 96), (8, 97), (8, 98), (15, 113), (15, 114), (15, 115), (8, 100), (8, 101), (8, 102), (15, 117), (15, 118), (15, 119), (10, 95), (10, 96), (15, 121), (15, 122), (15, 123), (10, 148), (10, 149), (15, 133), (15, 134), (15, 135), (8, 108), (8, 109), (8, 110), (15, 165), (15, 166), (15, 167), (8, 121), (8, 122), (8, 123), (15, 169), (15, 170), (15, 171), (8, 130), (8, 131), (8, 132), (15, 173), (15, 174), (15, 175), (8, 191), (8, 192), (8, 193), (15, 210), (15, 211), (15, 212), (1, 34), (1, 35), (1, 1), (10, 230), (10, 231), (1, 18)] (by decide +kernel) (by decide +kernel)
set_option maxRecDepth 100000 in
theorem rt_in1 : ∀ w ∈ rt_cw rt_c1, w ∈ lw_tbl ∧ goodWord w = true := rt_in [(2, 124), (2, 172), (2, 119), (2, 146), (2, 16), (2, 61), (2, 67), (2, 79), (2, 120), (2, 124), (2, 131), (2, 134), (2, 136), (2, 141), (2, 148), (2, 153), (2, 158), (2, 163), (2, 168), (2, 172), (2, 176), (2, 178), (2, 181), (2, 184), (2, 186), (2, 188), (2, 119), (2, 118), (5, 159), (5, 160), (5, 33), (5, 34), (5, 35)] (by decide +kernel) (by decide +kernel)
set_option maxRecDepth 100000 in
theorem rt_in2 : ∀ w ∈ rt_cw rt_c2, w ∈ lw_tbl ∧ goodWord w = true := rt_in [(1, 97), (1, 103), (1, 105), (1, 109), (1, 101), (1, 112), (1, 111), (1, 97), (1, 103), (1, 105), (1, 107), (1, 109), (1, 101), (1, 112), (1, 111), (1, 47), (1, 49), (1, 50), (1, 51), (1, 59), (1, 60), (1, 61), (8, 224), (8, 226), (0, 60)] (by decide +kernel) (by decide +kernel)
set_option maxRecDepth 100000 in
theorem rt_in3 : ∀ w ∈ rt_cw rt_c3, w ∈ lw_tbl ∧ goodWord w = true := rt_in [(3, 126), (3, 127), (3, 129), (3, 117), (3, 118), (3, 119), (3, 116)] (by decide +kernel) (by decide +kernel)
set_option maxRecDepth 100000 in
theorem rt_in4 : ∀ w ∈ rt_cw rt_c4, w ∈ lw_tbl ∧ goodWord w = true := rt_in [(3, 160), (3, 164), (3, 160), (3, 162), (3, 163), (3, 166), (3, 167), (3, 168), (3, 169), (3, 170), (3, 174), (3, 157), (3, 158), (3, 159), (3, 164), (3, 176), (3, 156)] (by decide +kernel) (by decide +kernel)
set_option maxRecDepth 100000 in
theorem rt_in5 : ∀ w ∈ rt_cw rt_c5, w ∈ lw_tbl ∧ goodWord w = true := rt_in [(1, 204), (1, 208), (1, 212), (1, 216), (1, 232), (1, 194)] (by decide +kernel) (by decide +kernel)
set_option maxRecDepth 100000 in
theorem rt_in6 : ∀ w ∈ rt_cw rt_c6, w ∈ lw_tbl ∧ goodWord w = true := rt_in [(3, 28), (2, 237), (3, 0), (3, 5), (3, 9), (3, 13), (3, 17), (3, 19), (3, 21), (3, 23), (3, 27), (3, 28), (3, 34), (3, 33), (3, 35), (2, 236), (8, 219), (6, 213)] (by decide +kernel) (by decide +kernel)
set_option maxRecDepth 100000 in
theorem rt_in7 : ∀ w ∈ rt_cw rt_c7, w ∈ lw_tbl ∧ goodWord w = true := rt_in [(1, 164), (1, 166), (1, 168), (1, 169), (1, 170), (1, 147)] (by decide +kernel) (by decide +kernel)
set_option maxRecDepth 100000 in
theorem rt_in8 : ∀ w ∈ rt_cw rt_c8, w ∈ lw_tbl ∧ goodWord w = true := rt_in [(2, 18), (2, 31), (2, 15), (2, 25), (2, 37), (2, 18), (2, 31), (2, 40), (2, 43), (2, 51), (2, 54), (2, 66), (2, 71), (2, 74), (2, 78), (2, 15), (2, 25), (2, 37), (2, 47), (2, 59), (1, 138), (1, 145), (1, 192), (5, 46), (5, 47), (5, 48), (1, 139), (1, 143), (1, 8), (1, 141), (1, 190), (1, 9), (1, 139), (1, 141)] (by decide +kernel) (by decide +kernel)
set_option maxRecDepth 100000 in
theorem rt_in9 : ∀ w ∈ rt_cw rt_c9, w ∈ lw_tbl ∧ goodWord w = true := rt_in [(3, 71), (3, 72), (3, 73), (3, 74), (3, 81), (1, 106), (1, 104), (2, 65), (3, 71), (3, 72), (3, 73), (3, 74), (2, 147), (3, 75), (3, 77), (3, 81), (1, 102), (3, 70), (8, 211), (8, 212), (8, 213), (8, 215), (8, 216), (8, 217), (8, 220), (8, 221), (8, 222), (9, 62), (9, 64), (0, 66), (9, 81), (9, 83), (0, 69), (9, 73), (9, 75), (0, 67)] (by decide +kernel) (by decide +kernel)
set_option maxRecDepth 100000 in
theorem rt_in10 : ∀ w ∈ rt_cw rt_c10, w ∈ lw_tbl ∧ goodWord w = true := rt_in [(3, 224), (3, 226), (3, 227), (3, 228), (3, 220), (3, 225), (3, 230), (3, 222), (3, 224), (3, 226), (3, 227), (3, 228), (3, 229), (3, 231), (3, 219), (3, 220), (3, 221), (3, 225), (3, 218), (6, 212), (6, 213), (6, 215), (5, 160), (8, 117), (8, 118), (8, 119)] (by decide +kernel) (by decide +kernel)
set_option maxRecDepth 100000 in
theorem rt_in11 : ∀ w ∈ rt_cw rt_c11, w ∈ lw_tbl ∧ goodWord w = true := rt_in [(4, 69), (4, 73), (4, 74), (4, 75), (4, 76), (4, 77), (4, 68)] (by decide +kernel) (by decide +kernel)
set_option maxRecDepth 100000 in
theorem rt_in12 : ∀ w ∈ rt_cw rt_c12, w ∈ lw_tbl ∧ goodWord w = true := rt_in [(4, 38), (4, 40), (4, 41), (4, 39), (4, 35), (4, 36), (4, 37), (4, 38), (4, 40), (4, 41), (4, 32), (4, 33), (4, 34), (4, 39), (4, 31)] (by decide +kernel) (by decide +kernel)
set_option maxRecDepth 100000 in
theorem rt_in13 : ∀ w ∈ rt_cw rt_c13, w ∈ lw_tbl ∧ goodWord w = true := rt_in [(4, 93), (4, 94), (4, 95), (4, 96), (4, 97), (4, 98), (4, 99), (4, 100), (4, 101), (1, 110), (4, 102), (1, 100), (4, 72), (4, 70), (2, 17), (2, 63), (3, 76), (3, 78), (3, 30), (2, 23), (1, 153), (3, 2), (3, 11), (3, 6), (3, 79), (1, 98), (3, 121), (3, 123), (3, 125), (2, 36), (1, 203), (3, 177), (3, 165), (3, 175), (3, 161), (1, 158), (2, 30), (3, 223), (4, 93), (4, 94), (4, 95), (4, 96), (4, 97), (4, 98), (4, 99), (4, 100), (4, 101), (4, 102), (1, 100), (2, 17), (3, 177), (1, 39), (1, 44), (1, 45), (1, 135), (1, 136), (2, 115), (2, 116), (2, 234), (3, 67), (3, 68), (3, 113), (3, 114), (3, 153), (3, 154), (3, 215), (3, 216), (4, 28), (4, 29), (4, 65), (4, 66), (4, 128), (4, 129), (4, 130), (5, 151), (5, 153), (0, 24), (8, 207), (8, 208), (8, 209), (9, 69), (9, 70), (9, 71), (9, 214), (9, 215), (9, 216), (5, 29), (5, 30), (5, 31), (5, 37), (5, 34), (5, 35), (5, 54), (5, 47), (5, 48), (7, 4), (7, 6), (0, 28), (7, 8), (7, 9), (7, 10), (7, 226), (7, 227), (7, 228), (6, 216), (6, 217), (6, 218), (5, 155), (5, 156), (5, 157), (8, 104), (8, 105), (8, 106), (10, 158), (8, 118), (8, 119), (8, 112), (8, 113), (8, 114), (8, 195), (8, 196), (8, 197), (6, 208), (6, 209), (6, 210), (6, 220), (6, 221), (6, 222), (1, 42), (1, 43), (1, 2), (1, 133), (1, 134), (1, 7), (2, 113), (2, 114), (1, 10), (2, 231), (2, 232), (1, 11), (3, 65), (3, 66), (1, 12), (3, 111), (3, 112), (1, 13), (3, 151), (3, 152), (1, 14), (3, 213), (3, 214), (1, 15), (4, 26), (4, 27), (1, 16), (4, 63), (4, 64), (1, 17)] (by decide +kernel) (by decide +kernel)
set_option maxRecDepth 100000 in
theorem rt_in14 : ∀ w ∈ rt_cw rt_c14, w ∈ lw_tbl ∧ goodWord w = true := rt_in [(11, 32), (11, 34), (11, 39), (11, 40), (11, 41), (11, 48), (11, 49), (11, 53), (11, 54), (11, 56), (11, 57), (11, 66), (11, 67), (11, 71), (11, 72), (11, 74), (11, 76), (11, 77), (11, 79), (11, 80), (11, 85), (11, 91), (11, 92), (11, 93), (11, 94), (11, 95), (11, 96), (11, 97), (11, 101), (11, 106), (11, 114), (11, 115), (11, 117), (11, 118), (11, 119), (11, 123), (11, 124), (11, 125), (11, 126), (11, 127), (11, 128), (11, 129), (11, 130), (11, 134), (11, 138), (11, 139), (11, 140), (11, 145), (11, 146), (11, 148), (11, 149), (11, 150), (11, 151), (11, 153), (11, 166), (11, 167), (11, 168), (11, 169), (11, 170), (11, 31), (11, 33), (11, 35), (11, 44), (11, 42), (11, 43), (11, 38), (11, 46), (11, 55), (11, 65), (11, 68), (11, 98), (11, 45), (11, 105), (11, 108), (11, 109), (11, 107), (11, 110), (11, 113), (11, 111), (11, 112), (11, 122), (11, 133), (11, 132), (11, 135), (11, 136), (11, 137), (11, 142), (11, 161), (11, 141), (11, 144), (11, 143), (11, 152), (11, 154), (11, 155), (11, 156), (11, 157), (11, 158), (11, 159), (11, 160), (11, 162), (11, 163), (11, 164), (11, 165), (11, 32), (11, 34), (11, 37), (11, 39), (11, 40), (11, 41), (11, 47), (11, 48), (11, 49), (11, 50), (11, 51), (11, 52), (11, 53), (11, 54), (11, 56), (11, 57), (11, 58), (11, 59), (11, 60), (11, 61), (11, 62), (11, 63), (11, 64), (11, 66), (11, 67), (11, 69), (11, 70), (11, 71), (11, 72), (11, 73), (11, 74), (11, 75), (11, 76), (11, 77), (11, 78), (11, 79), (11, 80), (11, 81), (11, 82), (11, 83), (11, 84), (11, 85), (11, 86), (11, 87), (11, 88), (11, 89), (11, 90), (11, 91), (11, 92), (11, 93), (11, 94), (11, 95), (11, 96), (11, 97), (11, 100), (11, 101), (11, 102), (11, 103), (11, 106), (11, 114), (11, 115), (11, 116), (11, 117), (11, 118), (11, 119), (11, 120), (11, 123), (11, 124), (11, 125), (11, 126), (11, 127), (11, 128), (11, 129), (11, 130), (11, 131), (11, 134), (11, 138), (11, 139), (11, 140), (11, 145), (11, 146), (11, 147), (11, 148), (11, 149), (11, 150), (11, 151), (11, 153), (11, 166), (11, 167), (11, 168), (11, 169), (11, 170), (11, 31), (11, 33), (11, 35), (11, 36), (11, 44), (11, 42), (11, 43), (11, 38), (11, 46), (11, 55), (11, 65), (11, 68), (11, 98), (11, 45), (11, 113), (11, 111), (11, 112), (11, 133), (11, 132), (11, 135), (11, 136), (11, 137), (11, 142), (11, 161), (11, 141), (11, 144), (11, 143), (11, 152), (11, 154), (11, 155), (11, 156), (11, 157), (11, 158), (11, 159), (11, 160), (11, 162), (11, 163), (11, 164), (11, 165), (10, 235), (12, 220), (12, 222), (0, 117), (13, 10), (13, 12), (0, 120), (13, 23), (13, 25), (0, 122), (13, 40), (13, 42), (0, 125), (13, 56), (13, 58), (0, 129), (13, 36), (13, 38), (0, 124), (13, 213), (13, 215), (0, 167), (12, 236), (12, 238), (0, 118), (13, 0), (13, 2), (0, 119), (13, 32), (13, 34), (0, 123), (14, 13), (14, 15), (0, 175), (14, 33), (14, 34), (14, 17), (14, 19), (0, 176), (14, 99), (14, 101), (0, 190), (14, 103), (14, 105), (0, 191), (14, 111), (14, 113), (0, 192), (15, 14), (15, 16), (0, 219), (11, 29), (11, 30), (14, 82), (13, 27), (13, 28), (15, 177), (15, 178), (10, 236)] (by decide +kernel) (by decide +kernel)
set_option maxRecDepth 100000 in
theorem rt_in15 : ∀ w ∈ rt_cw rt_c15, w ∈ lw_tbl ∧ goodWord w = true := rt_in [(6, 197), (6, 198), (1, 53), (1, 54), (1, 55), (1, 63), (1, 64), (1, 65), (1, 67), (1, 68), (1, 75), (1, 76)] (by decide +kernel) (by decide +kernel)
set_option maxRecDepth 100000 in
theorem rt_in16 : ∀ w ∈ rt_cw rt_c16, w ∈ lw_tbl ∧ goodWord w = true := rt_in [(1, 70), (1, 71)] (by decide +kernel) (by decide +kernel)
set_option maxRecDepth 100000 in
theorem rt_in17 : ∀ w ∈ rt_cw rt_c17, w ∈ lw_tbl ∧ goodWord w = true := rt_in [(5, 162), (5, 163), (5, 206), (5, 207), (1, 25)] (by decide +kernel) (by decide +kernel)
set_option maxRecDepth 100000 in
theorem rt_in18 : ∀ w ∈ rt_cw rt_c18, w ∈ lw_tbl ∧ goodWord w = true := rt_in [] (by decide +kernel) (by decide +kernel)
theorem rt_k16 : ∀ w ∈ rt_mw rt_m16, w ∈ lw_tbl ∧ goodWord w = true := rt_km (c := Cond.codeWith ⟨"MarkHouseLaw", "compile", "(LMarkHouse;[J)I"⟩ method_3_code 3 (some FieldType.int) [(0, 8, 11, 13)]) (i := .initialized "MarkHouseLaw") 8 201 1 0 rfl rfl rfl rfl rfl
theorem rt_k17 : ∀ w ∈ rt_mw rt_m17, w ∈ lw_tbl ∧ goodWord w = true := rt_km (c := Cond.codeWith ⟨"MarkHouseLaw", "begin", "(LMarkHouse;IZ)I"⟩ method_4_code 4 (some FieldType.int) [(0, 6, 9, 19), (0, 6, 12, 21)]) (i := .initialized "MarkHouseLaw") 10 97 1 0 rfl rfl rfl rfl rfl
theorem rt_k18 : ∀ w ∈ rt_mw rt_m18, w ∈ lw_tbl ∧ goodWord w = true := rt_km (c := Cond.codeWith ⟨"MarkHouseLaw", "go", "(LMarkHouse;I[J)I"⟩ method_5_code 4 (some FieldType.int) [(0, 9, 12, 13), (0, 9, 15, 19)]) (i := .initialized "MarkHouseLaw") 10 150 1 0 rfl rfl rfl rfl rfl
theorem rt_k19 : ∀ w ∈ rt_mw rt_m19, w ∈ lw_tbl ∧ goodWord w = true := rt_km (c := Cond.code ⟨"MarkHouse$Code", "<init>", "(LMarkHouse$Program;)V"⟩ prog_2_method_1_code 2 none) (i := .initialized "MarkHouse$Code") 2 117 1 10 rfl rfl rfl rfl rfl
theorem rt_k20 : ∀ w ∈ rt_mw rt_m20, w ∈ lw_tbl ∧ goodWord w = true := rt_km (c := Cond.code ⟨"MarkHouse$Code", "clearChecks", "()V"⟩ prog_2_method_2_code 1 none) (i := .initialized "MarkHouse$Code") 5 158 1 10 rfl rfl rfl rfl rfl
theorem rt_k21 : ∀ w ∈ rt_mw rt_m21, w ∈ lw_tbl ∧ goodWord w = true := rt_km (c := Cond.code ⟨"MarkHouse$Code", "sortOf", "(I)I"⟩ prog_2_method_3_code 4 (some FieldType.int)) (i := .initialized "MarkHouse$Code") 5 32 1 10 rfl rfl rfl rfl rfl
theorem rt_k22 : ∀ w ∈ rt_mw rt_m22, w ∈ lw_tbl ∧ goodWord w = true := rt_km (c := Cond.code ⟨"MarkHouse$Code", "methodAt", "(I)I"⟩ prog_2_method_4_code 2 (some FieldType.int)) (i := .initialized "MarkHouse$Code") 5 36 1 10 rfl rfl rfl rfl rfl
theorem rt_k23 : ∀ w ∈ rt_mw rt_m23, w ∈ lw_tbl ∧ goodWord w = true := rt_km (c := Cond.code ⟨"MarkHouse$Cutter", "<init>", "()V"⟩ prog_3_method_1_code 3 none) (i := .initialized "MarkHouse$Cutter") 1 46 1 2 rfl rfl rfl rfl rfl
theorem rt_k24 : ∀ w ∈ rt_mw rt_m24, w ∈ lw_tbl ∧ goodWord w = true := rt_km (c := Cond.code ⟨"MarkHouse$Cutter", "addWord", "(I)V"⟩ prog_3_method_2_code 3 none) (i := .initialized "MarkHouse$Cutter") 4 131 1 2 rfl rfl rfl rfl rfl
theorem rt_k25 : ∀ w ∈ rt_mw rt_m25, w ∈ lw_tbl ∧ goodWord w = true := rt_km (c := Cond.code ⟨"MarkHouse$Cutter", "cutAll", "()I"⟩ prog_3_method_3_code 2 (some FieldType.int)) (i := .initialized "MarkHouse$Cutter") 8 223 1 2 rfl rfl rfl rfl rfl
theorem rt_k26 : ∀ w ∈ rt_mw rt_m26, w ∈ lw_tbl ∧ goodWord w = true := rt_km (c := Cond.code ⟨"MarkHouse$Cutter", "skipBlanks", "()V"⟩ prog_3_method_4_code 1 none) (i := .initialized "MarkHouse$Cutter") 8 227 1 2 rfl rfl rfl rfl rfl
theorem rt_k27 : ∀ w ∈ rt_mw rt_m27, w ∈ lw_tbl ∧ goodWord w = true := rt_km (c := Cond.code ⟨"MarkHouse$Effects", "<init>", "(LMarkHouse$Program;LMarkHouse$Code;LMarkHouse$Marks;)V"⟩ prog_4_method_1_code 4 none) (i := .initialized "MarkHouse$Effects") 3 115 1 13 rfl rfl rfl rfl rfl
theorem rt_k28 : ∀ w ∈ rt_mw rt_m28, w ∈ lw_tbl ∧ goodWord w = true := rt_km (c := Cond.code ⟨"MarkHouse$Flow", "<init>", "(LMarkHouse$Program;LMarkHouse$Code;LMarkHouse$Effects;)V"⟩ prog_5_method_1_code 4 none) (i := .initialized "MarkHouse$Flow") 3 155 1 14 rfl rfl rfl rfl rfl
theorem rt_k29 : ∀ w ∈ rt_mw rt_m29, w ∈ lw_tbl ∧ goodWord w = true := rt_km (c := Cond.code ⟨"MarkHouse$Flow", "forget", "()V"⟩ prog_5_method_2_code 1 none) (i := .initialized "MarkHouse$Flow") 6 219 1 14 rfl rfl rfl rfl rfl
theorem rt_k30 : ∀ w ∈ rt_mw rt_m30, w ∈ lw_tbl ∧ goodWord w = true := rt_km (c := Cond.code ⟨"MarkHouse$Flow", "isError", "(I)Z"⟩ prog_5_method_14_code 2 (some FieldType.boolean)) (i := .initialized "MarkHouse$Flow") 7 229 1 14 rfl rfl rfl rfl rfl
theorem rt_k31 : ∀ w ∈ rt_mw rt_m31, w ∈ lw_tbl ∧ goodWord w = true := rt_km (c := Cond.code ⟨"MarkHouse$Kind", "<init>", "()V"⟩ prog_6_method_1_code 1 none) (i := .initialized "MarkHouse$Kind") 1 193 1 9 rfl rfl rfl rfl rfl
theorem rt_inr1 : ∀ w ∈ rt_r1.flatMap rt_mw, w ∈ lw_tbl ∧ goodWord w = true := by
  intro w hw
  obtain ⟨M, hM, hw⟩ := List.mem_flatMap.mp hw
  simp only [rt_r1, List.mem_cons, List.not_mem_nil, or_false] at hM
  rcases hM with rfl | rfl | rfl | rfl | rfl | rfl | rfl | rfl | rfl | rfl | rfl | rfl | rfl | rfl | rfl | rfl
  · exact rt_k16 w hw
  · exact rt_k17 w hw
  · exact rt_k18 w hw
  · exact rt_k19 w hw
  · exact rt_k20 w hw
  · exact rt_k21 w hw
  · exact rt_k22 w hw
  · exact rt_k23 w hw
  · exact rt_k24 w hw
  · exact rt_k25 w hw
  · exact rt_k26 w hw
  · exact rt_k27 w hw
  · exact rt_k28 w hw
  · exact rt_k29 w hw
  · exact rt_k30 w hw
  · exact rt_k31 w hw
theorem rt_k32 : ∀ w ∈ rt_mw rt_m32, w ∈ lw_tbl ∧ goodWord w = true := rt_km (c := Cond.code ⟨"MarkHouse$Marks", "<init>", "()V"⟩ prog_7_method_1_code 1 none) (i := .initialized "MarkHouse$Marks") 2 235 1 11 rfl rfl rfl rfl rfl
theorem rt_k33 : ∀ w ∈ rt_mw rt_m33, w ∈ lw_tbl ∧ goodWord w = true := rt_km (c := Cond.code ⟨"MarkHouse$Marks", "clearAll", "()V"⟩ prog_7_method_2_code 1 none) (i := .initialized "MarkHouse$Marks") 8 218 1 11 rfl rfl rfl rfl rfl
theorem rt_k34 : ∀ w ∈ rt_mw rt_m34, w ∈ lw_tbl ∧ goodWord w = true := rt_km (c := Cond.code ⟨"MarkHouse$Order", "<init>", "()V"⟩ prog_8_method_1_code 1 none) (i := .initialized "MarkHouse$Order") 1 146 1 8 rfl rfl rfl rfl rfl
theorem rt_k35 : ∀ w ∈ rt_mw rt_m35, w ∈ lw_tbl ∧ goodWord w = true := rt_km (c := Cond.code ⟨"MarkHouse$Program", "<init>", "()V"⟩ prog_9_method_1_code 2 none) (i := .initialized "MarkHouse$Program") 1 137 1 7 rfl rfl rfl rfl rfl
theorem rt_k36 : ∀ w ∈ rt_mw rt_m36, w ∈ lw_tbl ∧ goodWord w = true := rt_km (c := Cond.code ⟨"MarkHouse$Program", "clear", "()V"⟩ prog_9_method_2_code 1 none) (i := .initialized "MarkHouse$Program") 8 214 1 7 rfl rfl rfl rfl rfl
theorem rt_k37 : ∀ w ∈ rt_mw rt_m37, w ∈ lw_tbl ∧ goodWord w = true := rt_km (c := Cond.code ⟨"MarkHouse$Program", "isOrder", "(I)Z"⟩ prog_9_method_3_code 2 (some FieldType.boolean)) (i := .initialized "MarkHouse$Program") 5 49 1 7 rfl rfl rfl rfl rfl
theorem rt_k38 : ∀ w ∈ rt_mw rt_m38, w ∈ lw_tbl ∧ goodWord w = true := rt_km (c := Cond.code ⟨"MarkHouse$Program", "isTarget", "(I)Z"⟩ prog_9_method_4_code 2 (some FieldType.boolean)) (i := .initialized "MarkHouse$Program") 7 11 1 7 rfl rfl rfl rfl rfl
theorem rt_k39 : ∀ w ∈ rt_mw rt_m39, w ∈ lw_tbl ∧ goodWord w = true := rt_km (c := Cond.code ⟨"MarkHouse$Reader", "<init>", "(LMarkHouse$Cutter;LMarkHouse$Program;LMarkHouse$Code;LMarkHouse$Marks;)V"⟩ prog_10_method_1_code 5 none) (i := .initialized "MarkHouse$Reader") 3 69 1 12 rfl rfl rfl rfl rfl
theorem rt_k40 : ∀ w ∈ rt_mw rt_m40, w ∈ lw_tbl ∧ goodWord w = true := rt_km (c := Cond.code ⟨"MarkHouse$Reader", "cutTape", "()V"⟩ prog_10_method_2_code 2 none) (i := .initialized "MarkHouse$Reader") 8 210 1 12 rfl rfl rfl rfl rfl
theorem rt_k41 : ∀ w ∈ rt_mw rt_m41, w ∈ lw_tbl ∧ goodWord w = true := rt_km (c := Cond.code ⟨"MarkHouse$Reader", "fail", "(II)V"⟩ prog_10_method_3_code 3 none) (i := .initialized "MarkHouse$Reader") 9 65 1 12 rfl rfl rfl rfl rfl
theorem rt_k42 : ∀ w ∈ rt_mw rt_m42, w ∈ lw_tbl ∧ goodWord w = true := rt_km (c := Cond.code ⟨"MarkHouse$Reader", "here", "()I"⟩ prog_10_method_4_code 1 (some FieldType.int)) (i := .initialized "MarkHouse$Reader") 9 84 1 12 rfl rfl rfl rfl rfl
theorem rt_k43 : ∀ w ∈ rt_mw rt_m43, w ∈ lw_tbl ∧ goodWord w = true := rt_km (c := Cond.code ⟨"MarkHouse$Reader", "next", "()I"⟩ prog_10_method_5_code 1 (some FieldType.int)) (i := .initialized "MarkHouse$Reader") 9 76 1 12 rfl rfl rfl rfl rfl
theorem rt_k44 : ∀ w ∈ rt_mw rt_m44, w ∈ lw_tbl ∧ goodWord w = true := rt_km (c := Cond.code ⟨"MarkHouse$Reader", "readFront", "()V"⟩ prog_10_method_10_code 2 none) (i := .initialized "MarkHouse$Reader") 9 72 1 12 rfl rfl rfl rfl rfl
theorem rt_k45 : ∀ w ∈ rt_mw rt_m45, w ∈ lw_tbl ∧ goodWord w = true := rt_km (c := Cond.code ⟨"MarkHouse$Reader", "readClasses", "()V"⟩ prog_10_method_11_code 4 none) (i := .initialized "MarkHouse$Reader") 9 217 1 12 rfl rfl rfl rfl rfl
theorem rt_k46 : ∀ w ∈ rt_mw rt_m46, w ∈ lw_tbl ∧ goodWord w = true := rt_km (c := Cond.code ⟨"MarkHouse$Run", "<init>", "(LMarkHouse$Program;LMarkHouse$Code;LMarkHouse$Effects;)V"⟩ prog_11_method_1_code 5 none) (i := .initialized "MarkHouse$Run") 3 217 1 15 rfl rfl rfl rfl rfl
theorem rt_k47 : ∀ w ∈ rt_mw rt_m47, w ∈ lw_tbl ∧ goodWord w = true := rt_km (c := Cond.code ⟨"MarkHouse$Run", "addInput", "(I)I"⟩ prog_11_method_2_code 2 (some FieldType.int)) (i := .initialized "MarkHouse$Run") 8 107 1 15 rfl rfl rfl rfl rfl
theorem rt_inr2 : ∀ w ∈ rt_r2.flatMap rt_mw, w ∈ lw_tbl ∧ goodWord w = true := by
  intro w hw
  obtain ⟨M, hM, hw⟩ := List.mem_flatMap.mp hw
  simp only [rt_r2, List.mem_cons, List.not_mem_nil, or_false] at hM
  rcases hM with rfl | rfl | rfl | rfl | rfl | rfl | rfl | rfl | rfl | rfl | rfl | rfl | rfl | rfl | rfl | rfl
  · exact rt_k32 w hw
  · exact rt_k33 w hw
  · exact rt_k34 w hw
  · exact rt_k35 w hw
  · exact rt_k36 w hw
  · exact rt_k37 w hw
  · exact rt_k38 w hw
  · exact rt_k39 w hw
  · exact rt_k40 w hw
  · exact rt_k41 w hw
  · exact rt_k42 w hw
  · exact rt_k43 w hw
  · exact rt_k44 w hw
  · exact rt_k45 w hw
  · exact rt_k46 w hw
  · exact rt_k47 w hw
theorem rt_k48 : ∀ w ∈ rt_mw rt_m48, w ∈ lw_tbl ∧ goodWord w = true := rt_km (c := Cond.code ⟨"MarkHouse$Run", "stop", "()V"⟩ prog_11_method_4_code 1 none) (i := .initialized "MarkHouse$Run") 6 211 1 15 rfl rfl rfl rfl rfl
theorem rt_k49 : ∀ w ∈ rt_mw rt_m49, w ∈ lw_tbl ∧ goodWord w = true := rt_km (c := Cond.code ⟨"MarkHouse$Run", "isUnderWay", "()Z"⟩ prog_11_method_5_code 1 (some FieldType.boolean)) (i := .initialized "MarkHouse$Run") 8 120 1 15 rfl rfl rfl rfl rfl
theorem rt_k50 : ∀ w ∈ rt_mw rt_m50, w ∈ lw_tbl ∧ goodWord w = true := rt_km (c := Cond.code ⟨"MarkHouse$Run", "tellTally", "(I)I"⟩ prog_11_method_23_code 3 (some FieldType.int)) (i := .initialized "MarkHouse$Run") 8 115 1 15 rfl rfl rfl rfl rfl
theorem rt_k51 : ∀ w ∈ rt_mw rt_m51, w ∈ lw_tbl ∧ goodWord w = true := rt_km (c := Cond.code ⟨"MarkHouse$Teller", "<init>", "([JLMarkHouse$Program;LMarkHouse$Code;LMarkHouse$Marks;LMarkHouse$Effects;)V"⟩ prog_12_method_1_code 6 none) (i := .initialized "MarkHouse$Teller") 4 67 1 17 rfl rfl rfl rfl rfl
theorem rt_k52 : ∀ w ∈ rt_mw rt_m52, w ∈ lw_tbl ∧ goodWord w = true := rt_km (c := Cond.code ⟨"MarkHouse$Wiring", "<init>", "(LMarkHouse$Program;LMarkHouse$Marks;LMarkHouse$Effects;)V"⟩ prog_13_method_1_code 4 none) (i := .initialized "MarkHouse$Wiring") 4 30 1 16 rfl rfl rfl rfl rfl
theorem rt_k53 : ∀ w ∈ rt_mw rt_m53, w ∈ lw_tbl ∧ goodWord w = true := rt_km (c := Cond.code ⟨"MarkHouse$Wiring", "forget", "()V"⟩ prog_13_method_2_code 1 none) (i := .initialized "MarkHouse$Wiring") 6 223 1 16 rfl rfl rfl rfl rfl
theorem rt_k54 : ∀ w ∈ rt_mw rt_m54, w ∈ lw_tbl ∧ goodWord w = true := rt_km (c := Cond.code ⟨"MarkHouse$Wiring", "tellWired", "(I)I"⟩ prog_13_method_3_code 2 (some FieldType.int)) (i := .initialized "MarkHouse$Wiring") 8 198 1 16 rfl rfl rfl rfl rfl
theorem rt_k55 : ∀ w ∈ rt_mw rt_m55, w ∈ lw_tbl ∧ goodWord w = true := rt_km (c := Cond.code ⟨"MarkHouse", "<init>", "()V"⟩ prog_1_method_1_code 1 none) (i := .initialized "MarkHouse") 1 38 1 1 rfl rfl rfl rfl rfl
theorem rt_k56 : ∀ w ∈ rt_mw rt_m56, w ∈ lw_tbl ∧ goodWord w = true := rt_km (c := Cond.code ⟨"MarkHouse", "feed", "(IIIII)I"⟩ prog_1_method_2_code 6 (some FieldType.int)) (i := .initialized "MarkHouse") 4 127 1 1 rfl rfl rfl rfl rfl
theorem rt_k57 : ∀ w ∈ rt_mw rt_m57, w ∈ lw_tbl ∧ goodWord w = true := rt_km (c := Cond.code ⟨"MarkHouse", "end", "(I)I"⟩ prog_1_method_3_code 2 (some FieldType.int)) (i := .initialized "MarkHouse") 4 135 1 1 rfl rfl rfl rfl rfl
theorem rt_k58 : ∀ w ∈ rt_mw rt_m58, w ∈ lw_tbl ∧ goodWord w = true := rt_km (c := Cond.code ⟨"MarkHouse", "out", "(I)I"⟩ prog_1_method_4_code 2 (some FieldType.int)) (i := .initialized "MarkHouse") 4 139 1 1 rfl rfl rfl rfl rfl
theorem rt_k59 : ∀ w ∈ rt_mw rt_m59, w ∈ lw_tbl ∧ goodWord w = true := rt_km (c := Cond.code ⟨"MarkHouse", "compile", "()I"⟩ prog_1_method_5_code 1 (some FieldType.int)) (i := .initialized "MarkHouse") 8 206 1 1 rfl rfl rfl rfl rfl
theorem rt_k60 : ∀ w ∈ rt_mw rt_m60, w ∈ lw_tbl ∧ goodWord w = true := rt_km (c := Cond.code ⟨"MarkHouse", "fault", "(I)I"⟩ prog_1_method_6_code 2 (some FieldType.int)) (i := .initialized "MarkHouse") 4 143 1 1 rfl rfl rfl rfl rfl
theorem rt_k61 : ∀ w ∈ rt_mw rt_m61, w ∈ lw_tbl ∧ goodWord w = true := rt_km (c := Cond.code ⟨"MarkHouse", "tell", "()I"⟩ prog_1_method_7_code 1 (some FieldType.int)) (i := .initialized "MarkHouse") 4 147 1 1 rfl rfl rfl rfl rfl
theorem rt_k62 : ∀ w ∈ rt_mw rt_m62, w ∈ lw_tbl ∧ goodWord w = true := rt_km (c := Cond.code ⟨"MarkHouse", "size", "(II)I"⟩ prog_1_method_8_code 3 (some FieldType.int)) (i := .initialized "MarkHouse") 5 28 1 1 rfl rfl rfl rfl rfl
theorem rt_k63 : ∀ w ∈ rt_mw rt_m63, w ∈ lw_tbl ∧ goodWord w = true := rt_km (c := Cond.code ⟨"MarkHouse", "order", "(IIII)I"⟩ prog_1_method_10_code 6 (some FieldType.int)) (i := .initialized "MarkHouse") 5 53 1 1 rfl rfl rfl rfl rfl
theorem rt_inr3 : ∀ w ∈ rt_r3.flatMap rt_mw, w ∈ lw_tbl ∧ goodWord w = true := by
  intro w hw
  obtain ⟨M, hM, hw⟩ := List.mem_flatMap.mp hw
  simp only [rt_r3, List.mem_cons, List.not_mem_nil, or_false] at hM
  rcases hM with rfl | rfl | rfl | rfl | rfl | rfl | rfl | rfl | rfl | rfl | rfl | rfl | rfl | rfl | rfl | rfl
  · exact rt_k48 w hw
  · exact rt_k49 w hw
  · exact rt_k50 w hw
  · exact rt_k51 w hw
  · exact rt_k52 w hw
  · exact rt_k53 w hw
  · exact rt_k54 w hw
  · exact rt_k55 w hw
  · exact rt_k56 w hw
  · exact rt_k57 w hw
  · exact rt_k58 w hw
  · exact rt_k59 w hw
  · exact rt_k60 w hw
  · exact rt_k61 w hw
  · exact rt_k62 w hw
  · exact rt_k63 w hw
theorem rt_k64 : ∀ w ∈ rt_mw rt_m64, w ∈ lw_tbl ∧ goodWord w = true := rt_km (c := Cond.code ⟨"MarkHouse", "mark", "(III)I"⟩ prog_1_method_11_code 5 (some FieldType.int)) (i := .initialized "MarkHouse") 5 67 1 1 rfl rfl rfl rfl rfl
theorem rt_k65 : ∀ w ∈ rt_mw rt_m65, w ∈ lw_tbl ∧ goodWord w = true := rt_km (c := Cond.code ⟨"MarkHouse", "give", "(I)I"⟩ prog_1_method_12_code 4 (some FieldType.int)) (i := .initialized "MarkHouse") 5 76 1 1 rfl rfl rfl rfl rfl
theorem rt_k66 : ∀ w ∈ rt_mw rt_m66, w ∈ lw_tbl ∧ goodWord w = true := rt_km (c := Cond.code ⟨"MarkHouse", "file", "(I)I"⟩ prog_1_method_13_code 2 (some FieldType.int)) (i := .initialized "MarkHouse") 6 227 1 1 rfl rfl rfl rfl rfl
theorem rt_k67 : ∀ w ∈ rt_mw rt_m67, w ∈ lw_tbl ∧ goodWord w = true := rt_km (c := Cond.code ⟨"MarkHouse", "effective", "(II)I"⟩ prog_1_method_14_code 3 (some FieldType.int)) (i := .initialized "MarkHouse") 7 3 1 1 rfl rfl rfl rfl rfl
theorem rt_k68 : ∀ w ∈ rt_mw rt_m68, w ∈ lw_tbl ∧ goodWord w = true := rt_km (c := Cond.code ⟨"MarkHouse", "whence", "(III)I"⟩ prog_1_method_15_code 4 (some FieldType.int)) (i := .initialized "MarkHouse") 7 51 1 1 rfl rfl rfl rfl rfl
theorem rt_k69 : ∀ w ∈ rt_mw rt_m69, w ∈ lw_tbl ∧ goodWord w = true := rt_km (c := Cond.code ⟨"MarkHouse", "ask", "(IIII)I"⟩ prog_1_method_16_code 7 (some FieldType.int)) (i := .initialized "MarkHouse") 7 65 1 1 rfl rfl rfl rfl rfl
theorem rt_k70 : ∀ w ∈ rt_mw rt_m70, w ∈ lw_tbl ∧ goodWord w = true := rt_km (c := Cond.code ⟨"MarkHouse", "isAskable", "(II)Z"⟩ prog_1_method_17_code 3 (some FieldType.boolean)) (i := .initialized "MarkHouse") 7 7 1 1 rfl rfl rfl rfl rfl
theorem rt_k71 : ∀ w ∈ rt_mw rt_m71, w ∈ lw_tbl ∧ goodWord w = true := rt_km (c := Cond.code ⟨"MarkHouse", "markOf", "(II)I"⟩ prog_1_method_18_code 3 (some FieldType.int)) (i := .initialized "MarkHouse") 7 81 1 1 rfl rfl rfl rfl rfl
theorem rt_k72 : ∀ w ∈ rt_mw rt_m72, w ∈ lw_tbl ∧ goodWord w = true := rt_km (c := Cond.code ⟨"MarkHouse", "rounds", "()I"⟩ prog_1_method_19_code 2 (some FieldType.int)) (i := .initialized "MarkHouse") 7 100 1 1 rfl rfl rfl rfl rfl
theorem rt_k73 : ∀ w ∈ rt_mw rt_m73, w ∈ lw_tbl ∧ goodWord w = true := rt_km (c := Cond.code ⟨"MarkHouse", "flow", "(I)I"⟩ prog_1_method_20_code 2 (some FieldType.int)) (i := .initialized "MarkHouse") 7 127 1 1 rfl rfl rfl rfl rfl
theorem rt_k74 : ∀ w ∈ rt_mw rt_m74, w ∈ lw_tbl ∧ goodWord w = true := rt_km (c := Cond.code ⟨"MarkHouse", "error", "(II)I"⟩ prog_1_method_21_code 3 (some FieldType.int)) (i := .initialized "MarkHouse") 7 225 1 1 rfl rfl rfl rfl rfl
theorem rt_k75 : ∀ w ∈ rt_mw rt_m75, w ∈ lw_tbl ∧ goodWord w = true := rt_km (c := Cond.code ⟨"MarkHouse", "way", "(I)I"⟩ prog_1_method_22_code 2 (some FieldType.int)) (i := .initialized "MarkHouse") 7 237 1 1 rfl rfl rfl rfl rfl
theorem rt_k76 : ∀ w ∈ rt_mw rt_m76, w ∈ lw_tbl ∧ goodWord w = true := rt_km (c := Cond.code ⟨"MarkHouse", "step", "(I)I"⟩ prog_1_method_23_code 2 (some FieldType.int)) (i := .initialized "MarkHouse") 8 22 1 1 rfl rfl rfl rfl rfl
theorem rt_k77 : ∀ w ∈ rt_mw rt_m77, w ∈ lw_tbl ∧ goodWord w = true := rt_km (c := Cond.code ⟨"MarkHouse", "state", "(III)I"⟩ prog_1_method_24_code 4 (some FieldType.int)) (i := .initialized "MarkHouse") 8 26 1 1 rfl rfl rfl rfl rfl
theorem rt_k78 : ∀ w ∈ rt_mw rt_m78, w ∈ lw_tbl ∧ goodWord w = true := rt_km (c := Cond.code ⟨"MarkHouse", "find", "(I)I"⟩ prog_1_method_25_code 3 (some FieldType.int)) (i := .initialized "MarkHouse") 8 34 1 1 rfl rfl rfl rfl rfl
theorem rt_k79 : ∀ w ∈ rt_mw rt_m79, w ∈ lw_tbl ∧ goodWord w = true := rt_km (c := Cond.code ⟨"MarkHouse", "plain", "(I)Z"⟩ prog_1_method_26_code 2 (some FieldType.boolean)) (i := .initialized "MarkHouse") 8 55 1 1 rfl rfl rfl rfl rfl
theorem rt_inr4 : ∀ w ∈ rt_r4.flatMap rt_mw, w ∈ lw_tbl ∧ goodWord w = true := by
  intro w hw
  obtain ⟨M, hM, hw⟩ := List.mem_flatMap.mp hw
  simp only [rt_r4, List.mem_cons, List.not_mem_nil, or_false] at hM
  rcases hM with rfl | rfl | rfl | rfl | rfl | rfl | rfl | rfl | rfl | rfl | rfl | rfl | rfl | rfl | rfl | rfl
  · exact rt_k64 w hw
  · exact rt_k65 w hw
  · exact rt_k66 w hw
  · exact rt_k67 w hw
  · exact rt_k68 w hw
  · exact rt_k69 w hw
  · exact rt_k70 w hw
  · exact rt_k71 w hw
  · exact rt_k72 w hw
  · exact rt_k73 w hw
  · exact rt_k74 w hw
  · exact rt_k75 w hw
  · exact rt_k76 w hw
  · exact rt_k77 w hw
  · exact rt_k78 w hw
  · exact rt_k79 w hw
theorem rt_k80 : ∀ w ∈ rt_mw rt_m80, w ∈ lw_tbl ∧ goodWord w = true := rt_km (c := Cond.code ⟨"MarkHouse", "weave", "()I"⟩ prog_1_method_27_code 4 (some FieldType.int)) (i := .initialized "MarkHouse") 8 63 1 1 rfl rfl rfl rfl rfl
theorem rt_k81 : ∀ w ∈ rt_mw rt_m81, w ∈ lw_tbl ∧ goodWord w = true := rt_km (c := Cond.code ⟨"MarkHouse", "code", "(IZ)I"⟩ prog_1_method_28_code 3 (some FieldType.int)) (i := .initialized "MarkHouse") 8 71 1 1 rfl rfl rfl rfl rfl
theorem rt_k82 : ∀ w ∈ rt_mw rt_m82, w ∈ lw_tbl ∧ goodWord w = true := rt_km (c := Cond.code ⟨"MarkHouse", "argument", "(II)Z"⟩ prog_1_method_29_code 3 (some FieldType.boolean)) (i := .initialized "MarkHouse") 8 99 1 1 rfl rfl rfl rfl rfl
theorem rt_k83 : ∀ w ∈ rt_mw rt_m83, w ∈ lw_tbl ∧ goodWord w = true := rt_km (c := Cond.code ⟨"MarkHouse", "input", "(I)I"⟩ prog_1_method_30_code 2 (some FieldType.int)) (i := .initialized "MarkHouse") 8 103 1 1 rfl rfl rfl rfl rfl
theorem rt_k84 : ∀ w ∈ rt_mw rt_m84, w ∈ lw_tbl ∧ goodWord w = true := rt_km (c := Cond.code ⟨"MarkHouse", "begin", "(IZ)V"⟩ prog_1_method_31_code 3 none) (i := .initialized "MarkHouse") 10 103 1 1 rfl rfl rfl rfl rfl
theorem rt_k85 : ∀ w ∈ rt_mw rt_m85, w ∈ lw_tbl ∧ goodWord w = true := rt_km (c := Cond.code ⟨"MarkHouse", "go", "(I)I"⟩ prog_1_method_32_code 2 (some FieldType.int)) (i := .initialized "MarkHouse") 10 154 1 1 rfl rfl rfl rfl rfl
theorem rt_k86 : ∀ w ∈ rt_mw rt_m86, w ∈ lw_tbl ∧ goodWord w = true := rt_km (c := Cond.code ⟨"MarkHouse", "run", "(I)I"⟩ prog_1_method_33_code 2 (some FieldType.int)) (i := .initialized "MarkHouse") 8 111 1 1 rfl rfl rfl rfl rfl
theorem rt_k87 : ∀ w ∈ rt_mw rt_m87, w ∈ lw_tbl ∧ goodWord w = true := rt_km (c := Cond.code ⟨"MarkHouse", "truth", "(I)I"⟩ prog_1_method_34_code 2 (some FieldType.int)) (i := .initialized "MarkHouse") 8 124 1 1 rfl rfl rfl rfl rfl
theorem rt_k88 : ∀ w ∈ rt_mw rt_m88, w ∈ lw_tbl ∧ goodWord w = true := rt_km (c := Cond.code ⟨"MarkHouse", "wire", "()I"⟩ prog_1_method_35_code 1 (some FieldType.int)) (i := .initialized "MarkHouse") 8 133 1 1 rfl rfl rfl rfl rfl
theorem rt_k89 : ∀ w ∈ rt_mw rt_m89, w ∈ lw_tbl ∧ goodWord w = true := rt_km (c := Cond.code ⟨"MarkHouse", "wired", "(I)I"⟩ prog_1_method_36_code 2 (some FieldType.int)) (i := .initialized "MarkHouse") 8 194 1 1 rfl rfl rfl rfl rfl
theorem rt_k90 : ∀ w ∈ rt_mw rt_m90, w ∈ lw_tbl ∧ goodWord w = true := rt_km (c := Cond.code ⟨"MarkHouse", "forget", "()V"⟩ prog_1_method_37_code 1 none) (i := .initialized "MarkHouse") 5 154 1 1 rfl rfl rfl rfl rfl
theorem rt_k91 : ∀ w ∈ rt_mw rt_m91, w ∈ lw_tbl ∧ goodWord w = true := rt_km (c := Cond.code ⟨"MarkHouseModel", "<init>", "()V"⟩ prog_15_method_1_code 1 none) (i := .initialized "MarkHouseModel") 10 234 1 18 rfl rfl rfl rfl rfl
theorem rt_k92 : ∀ w ∈ rt_mw rt_m92, w ∈ lw_tbl ∧ goodWord w = true := rt_km (c := Cond.code ⟨"MarkHouseModel", "thrown", "()I"⟩ prog_15_method_2_code 1 (some FieldType.int)) (i := .initialized "MarkHouseModel") 12 215 1 18 rfl rfl rfl rfl rfl
theorem rt_k93 : ∀ w ∈ rt_mw rt_m93, w ∈ lw_tbl ∧ goodWord w = true := rt_km (c := Cond.code ⟨"MarkHouseModel", "feed", "(IIIII)I"⟩ prog_15_method_3_code 6 (some FieldType.int)) (i := .initialized "MarkHouseModel") 12 219 1 18 rfl rfl rfl rfl rfl
theorem rt_k94 : ∀ w ∈ rt_mw rt_m94, w ∈ lw_tbl ∧ goodWord w = true := rt_km (c := Cond.code ⟨"MarkHouseModel", "four", "(I)V"⟩ prog_15_method_4_code 3 none) (i := .initialized "MarkHouseModel") 12 223 1 18 rfl rfl rfl rfl rfl
theorem rt_k95 : ∀ w ∈ rt_mw rt_m95, w ∈ lw_tbl ∧ goodWord w = true := rt_km (c := Cond.code ⟨"MarkHouseModel", "end", "(I)I"⟩ prog_15_method_5_code 2 (some FieldType.int)) (i := .initialized "MarkHouseModel") 12 227 1 18 rfl rfl rfl rfl rfl
theorem rt_inr5 : ∀ w ∈ rt_r5.flatMap rt_mw, w ∈ lw_tbl ∧ goodWord w = true := by
  intro w hw
  obtain ⟨M, hM, hw⟩ := List.mem_flatMap.mp hw
  simp only [rt_r5, List.mem_cons, List.not_mem_nil, or_false] at hM
  rcases hM with rfl | rfl | rfl | rfl | rfl | rfl | rfl | rfl | rfl | rfl | rfl | rfl | rfl | rfl | rfl | rfl
  · exact rt_k80 w hw
  · exact rt_k81 w hw
  · exact rt_k82 w hw
  · exact rt_k83 w hw
  · exact rt_k84 w hw
  · exact rt_k85 w hw
  · exact rt_k86 w hw
  · exact rt_k87 w hw
  · exact rt_k88 w hw
  · exact rt_k89 w hw
  · exact rt_k90 w hw
  · exact rt_k91 w hw
  · exact rt_k92 w hw
  · exact rt_k93 w hw
  · exact rt_k94 w hw
  · exact rt_k95 w hw
theorem rt_k96 : ∀ w ∈ rt_mw rt_m96, w ∈ lw_tbl ∧ goodWord w = true := rt_km (c := Cond.code ⟨"MarkHouseModel", "out", "(I)I"⟩ prog_15_method_6_code 2 (some FieldType.int)) (i := .initialized "MarkHouseModel") 12 231 1 18 rfl rfl rfl rfl rfl
theorem rt_k97 : ∀ w ∈ rt_mw rt_m97, w ∈ lw_tbl ∧ goodWord w = true := rt_km (c := Cond.code ⟨"MarkHouseModel", "fault", "(II)V"⟩ prog_15_method_20_code 3 none) (i := .initialized "MarkHouseModel") 13 13 1 18 rfl rfl rfl rfl rfl
theorem rt_k98 : ∀ w ∈ rt_mw rt_m98, w ∈ lw_tbl ∧ goodWord w = true := rt_km (c := Cond.code ⟨"MarkHouseModel", "lexeme", "(IIJ)V"⟩ prog_15_method_21_code 5 none) (i := .initialized "MarkHouseModel") 13 26 1 18 rfl rfl rfl rfl rfl
theorem rt_k99 : ∀ w ∈ rt_mw rt_m99, w ∈ lw_tbl ∧ goodWord w = true := rt_km (c := Cond.code ⟨"MarkHouseModel", "cut", "(I)V"⟩ prog_15_method_24_code 8 none) (i := .initialized "MarkHouseModel") 13 3 1 18 rfl rfl rfl rfl rfl
theorem rt_k100 : ∀ w ∈ rt_mw rt_m100, w ∈ lw_tbl ∧ goodWord w = true := rt_km (c := Cond.code ⟨"MarkHouseModel", "isWord", "(I)Z"⟩ prog_15_method_32_code 2 (some FieldType.boolean)) (i := .initialized "MarkHouseModel") 13 43 1 18 rfl rfl rfl rfl rfl
theorem rt_k101 : ∀ w ∈ rt_mw rt_m101, w ∈ lw_tbl ∧ goodWord w = true := rt_km (c := Cond.code ⟨"MarkHouseModel", "isSignHere", "(I)Z"⟩ prog_15_method_33_code 2 (some FieldType.boolean)) (i := .initialized "MarkHouseModel") 13 87 1 18 rfl rfl rfl rfl rfl
theorem rt_k102 : ∀ w ∈ rt_mw rt_m102, w ∈ lw_tbl ∧ goodWord w = true := rt_km (c := Cond.code ⟨"MarkHouseModel", "mayWord", "(I)Z"⟩ prog_15_method_34_code 2 (some FieldType.boolean)) (i := .initialized "MarkHouseModel") 13 39 1 18 rfl rfl rfl rfl rfl
theorem rt_k103 : ∀ w ∈ rt_mw rt_m103, w ∈ lw_tbl ∧ goodWord w = true := rt_km (c := Cond.code ⟨"MarkHouseModel", "cant", "()V"⟩ prog_15_method_36_code 1 none) (i := .initialized "MarkHouseModel") 13 59 1 18 rfl rfl rfl rfl rfl
theorem rt_k104 : ∀ w ∈ rt_mw rt_m104, w ∈ lw_tbl ∧ goodWord w = true := rt_km (c := Cond.code ⟨"MarkHouseModel", "readProgram", "()V"⟩ prog_15_method_40_code 2 none) (i := .initialized "MarkHouseModel") 13 35 1 18 rfl rfl rfl rfl rfl
theorem rt_k105 : ∀ w ∈ rt_mw rt_m105, w ∈ lw_tbl ∧ goodWord w = true := rt_km (c := Cond.code ⟨"MarkHouseModel", "isMethod", "(I)Z"⟩ prog_15_method_74_code 2 (some FieldType.boolean)) (i := .initialized "MarkHouseModel") 13 216 1 18 rfl rfl rfl rfl rfl
theorem rt_k106 : ∀ w ∈ rt_mw rt_m106, w ∈ lw_tbl ∧ goodWord w = true := rt_km (c := Cond.code ⟨"MarkHouseModel", "compile", "()I"⟩ prog_15_method_80_code 4 (some FieldType.int)) (i := .initialized "MarkHouseModel") 12 235 1 18 rfl rfl rfl rfl rfl
theorem rt_k107 : ∀ w ∈ rt_mw rt_m107, w ∈ lw_tbl ∧ goodWord w = true := rt_km (c := Cond.code ⟨"MarkHouseModel", "fault", "(I)I"⟩ prog_15_method_81_code 2 (some FieldType.int)) (i := .initialized "MarkHouseModel") 14 8 1 18 rfl rfl rfl rfl rfl
theorem rt_k108 : ∀ w ∈ rt_mw rt_m108, w ∈ lw_tbl ∧ goodWord w = true := rt_km (c := Cond.code ⟨"MarkHouseModel", "isClass", "(I)Z"⟩ prog_15_method_82_code 2 (some FieldType.boolean)) (i := .initialized "MarkHouseModel") 14 102 1 18 rfl rfl rfl rfl rfl
theorem rt_k109 : ∀ w ∈ rt_mw rt_m109, w ∈ lw_tbl ∧ goodWord w = true := rt_km (c := Cond.code ⟨"MarkHouseModel", "isPlace", "(I)Z"⟩ prog_15_method_83_code 5 (some FieldType.boolean)) (i := .initialized "MarkHouseModel") 14 16 1 18 rfl rfl rfl rfl rfl
theorem rt_k110 : ∀ w ∈ rt_mw rt_m110, w ∈ lw_tbl ∧ goodWord w = true := rt_km (c := Cond.code ⟨"MarkHouseModel", "sortOf", "(I)I"⟩ prog_15_method_84_code 2 (some FieldType.int)) (i := .initialized "MarkHouseModel") 14 35 1 18 rfl rfl rfl rfl rfl
theorem rt_k111 : ∀ w ∈ rt_mw rt_m111, w ∈ lw_tbl ∧ goodWord w = true := rt_km (c := Cond.code ⟨"MarkHouseModel", "isMethodPlace", "(I)Z"⟩ prog_15_method_87_code 2 (some FieldType.boolean)) (i := .initialized "MarkHouseModel") 14 106 1 18 rfl rfl rfl rfl rfl
theorem rt_inr6 : ∀ w ∈ rt_r6.flatMap rt_mw, w ∈ lw_tbl ∧ goodWord w = true := by
  intro w hw
  obtain ⟨M, hM, hw⟩ := List.mem_flatMap.mp hw
  simp only [rt_r6, List.mem_cons, List.not_mem_nil, or_false] at hM
  rcases hM with rfl | rfl | rfl | rfl | rfl | rfl | rfl | rfl | rfl | rfl | rfl | rfl | rfl | rfl | rfl | rfl
  · exact rt_k96 w hw
  · exact rt_k97 w hw
  · exact rt_k98 w hw
  · exact rt_k99 w hw
  · exact rt_k100 w hw
  · exact rt_k101 w hw
  · exact rt_k102 w hw
  · exact rt_k103 w hw
  · exact rt_k104 w hw
  · exact rt_k105 w hw
  · exact rt_k106 w hw
  · exact rt_k107 w hw
  · exact rt_k108 w hw
  · exact rt_k109 w hw
  · exact rt_k110 w hw
  · exact rt_k111 w hw
theorem rt_k112 : ∀ w ∈ rt_mw rt_m112, w ∈ lw_tbl ∧ goodWord w = true := rt_km (c := Cond.code ⟨"MarkHouseModel", "isFlowing", "(I)Z"⟩ prog_15_method_88_code 2 (some FieldType.boolean)) (i := .initialized "MarkHouseModel") 15 17 1 18 rfl rfl rfl rfl rfl
theorem rt_k113 : ∀ w ∈ rt_mw rt_m113, w ∈ lw_tbl ∧ goodWord w = true := rt_km (c := Cond.code ⟨"MarkHouseModel", "isKey", "(I)Z"⟩ prog_15_method_90_code 2 (some FieldType.boolean)) (i := .initialized "MarkHouseModel") 14 20 1 18 rfl rfl rfl rfl rfl
theorem rt_k114 : ∀ w ∈ rt_mw rt_m114, w ∈ lw_tbl ∧ goodWord w = true := rt_km (c := Cond.code ⟨"MarkHouseModel", "effective", "(II)I"⟩ prog_15_method_100_code 3 (some FieldType.int)) (i := .initialized "MarkHouseModel") 14 12 1 18 rfl rfl rfl rfl rfl
theorem rt_k115 : ∀ w ∈ rt_mw rt_m115, w ∈ lw_tbl ∧ goodWord w = true := rt_km (c := Cond.code ⟨"MarkHouseModel", "whence", "(III)I"⟩ prog_15_method_101_code 7 (some FieldType.int)) (i := .initialized "MarkHouseModel") 14 57 1 18 rfl rfl rfl rfl rfl
theorem rt_k116 : ∀ w ∈ rt_mw rt_m116, w ∈ lw_tbl ∧ goodWord w = true := rt_km (c := Cond.code ⟨"MarkHouseModel", "ask", "(IIII)I"⟩ prog_15_method_102_code 6 (some FieldType.int)) (i := .initialized "MarkHouseModel") 14 77 1 18 rfl rfl rfl rfl rfl
theorem rt_k117 : ∀ w ∈ rt_mw rt_m117, w ∈ lw_tbl ∧ goodWord w = true := rt_km (c := Cond.code ⟨"MarkHouseModel", "mark", "(III)I"⟩ prog_15_method_103_code 6 (some FieldType.int)) (i := .initialized "MarkHouseModel") 14 94 1 18 rfl rfl rfl rfl rfl
theorem rt_k118 : ∀ w ∈ rt_mw rt_m118, w ∈ lw_tbl ∧ goodWord w = true := rt_km (c := Cond.code ⟨"MarkHouseModel", "size", "(II)I"⟩ prog_15_method_104_code 3 (some FieldType.int)) (i := .initialized "MarkHouseModel") 14 98 1 18 rfl rfl rfl rfl rfl
theorem rt_k119 : ∀ w ∈ rt_mw rt_m119, w ∈ lw_tbl ∧ goodWord w = true := rt_km (c := Cond.code ⟨"MarkHouseModel", "isOrder", "(I)Z"⟩ prog_15_method_105_code 2 (some FieldType.boolean)) (i := .initialized "MarkHouseModel") 14 114 1 18 rfl rfl rfl rfl rfl
theorem rt_k120 : ∀ w ∈ rt_mw rt_m120, w ∈ lw_tbl ∧ goodWord w = true := rt_km (c := Cond.code ⟨"MarkHouseModel", "order", "(IIII)I"⟩ prog_15_method_106_code 5 (some FieldType.int)) (i := .initialized "MarkHouseModel") 14 110 1 18 rfl rfl rfl rfl rfl
theorem rt_k121 : ∀ w ∈ rt_mw rt_m121, w ∈ lw_tbl ∧ goodWord w = true := rt_km (c := Cond.code ⟨"MarkHouseModel", "give", "(I)I"⟩ prog_15_method_111_code 9 (some FieldType.int)) (i := .initialized "MarkHouseModel") 14 126 1 18 rfl rfl rfl rfl rfl
theorem rt_k122 : ∀ w ∈ rt_mw rt_m122, w ∈ lw_tbl ∧ goodWord w = true := rt_km (c := Cond.code ⟨"MarkHouseModel", "file", "(I)I"⟩ prog_15_method_114_code 7 (some FieldType.int)) (i := .initialized "MarkHouseModel") 14 150 1 18 rfl rfl rfl rfl rfl
theorem rt_k123 : ∀ w ∈ rt_mw rt_m123, w ∈ lw_tbl ∧ goodWord w = true := rt_km (c := Cond.code ⟨"MarkHouseModel", "tell", "()I"⟩ prog_15_method_125_code 2 (some FieldType.int)) (i := .initialized "MarkHouseModel") 14 161 1 18 rfl rfl rfl rfl rfl
theorem rt_k124 : ∀ w ∈ rt_mw rt_m124, w ∈ lw_tbl ∧ goodWord w = true := rt_km (c := Cond.code ⟨"MarkHouseModel", "rounds", "()I"⟩ prog_15_method_126_code 7 (some FieldType.int)) (i := .initialized "MarkHouseModel") 15 9 1 18 rfl rfl rfl rfl rfl
theorem rt_k125 : ∀ w ∈ rt_mw rt_m125, w ∈ lw_tbl ∧ goodWord w = true := rt_km (c := Cond.code ⟨"MarkHouseModel", "markOf", "(II)I"⟩ prog_15_method_128_code 3 (some FieldType.int)) (i := .initialized "MarkHouseModel") 15 13 1 18 rfl rfl rfl rfl rfl
theorem rt_k126 : ∀ w ∈ rt_mw rt_m126, w ∈ lw_tbl ∧ goodWord w = true := rt_km (c := Cond.code ⟨"MarkHouseModel", "flow", "(I)I"⟩ prog_15_method_140_code 2 (some FieldType.int)) (i := .initialized "MarkHouseModel") 15 25 1 18 rfl rfl rfl rfl rfl
theorem rt_k127 : ∀ w ∈ rt_mw rt_m127, w ∈ lw_tbl ∧ goodWord w = true := rt_km (c := Cond.code ⟨"MarkHouseModel", "error", "(II)I"⟩ prog_15_method_141_code 3 (some FieldType.int)) (i := .initialized "MarkHouseModel") 15 72 1 18 rfl rfl rfl rfl rfl
theorem rt_inr7 : ∀ w ∈ rt_r7.flatMap rt_mw, w ∈ lw_tbl ∧ goodWord w = true := by
  intro w hw
  obtain ⟨M, hM, hw⟩ := List.mem_flatMap.mp hw
  simp only [rt_r7, List.mem_cons, List.not_mem_nil, or_false] at hM
  rcases hM with rfl | rfl | rfl | rfl | rfl | rfl | rfl | rfl | rfl | rfl | rfl | rfl | rfl | rfl | rfl | rfl
  · exact rt_k112 w hw
  · exact rt_k113 w hw
  · exact rt_k114 w hw
  · exact rt_k115 w hw
  · exact rt_k116 w hw
  · exact rt_k117 w hw
  · exact rt_k118 w hw
  · exact rt_k119 w hw
  · exact rt_k120 w hw
  · exact rt_k121 w hw
  · exact rt_k122 w hw
  · exact rt_k123 w hw
  · exact rt_k124 w hw
  · exact rt_k125 w hw
  · exact rt_k126 w hw
  · exact rt_k127 w hw
theorem rt_k128 : ∀ w ∈ rt_mw rt_m128, w ∈ lw_tbl ∧ goodWord w = true := rt_km (c := Cond.code ⟨"MarkHouseModel", "state", "(III)I"⟩ prog_15_method_142_code 6 (some FieldType.int)) (i := .initialized "MarkHouseModel") 15 76 1 18 rfl rfl rfl rfl rfl
theorem rt_k129 : ∀ w ∈ rt_mw rt_m129, w ∈ lw_tbl ∧ goodWord w = true := rt_km (c := Cond.code ⟨"MarkHouseModel", "way", "(I)I"⟩ prog_15_method_144_code 8 (some FieldType.int)) (i := .initialized "MarkHouseModel") 15 80 1 18 rfl rfl rfl rfl rfl
theorem rt_k130 : ∀ w ∈ rt_mw rt_m130, w ∈ lw_tbl ∧ goodWord w = true := rt_km (c := Cond.code ⟨"MarkHouseModel", "step", "(I)I"⟩ prog_15_method_146_code 2 (some FieldType.int)) (i := .initialized "MarkHouseModel") 15 92 1 18 rfl rfl rfl rfl rfl
theorem rt_k131 : ∀ w ∈ rt_mw rt_m131, w ∈ lw_tbl ∧ goodWord w = true := rt_km (c := Cond.code ⟨"MarkHouseModel", "find", "(I)I"⟩ prog_15_method_147_code 9 (some FieldType.int)) (i := .initialized "MarkHouseModel") 15 96 1 18 rfl rfl rfl rfl rfl
theorem rt_k132 : ∀ w ∈ rt_mw rt_m132, w ∈ lw_tbl ∧ goodWord w = true := rt_km (c := Cond.code ⟨"MarkHouseModel", "plain", "(I)Z"⟩ prog_15_method_148_code 3 (some FieldType.boolean)) (i := .initialized "MarkHouseModel") 15 100 1 18 rfl rfl rfl rfl rfl
theorem rt_k133 : ∀ w ∈ rt_mw rt_m133, w ∈ lw_tbl ∧ goodWord w = true := rt_km (c := Cond.code ⟨"MarkHouseModel", "changed", "()V"⟩ prog_15_method_149_code 1 none) (i := .initialized "MarkHouseModel") 12 239 1 18 rfl rfl rfl rfl rfl
theorem rt_k134 : ∀ w ∈ rt_mw rt_m134, w ∈ lw_tbl ∧ goodWord w = true := rt_km (c := Cond.code ⟨"MarkHouseModel", "weave", "()I"⟩ prog_15_method_151_code 4 (some FieldType.int)) (i := .initialized "MarkHouseModel") 15 104 1 18 rfl rfl rfl rfl rfl
theorem rt_k135 : ∀ w ∈ rt_mw rt_m135, w ∈ lw_tbl ∧ goodWord w = true := rt_km (c := Cond.code ⟨"MarkHouseModel", "code", "(IZ)I"⟩ prog_15_method_154_code 8 (some FieldType.int)) (i := .initialized "MarkHouseModel") 15 111 1 18 rfl rfl rfl rfl rfl
theorem rt_k136 : ∀ w ∈ rt_mw rt_m136, w ∈ lw_tbl ∧ goodWord w = true := rt_km (c := Cond.code ⟨"MarkHouseModel", "argument", "(II)Z"⟩ prog_15_method_155_code 3 (some FieldType.boolean)) (i := .initialized "MarkHouseModel") 15 116 1 18 rfl rfl rfl rfl rfl
theorem rt_k137 : ∀ w ∈ rt_mw rt_m137, w ∈ lw_tbl ∧ goodWord w = true := rt_km (c := Cond.code ⟨"MarkHouseModel", "input", "(I)I"⟩ prog_15_method_156_code 2 (some FieldType.int)) (i := .initialized "MarkHouseModel") 15 120 1 18 rfl rfl rfl rfl rfl
theorem rt_k138 : ∀ w ∈ rt_mw rt_m138, w ∈ lw_tbl ∧ goodWord w = true := rt_km (c := Cond.code ⟨"MarkHouseModel", "plain", "(II)V"⟩ prog_15_method_158_code 4 none) (i := .initialized "MarkHouseModel") 15 132 1 18 rfl rfl rfl rfl rfl
theorem rt_k139 : ∀ w ∈ rt_mw rt_m139, w ∈ lw_tbl ∧ goodWord w = true := rt_km (c := Cond.code ⟨"MarkHouseModel", "begin", "(IZ)V"⟩ prog_15_method_160_code 5 none) (i := .initialized "MarkHouseModel") 15 124 1 18 rfl rfl rfl rfl rfl
theorem rt_k140 : ∀ w ∈ rt_mw rt_m140, w ∈ lw_tbl ∧ goodWord w = true := rt_km (c := Cond.code ⟨"MarkHouseModel", "go", "(I)I"⟩ prog_15_method_161_code 5 (some FieldType.int)) (i := .initialized "MarkHouseModel") 15 136 1 18 rfl rfl rfl rfl rfl
theorem rt_k141 : ∀ w ∈ rt_mw rt_m141, w ∈ lw_tbl ∧ goodWord w = true := rt_km (c := Cond.code ⟨"MarkHouseModel", "run", "(I)I"⟩ prog_15_method_168_code 3 (some FieldType.int)) (i := .initialized "MarkHouseModel") 15 168 1 18 rfl rfl rfl rfl rfl
theorem rt_k142 : ∀ w ∈ rt_mw rt_m142, w ∈ lw_tbl ∧ goodWord w = true := rt_km (c := Cond.code ⟨"MarkHouseModel", "truth", "(I)I"⟩ prog_15_method_169_code 2 (some FieldType.int)) (i := .initialized "MarkHouseModel") 15 172 1 18 rfl rfl rfl rfl rfl
theorem rt_k143 : ∀ w ∈ rt_mw rt_m143, w ∈ lw_tbl ∧ goodWord w = true := rt_km (c := Cond.code ⟨"MarkHouseModel", "wire", "()I"⟩ prog_15_method_174_code 3 (some FieldType.int)) (i := .initialized "MarkHouseModel") 15 176 1 18 rfl rfl rfl rfl rfl
theorem rt_inr8 : ∀ w ∈ rt_r8.flatMap rt_mw, w ∈ lw_tbl ∧ goodWord w = true := by
  intro w hw
  obtain ⟨M, hM, hw⟩ := List.mem_flatMap.mp hw
  simp only [rt_r8, List.mem_cons, List.not_mem_nil, or_false] at hM
  rcases hM with rfl | rfl | rfl | rfl | rfl | rfl | rfl | rfl | rfl | rfl | rfl | rfl | rfl | rfl | rfl | rfl
  · exact rt_k128 w hw
  · exact rt_k129 w hw
  · exact rt_k130 w hw
  · exact rt_k131 w hw
  · exact rt_k132 w hw
  · exact rt_k133 w hw
  · exact rt_k134 w hw
  · exact rt_k135 w hw
  · exact rt_k136 w hw
  · exact rt_k137 w hw
  · exact rt_k138 w hw
  · exact rt_k139 w hw
  · exact rt_k140 w hw
  · exact rt_k141 w hw
  · exact rt_k142 w hw
  · exact rt_k143 w hw
theorem rt_k144 : ∀ w ∈ rt_mw rt_m144, w ∈ lw_tbl ∧ goodWord w = true := rt_km (c := Cond.code ⟨"MarkHouseModel", "wired", "(I)I"⟩ prog_15_method_178_code 2 (some FieldType.int)) (i := .initialized "MarkHouseModel") 15 213 1 18 rfl rfl rfl rfl rfl
theorem rt_k145 : ∀ w ∈ rt_mw rt_m145, w ∈ lw_tbl ∧ goodWord w = true := rt_km (c := Cond.code ⟨"java/lang/String", "length", "()I"⟩ prog_26_method_54_code 1 (some FieldType.int)) (i := .initialized "java/lang/String") 1 52 1 3 rfl rfl rfl rfl rfl
theorem rt_k146 : ∀ w ∈ rt_mw rt_m146, w ∈ lw_tbl ∧ goodWord w = true := rt_km (c := Cond.code ⟨"java/lang/String", "charAt", "(I)C"⟩ prog_26_method_56_code 2 (some FieldType.char)) (i := .initialized "java/lang/String") 1 62 1 3 rfl rfl rfl rfl rfl
theorem rt_k147 : ∀ w ∈ rt_mw rt_m147, w ∈ lw_tbl ∧ goodWord w = true := rt_km (c := Cond.code ⟨"java/lang/String", "coder", "()B"⟩ prog_26_method_152_code 1 (some FieldType.byte)) (i := .initialized "java/lang/String") 1 56 1 3 rfl rfl rfl rfl rfl
theorem rt_k148 : ∀ w ∈ rt_mw rt_m148, w ∈ lw_tbl ∧ goodWord w = true := rt_km (c := Cond.code ⟨"java/lang/String", "isLatin1", "()Z"⟩ prog_26_method_154_code 1 (some FieldType.boolean)) (i := .initialized "java/lang/String") 1 66 1 3 rfl rfl rfl rfl rfl
theorem rt_k149 : ∀ w ∈ rt_mw rt_m149, w ∈ lw_tbl ∧ goodWord w = true := rt_km (c := Cond.code ⟨"java/lang/String", "checkIndex", "(II)V"⟩ prog_26_method_155_code 2 none) (i := .initialized "java/lang/String") 1 72 1 3 rfl rfl rfl rfl rfl
theorem rt_k150 : ∀ w ∈ rt_mw rt_m150, w ∈ lw_tbl ∧ goodWord w = true := rt_km (c := Cond.code ⟨"java/lang/StringLatin1", "charAt", "([BI)C"⟩ prog_28_method_2_code 2 (some FieldType.char)) (i := .initialized "java/lang/StringLatin1") 1 69 1 4 rfl rfl rfl rfl rfl
theorem rt_k151 : ∀ w ∈ rt_mw rt_m151, w ∈ lw_tbl ∧ goodWord w = true := rt_km (c := Cond.code ⟨"java/util/Arrays", "rangeCheck", "(III)V"⟩ prog_32_method_30_code 3 none) (i := .initialized "java/util/Arrays") 5 164 1 19 rfl rfl rfl rfl rfl
theorem rt_k152 : ∀ w ∈ rt_mw rt_m152, w ∈ lw_tbl ∧ goodWord w = true := rt_km (c := Cond.code ⟨"java/util/Arrays", "fill", "([JIIJ)V"⟩ prog_32_method_102_code 6 none) (i := .initialized "java/util/Arrays") 7 147 1 19 rfl rfl rfl rfl rfl
theorem rt_k153 : ∀ w ∈ rt_mw rt_m153, w ∈ lw_tbl ∧ goodWord w = true := rt_km (c := Cond.code ⟨"java/util/Arrays", "fill", "([II)V"⟩ prog_32_method_103_code 4 none) (i := .initialized "java/util/Arrays") 6 214 1 19 rfl rfl rfl rfl rfl
theorem rt_k154 : ∀ w ∈ rt_mw rt_m154, w ∈ lw_tbl ∧ goodWord w = true := rt_km (c := Cond.code ⟨"java/util/Arrays", "fill", "([IIII)V"⟩ prog_32_method_104_code 5 none) (i := .initialized "java/util/Arrays") 5 161 1 19 rfl rfl rfl rfl rfl
theorem rt_k155 : ∀ w ∈ rt_mw rt_m155, w ∈ lw_tbl ∧ goodWord w = true := rt_km (c := Cond.code ⟨"jdk/internal/util/Preconditions", "checkIndex", "(IILjava/util/function/BiFunction;)I"⟩ prog_35_method_11_code 3 (some FieldType.int)) (i := .initialized "jdk/internal/util/Preconditions") 1 77 1 5 rfl rfl rfl rfl rfl
theorem rt_inr9 : ∀ w ∈ rt_r9.flatMap rt_mw, w ∈ lw_tbl ∧ goodWord w = true := by
  intro w hw
  obtain ⟨M, hM, hw⟩ := List.mem_flatMap.mp hw
  simp only [rt_r9, List.mem_cons, List.not_mem_nil, or_false] at hM
  rcases hM with rfl | rfl | rfl | rfl | rfl | rfl | rfl | rfl | rfl | rfl | rfl | rfl
  · exact rt_k144 w hw
  · exact rt_k145 w hw
  · exact rt_k146 w hw
  · exact rt_k147 w hw
  · exact rt_k148 w hw
  · exact rt_k149 w hw
  · exact rt_k150 w hw
  · exact rt_k151 w hw
  · exact rt_k152 w hw
  · exact rt_k153 w hw
  · exact rt_k154 w hw
  · exact rt_k155 w hw
def rt_fx : List Cond := [.arrayClass .int, .arrayClass .long, .arrayClass .byte, .arrayClass .boolean, .instanceMethod Lib.objectInit, .code Lib.objectInit ⟨#[0xb1]⟩ 1 none, .initialized "java/lang/IllegalArgumentException", .initialized "java/lang/IllegalStateException", .classLink "MarkHouseLaw" 13 "java/lang/IllegalArgumentException", .classLink "MarkHouseLaw" 19 "java/lang/IllegalStateException", .classLink "MarkHouseLaw" 21 "java/util/NoSuchElementException", .classLink "MarkHouse$Reader" 65 "java/lang/IllegalArgumentException", .classLink "MarkHouse" 338 "java/lang/IllegalStateException", .classLink "MarkHouse" 354 "java/lang/IllegalArgumentException", .fieldLink "java/lang/String" 38 "java/lang/String" "COMPACT_STRINGS" "Z", .fieldLink "java/lang/String" 1053 "jdk/internal/util/Preconditions" "SIOOBE_FORMATTER" "Ljava/util/function/BiFunction;"]
set_option maxRecDepth 100000 in
theorem rt_infx : ∀ w ∈ rt_fx, w ∈ lw_tbl ∧ goodWord w = true := rt_in [(1, 131), (1, 132), (1, 130), (2, 14), (1, 40), (1, 41), (1, 23), (1, 32), (8, 202), (10, 98), (10, 99), (9, 66), (10, 104), (10, 155), (1, 57), (1, 73)] (by decide +kernel) (by decide +kernel)
set_option maxRecDepth 100000 in
theorem rt_inl0 : ∀ w ∈ u_ws RJ0 TJ0 4, w ∈ lw_tbl ∧ goodWord w = true := rt_in [(6, 199), (6, 201), (6, 203), (6, 205)] (by decide +kernel) (by decide +kernel)
set_option maxRecDepth 100000 in
theorem rt_inl1 : ∀ w ∈ u_ws RJ4 TJ4 4, w ∈ lw_tbl ∧ goodWord w = true := rt_in [(5, 227), (5, 229), (5, 231), (5, 233)] (by decide +kernel) (by decide +kernel)
set_option maxRecDepth 100000 in
theorem rt_inl2 : ∀ w ∈ u_ws RX0 TX0 20, w ∈ lw_tbl ∧ goodWord w = true := rt_in [(2, 190), (2, 192), (2, 194), (2, 196), (2, 198), (2, 200), (2, 202), (2, 204), (2, 206), (2, 208), (2, 210), (2, 212), (2, 214), (2, 216), (2, 218), (2, 220), (2, 222), (2, 224), (2, 226), (2, 228)] (by decide +kernel) (by decide +kernel)
set_option maxRecDepth 100000 in
theorem rt_inl3 : ∀ w ∈ u_ws RX1 TX1 8, w ∈ lw_tbl ∧ goodWord w = true := rt_in [(1, 113), (1, 115), (1, 117), (1, 119), (1, 121), (1, 123), (1, 125), (1, 127)] (by decide +kernel) (by decide +kernel)
set_option maxRecDepth 100000 in
theorem rt_inl4 : ∀ w ∈ u_ws RX2 TX2 10, w ∈ lw_tbl ∧ goodWord w = true := rt_in [(3, 130), (3, 132), (3, 134), (3, 136), (3, 138), (3, 140), (3, 142), (3, 144), (3, 146), (3, 148)] (by decide +kernel) (by decide +kernel)
set_option maxRecDepth 100000 in
theorem rt_inl5 : ∀ w ∈ u_ws RX3 TX3 17, w ∈ lw_tbl ∧ goodWord w = true := rt_in [(3, 178), (3, 180), (3, 182), (3, 184), (3, 186), (3, 188), (3, 190), (3, 192), (3, 194), (3, 196), (3, 198), (3, 200), (3, 202), (3, 204), (3, 206), (3, 208), (3, 210)] (by decide +kernel) (by decide +kernel)
set_option maxRecDepth 100000 in
theorem rt_inl6 : ∀ w ∈ u_ws RX4 TX4 10, w ∈ lw_tbl ∧ goodWord w = true := rt_in [(1, 233), (1, 235), (1, 237), (1, 239), (2, 1), (2, 3), (2, 5), (2, 7), (2, 9), (2, 11)] (by decide +kernel) (by decide +kernel)
set_option maxRecDepth 100000 in
theorem rt_inl7 : ∀ w ∈ u_ws RX5 TX5 14, w ∈ lw_tbl ∧ goodWord w = true := rt_in [(3, 36), (3, 38), (3, 40), (3, 42), (3, 44), (3, 46), (3, 48), (3, 50), (3, 52), (3, 54), (3, 56), (3, 58), (3, 60), (3, 62)] (by decide +kernel) (by decide +kernel)
set_option maxRecDepth 100000 in
theorem rt_inl8 : ∀ w ∈ u_ws RX6 TX6 9, w ∈ lw_tbl ∧ goodWord w = true := rt_in [(1, 171), (1, 173), (1, 175), (1, 177), (1, 179), (1, 181), (1, 183), (1, 185), (1, 187)] (by decide +kernel) (by decide +kernel)
set_option maxRecDepth 100000 in
theorem rt_inl9 : ∀ w ∈ u_ws RX7 TX7 15, w ∈ lw_tbl ∧ goodWord w = true := rt_in [(2, 82), (2, 84), (2, 86), (2, 88), (2, 90), (2, 92), (2, 94), (2, 96), (2, 98), (2, 100), (2, 102), (2, 104), (2, 106), (2, 108), (2, 110)] (by decide +kernel) (by decide +kernel)
set_option maxRecDepth 100000 in
theorem rt_inl10 : ∀ w ∈ u_ws RX8 TX8 12, w ∈ lw_tbl ∧ goodWord w = true := rt_in [(3, 86), (3, 88), (3, 90), (3, 92), (3, 94), (3, 96), (3, 98), (3, 100), (3, 102), (3, 104), (3, 106), (3, 108)] (by decide +kernel) (by decide +kernel)
set_option maxRecDepth 100000 in
theorem rt_inl11 : ∀ w ∈ u_ws RX9 TX9 15, w ∈ lw_tbl ∧ goodWord w = true := rt_in [(3, 235), (3, 237), (3, 239), (4, 1), (4, 3), (4, 5), (4, 7), (4, 9), (4, 11), (4, 13), (4, 15), (4, 17), (4, 19), (4, 21), (4, 23)] (by decide +kernel) (by decide +kernel)
set_option maxRecDepth 100000 in
theorem rt_inl12 : ∀ w ∈ u_ws RX10 TX10 7, w ∈ lw_tbl ∧ goodWord w = true := rt_in [(4, 78), (4, 80), (4, 82), (4, 84), (4, 86), (4, 88), (4, 90)] (by decide +kernel) (by decide +kernel)
set_option maxRecDepth 100000 in
theorem rt_inl13 : ∀ w ∈ u_ws RX11 TX11 10, w ∈ lw_tbl ∧ goodWord w = true := rt_in [(4, 42), (4, 44), (4, 46), (4, 48), (4, 50), (4, 52), (4, 54), (4, 56), (4, 58), (4, 60)] (by decide +kernel) (by decide +kernel)
set_option maxRecDepth 100000 in
theorem rt_inl14 : ∀ w ∈ u_ws RX12 TX12 10, w ∈ lw_tbl ∧ goodWord w = true := rt_in [(4, 103), (4, 105), (4, 107), (4, 109), (4, 111), (4, 113), (4, 115), (4, 117), (4, 119), (4, 121)] (by decide +kernel) (by decide +kernel)
set_option maxRecDepth 100000 in
theorem rt_inl15 : ∀ w ∈ u_ws RX13 TX13 140, w ∈ lw_tbl ∧ goodWord w = true := rt_in [(11, 171), (11, 173), (11, 175), (11, 177), (11, 179), (11, 181), (11, 183), (11, 185), (11, 187), (11, 189), (11, 191), (11, 193), (11, 195), (11, 197), (11, 199), (11, 201), (11, 203), (11, 205), (11, 207), (11, 209), (11, 211), (11, 213), (11, 215), (11, 217), (11, 219), (11, 221), (11, 223), (11, 225), (11, 227), (11, 229), (11, 231), (11, 233), (11, 235), (11, 237), (11, 239), (12, 1), (12, 3), (12, 5), (12, 7), (12, 9), (12, 11), (12, 13), (12, 15), (12, 17), (12, 19), (12, 21), (12, 23), (12, 25), (12, 27), (12, 29), (12, 31), (12, 33), (12, 35), (12, 37), (12, 39), (12, 41), (12, 43), (12, 45), (12, 47), (12, 49), (12, 51), (12, 53), (12, 55), (12, 57), (12, 59), (12, 61), (12, 63), (12, 65), (12, 67), (12, 69), (12, 71), (12, 73), (12, 75), (12, 77), (12, 79), (12, 81), (12, 83), (12, 85), (12, 87), (12, 89), (12, 91), (12, 93), (12, 95), (12, 97), (12, 99), (12, 101), (12, 103), (12, 105), (12, 107), (12, 109), (12, 111), (12, 113), (12, 115), (12, 117), (12, 119), (12, 121), (12, 123), (12, 125), (12, 127), (12, 129), (12, 131), (12, 133), (12, 135), (12, 137), (12, 139), (12, 141), (12, 143), (12, 145), (12, 147), (12, 149), (12, 151), (12, 153), (12, 155), (12, 157), (12, 159), (12, 161), (12, 163), (12, 165), (12, 167), (12, 169), (12, 171), (12, 173), (12, 175), (12, 177), (12, 179), (12, 181), (12, 183), (12, 185), (12, 187), (12, 189), (12, 191), (12, 193), (12, 195), (12, 197), (12, 199), (12, 201), (12, 203), (12, 205), (12, 207), (12, 209)] (by decide +kernel) (by decide +kernel)
def rt_xw0 : List Cond := (vx_atS "MarkHouse$Reader" 69 "java/lang/IllegalArgumentException" ["java/lang/RuntimeException", "java/lang/Exception"]).filter goodWord
set_option maxRecDepth 100000 in
theorem rt_inx0 : ∀ w ∈ rt_xw0, w ∈ lw_tbl ∧ goodWord w = true := by
  have h : rt_xw0.all (fun w => (List.range 16).any (fun a => decide (w ∈ rt_tb a))) = true := by decide +kernel
  intro w hw
  obtain ⟨a, -, ha⟩ := List.any_eq_true.mp (List.all_eq_true.mp h w hw)
  exact ⟨rt_tb_in (of_decide_eq_true ha), (List.mem_filter.mp hw).2⟩
def rt_xw1 : List Cond := (vx_atS "MarkHouse" 342 "java/lang/IllegalStateException" ["java/lang/RuntimeException", "java/lang/Exception"]).filter goodWord
set_option maxRecDepth 100000 in
theorem rt_inx1 : ∀ w ∈ rt_xw1, w ∈ lw_tbl ∧ goodWord w = true := by
  have h : rt_xw1.all (fun w => (List.range 16).any (fun a => decide (w ∈ rt_tb a))) = true := by decide +kernel
  intro w hw
  obtain ⟨a, -, ha⟩ := List.any_eq_true.mp (List.all_eq_true.mp h w hw)
  exact ⟨rt_tb_in (of_decide_eq_true ha), (List.mem_filter.mp hw).2⟩
def rt_xw2 : List Cond := (vx_atS "MarkHouse" 358 "java/lang/IllegalArgumentException" ["java/lang/RuntimeException", "java/lang/Exception"]).filter goodWord
set_option maxRecDepth 100000 in
theorem rt_inx2 : ∀ w ∈ rt_xw2, w ∈ lw_tbl ∧ goodWord w = true := by
  have h : rt_xw2.all (fun w => (List.range 16).any (fun a => decide (w ∈ rt_tb a))) = true := by decide +kernel
  intro w hw
  obtain ⟨a, -, ha⟩ := List.any_eq_true.mp (List.all_eq_true.mp h w hw)
  exact ⟨rt_tb_in (of_decide_eq_true ha), (List.mem_filter.mp hw).2⟩
/-- the words that all methods share -/
def rx_TT : List Cond := rt_CT.flatMap rt_cw ++ (rt_MS.flatMap (fun r => r.flatMap rt_mw) ++ (rt_fx ++ (u_ws RJ0 TJ0 4 ++ (u_ws RJ4 TJ4 4 ++ (u_ws RX0 TX0 20 ++ (u_ws RX1 TX1 8 ++ (u_ws RX2 TX2 10 ++ (u_ws RX3 TX3 17 ++ (u_ws RX4 TX4 10 ++ (u_ws RX5 TX5 14 ++ (u_ws RX6 TX6 9 ++ (u_ws RX7 TX7 15 ++ (u_ws RX8 TX8 12 ++ (u_ws RX9 TX9 15 ++ (u_ws RX10 TX10 7 ++ (u_ws RX11 TX11 10 ++ (u_ws RX12 TX12 10 ++ (u_ws RX13 TX13 140 ++ (rt_xw0 ++ (rt_xw1 ++ (rt_xw2)))))))))))))))))))))
theorem rx_TT_0 {w : Cond} (h : w ∈ rt_CT.flatMap rt_cw) : w ∈ rx_TT := List.mem_append_left _ h
theorem rx_TT_1 {w : Cond} (h : w ∈ rt_MS.flatMap (fun r => r.flatMap rt_mw)) : w ∈ rx_TT := List.mem_append_right _ (List.mem_append_left _ h)
theorem rx_TT_2 {w : Cond} (h : w ∈ rt_fx) : w ∈ rx_TT := List.mem_append_right _ (List.mem_append_right _ (List.mem_append_left _ h))
theorem rx_TT_3 {w : Cond} (h : w ∈ u_ws RJ0 TJ0 4) : w ∈ rx_TT := List.mem_append_right _ (List.mem_append_right _ (List.mem_append_right _ (List.mem_append_left _ h)))
theorem rx_TT_4 {w : Cond} (h : w ∈ u_ws RJ4 TJ4 4) : w ∈ rx_TT := List.mem_append_right _ (List.mem_append_right _ (List.mem_append_right _ (List.mem_append_right _ (List.mem_append_left _ h))))
theorem rx_TT_5 {w : Cond} (h : w ∈ u_ws RX0 TX0 20) : w ∈ rx_TT := List.mem_append_right _ (List.mem_append_right _ (List.mem_append_right _ (List.mem_append_right _ (List.mem_append_right _ (List.mem_append_left _ h)))))
theorem rx_TT_6 {w : Cond} (h : w ∈ u_ws RX1 TX1 8) : w ∈ rx_TT := List.mem_append_right _ (List.mem_append_right _ (List.mem_append_right _ (List.mem_append_right _ (List.mem_append_right _ (List.mem_append_right _ (List.mem_append_left _ h))))))
theorem rx_TT_7 {w : Cond} (h : w ∈ u_ws RX2 TX2 10) : w ∈ rx_TT := List.mem_append_right _ (List.mem_append_right _ (List.mem_append_right _ (List.mem_append_right _ (List.mem_append_right _ (List.mem_append_right _ (List.mem_append_right _ (List.mem_append_left _ h)))))))
theorem rx_TT_8 {w : Cond} (h : w ∈ u_ws RX3 TX3 17) : w ∈ rx_TT := List.mem_append_right _ (List.mem_append_right _ (List.mem_append_right _ (List.mem_append_right _ (List.mem_append_right _ (List.mem_append_right _ (List.mem_append_right _ (List.mem_append_right _ (List.mem_append_left _ h))))))))
theorem rx_TT_9 {w : Cond} (h : w ∈ u_ws RX4 TX4 10) : w ∈ rx_TT := List.mem_append_right _ (List.mem_append_right _ (List.mem_append_right _ (List.mem_append_right _ (List.mem_append_right _ (List.mem_append_right _ (List.mem_append_right _ (List.mem_append_right _ (List.mem_append_right _ (List.mem_append_left _ h)))))))))
theorem rx_TT_10 {w : Cond} (h : w ∈ u_ws RX5 TX5 14) : w ∈ rx_TT := List.mem_append_right _ (List.mem_append_right _ (List.mem_append_right _ (List.mem_append_right _ (List.mem_append_right _ (List.mem_append_right _ (List.mem_append_right _ (List.mem_append_right _ (List.mem_append_right _ (List.mem_append_right _ (List.mem_append_left _ h))))))))))
theorem rx_TT_11 {w : Cond} (h : w ∈ u_ws RX6 TX6 9) : w ∈ rx_TT := List.mem_append_right _ (List.mem_append_right _ (List.mem_append_right _ (List.mem_append_right _ (List.mem_append_right _ (List.mem_append_right _ (List.mem_append_right _ (List.mem_append_right _ (List.mem_append_right _ (List.mem_append_right _ (List.mem_append_right _ (List.mem_append_left _ h)))))))))))
theorem rx_TT_12 {w : Cond} (h : w ∈ u_ws RX7 TX7 15) : w ∈ rx_TT := List.mem_append_right _ (List.mem_append_right _ (List.mem_append_right _ (List.mem_append_right _ (List.mem_append_right _ (List.mem_append_right _ (List.mem_append_right _ (List.mem_append_right _ (List.mem_append_right _ (List.mem_append_right _ (List.mem_append_right _ (List.mem_append_right _ (List.mem_append_left _ h))))))))))))
theorem rx_TT_13 {w : Cond} (h : w ∈ u_ws RX8 TX8 12) : w ∈ rx_TT := List.mem_append_right _ (List.mem_append_right _ (List.mem_append_right _ (List.mem_append_right _ (List.mem_append_right _ (List.mem_append_right _ (List.mem_append_right _ (List.mem_append_right _ (List.mem_append_right _ (List.mem_append_right _ (List.mem_append_right _ (List.mem_append_right _ (List.mem_append_right _ (List.mem_append_left _ h)))))))))))))
theorem rx_TT_14 {w : Cond} (h : w ∈ u_ws RX9 TX9 15) : w ∈ rx_TT := List.mem_append_right _ (List.mem_append_right _ (List.mem_append_right _ (List.mem_append_right _ (List.mem_append_right _ (List.mem_append_right _ (List.mem_append_right _ (List.mem_append_right _ (List.mem_append_right _ (List.mem_append_right _ (List.mem_append_right _ (List.mem_append_right _ (List.mem_append_right _ (List.mem_append_right _ (List.mem_append_left _ h))))))))))))))
theorem rx_TT_15 {w : Cond} (h : w ∈ u_ws RX10 TX10 7) : w ∈ rx_TT := List.mem_append_right _ (List.mem_append_right _ (List.mem_append_right _ (List.mem_append_right _ (List.mem_append_right _ (List.mem_append_right _ (List.mem_append_right _ (List.mem_append_right _ (List.mem_append_right _ (List.mem_append_right _ (List.mem_append_right _ (List.mem_append_right _ (List.mem_append_right _ (List.mem_append_right _ (List.mem_append_right _ (List.mem_append_left _ h)))))))))))))))
theorem rx_TT_16 {w : Cond} (h : w ∈ u_ws RX11 TX11 10) : w ∈ rx_TT := List.mem_append_right _ (List.mem_append_right _ (List.mem_append_right _ (List.mem_append_right _ (List.mem_append_right _ (List.mem_append_right _ (List.mem_append_right _ (List.mem_append_right _ (List.mem_append_right _ (List.mem_append_right _ (List.mem_append_right _ (List.mem_append_right _ (List.mem_append_right _ (List.mem_append_right _ (List.mem_append_right _ (List.mem_append_right _ (List.mem_append_left _ h))))))))))))))))
theorem rx_TT_17 {w : Cond} (h : w ∈ u_ws RX12 TX12 10) : w ∈ rx_TT := List.mem_append_right _ (List.mem_append_right _ (List.mem_append_right _ (List.mem_append_right _ (List.mem_append_right _ (List.mem_append_right _ (List.mem_append_right _ (List.mem_append_right _ (List.mem_append_right _ (List.mem_append_right _ (List.mem_append_right _ (List.mem_append_right _ (List.mem_append_right _ (List.mem_append_right _ (List.mem_append_right _ (List.mem_append_right _ (List.mem_append_right _ (List.mem_append_left _ h)))))))))))))))))
theorem rx_TT_18 {w : Cond} (h : w ∈ u_ws RX13 TX13 140) : w ∈ rx_TT := List.mem_append_right _ (List.mem_append_right _ (List.mem_append_right _ (List.mem_append_right _ (List.mem_append_right _ (List.mem_append_right _ (List.mem_append_right _ (List.mem_append_right _ (List.mem_append_right _ (List.mem_append_right _ (List.mem_append_right _ (List.mem_append_right _ (List.mem_append_right _ (List.mem_append_right _ (List.mem_append_right _ (List.mem_append_right _ (List.mem_append_right _ (List.mem_append_right _ (List.mem_append_left _ h))))))))))))))))))
theorem rx_TT_19 {w : Cond} (h : w ∈ rt_xw0) : w ∈ rx_TT := List.mem_append_right _ (List.mem_append_right _ (List.mem_append_right _ (List.mem_append_right _ (List.mem_append_right _ (List.mem_append_right _ (List.mem_append_right _ (List.mem_append_right _ (List.mem_append_right _ (List.mem_append_right _ (List.mem_append_right _ (List.mem_append_right _ (List.mem_append_right _ (List.mem_append_right _ (List.mem_append_right _ (List.mem_append_right _ (List.mem_append_right _ (List.mem_append_right _ (List.mem_append_right _ (List.mem_append_left _ h)))))))))))))))))))
theorem rx_TT_20 {w : Cond} (h : w ∈ rt_xw1) : w ∈ rx_TT := List.mem_append_right _ (List.mem_append_right _ (List.mem_append_right _ (List.mem_append_right _ (List.mem_append_right _ (List.mem_append_right _ (List.mem_append_right _ (List.mem_append_right _ (List.mem_append_right _ (List.mem_append_right _ (List.mem_append_right _ (List.mem_append_right _ (List.mem_append_right _ (List.mem_append_right _ (List.mem_append_right _ (List.mem_append_right _ (List.mem_append_right _ (List.mem_append_right _ (List.mem_append_right _ (List.mem_append_right _ (List.mem_append_left _ h))))))))))))))))))))
theorem rx_TT_21 {w : Cond} (h : w ∈ rt_xw2) : w ∈ rx_TT := List.mem_append_right _ (List.mem_append_right _ (List.mem_append_right _ (List.mem_append_right _ (List.mem_append_right _ (List.mem_append_right _ (List.mem_append_right _ (List.mem_append_right _ (List.mem_append_right _ (List.mem_append_right _ (List.mem_append_right _ (List.mem_append_right _ (List.mem_append_right _ (List.mem_append_right _ (List.mem_append_right _ (List.mem_append_right _ (List.mem_append_right _ (List.mem_append_right _ (List.mem_append_right _ (List.mem_append_right _ (List.mem_append_right _ (h)))))))))))))))))))))
theorem rx_TT_in : ∀ w ∈ rx_TT, w ∈ lw_tbl ∧ goodWord w = true := by
  intro w hw
  unfold rx_TT at hw
  simp only [List.mem_append] at hw
  rcases hw with hw | hw | hw | hw | hw | hw | hw | hw | hw | hw | hw | hw | hw | hw | hw | hw | hw | hw | hw | hw | hw | hw
  · obtain ⟨r, hr, hw⟩ := List.mem_flatMap.mp hw
    simp only [rt_CT, List.mem_cons, List.not_mem_nil, or_false] at hr
    rcases hr with rfl | rfl | rfl | rfl | rfl | rfl | rfl | rfl | rfl | rfl | rfl | rfl | rfl | rfl | rfl | rfl | rfl | rfl | rfl
    · exact rt_in0 w hw
    · exact rt_in1 w hw
    · exact rt_in2 w hw
    · exact rt_in3 w hw
    · exact rt_in4 w hw
    · exact rt_in5 w hw
    · exact rt_in6 w hw
    · exact rt_in7 w hw
    · exact rt_in8 w hw
    · exact rt_in9 w hw
    · exact rt_in10 w hw
    · exact rt_in11 w hw
    · exact rt_in12 w hw
    · exact rt_in13 w hw
    · exact rt_in14 w hw
    · exact rt_in15 w hw
    · exact rt_in16 w hw
    · exact rt_in17 w hw
    · exact rt_in18 w hw
  · obtain ⟨r, hr, hw⟩ := List.mem_flatMap.mp hw
    simp only [rt_MS, List.mem_cons, List.not_mem_nil, or_false] at hr
    rcases hr with rfl | rfl | rfl | rfl | rfl | rfl | rfl | rfl | rfl
    · exact rt_inr1 w hw
    · exact rt_inr2 w hw
    · exact rt_inr3 w hw
    · exact rt_inr4 w hw
    · exact rt_inr5 w hw
    · exact rt_inr6 w hw
    · exact rt_inr7 w hw
    · exact rt_inr8 w hw
    · exact rt_inr9 w hw
  · exact rt_infx w hw
  · exact rt_inl0 w hw
  · exact rt_inl1 w hw
  · exact rt_inl2 w hw
  · exact rt_inl3 w hw
  · exact rt_inl4 w hw
  · exact rt_inl5 w hw
  · exact rt_inl6 w hw
  · exact rt_inl7 w hw
  · exact rt_inl8 w hw
  · exact rt_inl9 w hw
  · exact rt_inl10 w hw
  · exact rt_inl11 w hw
  · exact rt_inl12 w hw
  · exact rt_inl13 w hw
  · exact rt_inl14 w hw
  · exact rt_inl15 w hw
  · exact rt_inx0 w hw
  · exact rt_inx1 w hw
  · exact rt_inx2 w hw
theorem rx_TT_good {w : Cond} (h : w ∈ rx_TT) : (w.onTables && w.keeps) = true ∨ ∃ ty, w = .arrayClass ty := good_of_word (rx_TT_in w h).2
end
section
/-! THE ABSTRACT MACHINE, part a: values, cells and worlds with addresses of their own; instructions that touch neither heap nor locals -/
/-- a value of the abstract machine as the machine's: its addresses are looked up -/
def rx_v (ad : Nat → Nat) : Value → Value
  | .ref k => .ref (ad k)
  | v => v
theorem rx_v_cat (ad : Nat → Nat) (v : Value) : (rx_v ad v).category = v.category := by cases v <;> rfl
def rx_len : Instr → Nat
  | .bipush _ => 2
  | .sipush _ => 3
  | .iload _ => 2
  | .lload _ => 2
  | .aload _ => 2
  | .istore _ => 2
  | .lstore _ => 2
  | .astore _ => 2
  | .iinc _ _ => 3
  | .ifCond _ _ => 3
  | .if_icmp _ _ => 3
  | .if_acmp _ _ => 3
  | .ifnull _ => 3
  | .ifnonnull _ => 3
  | .goto _ => 3
  | .getfield _ => 3
  | .putfield _ => 3
  | .getstatic _ => 3
  | .new _ => 3
  | .newarray _ => 2
  | .anewarray _ => 3
  | .ldc _ => 2
  | .ldc_w _ => 3
  | .ldc2_w _ => 3
  | .invokevirtual _ => 3
  | .invokespecial _ => 3
  | .invokestatic _ => 3
  | .checkcast _ => 3
  | _ => 1
/-- what touches the stack alone -/
def rx_pure (ins : Instr) (st : List Value) : Option (List Value) := match ins with
  | .iconst n => some (.int (Int32.ofInt n) :: st)
  | .bipush n => some (.int (Int8.ofInt n).toInt32 :: st)
  | .sipush n => some (.int (Int16.ofInt n).toInt32 :: st)
  | .lconst n => some (.long (Int64.ofNat (n : Nat)) :: st)
  | .aconst_null => some (.null :: st)
  | .iadd => match st with | .int y :: .int x :: r => some (.int (x + y) :: r) | _ => none
  | .isub => match st with | .int y :: .int x :: r => some (.int (x - y) :: r) | _ => none
  | .imul => match st with | .int y :: .int x :: r => some (.int (x * y) :: r) | _ => none
  | .iand => match st with | .int y :: .int x :: r => some (.int (x &&& y) :: r) | _ => none
  | .ior => match st with | .int y :: .int x :: r => some (.int (x ||| y) :: r) | _ => none
  | .ixor => match st with | .int y :: .int x :: r => some (.int (x ^^^ y) :: r) | _ => none
  | .idiv => match st with | .int y :: .int x :: r => if y = 0 then none else some (.int (x / y) :: r) | _ => none
  | .irem => match st with | .int y :: .int x :: r => if y = 0 then none else some (.int (x - x / y * y) :: r) | _ => none
  | .ineg => match st with | .int x :: r => some (.int (-x) :: r) | _ => none
  | .ladd => match st with | .long y :: .long x :: r => some (.long (x + y) :: r) | _ => none
  | .lsub => match st with | .long y :: .long x :: r => some (.long (x - y) :: r) | _ => none
  | .lmul => match st with | .long y :: .long x :: r => some (.long (x * y) :: r) | _ => none
  | .land => match st with | .long y :: .long x :: r => some (.long (x &&& y) :: r) | _ => none
  | .lor => match st with | .long y :: .long x :: r => some (.long (x ||| y) :: r) | _ => none
  | .lxor => match st with | .long y :: .long x :: r => some (.long (x ^^^ y) :: r) | _ => none
  | .ldiv => match st with | .long y :: .long x :: r => if y = 0 then none else some (.long (x / y) :: r) | _ => none
  | .lrem => match st with | .long y :: .long x :: r => if y = 0 then none else some (.long (x - x / y * y) :: r) | _ => none
  | .lneg => match st with | .long x :: r => some (.long (-x) :: r) | _ => none
  | .ishl => match st with | .int y :: .int x :: r => some (.int (x <<< (y &&& 31)) :: r) | _ => none
  | .ishr => match st with | .int y :: .int x :: r => some (.int (x >>> (y &&& 31)) :: r) | _ => none
  | .iushr => match st with | .int y :: .int x :: r => some (.int (x.toUInt32 >>> (y.toUInt32 &&& Int32.toUInt32 31)).toInt32 :: r) | _ => none
  | .lshl => match st with | .int y :: .long x :: r => some (.long (x <<< (y.toInt64 &&& 63)) :: r) | _ => none
  | .lshr => match st with | .int y :: .long x :: r => some (.long (x >>> (y.toInt64 &&& 63)) :: r) | _ => none
  | .lushr => match st with | .int y :: .long x :: r => some (.long (x.toUInt64 >>> (y.toInt64.toUInt64 &&& Int64.toUInt64 63)).toInt64 :: r) | _ => none
  | .i2l => match st with | .int x :: r => some (.long x.toInt64 :: r) | _ => none
  | .l2i => match st with | .long x :: r => some (.int x.toInt32 :: r) | _ => none
  | .i2b => match st with | .int x :: r => some (.int x.toInt8.toInt32 :: r) | _ => none
  | .i2s => match st with | .int x :: r => some (.int x.toInt16.toInt32 :: r) | _ => none
  | .i2c => match st with | .int x :: r => some (.int (x.toUInt32 % 65536).toInt32 :: r) | _ => none
  | .lcmp => match st with | .long y :: .long x :: r => some (.int (lg_cmp x y) :: r) | _ => none
  | .dup => match st with | a :: r => if a.category = 1 then some (a :: a :: r) else none | _ => none
  | .pop => match st with | a :: r => if a.category = 1 then some r else none | _ => none
  | .dup_x1 => match st with | a :: b :: r => if a.category = 1 ∧ b.category = 1 then some (a :: b :: a :: r) else none | _ => none
  | .dup_x2 => match st with | a :: b :: d :: r => if a.category = 1 ∧ b.category = 1 ∧ d.category = 1 then some (a :: b :: d :: a :: r) else none | _ => none
  | .dup2 => match st with | a :: b :: r => if a.category = 1 ∧ b.category = 1 then some (a :: b :: a :: b :: r) else none | _ => none
  | _ => none
section RXA
variable {p : Program} {l : Launch} {e : Env} {R : Room} {s : State} {m : MethodId} {args : Array Value} {below : List Frame} {meth : Method} {c : Code} {H : Heap} {locs : List Loc} {cells slots : Nat} {Q : State → Prop}
set_option maxHeartbeats 4000000 in
theorem rx_pure_ok {cc : ByteArray} {pc : Nat} {ls : Array Slot} {ad : Nat → Nat} {ins : Instr} {st st' : List Value} (h : rx_pure ins st = some st') (hx : p.tables.exec = Jvm.exec) (hb : c.code = cc) (hd : decode cc pc = .ok (ins, rx_len ins))
    (k : W p l e R s m args below meth c H locs cells slots Q (F0 m (pc + rx_len ins) ls (st'.map (rx_v ad)))) : W p l e R s m args below meth c H locs cells slots Q (F0 m pc ls (st.map (rx_v ad))) := by
  unfold rx_pure at h
  split at h
  · cases h; exact lv_iconst hx hb hd rfl k
  · cases h; exact lv_bipush hx hb hd rfl k
  · cases h; exact lv_sipush hx hb hd rfl k
  · cases h; exact lv_lconst hx hb hd rfl k
  · cases h; exact lv_null hx hb hd k
  · split at h <;> cases h; exact lv_iadd hx hb hd k
  · split at h <;> cases h; exact lv_isub hx hb hd k
  · split at h <;> cases h; exact lv_imul hx hb hd k
  · split at h <;> cases h; exact lv_iand hx hb hd k
  · split at h <;> cases h; exact lv_ior hx hb hd k
  · split at h <;> cases h; exact lv_ixor hx hb hd k
  · split at h
    · split at h
      · cases h
      · rename_i hne; cases h; exact lv_idiv hx hb hd hne k
    · cases h
  · split at h
    · split at h
      · cases h
      · rename_i hne; cases h; exact lv_irem hx hb hd hne k
    · cases h
  · split at h <;> cases h; exact lv_ineg hx hb hd k
  · split at h <;> cases h; exact lv_ladd hx hb hd k
  · split at h <;> cases h; exact lv_lsub hx hb hd k
  · split at h <;> cases h; exact lv_lmul hx hb hd k
  · split at h <;> cases h; exact lv_land hx hb hd k
  · split at h <;> cases h; exact lv_lor hx hb hd k
  · split at h <;> cases h; exact lv_lxor hx hb hd k
  · split at h
    · split at h
      · cases h
      · rename_i hne; cases h; exact lv_ldiv hx hb hd hne k
    · cases h
  · split at h
    · split at h
      · cases h
      · rename_i hne; cases h; exact lv_lrem hx hb hd hne k
    · cases h
  · split at h <;> cases h; exact lv_lneg hx hb hd k
  · split at h <;> cases h; exact lv_ishl hx hb hd k
  · split at h <;> cases h; exact lv_ishr hx hb hd k
  · split at h <;> cases h; exact lv_iushr hx hb hd rfl k
  · split at h <;> cases h; exact lv_lshl hx hb hd rfl k
  · split at h <;> cases h; exact lv_lshr hx hb hd rfl k
  · split at h <;> cases h; exact lv_lushr hx hb hd rfl k
  · split at h <;> cases h; exact lv_i2l hx hb hd rfl k
  · split at h <;> cases h; exact lv_l2i hx hb hd rfl k
  · split at h <;> cases h; exact lv_i2b hx hb hd rfl k
  · split at h <;> cases h; exact lv_i2s hx hb hd rfl k
  · split at h <;> cases h; exact lv_i2c hx hb hd rfl k
  · split at h <;> cases h; exact W.lcmp hx hb hd k
  · split at h
    · split at h
      · rename_i hc; cases h; exact lv_dup hx hb hd (by rw [rx_v_cat]; exact hc) k
      · cases h
    · cases h
  · split at h
    · split at h
      · rename_i hc; cases h; exact lv_pop hx hb hd (by rw [rx_v_cat]; exact hc) k
      · cases h
    · cases h
  · split at h
    · split at h
      · rename_i hc; cases h; exact lv_dup_x1 hx hb hd (by rw [rx_v_cat]; exact hc.1) (by rw [rx_v_cat]; exact hc.2) k
      · cases h
    · cases h
  · split at h
    · split at h
      · rename_i hc; cases h; exact lv_dup_x2 hx hb hd (by rw [rx_v_cat]; exact hc.1) (by rw [rx_v_cat]; exact hc.2.1) (by rw [rx_v_cat]; exact hc.2.2) k
      · cases h
    · cases h
  · split at h
    · split at h
      · rename_i hc; cases h; exact lv_dup2_11 hx hb hd (by rw [rx_v_cat]; exact hc.1) (by rw [rx_v_cat]; exact hc.2) k
      · cases h
    · cases h
  · cases h
end RXA
end
section
/-! THE ABSTRACT MACHINE, part b: locals, jumps -/
abbrev rx_L : Type := List (Nat × Value)
def rx_lc (ad : Nat → Nat) (lv : rx_L) : rx_L := lv.map (fun q => (q.1, rx_v ad q.2))
def rx_ld : rx_L → Nat → Option Value
  | [], _ => none
  | q :: r, i => if q.1 = i then some q.2 else rx_ld r i
def rx_s1 (lv : rx_L) (i : Nat) (v : Value) : rx_L := (i, v) :: lv.filter (fun q => !(q.1 == i) && !(q.1 + 1 == i && q.2.category == 2))
def rx_s2 (lv : rx_L) (i : Nat) (v : Value) : rx_L := (i, v) :: lv.filter (fun q => !(q.1 == i) && (!(q.1 == i + 1) && !(q.1 + 1 == i && q.2.category == 2)))
theorem rx_ld_mem {lv : rx_L} {i : Nat} {v : Value} (h : rx_ld lv i = some v) : (i, v) ∈ lv := by
  induction lv with
  | nil => cases h
  | cons q r ih =>
    unfold rx_ld at h
    split at h
    · rename_i e
      cases h
      rw [← e]
      exact List.mem_cons_self
    · exact List.mem_cons_of_mem _ (ih h)
theorem rx_ld_at {ls : Array Slot} {nL : Nat} {ad : Nat → Nat} {lv : rx_L} (h : lv_has ls nL (rx_lc ad lv)) {i : Nat} {v : Value} (hl : rx_ld lv i = some v) : ls[i]? = some (.val (rx_v ad v)) :=
  h.2.2 (i, rx_v ad v) (List.mem_map.mpr ⟨(i, v), rx_ld_mem hl, rfl⟩)
theorem rx_lc_filter (ad : Nat → Nat) (f : Nat → Nat → Bool) (lv : rx_L) : (rx_lc ad lv).filter (fun q => f q.1 q.2.category) = rx_lc ad (lv.filter (fun q => f q.1 q.2.category)) := by
  induction lv with
  | nil => rfl
  | cons q r ih =>
    have e : (rx_lc ad (q :: r)) = (q.1, rx_v ad q.2) :: rx_lc ad r := rfl
    rw [e, List.filter_cons, List.filter_cons, ih]
    simp only [rx_v_cat]
    split <;> rfl
theorem rx_s1_c (ad : Nat → Nat) (lv : rx_L) (i : Nat) (v : Value) : (i, rx_v ad v) :: (rx_lc ad lv).filter (fun q => !(q.1 == i) && !(q.1 + 1 == i && q.2.category == 2)) = rx_lc ad (rx_s1 lv i v) := by
  rw [rx_lc_filter ad (fun a b => !(a == i) && !(a + 1 == i && b == 2)) lv]
  rfl
theorem rx_s2_c (ad : Nat → Nat) (lv : rx_L) (i : Nat) (v : Value) : (i, rx_v ad v) :: (rx_lc ad lv).filter (fun q => !(q.1 == i) && (!(q.1 == i + 1) && !(q.1 + 1 == i && q.2.category == 2))) = rx_lc ad (rx_s2 lv i v) := by
  rw [rx_lc_filter ad (fun a b => !(a == i) && (!(a == i + 1) && !(a + 1 == i && b == 2))) lv]
  rfl
/-- loads and stores -/
def rx_loc (ins : Instr) (nL : Nat) (lv : rx_L) (st : List Value) : Option (rx_L × List Value) := match ins with
  | .iload_n k => match rx_ld lv k with | some (.int x) => some (lv, .int x :: st) | _ => none
  | .iload i => match rx_ld lv i with | some (.int x) => some (lv, .int x :: st) | _ => none
  | .lload_n k => match rx_ld lv k with | some (.long x) => some (lv, .long x :: st) | _ => none
  | .lload i => match rx_ld lv i with | some (.long x) => some (lv, .long x :: st) | _ => none
  | .aload_n k => match rx_ld lv k with | some (.ref x) => some (lv, .ref x :: st) | _ => none
  | .aload i => match rx_ld lv i with | some (.ref x) => some (lv, .ref x :: st) | _ => none
  | .istore_n k => match st with | .int x :: r => if (k : Nat) < nL then some (rx_s1 lv k (.int x), r) else none | _ => none
  | .istore i => match st with | .int x :: r => if i < nL then some (rx_s1 lv i (.int x), r) else none | _ => none
  | .lstore_n k => match st with | .long x :: r => if (k : Nat) + 1 < nL then some (rx_s2 lv k (.long x), r) else none | _ => none
  | .lstore i => match st with | .long x :: r => if i + 1 < nL then some (rx_s2 lv i (.long x), r) else none | _ => none
  | .astore_n k => match st with | .ref x :: r => if (k : Nat) < nL then some (rx_s1 lv k (.ref x), r) else none | _ => none
  | .astore i => match st with | .ref x :: r => if i < nL then some (rx_s1 lv i (.ref x), r) else none | _ => none
  | .iinc i n => match rx_ld lv i with | some (.int x) => if i < nL then some (rx_s1 lv i (.int (x + Int32.ofInt n)), st) else none | _ => none
  | _ => none
def rx_nat (pc : Nat) (off : Int) : Nat := ((pc : Int) + off).toNat
/-- jumps: where to, and the stack there -/
def rx_jmp (ins : Instr) (pc : Nat) (st : List Value) : Option (Nat × List Value) := match ins with
  | .goto off => if 0 ≤ (pc : Int) + off then some (rx_nat pc off, st) else none
  | .ifCond .eq off => match st with | .int x :: r => if 0 ≤ (pc : Int) + off then some (if x = 0 then rx_nat pc off else pc + 3, r) else none | _ => none
  | .ifCond .ne off => match st with | .int x :: r => if 0 ≤ (pc : Int) + off then some (if x = 0 then pc + 3 else rx_nat pc off, r) else none | _ => none
  | .ifCond .lt off => match st with | .int x :: r => if 0 ≤ (pc : Int) + off then some (if x < 0 then rx_nat pc off else pc + 3, r) else none | _ => none
  | .ifCond .ge off => match st with | .int x :: r => if 0 ≤ (pc : Int) + off then some (if 0 ≤ x then rx_nat pc off else pc + 3, r) else none | _ => none
  | .ifCond .gt off => match st with | .int x :: r => if 0 ≤ (pc : Int) + off then some (if 0 < x then rx_nat pc off else pc + 3, r) else none | _ => none
  | .ifCond .le off => match st with | .int x :: r => if 0 ≤ (pc : Int) + off then some (if x ≤ 0 then rx_nat pc off else pc + 3, r) else none | _ => none
  | .if_icmp .eq off => match st with | .int y :: .int x :: r => if 0 ≤ (pc : Int) + off then some (if x = y then rx_nat pc off else pc + 3, r) else none | _ => none
  | .if_icmp .ne off => match st with | .int y :: .int x :: r => if 0 ≤ (pc : Int) + off then some (if x = y then pc + 3 else rx_nat pc off, r) else none | _ => none
  | .if_icmp .lt off => match st with | .int y :: .int x :: r => if 0 ≤ (pc : Int) + off then some (if x < y then rx_nat pc off else pc + 3, r) else none | _ => none
  | .if_icmp .ge off => match st with | .int y :: .int x :: r => if 0 ≤ (pc : Int) + off then some (if y ≤ x then rx_nat pc off else pc + 3, r) else none | _ => none
  | .if_icmp .gt off => match st with | .int y :: .int x :: r => if 0 ≤ (pc : Int) + off then some (if y < x then rx_nat pc off else pc + 3, r) else none | _ => none
  | .if_icmp .le off => match st with | .int y :: .int x :: r => if 0 ≤ (pc : Int) + off then some (if x ≤ y then rx_nat pc off else pc + 3, r) else none | _ => none
  | .tableswitch dflt lo hi offs => match st with
    | .int x :: r => if x.toInt < lo ∨ hi < x.toInt then (if 0 ≤ (pc : Int) + dflt then some (rx_nat pc dflt, r) else none) else
        match offs[(x.toInt - lo).toNat]? with
        | some off => if 0 ≤ (pc : Int) + off then some (rx_nat pc off, r) else none
        | none => none
    | _ => none
  | _ => none
theorem rx_nat_ok {pc : Nat} {off : Int} (h : 0 ≤ (pc : Int) + off) : (pc : Int) + off = (rx_nat pc off : Int) := (Int.toNat_of_nonneg h).symm
section RXB
variable {p : Program} {l : Launch} {e : Env} {R : Room} {s : State} {m : MethodId} {args : Array Value} {below : List Frame} {meth : Method} {c : Code} {H : Heap} {locs : List Loc} {cells slots : Nat} {Q : State → Prop}
set_option maxHeartbeats 4000000 in
theorem rx_loc_ok {cc : ByteArray} {pc nL : Nat} {ls : Array Slot} {ad : Nat → Nat} {ins : Instr} {lv lv' : rx_L} {st st' : List Value} (h : rx_loc ins nL lv st = some (lv', st')) (hx : p.tables.exec = Jvm.exec) (hb : c.code = cc) (hd : decode cc pc = .ok (ins, rx_len ins)) (hl : lv_has ls nL (rx_lc ad lv))
    (k : ∀ ls' : Array Slot, lv_has ls' nL (rx_lc ad lv') → W p l e R s m args below meth c H locs cells slots Q (F0 m (pc + rx_len ins) ls' (st'.map (rx_v ad)))) : W p l e R s m args below meth c H locs cells slots Q (F0 m pc ls (st.map (rx_v ad))) := by
  unfold rx_loc at h
  split at h
  · split at h <;> cases h; rename_i g; exact lv_iload_n hx hb hd rfl (rx_ld_at hl g) (k ls hl)
  · split at h <;> cases h; rename_i g; exact lv_iload hx hb hd (rx_ld_at hl g) (k ls hl)
  · split at h <;> cases h; rename_i g; exact lv_lload_n hx hb hd rfl (rx_ld_at hl g) (k ls hl)
  · split at h <;> cases h; rename_i g; exact lv_lload hx hb hd (rx_ld_at hl g) (k ls hl)
  · split at h <;> cases h; rename_i g; exact lv_aload_n hx hb hd rfl (rx_ld_at hl g) (k ls hl)
  · split at h <;> cases h; rename_i g; exact lv_aload hx hb hd (rx_ld_at hl g) (k ls hl)
  · split at h
    · split at h <;> cases h; rename_i g; exact lv_istore_n hx hb hd rfl hl g (rx_s1_c ad lv _ (.int _)) k
    · cases h
  · split at h
    · split at h <;> cases h; rename_i g; exact lv_istore hx hb hd hl g (rx_s1_c ad lv _ (.int _)) k
    · cases h
  · split at h
    · split at h <;> cases h; rename_i g; exact lv_lstore_n hx hb hd rfl hl g (rx_s2_c ad lv _ (.long _)) k
    · cases h
  · split at h
    · split at h <;> cases h; rename_i g; exact lv_lstore hx hb hd hl g (rx_s2_c ad lv _ (.long _)) k
    · cases h
  · split at h
    · split at h <;> cases h; rename_i g; exact lv_astore_n hx hb hd rfl hl g (rx_s1_c ad lv _ (.ref _)) k
    · cases h
  · split at h
    · split at h <;> cases h; rename_i g; exact lv_astore hx hb hd hl g (rx_s1_c ad lv _ (.ref _)) k
    · cases h
  · split at h
    · split at h <;> cases h
      rename_i g0 g
      obtain ⟨j, hj⟩ := List.getElem?_of_mem (List.mem_map_of_mem (f := fun q : Nat × Value => (q.1, rx_v ad q.2)) (rx_ld_mem g0))
      exact lv_iinc hx hb hd hl hj rfl g (rx_s1_c ad lv _ (.int _)) k
    · cases h
  · cases h
set_option maxHeartbeats 4000000 in
theorem rx_jmp_ok {cc : ByteArray} {pc pc' len : Nat} {ls : Array Slot} {ad : Nat → Nat} {ins : Instr} {st st' : List Value} (h : rx_jmp ins pc st = some (pc', st')) (hx : p.tables.exec = Jvm.exec) (hb : c.code = cc) (hd : decode cc pc = .ok (ins, len)) (hlen : len = rx_len ins ∨ ∃ a b d f, ins = .tableswitch a b d f)
    (k : W p l e R s m args below meth c H locs cells slots Q (F0 m pc' ls (st'.map (rx_v ad)))) : W p l e R s m args below meth c H locs cells slots Q (F0 m pc ls (st.map (rx_v ad))) := by
  have hl3 : (∀ a b d f, ins ≠ .tableswitch a b d f) → len = rx_len ins := fun q => hlen.elim id (fun ⟨a, b, d, f, e⟩ => absurd e (q a b d f))
  unfold rx_jmp at h
  split at h
  · obtain rfl := hl3 (fun _ _ _ _ q => by cases q)
    split at h <;> cases h; rename_i g; exact lv_goto hx hb hd (rx_nat_ok g) k
  · obtain rfl := hl3 (fun _ _ _ _ q => by cases q)
    split at h
    · split at h <;> cases h; rename_i g; exact lv_if_eq hx hb hd (rx_nat_ok g) (fun q => by rw [if_pos q] at k; exact k) (fun q => by rw [if_neg q] at k; exact k)
    · cases h
  · obtain rfl := hl3 (fun _ _ _ _ q => by cases q)
    split at h
    · split at h <;> cases h; rename_i g; exact lv_if_ne hx hb hd (rx_nat_ok g) (fun q => by rw [if_neg q] at k; exact k) (fun q => by rw [if_pos q] at k; exact k)
    · cases h
  · obtain rfl := hl3 (fun _ _ _ _ q => by cases q)
    split at h
    · split at h <;> cases h; rename_i g; exact lv_if_lt hx hb hd (rx_nat_ok g) (fun q => by rw [if_pos q] at k; exact k) (fun q => by rw [if_neg q] at k; exact k)
    · cases h
  · obtain rfl := hl3 (fun _ _ _ _ q => by cases q)
    split at h
    · split at h <;> cases h; rename_i g; exact lv_if_ge hx hb hd (rx_nat_ok g) (fun q => by rw [if_pos q] at k; exact k) (fun q => by rw [if_neg q] at k; exact k)
    · cases h
  · obtain rfl := hl3 (fun _ _ _ _ q => by cases q)
    split at h
    · split at h <;> cases h; rename_i g; exact lv_if_gt hx hb hd (rx_nat_ok g) (fun q => by rw [if_pos q] at k; exact k) (fun q => by rw [if_neg q] at k; exact k)
    · cases h
  · obtain rfl := hl3 (fun _ _ _ _ q => by cases q)
    split at h
    · split at h <;> cases h; rename_i g; exact lv_if_le hx hb hd (rx_nat_ok g) (fun q => by rw [if_pos q] at k; exact k) (fun q => by rw [if_neg q] at k; exact k)
    · cases h
  · obtain rfl := hl3 (fun _ _ _ _ q => by cases q)
    split at h
    · split at h <;> cases h; rename_i g; exact lv_icmp_eq hx hb hd (rx_nat_ok g) (fun q => by rw [if_pos q] at k; exact k) (fun q => by rw [if_neg q] at k; exact k)
    · cases h
  · obtain rfl := hl3 (fun _ _ _ _ q => by cases q)
    split at h
    · split at h <;> cases h; rename_i g; exact lv_icmp_ne hx hb hd (rx_nat_ok g) (fun q => by rw [if_neg q] at k; exact k) (fun q => by rw [if_pos q] at k; exact k)
    · cases h
  · obtain rfl := hl3 (fun _ _ _ _ q => by cases q)
    split at h
    · split at h <;> cases h; rename_i g; exact lv_icmp_lt hx hb hd (rx_nat_ok g) (fun q => by rw [if_pos q] at k; exact k) (fun q => by rw [if_neg q] at k; exact k)
    · cases h
  · obtain rfl := hl3 (fun _ _ _ _ q => by cases q)
    split at h
    · split at h <;> cases h; rename_i g; exact lv_icmp_ge hx hb hd (rx_nat_ok g) (fun q => by rw [if_pos q] at k; exact k) (fun q => by rw [if_neg q] at k; exact k)
    · cases h
  · obtain rfl := hl3 (fun _ _ _ _ q => by cases q)
    split at h
    · split at h <;> cases h; rename_i g; exact lv_icmp_gt hx hb hd (rx_nat_ok g) (fun q => by rw [if_pos q] at k; exact k) (fun q => by rw [if_neg q] at k; exact k)
    · cases h
  · obtain rfl := hl3 (fun _ _ _ _ q => by cases q)
    split at h
    · split at h <;> cases h; rename_i g; exact lv_icmp_le hx hb hd (rx_nat_ok g) (fun q => by rw [if_pos q] at k; exact k) (fun q => by rw [if_neg q] at k; exact k)
    · cases h
  · split at h
    · split at h
      · split at h <;> cases h
        rename_i g1 g
        exact lv_tableOut hx hb hd g1 (rx_nat_ok g) k
      · split at h
        · split at h <;> cases h
          rename_i g1 _ off g2 g
          exact lv_tableIn hx hb hd (fun q => g1 (Or.inl q)) (fun q => g1 (Or.inr q)) g2 (rx_nat_ok g) k
        · cases h
    · cases h
  · cases h
end RXB
end
section
/-! THE ABSTRACT MACHINE, part c: cells, worlds, what touches the heap -/
abbrev rx_Ar : Type := (Nat → Int32) ⊕ (Nat → Int64) ⊕ (Nat → UInt32) ⊕ (Nat → UInt64) ⊕ (Nat → Option Nat)
def rx_arr (ad : Nat → Nat) : rx_Ar → rx_Ar
  | .inl f => .inl f
  | .inr (.inl f) => .inr (.inl f)
  | .inr (.inr (.inl f)) => .inr (.inr (.inl f))
  | .inr (.inr (.inr (.inl f))) => .inr (.inr (.inr (.inl f)))
  | .inr (.inr (.inr (.inr f))) => .inr (.inr (.inr (.inr (fun j => (f j).map ad))))
/-- a cell of the abstract machine (an array's class is the number of its type) as a world's -/
def rx_e (ad : Nat → Nat) (dA : Nat → ClassId) : va_E → va_E
  | .inl (t, n, x) => .inl (dA t, n, rx_arr ad x)
  | .inr (ci, fs) => .inr (ci, fs.map (rx_v ad))
def rx_cw (ad : Nat → Nat) (dA : Nat → ClassId) : Nat → List va_E → va_W
  | _, [] => []
  | b, x :: r => (ad b, rx_e ad dA x) :: rx_cw ad dA (b + 1) r
theorem rx_cw_get (ad : Nat → Nat) (dA : Nat → ClassId) : ∀ (L : List va_E) (b k : Nat), (rx_cw ad dA b L)[k]? = (L[k]?).map (fun x => (ad (b + k), rx_e ad dA x))
  | [], b, k => by simp [rx_cw]
  | x :: r, b, 0 => by simp [rx_cw]
  | x :: r, b, k + 1 => by
    simp only [rx_cw, List.getElem?_cons_succ]
    rw [rx_cw_get ad dA r (b + 1) k, show b + 1 + k = b + (k + 1) by omega]
theorem rx_cw_set (ad : Nat → Nat) (dA : Nat → ClassId) (y : va_E) : ∀ (L : List va_E) (b k : Nat), (rx_cw ad dA b L).set k (ad (b + k), rx_e ad dA y) = rx_cw ad dA b (L.set k y)
  | [], b, k => by simp [rx_cw]
  | x :: r, b, 0 => by simp [rx_cw]
  | x :: r, b, k + 1 => by
    simp only [rx_cw, List.set_cons_succ]
    rw [show b + (k + 1) = b + 1 + k by omega, rx_cw_set ad dA y r (b + 1) k]
theorem rx_cw_app (ad : Nat → Nat) (dA : Nat → ClassId) (y : va_E) : ∀ (L : List va_E) (b : Nat), rx_cw ad dA b (L ++ [y]) = rx_cw ad dA b L ++ [(ad (b + L.length), rx_e ad dA y)]
  | [], b => by simp [rx_cw]
  | x :: r, b => by
    simp only [rx_cw, List.cons_append, List.length_cons]
    rw [rx_cw_app ad dA y r (b + 1), show b + 1 + r.length = b + (r.length + 1) by omega]
/-- addresses that mean something: cells that are there, constants -/
def rx_in (n k : Nat) : Prop := k < n ∨ rx_B ≤ k
def rx_okv (n : Nat) (v : Value) : Prop := ∀ k, v = .ref k → rx_in n k
def rx_oka (n : Nat) (x : rx_Ar) : Prop := ∀ f : Nat → Option Nat, x = .inr (.inr (.inr (.inr f))) → ∀ j k, f j = some k → rx_in n k
def rx_oke (n : Nat) (x : va_E) : Prop := (∀ t N y, x = .inl (t, N, y) → rx_oka n y) ∧ ∀ ci fs, x = .inr (ci, fs) → ∀ v ∈ fs, rx_okv n v
def rx_ok (n : Nat) (L : List va_E) : Prop := ∀ x ∈ L, rx_oke n x
def rx_ext (n : Nat) (ad ad' : Nat → Nat) : Prop := ∀ k, rx_in n k → ad' k = ad k
theorem rx_ext.rf {n : Nat} {ad : Nat → Nat} : rx_ext n ad ad := fun _ _ => rfl
theorem rx_in.mono {n n' k : Nat} (h : rx_in n k) (hn : n ≤ n') : rx_in n' k := h.elim (fun q => Or.inl (by omega)) Or.inr
theorem rx_okv.mono {n n' : Nat} {v : Value} (h : rx_okv n v) (hn : n ≤ n') : rx_okv n' v := fun k e => (h k e).mono hn
theorem rx_ext.trans {n n' : Nat} {a b d : Nat → Nat} (h : rx_ext n a b) (hn : n ≤ n') (g : rx_ext n' b d) : rx_ext n a d := fun k hk => (g k (hk.mono hn)).trans (h k hk)
theorem rx_ext.up {n q : Nat} {ad : Nat → Nat} (hn : n < rx_B) : rx_ext n ad (va_up ad n q) := fun k hk => va_up_ne _ _ (by rcases hk with h | h <;> omega)
theorem rx_v_ext {n : Nat} {ad ad' : Nat → Nat} {v : Value} (h : rx_okv n v) (he : rx_ext n ad ad') : rx_v ad' v = rx_v ad v := by
  cases v <;> try rfl
  rename_i k
  exact congrArg Value.ref (he k (h k rfl))
theorem rx_vs_ext {n : Nat} {ad ad' : Nat → Nat} {vs : List Value} (h : ∀ v ∈ vs, rx_okv n v) (he : rx_ext n ad ad') : vs.map (rx_v ad') = vs.map (rx_v ad) :=
  List.map_congr_left fun v hv => rx_v_ext (h v hv) he
theorem rx_arr_ext {n : Nat} {ad ad' : Nat → Nat} {x : rx_Ar} (h : rx_oka n x) (he : rx_ext n ad ad') : rx_arr ad' x = rx_arr ad x := by
  rcases x with f | f | f | f | f <;> try rfl
  show (Sum.inr (Sum.inr (Sum.inr (Sum.inr fun j => (f j).map ad'))) : rx_Ar) = Sum.inr (Sum.inr (Sum.inr (Sum.inr fun j => (f j).map ad)))
  have e : (fun j => (f j).map ad') = fun j => (f j).map ad := by
    funext j
    cases hj : f j with
    | none => rfl
    | some k => exact congrArg some (he k (h f rfl j k hj))
  rw [e]
theorem rx_e_ext {n : Nat} {ad ad' : Nat → Nat} {dA : Nat → ClassId} {x : va_E} (h : rx_oke n x) (he : rx_ext n ad ad') : rx_e ad' dA x = rx_e ad dA x := by
  rcases x with ⟨t, N, y⟩ | ⟨ci, fs⟩
  · show (Sum.inl (dA t, N, rx_arr ad' y) : va_E) = Sum.inl (dA t, N, rx_arr ad y)
    rw [rx_arr_ext (h.1 t N y rfl) he]
  · show (Sum.inr (ci, fs.map (rx_v ad')) : va_E) = Sum.inr (ci, fs.map (rx_v ad))
    rw [rx_vs_ext (h.2 ci fs rfl) he]
theorem rx_cw_ext {n : Nat} {ad ad' : Nat → Nat} {dA : Nat → ClassId} (he : rx_ext n ad ad') : ∀ (L : List va_E) (b : Nat), rx_ok n L → b + L.length ≤ n → rx_cw ad' dA b L = rx_cw ad dA b L
  | [], b, _, _ => rfl
  | x :: r, b, h, hb => by
    simp only [List.length_cons] at hb
    simp only [rx_cw]
    rw [rx_e_ext (h x List.mem_cons_self) he, he b (Or.inl (by omega)), rx_cw_ext he r (b + 1) (fun y hy => h y (List.mem_cons_of_mem _ hy)) (by omega)]
theorem rx_oka.mono {n n' : Nat} {x : rx_Ar} (h : rx_oka n x) (hn : n ≤ n') : rx_oka n' x := fun f e j k hk => (h f e j k hk).mono hn
theorem rx_oke.mono {n n' : Nat} {x : va_E} (h : rx_oke n x) (hn : n ≤ n') : rx_oke n' x := ⟨fun t N y e => (h.1 t N y e).mono hn, fun ci fs e v hv => (h.2 ci fs e v hv).mono hn⟩
theorem rx_ok.mono {n n' : Nat} {L : List va_E} (h : rx_ok n L) (hn : n ≤ n') : rx_ok n' L := fun x hx => (h x hx).mono hn
theorem rx_ok.set {n k : Nat} {L : List va_E} {y : va_E} (h : rx_ok n L) (hy : rx_oke n y) : rx_ok n (L.set k y) := fun x hx => by
  rcases List.mem_or_eq_of_mem_set hx with q | q
  · exact h x q
  · rw [q]; exact hy
theorem rx_ok.push {n : Nat} {L : List va_E} {y : va_E} (h : rx_ok n L) (hy : rx_oke n y) : rx_ok n (L ++ [y]) := fun x hx => by
  rcases List.mem_append.mp hx with q | q
  · exact h x q
  · rw [List.mem_singleton.mp q]; exact hy
/-- the types of arrays, by their numbers -/
def rx_ty : List FieldType := [.int, .long, .byte, .boolean, .object "MarkHouse$Order", .object "MarkHouse$Kind", .object "java/lang/String"]
def rx_tysF (dA : Nat → ClassId) : Nat → List FieldType → List (ClassId × FieldType)
  | _, [] => []
  | b, x :: r => (dA b, x) :: rx_tysF dA (b + 1) r
abbrev rx_tys (dA : Nat → ClassId) : List (ClassId × FieldType) := rx_tysF dA 0 rx_ty
theorem rx_tys_get (dA : Nat → ClassId) : ∀ (L : List FieldType) (b k : Nat), (rx_tysF dA b L)[k]? = (L[k]?).map (fun x => (dA (b + k), x))
  | [], b, k => by simp [rx_tysF]
  | x :: r, b, 0 => by simp [rx_tysF]
  | x :: r, b, k + 1 => by
    simp only [rx_tysF, List.getElem?_cons_succ]
    rw [rx_tys_get dA r (b + 1) k, show b + 1 + k = b + (k + 1) by omega]
theorem rx_ty_at {dA : Nat → ClassId} {t : Nat} {ty : FieldType} (h : rx_ty[t]? = some ty) : (rx_tys dA)[t]? = some (dA t, ty) := by
  rw [rx_tys_get, h]
  simp
theorem rx_at {ad : Nat → Nat} {dA : Nat → ClassId} {L : List va_E} {k : Nat} {x : va_E} (h : L[k]? = some x) : (rx_cw ad dA 0 L)[k]? = some (ad k, rx_e ad dA x) := by
  rw [rx_cw_get, h]
  simp
/-- the world of a body: the cells, apart, nothing else written, its addresses in order -/
def rx_Wd (D : va_G) (dA : Nat → ClassId) (A : Nat → Prop) (ad : Nat → Nat) (L : List va_E) (s : State) (H : Heap) (locs : List Loc) : Prop :=
  va_P D vwCl (rx_cw ad dA 0 L) H ∧ va_D A (rx_cw ad dA 0 L) ∧ va_S A s.heap H locs ∧ rx_ok L.length L ∧ L.length ≤ rx_B
theorem rx_Wd.put {D : va_G} {dA : Nat → ClassId} {A : Nat → Prop} {ad : Nat → Nat} {L : List va_E} {s : State} {H H1 : Heap} {locs locs1 : List Loc} {k : Nat} {y : va_E} (h : rx_Wd D dA A ad L s H locs) (hy : rx_oke L.length y)
    (h1 : va_P D vwCl ((rx_cw ad dA 0 L).set k (ad k, rx_e ad dA y)) H1) (h2 : va_D A ((rx_cw ad dA 0 L).set k (ad k, rx_e ad dA y))) (h3 : va_S A s.heap H1 locs1) : rx_Wd D dA A ad (L.set k y) s H1 locs1 := by
  have e := rx_cw_set ad dA y L 0 k
  rw [Nat.zero_add] at e
  rw [e] at h1 h2
  exact ⟨h1, h2, h3, by rw [List.length_set]; exact h.2.2.2.1.set hy, by rw [List.length_set]; exact h.2.2.2.2⟩
theorem rx_Wd.new {D : va_G} {dA : Nat → ClassId} {A : Nat → Prop} {ad : Nat → Nat} {L : List va_E} {s : State} {H H1 : Heap} {locs locs1 : List Loc} {q : Nat} {y : va_E} (h : rx_Wd D dA A ad L s H locs) (hl : L.length < rx_B) (hy : rx_oke L.length y)
    (h1 : va_P D vwCl (rx_cw ad dA 0 L ++ [(q, rx_e ad dA y)]) H1) (h2 : va_D A (rx_cw ad dA 0 L ++ [(q, rx_e ad dA y)])) (h3 : va_S A s.heap H1 locs1) : rx_Wd D dA A (va_up ad L.length q) (L ++ [y]) s H1 locs1 := by
  have he : rx_ext L.length ad (va_up ad L.length q) := rx_ext.up hl
  have e : rx_cw (va_up ad L.length q) dA 0 (L ++ [y]) = rx_cw ad dA 0 L ++ [(q, rx_e ad dA y)] := by
    rw [rx_cw_app, rx_cw_ext he L 0 h.2.2.2.1 (by omega), rx_e_ext hy he, Nat.zero_add, va_up_self]
  refine ⟨by rw [e]; exact h1, by rw [e]; exact h2, h3, ?_, ?_⟩
  · rw [List.length_append, List.length_singleton]
    exact (h.2.2.2.1.push hy).mono (by omega)
  · rw [List.length_append, List.length_singleton]
    omega
end
section
/-! THE ABSTRACT MACHINE, part d: a program's tables; what touches the heap -/
/-- names, bytes, room for locals, result, instructions by place; by place of the pool: fields read, fields written, calls, constants, classes made, arrays of references made, statics; by place of the code: what is thrown there -/
abbrev rx_P : Type := (Nat → MethodName) × (Nat → ByteArray) × (Nat → Nat) × (Nat → Option FieldType) × (Nat → Nat → Option Instr) × (Nat → Nat → Option (Nat × Nat)) × (Nat → Nat → Option (Nat × Nat × FieldType)) × (Nat → Nat → Option (Nat × Nat × Nat)) × (Nat → Nat → Option Value) × (Nat → Nat → Option (Nat × Nat × List Value)) × (Nat → Nat → Option Nat) × (Nat → Nat → Option Value) × (Nat → Nat → Option (String × Nat × Nat)) × (Nat → Option (List Int32)) × (Nat → Option (Nat × (Nat → Int32))) × (Nat → List (Nat × Nat × Nat × Nat)) × (Nat → Nat → String → Option (Nat × Fin 4))
def rx_yn (P : rx_P) : Nat → MethodName := P.1
def rx_cb (P : rx_P) : Nat → ByteArray := P.2.1
def rx_ml (P : rx_P) : Nat → Nat := P.2.2.1
def rx_rt (P : rx_P) : Nat → Option FieldType := P.2.2.2.1
def rx_cd (P : rx_P) : Nat → Nat → Option Instr := P.2.2.2.2.1
def rx_ft (P : rx_P) : Nat → Nat → Option (Nat × Nat) := P.2.2.2.2.2.1
def rx_pt (P : rx_P) : Nat → Nat → Option (Nat × Nat × FieldType) := P.2.2.2.2.2.2.1
def rx_ct (P : rx_P) : Nat → Nat → Option (Nat × Nat × Nat) := P.2.2.2.2.2.2.2.1
def rx_kt (P : rx_P) : Nat → Nat → Option Value := P.2.2.2.2.2.2.2.2.1
def rx_nt (P : rx_P) : Nat → Nat → Option (Nat × Nat × List Value) := P.2.2.2.2.2.2.2.2.2.1
def rx_qt (P : rx_P) : Nat → Nat → Option Nat := P.2.2.2.2.2.2.2.2.2.2.1
def rx_gt (P : rx_P) : Nat → Nat → Option Value := P.2.2.2.2.2.2.2.2.2.2.2.1
def rx_xt (P : rx_P) : Nat → Nat → Option (String × Nat × Nat) := P.2.2.2.2.2.2.2.2.2.2.2.2.1
/-- the bytes of the text constants, by their numbers -/
def rx_sb (P : rx_P) : Nat → Option (List Int32) := P.2.2.2.2.2.2.2.2.2.2.2.2.2.1
/-- arrays of ints that nobody writes, by their addresses -/
def rx_ci (P : rx_P) : Nat → Option (Nat × (Nat → Int32)) := P.2.2.2.2.2.2.2.2.2.2.2.2.2.2.1
/-- the handlers of a method; where what is thrown at a place is caught, and into which local -/
def rx_hh (P : rx_P) : Nat → List (Nat × Nat × Nat × Nat) := P.2.2.2.2.2.2.2.2.2.2.2.2.2.2.2.1
def rx_ht (P : rx_P) : Nat → Nat → String → Option (Nat × Fin 4) := P.2.2.2.2.2.2.2.2.2.2.2.2.2.2.2.2
def rx_V (a : Nat) : Nat := rx_B + 2 * a + 1
def rx_dv : ArrayType → Option (Nat × rx_Ar)
  | .int => some (0, .inl (fun _ => 0))
  | .long => some (1, .inr (.inl (fun _ => 0)))
  | .byte => some (2, .inl (fun _ => 0))
  | .boolean => some (3, .inl (fun _ => 0))
  | _ => none
/-- what touches the heap: the stack, the heap, the cells and the slots that are new -/
def rx_heap (P : rx_P) (mi : Nat) (ins : Instr) (st : List Value) (L : List va_E) : Option (List Value × List va_E × Nat × Nat) := match ins with
  | .ldc idx => match rx_kt P mi idx with | some (.int v) => some (.int v :: st, L, 0, 0) | some (.ref k) => some (.ref k :: st, L, 0, 0) | _ => none
  | .ldc_w idx => match rx_kt P mi idx with | some (.int v) => some (.int v :: st, L, 0, 0) | _ => none
  | .ldc2_w idx => match rx_kt P mi idx with | some (.long v) => some (.long v :: st, L, 0, 0) | _ => none
  | .getstatic idx => match rx_gt P mi idx with | some v => some (v :: st, L, 0, 0) | none => none
  | .getfield idx => match st with
    | .ref a :: r => match rx_ft P mi idx with
      | some (ci, k) => match L[a]? with
        | some (.inr (cj, fs)) => if ci = cj then (match fs[k]? with | some v => some (v :: r, L, 0, 0) | none => none) else none
        | some (.inl _) => none
        | none => if ci = 0 ∧ k < 2 ∧ a = rx_K ((a - rx_B) / 2) ∧ (rx_sb P ((a - rx_B) / 2)).isSome then (if k = 0 then some (.ref (rx_V ((a - rx_B) / 2)) :: r, L, 0, 0) else some (.int 0 :: r, L, 0, 0)) else none
      | none => none
    | _ => none
  | .putfield idx => match st with
    | v :: .ref a :: r => match rx_pt P mi idx with
      | some (ci, k, ty) => match L[a]? with
        | some (.inr (cj, fs)) => if ci = cj ∧ k < fs.length ∧ narrow ty v = v ∧ fits ty v = true then some (r, L.set a (.inr (ci, fs.set k v)), 0, 0) else none
        | _ => none
      | none => none
    | _ => none
  | .iaload => match st with
    | .int i :: .ref a :: r => match L[a]? with
      | some (.inl (t, n, .inl f)) => if t = 0 ∧ ¬ (i < 0 ∨ n ≤ i.toNatClampNeg) then some (.int (f i.toNatClampNeg) :: r, L, 0, 0) else none
      | some _ => none
      | none => match rx_ci P a with
        | some (n, f) => if ¬ (i < 0 ∨ n ≤ i.toNatClampNeg) then some (.int (f i.toNatClampNeg) :: r, L, 0, 0) else none
        | none => none
    | _ => none
  | .baload => match st with
    | .int i :: .ref a :: r => match L[a]? with
      | some (.inl (t, n, .inl f)) => if (t = 2 ∨ t = 3) ∧ ¬ (i < 0 ∨ n ≤ i.toNatClampNeg) then some (.int (f i.toNatClampNeg) :: r, L, 0, 0) else none
      | some _ => none
      | none => match rx_sb P ((a - rx_B) / 2) with
        | some bs => if a = rx_V ((a - rx_B) / 2) ∧ ¬ (i < 0 ∨ bs.length ≤ i.toNatClampNeg) then some (.int (bs.getD i.toNatClampNeg 0) :: r, L, 0, 0) else none
        | none => none
    | _ => none
  | .laload => match st with
    | .int i :: .ref a :: r => match L[a]? with
      | some (.inl (t, n, .inr (.inl f))) => if t = 1 ∧ ¬ (i < 0 ∨ n ≤ i.toNatClampNeg) then some (.long (f i.toNatClampNeg) :: r, L, 0, 0) else none
      | _ => none
    | _ => none
  | .aaload => match st with
    | .int i :: .ref a :: r => match L[a]? with
      | some (.inl (t, n, .inr (.inr (.inr (.inr f))))) => if 4 ≤ t ∧ t < 7 ∧ ¬ (i < 0 ∨ n ≤ i.toNatClampNeg) then some (va_rf (f i.toNatClampNeg) :: r, L, 0, 0) else none
      | _ => none
    | _ => none
  | .iastore => match st with
    | .int x :: .int i :: .ref a :: r => match L[a]? with
      | some (.inl (t, n, .inl f)) => if t = 0 ∧ ¬ (i < 0 ∨ n ≤ i.toNatClampNeg) then some (r, L.set a (.inl (t, n, .inl (upd f i.toNatClampNeg x))), 0, 0) else none
      | _ => none
    | _ => none
  | .bastore => match st with
    | .int x :: .int i :: .ref a :: r => match L[a]? with
      | some (.inl (t, n, .inl f)) => if t = 2 ∧ ¬ (i < 0 ∨ n ≤ i.toNatClampNeg) then some (r, L.set a (.inl (t, n, .inl (upd f i.toNatClampNeg (vp_nar .byte x)))), 0, 0)
          else if t = 3 ∧ ¬ (i < 0 ∨ n ≤ i.toNatClampNeg) then some (r, L.set a (.inl (t, n, .inl (upd f i.toNatClampNeg (vp_nar .boolean x)))), 0, 0) else none
      | _ => none
    | _ => none
  | .lastore => match st with
    | .long x :: .int i :: .ref a :: r => match L[a]? with
      | some (.inl (t, n, .inr (.inl f))) => if t = 1 ∧ ¬ (i < 0 ∨ n ≤ i.toNatClampNeg) then some (r, L.set a (.inl (t, n, .inr (.inl (vp_updL f i.toNatClampNeg x)))), 0, 0) else none
      | _ => none
    | _ => none
  | .aastore => match st with
    | .ref v :: .int i :: .ref a :: r => match L[a]? with
      | some (.inl (t, n, .inr (.inr (.inr (.inr f))))) => if ¬ (i < 0 ∨ n ≤ i.toNatClampNeg) then (match L[v]? with
          | some (.inr (ci, _)) => if (vwCl[ci]?).map (fun q => FieldType.object q.1) = rx_ty[t]? ∧ ci < 16 then some (r, L.set a (.inl (t, n, .inr (.inr (.inr (.inr (va_up f i.toNatClampNeg (some v))))))), 0, 0) else none
          | some (.inl _) => none
          | none => if t = 6 ∧ v = rx_K ((v - rx_B) / 2) ∧ (rx_sb P ((v - rx_B) / 2)).isSome then some (r, L.set a (.inl (t, n, .inr (.inr (.inr (.inr (va_up f i.toNatClampNeg (some v))))))), 0, 0) else none) else none
      | _ => none
    | _ => none
  | .arraylength => match st with
    | .ref a :: r => match L[a]? with
      | some (.inl (t, n, _)) => if t < 7 then some (.int (Int32.ofNat n) :: r, L, 0, 0) else none
      | some (.inr _) => none
      | none => match rx_ci P a with
        | some (n, _) => some (.int (Int32.ofNat n) :: r, L, 0, 0)
        | none => match rx_sb P ((a - rx_B) / 2) with
          | some bs => if a = rx_V ((a - rx_B) / 2) then some (.int (Int32.ofNat bs.length) :: r, L, 0, 0) else none
          | none => none
    | _ => none
  | .new idx => match rx_nt P mi idx with
    | some (ci, N, fs) => if L.length < rx_B then some (.ref L.length :: st, L ++ [.inr (ci, fs)], 1, N) else none
    | none => none
  | .newarray ty => match st with
    | .int n :: r => match rx_dv ty with
      | some (t, x) => if ¬ n < 0 ∧ n.toNatClampNeg * 8 ≤ 536870912 ∧ L.length < rx_B then some (.ref L.length :: r, L ++ [.inl (t, n.toNatClampNeg, x)], 1, n.toNatClampNeg) else none
      | none => none
    | _ => none
  | .anewarray idx => match st with
    | .int n :: r => match rx_qt P mi idx with
      | some t => if ¬ n < 0 ∧ n.toNatClampNeg * 8 ≤ 536870912 ∧ L.length < rx_B then some (.ref L.length :: r, L ++ [.inl (t, n.toNatClampNeg, .inr (.inr (.inr (.inr (fun _ => none)))))], 1, n.toNatClampNeg) else none
      | none => none
    | _ => none
  | _ => none
theorem rx_nar {ty : FieldType} {v : Value} (ad : Nat → Nat) (h : narrow ty v = v) : narrow ty (rx_v ad v) = rx_v ad v := by
  cases v <;> first | exact h | (cases ty <;> rfl)
theorem rx_fit {ty : FieldType} {v : Value} (ad : Nat → Nat) (h : fits ty v = true) : fits ty (rx_v ad v) = true := by
  cases v <;> first | exact h | (cases ty <;> first | exact h | rfl)
theorem rx_rf (ad : Nat → Nat) (x : Option Nat) : va_rf (x.map ad) = rx_v ad (va_rf x) := by cases x <;> rfl
end
section
/-! THE ABSTRACT MACHINE, part e: what its tables must be; the heap's instructions are the machine's -/
def rx_OkC : Prop := ∀ (ci : Nat) (q : vw_C), vwCl[ci]? = some q → ∃ ty : Nat → FieldType, (∀ w ∈ u_ws q.1 q.2.1 q.2.2, w ∈ rx_TT) ∧ (∀ k, k < q.2.2 → parseFieldDescriptor (q.2.1 k).2.2.1 = some (ty k)) ∧ (∀ a, a < q.2.2 → ∀ b, b < q.2.2 → a ≠ b → (q.2.1 a).2.1 ≠ (q.2.1 b).2.1)
def rx_OkF (P : rx_P) : Prop := ∀ mi idx ci k, rx_ft P mi idx = some (ci, k) → ∃ q : vw_C, vwCl[ci]? = some q ∧ k < q.2.2 ∧ Cond.fieldLink (rx_yn P mi).cls idx (q.2.1 k).1 (q.2.1 k).2.1 (q.2.1 k).2.2.1 ∈ rx_TT
def rx_OkW (P : rx_P) : Prop := ∀ mi idx ci k ty, rx_pt P mi idx = some (ci, k, ty) → ∃ q : vw_C, vwCl[ci]? = some q ∧ k < q.2.2 ∧ Cond.fieldLink (rx_yn P mi).cls idx (q.2.1 k).1 (q.2.1 k).2.1 (q.2.1 k).2.2.1 ∈ rx_TT ∧ parseFieldDescriptor (q.2.1 k).2.2.1 = some ty ∧ ((q.2.1 k).2.2.2 = false ∨ ((q.2.1 k).2.2.2 = true ∧ (rx_yn P mi).name = "<init>" ∧ (q.2.1 k).1 = (rx_yn P mi).cls))
def rx_OkK (P : rx_P) : Prop := (∀ mi idx v, rx_kt P mi idx = some (.int v) → Cond.constant (rx_yn P mi).cls idx v ∈ rx_TT) ∧ (∀ mi idx v, rx_kt P mi idx = some (.long v) → Cond.constantLong (rx_yn P mi).cls idx v ∈ rx_TT)
def rx_OkN (P : rx_P) : Prop := ∀ mi idx ci N fs, rx_nt P mi idx = some (ci, N, fs) → ∃ (q : vw_C) (ty : Nat → FieldType), vwCl[ci]? = some q ∧ q.2.2 = N ∧ Cond.classLink (rx_yn P mi).cls idx q.1 ∈ rx_TT ∧ Cond.instantiable q.1 N ∈ rx_TT ∧ Cond.initialized q.1 ∈ rx_TT ∧ (∀ k, k < N → parseFieldDescriptor (q.2.1 k).2.2.1 = some (ty k)) ∧ (∀ j, j < N → defaultValue (ty j) = vp_V fs j) ∧ ∀ v ∈ fs, ∀ k, v ≠ .ref k
def rx_OkQ (P : rx_P) : Prop := ∀ mi idx t, rx_qt P mi idx = some t → ∃ C : String, rx_ty[t]? = some (.object C) ∧ Cond.classLink (rx_yn P mi).cls idx C ∈ rx_TT
def rx_OkA : Prop := Cond.arrayClass .int ∈ rx_TT ∧ Cond.arrayClass .long ∈ rx_TT ∧ Cond.arrayClass .byte ∈ rx_TT ∧ Cond.arrayClass .boolean ∈ rx_TT
def rx_Ok (P : rx_P) : Prop := rx_OkC ∧ rx_OkF P ∧ rx_OkW P ∧ rx_OkK P ∧ rx_OkN P ∧ rx_OkQ P ∧ rx_OkA
/-- what is thrown at pc is caught at hpc: by the first row, or by the second where the first names another class -/
def rx_Hd (P : rx_P) (mi pc : Nat) (E : String) (hpc : Nat) (s : State) : Prop :=
  (∃ (x : ExceptionTableEntry) (suf : List ExceptionTableEntry) (name : String), tableOf (rx_hh P mi) = x :: suf ∧ covers x pc = true ∧ x.catchType ≠ 0 ∧ x.handlerPc = hpc ∧ Cond.classLink (rx_yn P mi).cls x.catchType name ∈ rx_TT ∧ va_Nw (.castable E name) s) ∨
  (∃ (y x : ExceptionTableEntry) (suf : List ExceptionTableEntry) (nm1 name : String), tableOf (rx_hh P mi) = y :: x :: suf ∧ covers y pc = true ∧ y.catchType ≠ 0 ∧ Cond.classLink (rx_yn P mi).cls y.catchType nm1 ∈ rx_TT ∧ va_Nc E nm1 s ∧ covers x pc = true ∧ x.catchType ≠ 0 ∧ x.handlerPc = hpc ∧ Cond.classLink (rx_yn P mi).cls x.catchType name ∈ rx_TT ∧ va_Nw (.castable E name) s)
/-- words that move along though they are no good words -/
def rx_ng (w : Cond) : Prop := (∃ a b, w = .castable a b) ∨ ∃ x, w = .declares x
/-- what is thrown at pc, with its text -/
def rx_KT (P : rx_P) (mi pc : Nat) (E : String) (nf nl : Nat) (s : State) (ik is ic : Nat) (text : String) (sa : Nat) (names : List String) : Prop :=
  rx_hh P mi = [] ∧ Bundle.fit E = true ∧ (∀ n ∈ names, Bundle.fit n = true) ∧ Cond.classLink (rx_yn P mi).cls ik E ∈ rx_TT ∧ Cond.initialized E ∈ rx_TT ∧ vk_R (rx_yn P mi).cls is text sa s ∧ (∀ w ∈ vx_atS (rx_yn P mi).cls ic E names, w ∈ rx_TT ∨ (rx_ng w ∧ va_Nw w s)) ∧ (∀ w ∈ Cond.classLink (rx_yn P mi).cls ik E :: Cond.initialized E :: vx_atS (rx_yn P mi).cls ic E names, vx_ot w = true) ∧
  decode (rx_cb P mi) pc = .ok (.new ik, 3) ∧ decode (rx_cb P mi) (pc + 3) = .ok (.dup, 1) ∧ ((decode (rx_cb P mi) (pc + 4) = .ok (.ldc is, 2) ∧ decode (rx_cb P mi) (pc + 6) = .ok (.invokespecial ic, 3) ∧ decode (rx_cb P mi) (pc + 9) = .ok (.athrow, 1)) ∨ (decode (rx_cb P mi) (pc + 4) = .ok (.ldc_w is, 3) ∧ decode (rx_cb P mi) (pc + 7) = .ok (.invokespecial ic, 3) ∧ decode (rx_cb P mi) (pc + 10) = .ok (.athrow, 1))) ∧ names.length + 3 ≤ nf ∧ 13 * (names.length + 1) + 43 ≤ nl
def rx_KX (P : rx_P) (A : Nat → Prop) (s : State) (H : Heap) : Prop := vx_Zq Bundle.tN "UNASSIGNED_STACK" Bundle.steD A s H ∧ vx_Zq Bundle.tN "SUPPRESSED_SENTINEL" Bundle.listD A s H ∧ ∀ mi pc E nf nl, rx_xt P mi pc = some (E, nf, nl) → ∃ ik is ic text sa names, rx_KT P mi pc E nf nl s ik is ic text sa names
/-- what is known of constants: texts, statics, array classes, links to members of the nest -/
def rx_KC (P : rx_P) (A : Nat → Prop) (ad : Nat → Nat) (s : State) (H : Heap) : Prop :=
  (∀ mi idx k, rx_kt P mi idx = some (.ref k) → rx_B ≤ k ∧ ∃ tx, vk_R (rx_yn P mi).cls idx tx (ad k) s) ∧
  (∀ i bs, rx_sb P i = some bs → va_O "java/lang/String" (ad (rx_K i)) A s H ∧ va_OF "java/lang/String" "coder" "B" (.int 0) (ad (rx_K i)) A s H ∧ va_OF "java/lang/String" "value" "[B" (.ref (ad (rx_V i))) (ad (rx_K i)) A s H ∧ va_T .byte (ad (rx_V i)) bs.length (fun j => .int (bs.getD j 0)) A s H) ∧
  (∀ mi idx v, rx_gt P mi idx = some v → (∀ k, v = .ref k → rx_B ≤ k) ∧ ∃ C n d, va_Z C n d (rx_v ad v) A s H ∧ Cond.fieldLink (rx_yn P mi).cls idx C n d ∈ rx_TT) ∧
  (∀ (t : Nat) (C : String), rx_ty[t]? = some (FieldType.object C) → va_AO C s) ∧
  (∀ mi idx kd mj n, rx_ct P mi idx = some (kd, mj, n) → 10 ≤ kd → ∃ host, va_Nw (.methodLinkNest (rx_yn P mi).cls idx (rx_yn P mj) host) s) ∧
  (∀ a n f, rx_ci P a = some (n, f) → rx_B ≤ a ∧ va_T .int (ad a) n (fun j => .int (f j)) A s H) ∧
  (∀ mi pc E hpc k, rx_ht P mi pc E = some (hpc, k) → rx_Hd P mi pc E hpc s) ∧ rx_KX P A s H
theorem rx_vin {i : Int32} {n : Nat} (h : ¬ (i < 0 ∨ n ≤ i.toNatClampNeg)) : vp_in i n := h
theorem rx_mem_at {L : List va_E} {k : Nat} {x : va_E} (h : L[k]? = some x) : x ∈ L := List.mem_of_getElem? h
theorem rx_prim {s : State} {D : va_G} {dA : Nat → ClassId} {t : Nat} {ty : FieldType} {cA : ClassId} (hne : ∀ C, ty ≠ .object C) (ht : rx_ty[t]? = some ty) (hK : va_K D vwCl (rx_tys dA ++ [(cA, ty)]) s) : cA = dA t := by
  have h1 := (hK.2 t (dA t, ty) (by rw [List.getElem?_append_left (by exact (List.getElem?_eq_some_iff.mp (rx_ty_at (dA := dA) ht)).1)]; exact rx_ty_at ht)).2
  have h2 := (hK.2 (rx_tys dA).length (cA, ty) (by simp)).2
  cases ty <;> first | exact absurd rfl (hne _) | exact Option.some.inj (Eq.trans (Eq.symm h2) h1)
theorem rx_refs {s : State} {D : va_G} {dA : Nat → ClassId} {t : Nat} {C : String} {cA : ClassId} (ht : rx_ty[t]? = some (.object C)) (hK : va_K D vwCl (rx_tys dA ++ [(cA, .object C)]) s) : cA = dA t := by
  have h1 := (hK.2 t (dA t, .object C) (by rw [List.getElem?_append_left (by exact (List.getElem?_eq_some_iff.mp (rx_ty_at (dA := dA) ht)).1)]; exact rx_ty_at ht)).2
  have h2 := (hK.2 (rx_tys dA).length (cA, .object C) (by simp)).2
  obtain ⟨_, _, _, _, _, g1⟩ := h1
  obtain ⟨_, _, _, _, _, g2⟩ := h2
  exact Option.some.inj (g2.symm.trans g1)
theorem rx_okv_nr {n : Nat} {v : Value} (h : ∀ k, v ≠ .ref k) : rx_okv n v := fun k e => absurd e (h k)
theorem rx_ok_tl {n : Nat} {v : Value} {r : List Value} (h : ∀ w ∈ v :: r, rx_okv n w) : ∀ w ∈ r, rx_okv n w := fun w hw => h w (List.mem_cons_of_mem _ hw)
theorem rx_ok_cn {n : Nat} {v : Value} {r : List Value} (hv : rx_okv n v) (h : ∀ w ∈ r, rx_okv n w) : ∀ w ∈ v :: r, rx_okv n w := fun w hw => (List.mem_cons.mp hw).elim (fun e => by rw [e]; exact hv) (h w)
theorem rx_oke_i {n t N : Nat} {f : Nat → Int32} : rx_oke n (.inl (t, N, .inl f)) := ⟨fun _ _ y e f' e' => (by cases e; cases e'), fun _ _ e => (by cases e)⟩
theorem rx_oke_l {n t N : Nat} {f : Nat → Int64} : rx_oke n (.inl (t, N, .inr (.inl f))) := ⟨fun _ _ y e f' e' => (by cases e; cases e'), fun _ _ e => (by cases e)⟩
theorem rx_oke_q {n t N : Nat} {f : Nat → Option Nat} (h : ∀ j k, f j = some k → rx_in n k) : rx_oke n (.inl (t, N, .inr (.inr (.inr (.inr f))))) := ⟨fun _ _ y e f' e' => (by cases e; cases e'; exact h), fun _ _ e => (by cases e)⟩
theorem rx_oke_o {n ci : Nat} {fs : List Value} (h : ∀ v ∈ fs, rx_okv n v) : rx_oke n (.inr (ci, fs)) := ⟨fun _ _ _ e => (by cases e), fun _ _ e v hv => (by cases e; exact h v hv)⟩
theorem rx_oke_qi {n t N : Nat} {f : Nat → Option Nat} (h : rx_oke n (.inl (t, N, .inr (.inr (.inr (.inr f)))))) {j k : Nat} (hk : f j = some k) : rx_in n k := h.1 _ _ _ rfl f rfl j k hk
end
section
/-! THE ABSTRACT MACHINE, part f: the heap's instructions -/
section RXF
variable {p : Program} {l : Launch} {e : Env} {R : Room} {s : State} {m : MethodId} {args : Array Value} {below : List Frame} {meth : Method} {c : Code} {H : Heap} {locs : List Loc} {cells slots : Nat} {Q : State → Prop}
variable {P : rx_P} {mi pc : Nat} {ls : Array Slot} {D : va_G} {dA : Nat → ClassId} {A : Nat → Prop} {ad : Nat → Nat} {L : List va_E}
/-- what stays the same through a body -/
def rx_Bd (P : rx_P) (mi : Nat) (p : Program) (s : State) (m : MethodId) (args : Array Value) (meth : Method) (c : Code) (D : va_G) (dA : Nat → ClassId) (A : Nat → Prop) : Prop :=
  p.tables.exec = Jvm.exec ∧ c.code = rx_cb P mi ∧ c.maxLocals = rx_ml P mi ∧ s.vm.findClass (rx_yn P mi).cls = some m.cls ∧ (∀ w ∈ rx_TT, w.before args s = true) ∧ meth.name = (rx_yn P mi).name ∧ meth.locks = false ∧ meth.sig.returnType = rx_rt P mi ∧ va_K D vwCl (rx_tys dA) s ∧ (∀ q : Nat, s.heap.size ≤ q → A q) ∧ c.exceptionTable.toList = tableOf (rx_hh P mi)
theorem rx_ext_K {n : Nat} {ad ad' : Nat → Nat} (h : rx_ext n ad ad') (i : Nat) : ad' (rx_K i) = ad (rx_K i) := h _ (Or.inr (by unfold rx_K; omega))
theorem rx_ext_V {n : Nat} {ad ad' : Nat → Nat} (h : rx_ext n ad ad') (i : Nat) : ad' (rx_V i) = ad (rx_V i) := h _ (Or.inr (by unfold rx_V; omega))
theorem rx_KC.ext {n : Nat} {ad ad' : Nat → Nat} (h : rx_KC P A ad s H) (he : rx_ext n ad ad') : rx_KC P A ad' s H := by
  obtain ⟨h1, h2, h3, h4, h5, h6, h7⟩ := h
  refine ⟨fun mi idx k hk => ?_, fun i bs hb => ?_, fun mi idx v hv => ?_, h4, h5, fun a n' f hf => ?_, h7⟩
  · obtain ⟨g, tx, g2⟩ := h1 mi idx k hk
    exact ⟨g, tx, by rw [he k (Or.inr g)]; exact g2⟩
  · rw [rx_ext_K he, rx_ext_V he]
    exact h2 i bs hb
  · obtain ⟨g, C, n', d, g1, g2⟩ := h3 mi idx v hv
    exact ⟨g, C, n', d, by rw [rx_v_ext (n := n) (fun k e => Or.inr (g k e)) he]; exact g1, g2⟩
  · obtain ⟨g, g1⟩ := h6 a n' f hf
    exact ⟨g, by rw [he a (Or.inr g)]; exact g1⟩
set_option maxHeartbeats 8000000 in
theorem rx_heap_ok (ok : rx_Ok P) (bd : rx_Bd P mi p s m args meth c D dA A) {ins : Instr} {st st' : List Value} {L' : List va_E} {dc ds : Nat} (h : rx_heap P mi ins st L = some (st', L', dc, ds)) (hd : decode (rx_cb P mi) pc = .ok (ins, rx_len ins))
    (hW : rx_Wd D dA A ad L s H locs) (hC : rx_KC P A ad s s.heap) (hst : ∀ v ∈ st, rx_okv L.length v) (hcells : cells + dc ≤ R.cells) (hslots : slots + ds ≤ R.slots)
    (k : ∀ (ad' : Nat → Nat) (H1 : Heap) (locs1 : List Loc), rx_ext L.length ad ad' → rx_Wd D dA A ad' L' s H1 locs1 → (∀ v ∈ st', rx_okv L'.length v) → L.length ≤ L'.length → W p l e R s m args below meth c H1 locs1 (cells + dc) (slots + ds) Q (F0 m (pc + rx_len ins) ls (st'.map (rx_v ad')))) :
    W p l e R s m args below meth c H locs cells slots Q (F0 m pc ls (st.map (rx_v ad))) := by
  obtain ⟨okC, okF, okW, okK, okN, okQ, okA⟩ := ok
  obtain ⟨hx, hb, hml, hown, hts, hname, hlocks, hret, hK, hA, hout⟩ := bd
  obtain ⟨hP, hD, hS, hok, hlen⟩ := id hW
  unfold rx_heap at h
  split at h
  -- ldc
  · split at h
    · cases h
      rename_i g
      exact lv_ldc hx hb hown (hts _ (okK.1 _ _ _ g)) hd (k ad H locs rx_ext.rf hW (rx_ok_cn (rx_okv_nr (fun _ q => by cases q)) hst) (Nat.le_refl _))
    · cases h
      rename_i g
      obtain ⟨g1, tx, g2⟩ := hC.1 _ _ _ g
      exact va_ldcS hx hb hown g2 hd (k ad H locs rx_ext.rf hW (rx_ok_cn (fun j q => by cases q; exact Or.inr g1) hst) (Nat.le_refl _))
    · cases h
  -- ldc_w
  · split at h
    · cases h
      rename_i g
      exact lv_ldcw hx hb hown (hts _ (okK.1 _ _ _ g)) hd (k ad H locs rx_ext.rf hW (rx_ok_cn (rx_okv_nr (fun _ q => by cases q)) hst) (Nat.le_refl _))
    · cases h
  -- ldc2_w
  · split at h
    · cases h
      rename_i g
      exact lv_ldc2 hx hb hown (hts _ (okK.2 _ _ _ g)) hd (k ad H locs rx_ext.rf hW (rx_ok_cn (rx_okv_nr (fun _ q => by cases q)) hst) (Nat.le_refl _))
    · cases h
  -- getstatic
  · split at h
    · cases h
      rename_i g
      obtain ⟨g0, C, n, d, g1, g2⟩ := hC.2.2.1 _ _ _ g
      exact va_gets hx hb g1 hS hown (hts _ g2) (fun _ q => q) hd (k ad H locs rx_ext.rf hW (rx_ok_cn (fun j q => Or.inr (g0 j q)) hst) (Nat.le_refl _))
    · cases h
  -- getfield
  · split at h
    · split at h
      · rename_i a r _ ci kf g
        split at h
        · split at h
          · split at h
            · rename_i cj fs hL hcc _ v hv
              cases h
              subst hcc
              obtain ⟨q, q1, q2, q3⟩ := okF _ _ _ _ g
              obtain ⟨ty, t1, t2, t3⟩ := okC _ _ q1
              refine va_get (C := q.1) (T := q.2.1) (N := q.2.2) hx hb hts t1 hown hK hP a (rx_at hL) q1 kf q2 (hts _ q3) (fun _ z => z) (v := rx_v ad v) (by rw [List.getElem?_map, hv]; rfl) hd ?_
              exact k ad H locs rx_ext.rf hW (rx_ok_cn ((hok _ (rx_mem_at hL)).2 _ _ rfl v (List.mem_of_getElem? hv)) (rx_ok_tl hst)) (Nat.le_refl _)
            · cases h
          · cases h
        · cases h
        · split at h
          · rename_i hL hcc
            obtain ⟨c1, c2, c3, c4⟩ := hcc
            obtain ⟨bs, hbs⟩ := Option.isSome_iff_exists.mp c4
            obtain ⟨s1, s2, s3, s4⟩ := hC.2.1 _ _ hbs
            obtain ⟨q, q1, q2, q3⟩ := okF _ _ _ _ g
            subst c1
            have hq : q = (RJ0, TJ0, 4) := (Option.some.inj q1).symm
            subst hq
            split at h
            · rename_i hk0
              cases h
              subst hk0
              rw [c3] at hst ⊢
              refine vk_getf hx hb s3 hS hown (hts _ q3) (fun _ z => z) hd ?_
              exact k ad H locs rx_ext.rf hW (rx_ok_cn (fun j z => by cases z; exact Or.inr (by unfold rx_V; omega)) (rx_ok_tl hst)) (Nat.le_refl _)
            · rename_i hk0
              cases h
              have hk1 : kf = 1 := by omega
              subst hk1
              rw [c3] at hst ⊢
              refine vk_getf hx hb s2 hS hown (hts _ q3) (fun _ z => z) hd ?_
              exact k ad H locs rx_ext.rf hW (rx_ok_cn (rx_okv_nr (fun _ z => by cases z)) (rx_ok_tl hst)) (Nat.le_refl _)
          · cases h
      · cases h
    · cases h
  -- putfield
  · split at h
    · split at h
      · rename_i v a r _ ci kf ty g
        split at h
        · split at h
          · rename_i cj fs hL hcc
            cases h
            obtain ⟨c1, c2, c3, c4⟩ := hcc
            subst c1
            obtain ⟨q, q1, q2, q3, q4, q5⟩ := okW _ _ _ _ _ g
            obtain ⟨ty0, t1, t2, t3⟩ := okC _ _ q1
            have hoke : rx_oke L.length (.inr (ci, fs.set kf v)) := rx_oke_o (fun w hw => by
              rcases List.mem_or_eq_of_mem_set hw with z | z
              · exact (hok _ (rx_mem_at hL)).2 _ _ rfl w z
              · rw [z]; exact hst v List.mem_cons_self)
            have hlf : kf < (fs.map (rx_v ad)).length := by rw [List.length_map]; exact c2
            have hset : (Sum.inr (ci, (fs.map (rx_v ad)).set kf (rx_v ad v)) : va_E) = rx_e ad dA (.inr (ci, fs.set kf v)) := by
              show _ = (Sum.inr (ci, (fs.set kf v).map (rx_v ad)) : va_E)
              rw [List.map_set]
            rcases q5 with q5 | ⟨q5, q6, q7⟩
            · refine va_put (C := q.1) (T := q.2.1) (N := q.2.2) hx hb hts t1 ty0 t2 t3 hown hK hP hD hS a (rx_at hL) q1 kf q2 (hts _ q3) (fun _ z => z) q5 q4 (rx_nar ad c3) (rx_fit ad c4) hlf hd (fun H1 locs1 h1 h2 h3 => ?_)
              rw [hset] at h1 h2
              exact k ad H1 locs1 rx_ext.rf (hW.put hoke h1 h2 h3) (fun w hw => by rw [List.length_set]; exact rx_ok_tl (rx_ok_tl hst) w hw) (by rw [List.length_set]; exact Nat.le_refl _)
            · refine va_putF (C := q.1) (T := q.2.1) (N := q.2.2) hx hb hts t1 ty0 t2 t3 hown hK hP hD hS a (rx_at hL) q1 kf q2 (hts _ q3) (fun _ z => z) q5 (hname.trans q6) q7 q4 (rx_nar ad c3) (rx_fit ad c4) hlf hd (fun H1 locs1 h1 h2 h3 => ?_)
              rw [hset] at h1 h2
              exact k ad H1 locs1 rx_ext.rf (hW.put hoke h1 h2 h3) (fun w hw => by rw [List.length_set]; exact rx_ok_tl (rx_ok_tl hst) w hw) (by rw [List.length_set]; exact Nat.le_refl _)
          · cases h
        · cases h
      · cases h
    · cases h
  -- iaload
  · split at h
    · split at h
      · split at h
        · rename_i hL hcc
          cases h
          obtain ⟨rfl, c2⟩ := hcc
          exact va_iald hx hb hK hP _ 0 (rx_at hL) (rx_ty_at rfl) (rx_vin c2) hd (k ad H locs rx_ext.rf hW (rx_ok_cn (rx_okv_nr (fun _ q => by cases q)) (rx_ok_tl (rx_ok_tl hst))) (Nat.le_refl _))
        · cases h
      · cases h
      · split at h
        · split at h
          · rename_i hci c2
            cases h
            obtain ⟨-, g1⟩ := hC.2.2.2.2.2.1 _ _ _ hci
            exact va_ti hx hb g1 hS (rx_vin c2) rfl hd (k ad H locs rx_ext.rf hW (rx_ok_cn (rx_okv_nr (fun _ q => by cases q)) (rx_ok_tl (rx_ok_tl hst))) (Nat.le_refl _))
          · cases h
        · cases h
    · cases h
  -- baload
  · split at h
    · split at h
      · split at h
        · rename_i hL hcc
          cases h
          obtain ⟨c1, c2⟩ := hcc
          rcases c1 with rfl | rfl
          · exact va_bald hx hb hK hP _ 2 (rx_at hL) (rx_ty_at rfl) (rx_vin c2) hd (k ad H locs rx_ext.rf hW (rx_ok_cn (rx_okv_nr (fun _ q => by cases q)) (rx_ok_tl (rx_ok_tl hst))) (Nat.le_refl _))
          · exact va_zald hx hb hK hP _ 3 (rx_at hL) (rx_ty_at rfl) (rx_vin c2) hd (k ad H locs rx_ext.rf hW (rx_ok_cn (rx_okv_nr (fun _ q => by cases q)) (rx_ok_tl (rx_ok_tl hst))) (Nat.le_refl _))
        · cases h
      · cases h
      · split at h
        · split at h
          · rename_i bs hbs hcc
            cases h
            obtain ⟨c1, c2⟩ := hcc
            obtain ⟨s1, s2, s3, s4⟩ := hC.2.1 _ _ hbs
            rw [c1] at hst ⊢
            refine va_tb hx hb s4 hS (rx_vin c2) rfl hd ?_
            exact k ad H locs rx_ext.rf hW (rx_ok_cn (rx_okv_nr (fun _ q => by cases q)) (rx_ok_tl (rx_ok_tl hst))) (Nat.le_refl _)
          · cases h
        · cases h
    · cases h
  -- laload
  · split at h
    · split at h
      · split at h
        · rename_i hL hcc
          cases h
          obtain ⟨rfl, c2⟩ := hcc
          exact va_lald hx hb hK hP _ 1 (rx_at hL) (rx_ty_at rfl) (rx_vin c2) hd (k ad H locs rx_ext.rf hW (rx_ok_cn (rx_okv_nr (fun _ q => by cases q)) (rx_ok_tl (rx_ok_tl hst))) (Nat.le_refl _))
        · cases h
      · cases h
    · cases h
  -- aaload
  · split at h
    · split at h
      · split at h
        · rename_i i a r _ t n f hL hcc
          cases h
          obtain ⟨c1, c2, c3⟩ := hcc
          have hty : ∃ C, rx_ty[t]? = some (.object C) := by
            have c1' : @LE.le Nat _ 4 t := c1
            have c2' : @LT.lt Nat _ t 7 := c2
            rcases (show @Eq Nat t 4 ∨ @Eq Nat t 5 ∨ @Eq Nat t 6 by omega) with rfl | rfl | rfl <;> exact ⟨_, rfl⟩
          obtain ⟨C, hC2⟩ := hty
          refine va_aldq hx hb hK hP a t (rx_at hL) (rx_ty_at hC2) (rx_vin c3) hd ?_
          rw [rx_rf]
          refine k ad H locs rx_ext.rf hW (rx_ok_cn (fun j q => ?_) (rx_ok_tl (rx_ok_tl hst))) (Nat.le_refl _)
          cases hf : f i.toNatClampNeg with
          | none => rw [hf] at q; cases q
          | some y => rw [hf] at q; cases q; exact rx_oke_qi (hok _ (rx_mem_at hL)) hf
        · cases h
      · cases h
    · cases h
  -- iastore
  · split at h
    · split at h
      · split at h
        · rename_i hL hcc
          cases h
          obtain ⟨rfl, c2⟩ := hcc
          exact va_iast hx hb hK hP hD hS _ 0 (rx_at hL) (rx_ty_at rfl) (rx_vin c2) hd (fun H1 locs1 h1 h2 h3 => k ad H1 locs1 rx_ext.rf (hW.put rx_oke_i h1 h2 h3) (fun w hw => by rw [List.length_set]; exact rx_ok_tl (rx_ok_tl (rx_ok_tl hst)) w hw) (by rw [List.length_set]; exact Nat.le_refl _))
        · cases h
      · cases h
    · cases h
  -- bastore
  · split at h
    · split at h
      · split at h
        · rename_i hL hcc
          cases h
          obtain ⟨rfl, c2⟩ := hcc
          exact va_bast hx hb hK hP hD hS _ 2 (rx_at hL) (rx_ty_at rfl) (rx_vin c2) hd (fun H1 locs1 h1 h2 h3 => k ad H1 locs1 rx_ext.rf (hW.put rx_oke_i h1 h2 h3) (fun w hw => by rw [List.length_set]; exact rx_ok_tl (rx_ok_tl (rx_ok_tl hst)) w hw) (by rw [List.length_set]; exact Nat.le_refl _))
        · split at h
          · rename_i hL _ hcc
            cases h
            obtain ⟨rfl, c2⟩ := hcc
            exact va_zast hx hb hK hP hD hS _ 3 (rx_at hL) (rx_ty_at rfl) (rx_vin c2) hd (fun H1 locs1 h1 h2 h3 => k ad H1 locs1 rx_ext.rf (hW.put rx_oke_i h1 h2 h3) (fun w hw => by rw [List.length_set]; exact rx_ok_tl (rx_ok_tl (rx_ok_tl hst)) w hw) (by rw [List.length_set]; exact Nat.le_refl _))
          · cases h
      · cases h
    · cases h
  -- lastore
  · split at h
    · split at h
      · split at h
        · rename_i hL hcc
          cases h
          obtain ⟨rfl, c2⟩ := hcc
          exact va_last hx hb hK hP hD hS _ 1 (rx_at hL) (rx_ty_at rfl) (rx_vin c2) hd (fun H1 locs1 h1 h2 h3 => k ad H1 locs1 rx_ext.rf (hW.put rx_oke_l h1 h2 h3) (fun w hw => by rw [List.length_set]; exact rx_ok_tl (rx_ok_tl (rx_ok_tl hst)) w hw) (by rw [List.length_set]; exact Nat.le_refl _))
        · cases h
      · cases h
    · cases h
  -- aastore
  · split at h
    · split at h
      · split at h
        · rename_i v i a r _ t n f hL c3
          have hoke : rx_oke L.length (.inl (t, n, .inr (.inr (.inr (.inr (va_up f i.toNatClampNeg (some v))))))) := rx_oke_q (fun j y hj => by
            by_cases ej : j = i.toNatClampNeg
            · subst ej
              rw [va_up_self] at hj
              cases hj
              exact hst (.ref v) List.mem_cons_self v rfl
            · rw [va_up_ne _ _ ej] at hj
              exact rx_oke_qi (hok _ (rx_mem_at hL)) hj)
          have hset : (Sum.inl (dA t, n, .inr (.inr (.inr (.inr (va_up (fun j => (f j).map ad) i.toNatClampNeg (some (ad v))))))) : va_E) = rx_e ad dA (.inl (t, n, .inr (.inr (.inr (.inr (va_up f i.toNatClampNeg (some v))))))) := by
            show _ = (Sum.inl (dA t, n, .inr (.inr (.inr (.inr (fun j => (va_up f i.toNatClampNeg (some v) j).map ad))))) : va_E)
            have ee : va_up (fun j => (f j).map ad) i.toNatClampNeg (some (ad v)) = fun j => (va_up f i.toNatClampNeg (some v) j).map ad := by
              funext j
              unfold va_up
              split <;> rfl
            rw [ee]
          split at h
          · split at h
            · rename_i ci vs hv hcc
              cases h
              obtain ⟨c1, c2⟩ := hcc
              obtain ⟨q, hq⟩ : ∃ q, vwCl[ci]? = some q := ⟨_, List.getElem?_eq_getElem (show ci < vwCl.length from c2)⟩
              rw [hq] at c1
              refine va_astq (r := q) hx hb hK hP hD hS a t v ci (rx_at hL) (rx_ty_at c1.symm) (rx_at hv) hq (rx_vin c3) hd (fun H1 locs1 h1 h2 h3 => ?_)
              rw [hset] at h1 h2
              exact k ad H1 locs1 rx_ext.rf (hW.put hoke h1 h2 h3) (fun w hw => by rw [List.length_set]; exact rx_ok_tl (rx_ok_tl (rx_ok_tl hst)) w hw) (by rw [List.length_set]; exact Nat.le_refl _)
            · cases h
          · cases h
          · split at h
            · rename_i hv hcc
              cases h
              obtain ⟨c1, c2, c4⟩ := hcc
              obtain ⟨bs, hbs⟩ := Option.isSome_iff_exists.mp c4
              obtain ⟨s1, -, -, -⟩ := hC.2.1 _ _ hbs
              rw [← c2] at s1
              subst c1
              have hany : va_Any "java/lang/String" s H (ad v) := by
                obtain ⟨cell, g1, g2, g3, g4⟩ := s1.kept hS.2.1
                obtain ⟨kC, hkC, -⟩ := Vm.findClass_spec g3
                exact ⟨cell, g1, g2, ⟨kC, hkC⟩, fun comp hcomp => by cases hcomp.symm.trans g3; exact va_asg _ _⟩
              refine va_astqM hx hb hK hP hD hS a 6 (rx_at hL) (rx_ty_at rfl) hany (rx_vin c3) hd (fun H1 locs1 h1 h2 h3 => ?_)
              rw [hset] at h1 h2
              exact k ad H1 locs1 rx_ext.rf (hW.put hoke h1 h2 h3) (fun w hw => by rw [List.length_set]; exact rx_ok_tl (rx_ok_tl (rx_ok_tl hst)) w hw) (by rw [List.length_set]; exact Nat.le_refl _)
            · cases h
        · cases h
      · cases h
    · cases h
  -- arraylength
  · split at h
    · split at h
      · split at h
        · rename_i a r _ t n x hL hcc
          cases h
          obtain ⟨ty, hty⟩ : ∃ ty, rx_ty[t]? = some ty := ⟨_, List.getElem?_eq_getElem (show t < rx_ty.length from hcc)⟩
          exact va_alen hx hb hK hP a t (rx_at hL) (rx_ty_at hty) rfl hd (k ad H locs rx_ext.rf hW (rx_ok_cn (rx_okv_nr (fun _ q => by cases q)) (rx_ok_tl hst)) (Nat.le_refl _))
        · cases h
      · cases h
      · split at h
        · rename_i hci
          cases h
          obtain ⟨-, g1⟩ := hC.2.2.2.2.2.1 _ _ _ hci
          refine va_tlen hx hb g1 hS rfl hd ?_
          exact k ad H locs rx_ext.rf hW (rx_ok_cn (rx_okv_nr (fun _ q => by cases q)) (rx_ok_tl hst)) (Nat.le_refl _)
        · split at h
          · split at h
            · rename_i bs hbs c1
              cases h
              obtain ⟨s1, s2, s3, s4⟩ := hC.2.1 _ _ hbs
              rw [c1] at hst ⊢
              refine va_tlen hx hb s4 hS rfl hd ?_
              exact k ad H locs rx_ext.rf hW (rx_ok_cn (rx_okv_nr (fun _ q => by cases q)) (rx_ok_tl hst)) (Nat.le_refl _)
            · cases h
          · cases h
    · cases h
  -- new
  · split at h
    · split at h
      · rename_i ci N fs g hl
        cases h
        obtain ⟨q, ty, q1, rfl, q3, q4, q5, q6, q7, q8⟩ := okN _ _ _ _ _ g
        obtain ⟨ty0, t1, t2, t3⟩ := okC _ _ q1
        have hoke : rx_oke L.length (.inr (ci, fs)) := rx_oke_o (fun w hw => rx_okv_nr (q8 w hw))
        have hfs : fs.map (rx_v ad) = fs := by
          rw [List.map_congr_left (g := id) (fun w hw => ?_), List.map_id]
          have := q8 w hw
          cases w <;> first | rfl | exact absurd rfl (this _)
        refine va_new (C := q.1) (T := q.2.1) (N := q.2.2) (fs := fs) hx hb hts t1 ty q6 hown (hts _ q3) (hts _ q4) (hts _ q5) hK hP hD hS hA q1 q7 hcells hslots hd (fun q' H1 h1 h2 h3 => ?_)
        have hset : (Sum.inr (ci, fs) : va_E) = rx_e ad dA (.inr (ci, fs)) := by
          show _ = (Sum.inr (ci, fs.map (rx_v ad)) : va_E)
          rw [hfs]
        rw [hset] at h1 h2
        have hW2 := hW.new hl hoke h1 h2 h3
        have he : rx_ext L.length ad (va_up ad L.length q') := rx_ext.up hl
        have k2 := k _ H1 locs he hW2 (rx_ok_cn (fun j z => by cases z; exact Or.inl (by simp)) (fun w hw => (hst w hw).mono (by simp))) (by simp)
        have e1 : (Value.ref L.length :: st).map (rx_v (va_up ad L.length q')) = .ref q' :: st.map (rx_v ad) := by
          rw [List.map_cons, rx_vs_ext hst he]
          show Value.ref (va_up ad L.length q' L.length) :: _ = _
          rw [va_up_self]
        rw [e1] at k2
        exact k2
      · cases h
    · cases h
  -- newarray
  · split at h
    · split at h
      · split at h
        · rename_i ty st0 n r x0 t x g hcc
          cases h
          obtain ⟨c1, c2, c3⟩ := hcc
          have key : ∃ (fty : FieldType), newarray.typeOf ty = fty ∧ rx_ty[t]? = some fty ∧ (∀ C, fty ≠ .object C) ∧ Cond.arrayClass fty ∈ rx_TT ∧ componentBytes fty ≤ 8 ∧ rx_oke L.length (.inl (t, n.toNatClampNeg, x)) ∧ rx_arr ad x = x ∧ ∀ cA : ClassId, vp_cell cA (n.toNatClampNeg, x) = arrV cA n.toNatClampNeg (fun _ => defaultValue fty) := by
            cases ty <;> simp only [rx_dv] at g <;> cases g
            · exact ⟨.boolean, rfl, rfl, (fun _ z => by cases z), okA.2.2.2, by decide, rx_oke_i, rfl, fun _ => rfl⟩
            · exact ⟨.byte, rfl, rfl, (fun _ z => by cases z), okA.2.2.1, by decide, rx_oke_i, rfl, fun _ => rfl⟩
            · exact ⟨.int, rfl, rfl, (fun _ z => by cases z), okA.1, by decide, rx_oke_i, rfl, fun _ => rfl⟩
            · exact ⟨.long, rfl, rfl, (fun _ z => by cases z), okA.2.1, by decide, rx_oke_l, rfl, fun _ => rfl⟩
          obtain ⟨fty, f1, f2, f3, f4, f5, hoke, f6, f7⟩ := key
          refine va_newa hx hb (by rw [f1]; exact hts _ f4) f1 hK hP hD hS hA (a0 := (n.toNatClampNeg, x)) f7 c1 rfl (Nat.le_trans (Nat.mul_le_mul_left _ f5) c2) hcells hslots hd (fun q' cA H1 hK1 h1 h2 h3 => ?_)
          obtain rfl := rx_prim f3 f2 hK1
          have hset : (Sum.inl (dA t, n.toNatClampNeg, x) : va_E) = rx_e ad dA (.inl (t, n.toNatClampNeg, x)) := by
            show _ = (Sum.inl (dA t, n.toNatClampNeg, rx_arr ad x) : va_E)
            rw [f6]
          rw [hset] at h1 h2
          have hW2 := hW.new c3 hoke h1 h2 h3
          have he : rx_ext L.length ad (va_up ad L.length q') := rx_ext.up c3
          have hst2 := rx_ok_tl hst
          have k2 := k _ H1 locs he hW2 (rx_ok_cn (fun j z => by cases z; exact Or.inl (by simp)) (fun w hw => (hst2 w hw).mono (by simp))) (by simp)
          have e1 : (Value.ref L.length :: r).map (rx_v (va_up ad L.length q')) = .ref q' :: r.map (rx_v ad) := by
            rw [List.map_cons, rx_vs_ext hst2 he]
            show Value.ref (va_up ad L.length q' L.length) :: _ = _
            rw [va_up_self]
          rw [e1] at k2
          exact k2
        · cases h
      · cases h
    · cases h
  -- anewarray
  · split at h
    · split at h
      · split at h
        · rename_i n r _ t g hcc
          cases h
          obtain ⟨c1, c2, c3⟩ := hcc
          obtain ⟨C, f2, f4⟩ := okQ _ _ _ g
          have hoke : rx_oke L.length (.inl (t, n.toNatClampNeg, .inr (.inr (.inr (.inr (fun _ => none)))))) := rx_oke_q (fun _ _ z => by cases z)
          refine va_newq hx hb hown (hts _ f4) (hC.2.2.2.1 t C f2) hK hP hD hS hA c1 rfl (Nat.le_trans (Nat.mul_le_mul_left _ (by decide : 4 ≤ 8)) c2) hcells hslots hd (fun q' cA H1 hK1 h1 h2 h3 => ?_)
          obtain rfl := rx_refs f2 hK1
          have hset : (Sum.inl (dA t, n.toNatClampNeg, .inr (.inr (.inr (.inr (fun _ => none))))) : va_E) = rx_e ad dA (.inl (t, n.toNatClampNeg, .inr (.inr (.inr (.inr (fun _ => none)))))) := rfl
          rw [hset] at h1 h2
          have hW2 := hW.new c3 hoke h1 h2 h3
          have he : rx_ext L.length ad (va_up ad L.length q') := rx_ext.up c3
          have hst2 := rx_ok_tl hst
          have k2 := k _ H1 locs he hW2 (rx_ok_cn (fun j z => by cases z; exact Or.inl (by simp)) (fun w hw => (hst2 w hw).mono (by simp))) (by simp)
          have e1 : (Value.ref L.length :: r).map (rx_v (va_up ad L.length q')) = .ref q' :: r.map (rx_v ad) := by
            rw [List.map_cons, rx_vs_ext hst2 he]
            show Value.ref (va_up ad L.length q' L.length) :: _ = _
            rw [va_up_self]
          rw [e1] at k2
          exact k2
        · cases h
      · cases h
    · cases h
  · cases h
end RXF
end
section
/-! THE ABSTRACT MACHINE, part g: returns, calls, the run -/
abbrev rx_R : Type := ((Option Value) ⊕ String) × List va_E × Nat × Nat
abbrev rx_F : Type := Nat → Nat → Nat → Nat → rx_L → List Value → List va_E → Option rx_R
def rx_ret (ins : Instr) (st : List Value) (rt : Option FieldType) : Option (Option Value) := match ins with
  | .ireturn => match st with
    | [.int v] => match rt with
      | some ty => if narrow ty (.int v) = .int v then some (some (.int v)) else none
      | none => none
    | _ => none
  | .lreturn => match st with
    | [.long v] => match rt with
      | some .long => some (some (.long v))
      | _ => none
    | _ => none
  | .areturn => match st with
    | [.ref a] => match rt with
      | some (.object _) => some (some (.ref a))
      | some (.array _) => some (some (.ref a))
      | _ => none
    | _ => none
  | .return_ => match st with
    | [] => match rt with
      | none => some none
      | _ => none
    | _ => none
  | _ => none
def rx_words (st : List Value) : Nat := (st.map fun v => v.category).sum
def rx_take (n : Nat) (st : List Value) : Option (List Value × List Value) := if n ≤ st.length then some ((st.take n).reverse, st.drop n) else none
def rx_isa (P : rx_P) (L : List va_E) (b : Nat) (C : String) : Bool := match L[b]? with
  | some (.inr (cj, _)) => (match vwCl[cj]? with | some q => q.1 == C | none => false)
  | some (.inl _) => false
  | none => C == "java/lang/String" && (b == rx_K ((b - rx_B) / 2) && (rx_sb P ((b - rx_B) / 2)).isSome)
def rx_add (dc ds : Nat) : Option rx_R → Option rx_R
  | some (o, L, cc, ss) => some (o, L, dc + cc, ds + ss)
  | none => none
/-- a local that is known no more -/
def rx_rm (lv : rx_L) (i : Nat) : rx_L := lv.filter (fun q => !(q.1 == i) && !(q.1 + 1 == i && q.2.category == 2))
/-- a call of mj with the values as, the rest of the stack, in a frame at pc -/
def rx_inv (P : rx_P) (rc : rx_F) (th : Bool) (mi F Lo pc : Nat) (lv : rx_L) (mj : Nat) (as rest : List Value) (L : List va_E) : Option rx_R :=
  if 1 ≤ F ∧ rx_ml P mj + 19 ≤ Lo ∧ rx_words rest ≤ 8 ∧ (lg_sl as).length ≤ rx_ml P mj then
    match rc mj (F - 1) (Lo - (rx_ml P mj + 19)) 0 (lv_args 0 as) [] L with
    | some (.inl v, L1, c1, s1) => rx_add c1 s1 (rc mi F Lo (pc + 3) lv (v.toList ++ rest) L1)
    | some (.inr E, L1, c1, s1) => if th = true then (match rx_ht P mi pc E with
      | some (hpc, k) => rx_add c1 s1 (rc mi F Lo (hpc + 1) (rx_rm lv k) [] L1)
      | none => if rx_hh P mi = [] then some (.inr E, L1, c1, s1) else none) else none
    | none => none
  else none
def rx_call (P : rx_P) (rc : rx_F) (mi F Lo pc : Nat) (lv : rx_L) (st : List Value) (L : List va_E) (ins : Instr) : Option rx_R := match ins with
  | .invokevirtual idx => match rx_ct P mi idx with
    | some (kd, mj, n) => match rx_take n st with
      | some (as, .ref b :: rest) => if kd = 0 ∧ rx_isa P L b (rx_yn P mj).cls = true then rx_inv P rc true mi F Lo pc lv mj (.ref b :: as) rest L else none
      | _ => none
    | none => none
  | .invokestatic idx => match rx_ct P mi idx with
    | some (kd, mj, n) => match rx_take n st with
      | some (as, rest) => if kd = 1 ∨ kd = 3 then rx_inv P rc true mi F Lo pc lv mj as rest L else if kd = 11 then rx_inv P rc false mi F Lo pc lv mj as rest L else none
      | none => none
    | none => none
  | .invokespecial idx => match rx_ct P mi idx with
    | some (kd, mj, n) => if kd = 6 then (match st with
        | .ref _ :: r => if 1 ≤ F ∧ rx_words r + 12 ≤ Lo then rc mi F Lo (pc + 3) lv r L else none
        | _ => none)
      else match rx_take n st with
        | some (as, .ref b :: rest) => if kd = 2 ∨ kd = 12 then rx_inv P rc false mi F Lo pc lv mj (.ref b :: as) rest L else none
        | _ => none
    | none => none
  | _ => none
def rx_go (P : rx_P) (rc : rx_F) (mi F Lo pc : Nat) (lv : rx_L) (st : List Value) (L : List va_E) : Option rx_R :=
  match rx_xt P mi pc with
  | some (E, nf, nl) => if st = [] ∧ nf < F ∧ nl ≤ Lo then some (.inr E, L, 1, 6) else none
  | none => match rx_cd P mi pc with
    | none => none
    | some ins => match rx_pure ins st with
      | some st' => rc mi F Lo (pc + rx_len ins) lv st' L
      | none => match rx_loc ins (rx_ml P mi) lv st with
        | some (lv', st') => rc mi F Lo (pc + rx_len ins) lv' st' L
        | none => match rx_jmp ins pc st with
          | some (pc', st') => rc mi F Lo pc' lv st' L
          | none => match rx_heap P mi ins st L with
            | some (st', L', dc, ds) => rx_add dc ds (rc mi F Lo (pc + rx_len ins) lv st' L')
            | none => match rx_ret ins st (rx_rt P mi) with
              | some v => some (.inl v, L, 0, 0)
              | none => rx_call P rc mi F Lo pc lv st L ins
def rx_run (P : rx_P) : Nat → rx_F
  | 0 => fun _ _ _ _ _ _ _ => none
  | f + 1 => rx_go P (rx_run P f)
end
section
/-! THE ABSTRACT MACHINE, part h: constants move along; what a body's run is -/
section RXH
variable {P : rx_P} {A B : Nat → Prop} {ad : Nat → Nat}
theorem rx_KC.at {s U : State} {H : Heap} {locs : List Loc} (h : rx_KC P A ad s s.heap) (hW : s.WarmedH U.vm) (hS : va_S A s.heap H locs) : rx_KC P A ad U H := by
  obtain ⟨h1, h2, h3, h4, h5, h6, h7, h8, h9, h10⟩ := h
  refine ⟨fun mi idx k hk => ?_, fun i bs hb => ?_, fun mi idx v hv => ?_, fun t C ht => ?_, fun mi idx kd mj n hc hk => ?_, fun a n f hf => ?_, fun mi pc E hpc k hk => ?_, ?_, ?_, fun mi pc E nf nl hx => ?_⟩
  · obtain ⟨g, tx, g2⟩ := h1 mi idx k hk
    exact ⟨g, tx, vk_R.warm hW g2⟩
  · obtain ⟨a1, a2, a3, a4⟩ := h2 i bs hb
    exact ⟨(va_O.moved hW.alike a1).kept hS.2.1, (va_OF.moved hW.alike a2).kept hS.2.1, (va_OF.moved hW.alike a3).kept hS.2.1, (va_T.moved hW.alike a4).kept hS.2.1⟩
  · obtain ⟨g, C, n, d, g1, g2⟩ := h3 mi idx v hv
    exact ⟨g, C, n, d, (va_Z.moved hW.alike g1).kept hS.2.1, g2⟩
  · exact va_AO.moved hW.alike (h4 t C ht)
  · obtain ⟨host, g⟩ := h5 mi idx kd mj n hc hk
    exact ⟨host, va_Nw.warmM hW g⟩
  · obtain ⟨g, g1⟩ := h6 a n f hf
    exact ⟨g, (va_T.moved hW.alike g1).kept hS.2.1⟩
  · rcases h7 mi pc E hpc k hk with ⟨x, suf, name, g1, g2, g3, g4, g5, g6⟩ | ⟨y, x, suf, nm1, name, g1, g2, g3, g4, g5, g6, g7, g8, g9, g10⟩
    · exact Or.inl ⟨x, suf, name, g1, g2, g3, g4, g5, va_Nw.warmC hW g6⟩
    · exact Or.inr ⟨y, x, suf, nm1, name, g1, g2, g3, g4, va_Nc.moved hW.alike g5, g6, g7, g8, g9, va_Nw.warmC hW g10⟩
  · exact (h8.moved hW.alike).kept hS.2.1
  · exact (h9.moved hW.alike).kept hS.2.1
  · obtain ⟨ik, is, ic, text, sa, names, t0, t1, t2, t3, t4, t5, t6, t7⟩ := h10 mi pc E nf nl hx
    refine ⟨ik, is, ic, text, sa, names, t0, t1, t2, t3, t4, vk_R.warm hW t5, fun w hw => ?_, t7⟩
    rcases t6 w hw with z | ⟨z, y⟩
    · exact Or.inl z
    · refine Or.inr ⟨z, ?_⟩
      rcases z with ⟨a, b, rfl⟩ | ⟨x, rfl⟩
      · exact va_Nw.warmC hW y
      · exact va_Nw.warmD hW y
theorem rx_KC.narrow {s : State} {H : Heap} (h : rx_KC P A ad s H) (hAB : ∀ q, B q → A q) : rx_KC P B ad s H := by
  obtain ⟨h1, h2, h3, h4, h5, h6, h7, h8, h9, h10⟩ := h
  refine ⟨h1, fun i bs hb => ?_, fun mi idx v hv => ?_, h4, h5, fun a n f hf => ?_, h7, h8.narrow hAB, h9.narrow hAB, h10⟩
  · obtain ⟨a1, a2, a3, a4⟩ := h2 i bs hb
    exact ⟨a1.narrow hAB, a2.narrow hAB, a3.narrow hAB, a4.narrow hAB⟩
  · obtain ⟨g, C, n, d, g1, g2⟩ := h3 mi idx v hv
    exact ⟨g, C, n, d, g1.narrow hAB, g2⟩
  · obtain ⟨g, g1⟩ := h6 a n f hf
    exact ⟨g, g1.narrow hAB⟩
theorem rx_KC.same {u U : State} {H : Heap} (hv : U.vm = u.vm) (h : rx_KC P A ad u H) : rx_KC P A ad U H := by
  have hal : u.vm.Alike U.vm := by rw [hv]; exact Vm.Alike.refl _
  obtain ⟨h1, h2, h3, h4, h5, h6, h7, h8, h9, h10⟩ := h
  refine ⟨fun mi idx k hk => ?_, fun i bs hb => ?_, fun mi idx v hv' => ?_, fun t C ht => ?_, fun mi idx kd mj n hc hk => ?_, fun a n f hf => ?_, fun mi pc E hpc k hk => ?_, ?_, ?_, fun mi pc E nf nl hx => ?_⟩
  · obtain ⟨g, tx, g2⟩ := h1 mi idx k hk
    exact ⟨g, tx, vk_R.same hv g2⟩
  · obtain ⟨a1, a2, a3, a4⟩ := h2 i bs hb
    exact ⟨va_O.moved hal a1, va_OF.moved hal a2, va_OF.moved hal a3, va_T.moved hal a4⟩
  · obtain ⟨g, C, n, d, g1, g2⟩ := h3 mi idx v hv'
    exact ⟨g, C, n, d, va_Z.moved hal g1, g2⟩
  · exact va_AO.moved hal (h4 t C ht)
  · obtain ⟨host, g⟩ := h5 mi idx kd mj n hc hk
    exact ⟨host, va_Nw.same rfl hv.symm g⟩
  · obtain ⟨g, g1⟩ := h6 a n f hf
    exact ⟨g, va_T.moved hal g1⟩
  · rcases h7 mi pc E hpc k hk with ⟨x, suf, name, g1, g2, g3, g4, g5, g6⟩ | ⟨y, x, suf, nm1, name, g1, g2, g3, g4, g5, g6, g7, g8, g9, g10⟩
    · exact Or.inl ⟨x, suf, name, g1, g2, g3, g4, g5, va_Nw.same rfl hv.symm g6⟩
    · exact Or.inr ⟨y, x, suf, nm1, name, g1, g2, g3, g4, va_Nc.moved hal g5, g6, g7, g8, g9, va_Nw.same rfl hv.symm g10⟩
  · exact h8.moved hal
  · exact h9.moved hal
  · obtain ⟨ik, is, ic, text, sa, names, t0, t1, t2, t3, t4, t5, t6, t7⟩ := h10 mi pc E nf nl hx
    refine ⟨ik, is, ic, text, sa, names, t0, t1, t2, t3, t4, vk_R.same hv t5, fun w hw => ?_, t7⟩
    rcases t6 w hw with z | ⟨z, y⟩
    · exact Or.inl z
    · refine Or.inr ⟨z, ?_⟩
      rcases z with ⟨a, b, rfl⟩ | ⟨x, rfl⟩
      · exact va_Nw.same rfl hv.symm y
      · exact va_Nw.same rfl hv.symm y
end RXH
/-- the code is the machine's; the words of its calls; the throws -/
def rx_OkD (P : rx_P) : Prop := ∀ mi pc ins, rx_cd P mi pc = some ins → ∃ len, decode (rx_cb P mi) pc = .ok (ins, len) ∧ (len = rx_len ins ∨ ∃ a b d f, ins = .tableswitch a b d f)
def rx_cd1 (P : rx_P) (mj : Nat) : Cond := if rx_hh P mj = [] then Cond.code (rx_yn P mj) (rx_cb P mj) (rx_ml P mj) (rx_rt P mj) else Cond.codeWith (rx_yn P mj) (rx_cb P mj) (rx_ml P mj) (rx_rt P mj) (rx_hh P mj)
def rx_OkM (P : rx_P) (mj : Nat) : Prop := plainName (rx_yn P mj).cls = true ∧ rx_cd1 P mj ∈ rx_TT ∧ Cond.initialized (rx_yn P mj).cls ∈ rx_TT ∧ (rx_yn P mj).cls ≠ "java/lang/invoke/MethodHandle" ∧ (rx_yn P mj).cls ≠ "java/lang/invoke/VarHandle"
def rx_OkI (P : rx_P) : Prop := ∀ mi idx kd mj n, rx_ct P mi idx = some (kd, mj, n) →
  (kd = 6 ∧ Cond.methodLink (rx_yn P mi).cls idx Lib.objectInit ∈ rx_TT) ∨
  (rx_OkM P mj ∧ (parseMethodDescriptor (rx_yn P mj).desc).map (fun d => d.parameters.length) = some n ∧
    ((kd = 0 ∧ rx_hh P mj = [] ∧ Cond.methodLink (rx_yn P mi).cls idx (rx_yn P mj) ∈ rx_TT ∧ Cond.instanceMethod (rx_yn P mj) ∈ rx_TT ∧ Cond.selects (rx_yn P mj).cls (rx_yn P mj) (rx_yn P mj) ∈ rx_TT) ∨
     ((kd = 1 ∨ kd = 3) ∧ (kd = 1 → rx_hh P mj = []) ∧ (kd = 3 → rx_hh P mj ≠ []) ∧ Cond.methodLink (rx_yn P mi).cls idx (rx_yn P mj) ∈ rx_TT ∧ Cond.static (rx_yn P mj) ∈ rx_TT) ∨
     (kd = 2 ∧ rx_hh P mj = [] ∧ Cond.methodLink (rx_yn P mi).cls idx (rx_yn P mj) ∈ rx_TT ∧ Cond.instanceMethod (rx_yn P mj) ∈ rx_TT ∧ (rx_yn P mj).name = "<init>" ∧ rx_rt P mj = none) ∨
     (kd = 11 ∧ rx_hh P mj = [] ∧ Cond.static (rx_yn P mj) ∈ rx_TT) ∨
     (kd = 12 ∧ rx_hh P mj = [] ∧ Cond.instanceMethod (rx_yn P mj) ∈ rx_TT ∧ (rx_yn P mj).name = "<init>" ∧ rx_rt P mj = none)))
/-- where a handler begins, what was thrown is stored -/
def rx_OkH (P : rx_P) : Prop := ∀ mi pc E hpc k, rx_ht P mi pc E = some (hpc, k) → decode (rx_cb P mi) hpc = .ok (.astore_n k, 1) ∧ (k : Nat) < rx_ml P mi
def rx_OkO : Prop := Cond.instanceMethod Lib.objectInit ∈ rx_TT ∧ Cond.code Lib.objectInit ⟨#[0xb1]⟩ 1 none ∈ rx_TT
/-- a run from here on means: the machine goes there -/
def rx_Body (P : rx_P) (l : Launch) (mi F Lo pc : Nat) (lv : rx_L) (st : List Value) (L : List va_E) (res : rx_R) : Prop :=
  ∀ (p : Program) (e : Env) (R : Room) (s : State) (m : MethodId) (args : Array Value) (below : List Frame) (meth : Method) (c : Code) (H : Heap) (locs : List Loc) (cells slots : Nat) (D : va_G) (dA : Nat → ClassId) (A : Nat → Prop) (ad : Nat → Nat) (ls : Array Slot) (Qc : Array Value → State → Outcome → State → Prop) (XC : String → State → State → Prop) (free : Addr → Prop),
    rx_Bd P mi p s m args meth c D dA A → R.frames = F → R.locals = Lo → cells + res.2.2.1 ≤ R.cells → slots + res.2.2.2 ≤ R.slots → rx_Wd D dA A ad L s H locs → rx_KC P A ad s s.heap →
    lv_has ls (rx_ml P mi) (rx_lc ad lv) → (∀ q ∈ lv, rx_okv L.length q.2) → (∀ v ∈ st, rx_okv L.length v) → (∀ q, A q → free q) →
    (∀ (ad' : Nat → Nat) (v : Option Value) (H' : Heap) (locs' : List Loc) (t : State), res.1 = .inl v → rx_ext L.length ad ad' → rx_Wd D dA A ad' res.2.1 s H' locs' → L.length ≤ res.2.1.length → (∀ w, v = some w → rx_okv res.2.1.length w) → t.heap = H' → s.WarmedH t.vm → Qc args s (.returned (v.map (rx_v ad'))) t) →
    (∀ (E : String) (ad' : Nat → Nat) (H' : Heap) (locs' : List Loc) (t : State), res.1 = .inr E → rx_ext L.length ad ad' → rx_Wd D dA A ad' res.2.1 s H' locs' → L.length ≤ res.2.1.length → t.heap = H' → s.vm.Alike t.vm → XC E s t) →
    W p l e R s m args below meth c H locs cells slots (vx_MQ below Qc XC args s R.cells R.slots free) (F0 m pc ls (st.map (rx_v ad)))
def rx_Sound (P : rx_P) (l : Launch) (rc : rx_F) : Prop := ∀ mi F Lo pc lv st L res, rc mi F Lo pc lv st L = some res → rx_Body P l mi F Lo pc lv st L res
end
section
/-! THE ABSTRACT MACHINE, part i: addresses stay in order; a callee's contract out of its run; behind a call -/
theorem rx_pure_okv {ins : Instr} {st st' : List Value} {n : Nat} (h : rx_pure ins st = some st') (hst : ∀ v ∈ st, rx_okv n v) : ∀ v ∈ st', rx_okv n v := by
  unfold rx_pure at h
  split at h <;> first
    | (cases h; done)
    | (cases h; exact rx_ok_cn (rx_okv_nr (fun _ q => by cases q)) hst)
    | (split at h <;> first
        | (cases h; done)
        | (cases h; exact rx_ok_cn (rx_okv_nr (fun _ q => by cases q)) (rx_ok_tl (rx_ok_tl hst)))
        | (cases h; exact rx_ok_cn (rx_okv_nr (fun _ q => by cases q)) (rx_ok_tl hst))
        | (split at h <;> first
            | (cases h; done)
            | (cases h; exact rx_ok_cn (rx_okv_nr (fun _ q => by cases q)) (rx_ok_tl (rx_ok_tl hst)))
            | (cases h; exact rx_ok_cn (hst _ List.mem_cons_self) hst)
            | (cases h; exact rx_ok_tl hst)
            | (cases h; exact rx_ok_cn (hst _ List.mem_cons_self) (rx_ok_cn (hst _ (List.mem_cons_of_mem _ List.mem_cons_self)) (rx_ok_cn (hst _ List.mem_cons_self) (rx_ok_tl (rx_ok_tl hst)))))
            | (cases h; exact rx_ok_cn (hst _ List.mem_cons_self) (rx_ok_cn (hst _ (List.mem_cons_of_mem _ List.mem_cons_self)) hst))
            | (cases h; exact rx_ok_cn (hst _ List.mem_cons_self) (rx_ok_cn (hst _ (List.mem_cons_of_mem _ List.mem_cons_self)) (rx_ok_cn (hst _ (List.mem_cons_of_mem _ (List.mem_cons_of_mem _ List.mem_cons_self))) (rx_ok_cn (hst _ List.mem_cons_self) (rx_ok_tl (rx_ok_tl (rx_ok_tl hst)))))))))
theorem rx_s1_okv {n i : Nat} {lv : rx_L} {v : Value} (hv : rx_okv n v) (h : ∀ q ∈ lv, rx_okv n q.2) : ∀ q ∈ rx_s1 lv i v, rx_okv n q.2 := fun q hq => (List.mem_cons.mp hq).elim (fun e => by rw [e]; exact hv) (fun e => h q (List.mem_filter.mp e).1)
theorem rx_s2_okv {n i : Nat} {lv : rx_L} {v : Value} (hv : rx_okv n v) (h : ∀ q ∈ lv, rx_okv n q.2) : ∀ q ∈ rx_s2 lv i v, rx_okv n q.2 := fun q hq => (List.mem_cons.mp hq).elim (fun e => by rw [e]; exact hv) (fun e => h q (List.mem_filter.mp e).1)
theorem rx_loc_okv {ins : Instr} {nL n : Nat} {lv lv' : rx_L} {st st' : List Value} (h : rx_loc ins nL lv st = some (lv', st')) (hlv : ∀ q ∈ lv, rx_okv n q.2) (hst : ∀ v ∈ st, rx_okv n v) : (∀ q ∈ lv', rx_okv n q.2) ∧ ∀ v ∈ st', rx_okv n v := by
  unfold rx_loc at h
  split at h <;> first
    | (cases h; done)
    | (split at h <;> first
        | (cases h; done)
        | (rename_i g; cases h; exact ⟨hlv, rx_ok_cn (hlv _ (rx_ld_mem g)) hst⟩)
        | (split at h <;> first
            | (cases h; done)
            | (cases h; exact ⟨rx_s1_okv (hst _ List.mem_cons_self) hlv, rx_ok_tl hst⟩)
            | (cases h; exact ⟨rx_s2_okv (hst _ List.mem_cons_self) hlv, rx_ok_tl hst⟩)
            | (cases h; exact ⟨rx_s1_okv (rx_okv_nr (fun _ q => by cases q)) hlv, hst⟩)))
theorem rx_jmp_okv {ins : Instr} {pc pc' n : Nat} {st st' : List Value} (h : rx_jmp ins pc st = some (pc', st')) (hst : ∀ v ∈ st, rx_okv n v) : ∀ v ∈ st', rx_okv n v := by
  unfold rx_jmp at h
  split at h <;> first
    | (cases h; done)
    | (split at h <;> first
        | (cases h; done)
        | (cases h; exact hst)
        | (split at h <;> first
            | (cases h; done)
            | (cases h; exact rx_ok_tl hst)
            | (cases h; exact rx_ok_tl (rx_ok_tl hst))
            | (split at h <;> first
                | (cases h; done)
                | (cases h; exact rx_ok_tl hst)
                | (split at h <;> first
                    | (cases h; done)
                    | (cases h; exact rx_ok_tl hst)))))
theorem rx_lc_args (ad : Nat → Nat) : ∀ (as : List Value) (i : Nat), lv_args i (as.map (rx_v ad)) = rx_lc ad (lv_args i as)
  | [], i => rfl
  | v :: r, i => by
    simp only [List.map_cons, lv_args, rx_v_cat]
    rw [rx_lc_args ad r]
    rfl
theorem rx_sl_len (ad : Nat → Nat) (as : List Value) : (lg_sl (as.map (rx_v ad))).length = (lg_sl as).length := by
  unfold lg_sl
  induction as with
  | nil => rfl
  | cons v r ih =>
    simp only [List.map_cons, List.flatMap_cons, List.length_append, rx_v_cat, ih]
    split <;> rfl
theorem rx_args_okv {n : Nat} : ∀ (as : List Value) (i : Nat), (∀ v ∈ as, rx_okv n v) → ∀ q ∈ lv_args i as, rx_okv n q.2
  | [], i, _, q, hq => by cases hq
  | v :: r, i, h, q, hq => (List.mem_cons.mp hq).elim (fun e => by rw [e]; exact h v List.mem_cons_self) (fun e => rx_args_okv r _ (rx_ok_tl h) q e)
def rx_ws (P : rx_P) (mj : Nat) : List Cond := rx_cd1 P mj :: rx_TT
theorem rx_ws0 {P : rx_P} {mj : Nat} (h : rx_hh P mj = []) : rx_ws P mj = Cond.code (rx_yn P mj) (rx_cb P mj) (rx_ml P mj) (rx_rt P mj) :: rx_TT := by
  unfold rx_ws rx_cd1
  rw [if_pos h]
theorem rx_ws1 {P : rx_P} {mj : Nat} (h : rx_hh P mj ≠ []) : rx_ws P mj = Cond.codeWith (rx_yn P mj) (rx_cb P mj) (rx_ml P mj) (rx_rt P mj) (rx_hh P mj) :: rx_TT := by
  unfold rx_ws rx_cd1
  rw [if_neg h]
theorem rx_good {P : rx_P} {mj : Nat} (h : rx_OkM P mj) : GoodIn rx_TT (rx_ws P mj) := fun w hw => (List.mem_cons.mp hw).elim (fun e => by rw [e]; exact ⟨h.2.1, rx_TT_good h.2.1⟩) (fun e => ⟨e, rx_TT_good e⟩)
def rx_Pc (P : rx_P) (D : va_G) (dA : Nat → ClassId) (ad : Nat → Nat) (L : List va_E) (as : List Value) (sz : Nat) : Array Value → State → Prop :=
  va_Pc (as.map (rx_v ad)) (fun U => U.heap.size = sz ∧ va_P D vwCl (rx_cw ad dA 0 L) U.heap ∧ va_K D vwCl (rx_tys dA) U ∧ va_D (fun _ => True) (rx_cw ad dA 0 L) ∧ rx_KC P (va_A (rx_cw ad dA 0 L) sz) ad U U.heap)
def rx_Af (D : va_G) (dA : Nat → ClassId) (A : Nat → Prop) (ad : Nat → Nat) (L L1 : List va_E) (ad' : Nat → Nat) (st t : State) : Prop :=
  rx_ext L.length ad ad' ∧ va_P D vwCl (rx_cw ad' dA 0 L1) t.heap ∧ va_D A (rx_cw ad' dA 0 L1) ∧ rx_ok L1.length L1 ∧ L1.length ≤ rx_B ∧ L.length ≤ L1.length ∧ va_F A st t
def rx_Qr (D : va_G) (dA : Nat → ClassId) (A : Nat → Prop) (ad : Nat → Nat) (L : List va_E) (o : (Option Value) ⊕ String) (L1 : List va_E) : Array Value → State → Outcome → State → Prop :=
  fun _ st oc t => ∃ (ad' : Nat → Nat) (v : Option Value), o = .inl v ∧ oc = .returned (v.map (rx_v ad')) ∧ (∀ w, v = some w → rx_okv L1.length w) ∧ rx_Af D dA A ad L L1 ad' st t
def rx_Xr (D : va_G) (dA : Nat → ClassId) (A : Nat → Prop) (ad : Nat → Nat) (L : List va_E) (o : (Option Value) ⊕ String) (L1 : List va_E) : String → State → State → Prop :=
  fun E st t => o = .inr E ∧ ∃ ad' : Nat → Nat, rx_Af D dA A ad L L1 ad' st t
set_option maxHeartbeats 4000000 in
theorem rx_met {P : rx_P} {l : Launch} {rc : rx_F} {mj F Lo : Nat} {as : List Value} {L L1 : List va_E} {o : (Option Value) ⊕ String} {c1 s1 : Nat} (okM : rx_OkM P mj) (hrc : rx_Sound P l rc) (h : rc mj F Lo 0 (lv_args 0 as) [] L = some (o, L1, c1, s1)) (hsl : (lg_sl as).length ≤ rx_ml P mj)
    (hok : rx_ok L.length L) (hlen : L.length ≤ rx_B) (has : ∀ v ∈ as, rx_okv L.length v) (D : va_G) (dA : Nat → ClassId) (ad : Nat → Nat) (sz : Nat) :
    vx_Met l (rx_yn P mj) (rx_ws P mj) ({ frames := F, cells := c1, slots := s1, locals := Lo }) (rx_Pc P D dA ad L as sz) (rx_Qr D dA (va_A (rx_cw ad dA 0 L) sz) ad L o L1) (rx_Xr D dA (va_A (rx_cw ad dA 0 L) sz) ad L o L1) c1 s1 (va_A (rx_cw ad dA 0 L) sz) := by
  have body : ∀ (p : Program) (e : Env) (s : State) (m : MethodId) (args : Array Value) (below : List Frame) (meth : Method) (c : Code) (s₁ : State), BodyLoose p l (rx_yn P mj) (headSpec (rx_ws P mj) ({ frames := F, cells := c1, slots := s1, locals := Lo })) (rx_cb P mj) (rx_ml P mj) (rx_rt P mj) e s m args below meth c s₁ → c.maxLocals = rx_ml P mj → c.exceptionTable.toList = tableOf (rx_hh P mj) → rx_Pc P D dA ad L as sz args s →
      W p l e (headSpec (rx_ws P mj) ({ frames := F, cells := c1, slots := s1, locals := Lo })).room s m args below meth c s.heap [] 0 0 (vx_MQ below (rx_Qr D dA (va_A (rx_cw ad dA 0 L) sz) ad L o L1) (rx_Xr D dA (va_A (rx_cw ad dA 0 L) sz) ad L o L1) args s c1 s1 (va_A (rx_cw ad dA 0 L) sz)) (entryFrame m args (rx_ml P mj)) := by
   intro p e s m args below meth c s₁ B hml htab hv
   obtain ⟨rfl, hsz, hP, hK, hD0, hC⟩ := hv
   have hts := atoms_spec (ws := rx_ws P mj) B.pre
   have hD : va_D (va_A (rx_cw ad dA 0 L) sz) (rx_cw ad dA 0 L) := hD0.self (sz := sz)
   have hl := lv_entry (as.map (rx_v ad)) (n := rx_ml P mj) (by rw [rx_sl_len]; exact hsl)
   rw [lg_entry_eq]
   generalize (lg_sl (as.map (rx_v ad)) ++ List.replicate (rx_ml P mj - (lg_sl (as.map (rx_v ad))).length) Slot.unset).toArray = ls at hl ⊢
   rw [rx_lc_args] at hl
   refine hrc mj F Lo 0 (lv_args 0 as) [] L _ h p e _ s m _ below meth c s.heap [] 0 0 D dA (va_A (rx_cw ad dA 0 L) sz) ad ls _ _ _
     ⟨B.exec, B.bytes, hml, findClass_of_methodNamed B.named, fun w hw => hts w (List.mem_cons_of_mem _ hw), (name_of_methodNamed B.named B.method).1, B.notSynchronized, B.returns, hK, fun q hq => Or.inr (by rw [← hsz]; exact hq), htab⟩
     rfl rfl (by show 0 + c1 ≤ c1; omega) (by show 0 + s1 ≤ s1; omega) ⟨hP, hD, va_S.rf, hok, hlen⟩ hC hl (rx_args_okv as 0 has) (fun v hv => by cases hv) (fun q hq => hq) ?_ ?_
   · intro ad' v H' locs' t e1 he hW' hle hv' ht' hwarm
     exact ⟨ad', v, e1, rfl, hv', he, by rw [ht']; exact hW'.1, hW'.2.1, hW'.2.2.2.1, hW'.2.2.2.2, hle, hW'.2.2.1.F ht'⟩
   · intro E ad' H' locs' t e1 he hW' hle ht' hal
     exact ⟨e1, ad', he, by rw [ht']; exact hW'.1, hW'.2.1, hW'.2.2.2.1, hW'.2.2.2.2, hle, hW'.2.2.1.F ht'⟩
  by_cases h0 : rx_hh P mj = []
  · refine vx_ofW (cc := rx_cb P mj) (maxL := rx_ml P mj) (ret := rx_rt P mj) okM.1 (rx_ws0 h0) ?_
    intro p e s m args below meth c s₁ B hml ht hv
    refine body p e s m args below meth c s₁ B hml ?_ hv
    rw [h0, List.eq_nil_iff_forall_not_mem.mpr (fun x hx => ht x hx)]
    rfl
  · refine vx_ofWH (cc := rx_cb P mj) (maxL := rx_ml P mj) (ret := rx_rt P mj) okM.1 (rx_ws1 h0) ?_
    intro p e s m args below meth c s₁ B hml hv
    exact body p e s m args below meth c s₁ B hml (vx_table (x := rx_yn P mj) B (atoms_spec (ws := rx_ws P mj) B.pre _ (by rw [rx_ws1 h0]; exact List.mem_cons_self))) hv
end
section
/-! THE ABSTRACT MACHINE, part j: a step of it is a step of the machine -/
theorem rx_blind {P : rx_P} {D : va_G} {dA : Nat → ClassId} {ad : Nat → Nat} {L : List va_E} {as : List Value} {sz : Nat} : FrameBlind (rx_Pc P D dA ad L as sz) := fun a U g mk q => by
  obtain ⟨q0, q1, qP, qK, qD, qC⟩ := q
  exact ⟨q0, q1, qP, va_K.moved (u := U) (U := U.calling g mk a) (Vm.Alike.refl U.vm) qK, qD, rx_KC.same (u := U) (U := U.calling g mk a) rfl qC⟩
section RXJ
variable {p : Program} {l : Launch} {e : Env} {R : Room} {s : State} {m : MethodId} {args : Array Value} {below : List Frame} {meth : Method} {c : Code} {H : Heap} {locs : List Loc} {cells slots : Nat} {Q : State → Prop}
variable {P : rx_P} {mi pc : Nat} {ls : Array Slot} {D : va_G} {dA : Nat → ClassId} {A : Nat → Prop} {ad : Nat → Nat} {L : List va_E}
theorem rx_AA (hA : ∀ q : Nat, s.heap.size ≤ q → A q) (hW : rx_Wd D dA A ad L s H locs) : ∀ q, va_A (rx_cw ad dA 0 L) H.size q → A q := fun q h => by
  rcases h with ⟨k, x, h⟩ | h
  · exact hW.2.1.2 k (q, x) h
  · exact hA q (Nat.le_trans hW.2.2.1.1 h)
theorem rx_pre (hK : va_K D vwCl (rx_tys dA) s) (hA : ∀ q : Nat, s.heap.size ≤ q → A q) (hW : rx_Wd D dA A ad L s H locs) (hC : rx_KC P A ad s s.heap) (as : List Value) : ∀ U : State, U.heap = H → s.WarmedH U.vm → rx_Pc P D dA ad L as H.size (as.map (rx_v ad)).toArray U := fun U hU hWm =>
  ⟨rfl, by rw [hU], by rw [hU]; exact hW.1, va_K.moved hWm.alike hK, ⟨hW.2.1.1, fun _ _ _ => trivial⟩, by rw [hU]; exact (hC.at hWm hW.2.2.1).narrow (rx_AA hA hW)⟩
theorem rx_ofRun {mc ms : Nat} {g : JFrame} {rest : List Value} {Qa : State → Outcome → State → Prop} {XC : String → State → State → Prop} {free : Addr → Prop} (h : va_Run p l e R s m args below meth c H locs cells slots mc ms g rest Qa free) : vx_Run p l e R s m args below meth c H locs cells slots mc ms g rest Qa XC free := fun T hT X => Or.inl (h T hT X)
theorem rx_noX {y : MethodName} {ws : List Cond} {rm : Room} {Pc : Array Value → State → Prop} {Qc : Array Value → State → Outcome → State → Prop} {XC : String → State → State → Prop} {mc ms : Nat} {free : Addr → Prop} (hM : vx_Met l y ws rm Pc Qc XC mc ms free) (hX : ∀ E st t, ¬ XC E st t) : Met l y ws rm Pc Qc mc ms free := by
  intro p e ha hc hk s m args below hf hap hP hK
  obtain ⟨t, o, h1, h2, h3, h4⟩ := hM p e ha hc hk s m args below hf hap hP hK
  refine ⟨t, o, h1, h2, h3, ?_⟩
  rcases h4 with h4 | ⟨q, -, E, ce, L, g, -⟩
  · exact h4
  · exact absurd g (hX E _ _)
/-- behind a call -/
theorem rx_back {o : (Option Value) ⊕ String} {L1 : List va_E} {c1 s1 : Nat} {a : Array Value} {st0 rest : List Value} (hA : ∀ q : Nat, s.heap.size ≤ q → A q) (hW : rx_Wd D dA A ad L s H locs)
    (hr : vx_Run p l e R s m args below meth c H locs cells slots c1 s1 (F0 m pc ls st0) rest (rx_Qr D dA (va_A (rx_cw ad dA 0 L) H.size) ad L o L1 a) (rx_Xr D dA (va_A (rx_cw ad dA 0 L) H.size) ad L o L1) (va_A (rx_cw ad dA 0 L) H.size))
    (kk : ∀ (v : Option Value) (ad' : Nat → Nat) (H1 : Heap) (locs1 : List Loc), o = .inl v → (∀ w, v = some w → rx_okv L1.length w) → rx_ext L.length ad ad' → L.length ≤ L1.length → rx_Wd D dA A ad' L1 s H1 locs1 → W p l e R s m args below meth c H1 locs1 (cells + c1) (slots + s1) Q (F0 m (pc + 3) ls ((v.map (rx_v ad')).toList ++ rest)))
    (kx : ∀ (E : String) (ad' : Nat → Nat) (H1 : Heap) (locs1 : List Loc) (ce : Cell) (q : Addr), o = .inr E → rx_ext L.length ad ad' → L.length ≤ L1.length → rx_Wd D dA A ad' L1 s H1 locs1 → H1[q]? = some ce → ce.vm = .none → s.vm.findClass E = some ce.cls → vx_W p l e R s m args below meth c H1 locs1 (cells + c1) (slots + s1) Q (F0 m pc ls rest) q) :
    W p l e R s m args below meth c H locs cells slots Q (F0 m pc ls st0) := by
  have hAA := rx_AA hA hW
  intro T hT X
  rcases hr T hT X with ⟨v, st₀, t, T', L', h0, X', hL, e1, e2, ⟨ad', v', hv1, hv2, hv3, h1, h2, h3, h4, h5, h6, hF⟩, st⟩ | ⟨q, st₀, t, T', L', E, ce, h0, X', hL, e1, e2, ⟨hv1, ad', h1, h2, h3, h4, h5, h6, hF⟩, hce, hcv, hcl, st⟩
  · cases hv2
    obtain ⟨k1, k2, k3⟩ := vx_keep h0 e1 hW.2.2.1 (fun q _ hq => hAA q hq) hAA hL hF
    obtain ⟨t2, a1, b1⟩ := kk v' ad' T'.heap (locs ++ L') hv1 hv3 h1 h6 ⟨by rw [e1]; exact h2, ⟨h3.1, fun k x hx => hAA _ (h3.2 k x hx)⟩, k3, h4, h5⟩ T' rfl X'
    exact ⟨t2, st t2 a1, b1⟩
  · obtain ⟨k1, k2, k3⟩ := vx_keep h0 e1 hW.2.2.1 (fun q _ hq => hAA q hq) hAA hL hF
    obtain ⟨t2, a1, b1⟩ := kx E ad' T'.heap (locs ++ L') ce q hv1 h1 h6 ⟨by rw [e1]; exact h2, ⟨h3.1, fun k x hx => hAA _ (h3.2 k x hx)⟩, k3, h4, h5⟩ (by rw [e1]; exact hce) hcv hcl T' rfl X'
    exact ⟨t2, st.trans a1, b1⟩
end RXJ
theorem rx_take_spec {n : Nat} {st as rest : List Value} (h : rx_take n st = some (as, rest)) : st = as.reverse ++ rest ∧ as.length = n := by
  unfold rx_take at h
  split at h
  · rename_i hn
    cases h
    refine ⟨by rw [List.reverse_reverse, List.take_append_drop], ?_⟩
    rw [List.length_reverse, List.length_take]
    omega
  · cases h
set_option maxHeartbeats 4000000 in
theorem rx_throw {P : rx_P} {l : Launch} (hst : l.stackTraces = false) {mi F Lo pc : Nat} {lv : rx_L} {L : List va_E} {E : String} {nf nl : Nat} (hx : rx_xt P mi pc = some (E, nf, nl)) (h1 : nf < F) (h2 : nl ≤ Lo) : rx_Body P l mi F Lo pc lv [] L (.inr E, L, 1, 6) := by
  intro p e R s m args below meth c H locs cells slots D dA A ad ls Qc XC free bd hF hLo hc hs hW hC hl hlo hst' hfree hQ hX
  obtain ⟨hex, hb, hml, hown, hts, hname, hlocks, hret, hK, hA, htab⟩ := id bd
  have hc : cells + 1 ≤ R.cells := hc
  have hs : slots + 6 ≤ R.slots := hs
  obtain ⟨-, -, -, -, -, -, -, k1, k2, k3⟩ := id hC
  obtain ⟨ik, is, ic, text, sa, names, t0, t1, t2, t3, t4, t5, t6, t7, d0, d3, d4, n1, n2⟩ := k3 mi pc E nf nl hx
  have hat : ∀ w ∈ vx_atS (rx_yn P mi).cls ic E names, w.before args s = true := fun w hw => by
    rcases t6 w hw with z | ⟨z, y⟩
    · exact hts _ z
    · rcases z with ⟨a, b, rfl⟩ | ⟨x, rfl⟩
      · exact va_Nw.use rfl y
      · exact va_Nw.use rfl y
  have hfin : ∀ t : State, s.vm.Alike t.vm → H.size ≤ t.heap.size → (∀ q : Nat, q < H.size → t.heap[q]? = H[q]?) → XC E s t := by
    intro t hal hsz hkeep
    have hlt : ∀ (k : Nat) (q : Nat × va_E), (rx_cw ad dA 0 L)[k]? = some q → q.1 < H.size := fun k q hq => (hW.1 k q hq).lt
    exact hX E ad t.heap locs t rfl rx_ext.rf ⟨hW.1.kept (fun k q hq => hkeep _ (hlt k q hq)), hW.2.1, ⟨Nat.le_trans hW.2.2.1.1 hsz, fun q g1 g2 => (hkeep q (Nat.lt_of_lt_of_le g1 hW.2.2.1.1)).trans (hW.2.2.1.2.1 q g1 g2), hW.2.2.1.2.2⟩, hW.2.2.2.1, hW.2.2.2.2⟩ (Nat.le_refl _) rfl hal
  have hout : ∀ (z : Nat), ∀ x ∈ c.exceptionTable.toList, covers x z = false := fun z x hx' => by rw [htab, t0] at hx'; cases hx'
  rcases d4 with ⟨d4, d6, d9⟩ | ⟨d4, d7, d10⟩
  · exact vx_throwS hex hb hst hown t1 t2 (hts _ t3) (hts _ t4) t5 hat t7 k1 k2 hW.2.2.1 (hl.1.trans hml.symm) d0 d3 d4 d6 d9 (hout _) (by omega) (by show 0 + (13 * (names.length + 1) + 43) ≤ R.locals; omega) hc hs hlocks hfin (fun z hz => hfree _ (hW.2.2.1.2.2 z hz)) hc hs
  · exact vx_throwSW hex hb hst hown t1 t2 (hts _ t3) (hts _ t4) t5 hat t7 k1 k2 hW.2.2.1 (hl.1.trans hml.symm) d0 d3 d4 d7 d10 (hout _) (by omega) (by show 0 + (13 * (names.length + 1) + 43) ≤ R.locals; omega) hc hs hlocks hfin (fun z hz => hfree _ (hW.2.2.1.2.2 z hz)) hc hs
def rx_OkAll (P : rx_P) (l : Launch) : Prop := rx_Ok P ∧ rx_OkD P ∧ rx_OkI P ∧ rx_OkO ∧ l.stackTraces = false ∧ rx_OkH P
end
section
/-! CAUGHT BY THE CALLER: the first row of its table, or the second where the first names another class -/
section RXM
variable {e : Env} {s : State} {f : JFrame} {a : Addr}
def rx_Fs (e : Env) (f : JFrame) (a : Addr) (t : List ExceptionTableEntry) (s : State) (h : Handler) (s' : State) : Prop := ∀ (Q : Handler → Pre) (E : CtlPost) (d : Bool) (acts : List Action), wp (findHandler.go f a t) Q E e d acts s ↔ Q h d acts s'
theorem rx_Fs_hit {x : ExceptionTableEntry} {t : List ExceptionTableEntry} {c : ClassId} {vm' : Vm} {cell : Cell} (hx : covers x f.pc = true) (h0 : x.catchType ≠ 0) (hg : (Jvm.resolveClass f.method.cls x.catchType).Gives e.toSetting s.vm (.ok c) vm') (hsz : vm'.classes.size ≤ s.vm.classes.size)
    (hcell : s.heap[a]? = some cell) (hobj : ∀ k, cell.vm ≠ .statics k) (hk : ∃ k, vm'.classes[cell.cls]? = some k) (hc : ∃ k, vm'.classes[c]? = some k) (hfit : vm'.assignable cell.cls c = true) : rx_Fs e f a (x :: t) s (.found x.handlerPc) (s.setVm vm') := by
  intro Q E d acts
  obtain ⟨ha, ht⟩ := hg.op (op := VmOp.resolveClass f.method.cls x.catchType) rfl
  simp only [covers] at hx
  simp [findHandler.go, hx, h0, ha, ht, hsz, hcell, hobj, hk, hc, hfit, VmOp.dirties, VmOp.acts]
theorem rx_Fs_miss {x : ExceptionTableEntry} {t : List ExceptionTableEntry} {c : ClassId} {vm' : Vm} {cell : Cell} {h : Handler} {s'' : State} (hx : covers x f.pc = true) (h0 : x.catchType ≠ 0) (hg : (Jvm.resolveClass f.method.cls x.catchType).Gives e.toSetting s.vm (.ok c) vm') (hsz : vm'.classes.size ≤ s.vm.classes.size)
    (hcell : s.heap[a]? = some cell) (hobj : ∀ k, cell.vm ≠ .statics k) (hk : ∃ k, vm'.classes[cell.cls]? = some k) (hc : ∃ k, vm'.classes[c]? = some k) (hfit : vm'.assignable cell.cls c = false) (hn : rx_Fs e f a t (s.setVm vm') h s'') : rx_Fs e f a (x :: t) s h s'' := by
  intro Q E d acts
  obtain ⟨ha, ht⟩ := hg.op (op := VmOp.resolveClass f.method.cls x.catchType) rfl
  have hn' := hn
  unfold rx_Fs at hn'
  simp only [covers] at hx
  simp [findHandler.go, hx, h0, ha, ht, hsz, hcell, hobj, hk, hc, hfit, hn', VmOp.dirties, VmOp.acts]
theorem rx_stepCatch {r : List Frame} {pc : Nat} {vm' : Vm} (hfind : ∀ (Q : Handler → Pre) (E : CtlPost) (d : Bool) (acts : List Action), wp (findHandler f a) Q E e d acts s ↔ Q (.found pc) d acts (s.setVm vm')) :
    (stepThrowing e s a (.java f :: r)).Is ((s.setVm vm').setFrames (.java { f with pc := pc, stack := [.ref a] } :: r)) [] := by
  simp only [stepThrowing, searchFrame, vmDo]
  generalize hr : Sem.go _ e false [] s = res
  obtain ⟨as, rfl, ha⟩ := Sem.eq_ok_of hr (a := Handler.found pc) (s' := s.setVm vm') (acts' := []) (by simp [hfind _ _ _ _])
  exact ⟨rfl, ha⟩
end RXM
section RXN
variable {p : Program} {l : Launch} {e : Env} {R : Room} {s : State} {m : MethodId} {args : Array Value} {below : List Frame} {meth : Method} {c : Code} {T : State} {H : Heap} {locs : List Loc} {cells slots : Nat} {Q : State → Prop}
theorem rx_caughtAt (X : Stand p l e R s m args below meth c T locs cells slots) {g : JFrame} (hg : g.method = m) {q : Addr} {pc : Nat} {vm' : Vm} (X' : Stand p l e R s m args below meth c (T.setVm vm') locs cells slots)
    (hfind : rx_Fs e g q c.exceptionTable.toList ((T.setTop g).pushFrame (.throwing q)) (.found pc) (((T.setTop g).pushFrame (.throwing q)).setVm vm')) :
    ∀ tg, Steps p.tables e below ((T.setVm vm').setTop { g with pc := pc, stack := [.ref q] }) tg → Steps p.tables e below ((T.setTop g).pushFrame (.throwing q)) tg := by
  subst hg
  intro tg hrest
  have h : At T g.method c below := X.here
  obtain ⟨hgo, hw⟩ := h.throwing q
  refine Steps.head hgo hw ?_
  have hm : ((T.setTop g).pushFrame (.throwing q)).vm.method? g.method = some meth := by simpa [State.pushFrame, State.setFrames] using X.method'
  rw [stepThread_throwing (frames_entered h.top _), (rx_stepCatch (s := (T.setTop g).pushFrame (.throwing q)) (vm' := vm') (fun Q E d acts => (W.findHandler_eq hm X.code).trans (hfind Q E d acts))).1]
  obtain ⟨g₀, hg0⟩ := Option.isSome_iff_exists.mp h.top
  obtain ⟨r, hr⟩ := State.topJava?_eq_some.mp hg0
  have hr' : (T.setVm vm').frames = .java g₀ :: r := hr
  rw [State.setTop_of_frames _ hr'] at hrest
  have e1 : (((T.setTop g).pushFrame (.throwing q)).setVm vm').setFrames (.java { g with pc := pc, stack := [.ref q] } :: T.frames.tail) = (T.setVm vm').setFrames (.java { g with pc := pc, stack := [.ref q] } :: r) := by
    rw [hr]
    rw [State.pushFrame, State.setTop_of_frames _ hr, State.setFrames_setFrames]
    generalize (T.setFrames (.java g :: r)).frames = fr
    show ((T.setVm vm').setFrames (.throwing q :: fr)).setFrames (.java { g with pc := pc, stack := [.ref q] } :: r) = _
    rw [State.setFrames_setFrames]
  rw [e1]
  exact hrest
end RXN
section RXO
variable {p : Program} {l : Launch} {e : Env} {R : Room} {s : State} {m : MethodId} {args : Array Value} {below : List Frame} {meth : Method} {c : Code} {H : Heap} {locs : List Loc} {cells slots : Nat} {Q : State → Prop}
theorem rx_catch1 {own name E : String} {ce : Cell} {q : Addr} {x : ExceptionTableEntry} {suf : List ExceptionTableEntry} {pc : Nat} {ls : Array Slot} {rest : List Value} (hown : s.vm.findClass own = some m.cls) (htab : c.exceptionTable.toList = x :: suf) (hx : covers x pc = true) (h0 : x.catchType ≠ 0)
    (hlink : (Cond.classLink own x.catchType name).before args s = true) (hcast : (Cond.castable E name).before args s = true) (hcell : H[q]? = some ce) (hv : ce.vm = .none) (hcl : s.vm.findClass E = some ce.cls)
    (kk : W p l e R s m args below meth c H locs cells slots Q (F0 m x.handlerPc ls [.ref q])) : vx_W p l e R s m args below meth c H locs cells slots Q (F0 m pc ls rest) q := by
  intro T hT X
  have hpl : e.platform.magicAccessors = ({} : Platform).magicAccessors := by rw [X.admits.platform]
  obtain ⟨c3, c4, hc3, hc4, hasg⟩ := Cond.castable_spec hcast
  cases Option.some.inj (hc3.symm.trans hcl)
  obtain ⟨c5, hc5, hcl5⟩ := Cond.classLink_spec hown hlink e.platform hpl
  cases Option.some.inj (hc4.symm.trans hc5)
  obtain ⟨hg₁, hwarm₁, hready₁⟩ := State.classEntry (e := e) X.warmed hcl5
  generalize T.vm.noted m.cls x.catchType (.cls c4) = vm₁ at hg₁ hwarm₁ hready₁
  have X₁ := X.noted hwarm₁
  have hsz : vm₁.classes.size ≤ T.vm.classes.size := by no_record
  have hk1 : ∃ k, vm₁.classes[ce.cls]? = some k := by
    obtain ⟨k9, h9, -⟩ := Vm.findClass_spec hcl
    obtain ⟨k8, h8, -⟩ := hwarm₁.alike.2.2 _ _ h9
    exact ⟨k8, h8⟩
  have hk2 : ∃ k, vm₁.classes[c4]? = some k := by
    obtain ⟨k9, h9, -⟩ := Vm.findClass_spec hc4
    obtain ⟨k8, h8, -⟩ := hwarm₁.alike.2.2 _ _ h9
    exact ⟨k8, h8⟩
  obtain ⟨t, a1, b1⟩ := kk (T.setVm vm₁) hT X₁
  refine ⟨t, rx_caughtAt X (g := F0 m pc ls rest) rfl (pc := x.handlerPc) X₁ ?_ t a1, b1⟩
  rw [htab]
  exact rx_Fs_hit (f := F0 m pc ls rest) hx h0 hg₁ hsz (by show T.heap[q]? = some ce; rw [hT]; exact hcell) (fun k h => by rw [hv] at h; cases h) hk1 hk2 (by rw [hwarm₁.alike.assignable]; exact hasg)
theorem rx_catch2 {own name nm1 E : String} {ce : Cell} {q : Addr} {y x : ExceptionTableEntry} {suf : List ExceptionTableEntry} {pc : Nat} {ls : Array Slot} {rest : List Value} (hown : s.vm.findClass own = some m.cls) (htab : c.exceptionTable.toList = y :: x :: suf) (hy : covers y pc = true) (hy0 : y.catchType ≠ 0) (hlink1 : (Cond.classLink own y.catchType nm1).before args s = true) (hnc : va_Nc E nm1 s)
    (hx : covers x pc = true) (h0 : x.catchType ≠ 0)
    (hlink : (Cond.classLink own x.catchType name).before args s = true) (hcast : (Cond.castable E name).before args s = true) (hcell : H[q]? = some ce) (hv : ce.vm = .none) (hcl : s.vm.findClass E = some ce.cls)
    (kk : W p l e R s m args below meth c H locs cells slots Q (F0 m x.handlerPc ls [.ref q])) : vx_W p l e R s m args below meth c H locs cells slots Q (F0 m pc ls rest) q := by
  intro T hT X
  have hpl : e.platform.magicAccessors = ({} : Platform).magicAccessors := by rw [X.admits.platform]
  obtain ⟨c3, c4, hc3, hc4, hasg⟩ := Cond.castable_spec hcast
  cases Option.some.inj (hc3.symm.trans hcl)
  obtain ⟨c5, hc5, hcl5⟩ := Cond.classLink_spec hown hlink e.platform hpl
  cases Option.some.inj (hc4.symm.trans hc5)
  obtain ⟨c6, hc6, hcl6⟩ := Cond.classLink_spec hown hlink1 e.platform hpl
  obtain ⟨a8, b8, n1, n2, n3⟩ := hnc
  cases Option.some.inj (n1.symm.trans hcl)
  cases Option.some.inj (n2.symm.trans hc6)
  obtain ⟨hg₁, hwarm₁, hready₁⟩ := State.classEntry (e := e) X.warmed hcl6
  generalize T.vm.noted m.cls y.catchType (.cls c6) = vm₁ at hg₁ hwarm₁ hready₁
  have X₁ := X.noted hwarm₁
  have hsz : vm₁.classes.size ≤ T.vm.classes.size := by no_record
  obtain ⟨hg₂, hwarm₂, hready₂⟩ := State.classEntry (e := e) X₁.warmed hcl5
  generalize (T.setVm vm₁).vm.noted m.cls x.catchType (.cls c4) = vm₂ at hg₂ hwarm₂ hready₂
  have X₂ : Stand p l e R s m args below meth c (T.setVm vm₂) locs cells slots := X.noted hwarm₂
  have hsz2 : vm₂.classes.size ≤ vm₁.classes.size := by no_record
  have hk : ∀ {vm : Vm}, s.vm.Alike vm → ∀ {n : String} {k : ClassId}, s.vm.findClass n = some k → ∃ z, vm.classes[k]? = some z := by
    intro vm hal n k hn
    obtain ⟨k9, h9, -⟩ := Vm.findClass_spec hn
    obtain ⟨k8, h8, -⟩ := hal.2.2 _ _ h9
    exact ⟨k8, h8⟩
  obtain ⟨t, a1, b1⟩ := kk (T.setVm vm₂) hT X₂
  refine ⟨t, rx_caughtAt X (g := F0 m pc ls rest) rfl (pc := x.handlerPc) X₂ ?_ t a1, b1⟩
  rw [htab]
  refine rx_Fs_miss (f := F0 m pc ls rest) (cell := ce) hy hy0 hg₁ hsz (by show T.heap[q]? = some ce; rw [hT]; exact hcell) (fun k h => by rw [hv] at h; cases h) (hk hwarm₁.alike hcl) (hk hwarm₁.alike hc6) (by rw [hwarm₁.alike.assignable]; exact n3) ?_
  exact rx_Fs_hit (f := F0 m pc ls rest) (s := ((T.setTop (F0 m pc ls rest)).pushFrame (.throwing q)).setVm vm₁) (vm' := vm₂) hx h0 hg₂ hsz2 (by show T.heap[q]? = some ce; rw [hT]; exact hcell) (fun k h => by rw [hv] at h; cases h) (hk hwarm₂.alike hcl) (hk hwarm₂.alike hc4) (by rw [hwarm₂.alike.assignable]; exact hasg)
end RXO
end
section
/-! THE ABSTRACT MACHINE, part k: calls -/
theorem rx_lc_ext {n : Nat} {ad ad' : Nat → Nat} {lv : rx_L} (h : ∀ q ∈ lv, rx_okv n q.2) (he : rx_ext n ad ad') : rx_lc ad' lv = rx_lc ad lv :=
  List.map_congr_left fun q hq => by rw [rx_v_ext (h q hq) he]
theorem rx_rm_c {ad : Nat → Nat} {ls : Array Slot} {nL i : Nat} {lv : rx_L} {v : Value} (h : lv_has ls nL ((i, v) :: (rx_lc ad lv).filter (fun q => !(q.1 == i) && !(q.1 + 1 == i && q.2.category == 2)))) : lv_has ls nL (rx_lc ad (rx_rm lv i)) := by
  refine ⟨h.1, h.2.1, fun q hq => h.2.2 q (List.mem_cons_of_mem _ ?_)⟩
  rw [rx_lc_filter ad (fun a b => !(a == i) && !(a + 1 == i && b == 2)) lv]
  exact hq
set_option maxHeartbeats 4000000 in
theorem rx_inv_ok {P : rx_P} {l : Launch} {rc : rx_F} (okH : rx_OkH P) (hrc : rx_Sound P l rc) {th : Bool} {mi F Lo pc mj : Nat} {lv : rx_L} {as rest : List Value} {L : List va_E} {res : rx_R} (h : rx_inv P rc th mi F Lo pc lv mj as rest L = some res) (okM : rx_OkM P mj)
    {p : Program} {e : Env} {R : Room} {s : State} {m : MethodId} {args : Array Value} {below : List Frame} {meth : Method} {c : Code} {H : Heap} {locs : List Loc} {cells slots : Nat} {D : va_G} {dA : Nat → ClassId} {A : Nat → Prop} {ad : Nat → Nat} {ls : Array Slot} {Qc : Array Value → State → Outcome → State → Prop} {XC : String → State → State → Prop} {free : Addr → Prop}
    (bd : rx_Bd P mi p s m args meth c D dA A) (hF : R.frames = F) (hLo : R.locals = Lo) (hc : cells + res.2.2.1 ≤ R.cells) (hs : slots + res.2.2.2 ≤ R.slots) (hW : rx_Wd D dA A ad L s H locs) (hC : rx_KC P A ad s s.heap)
    (hl : lv_has ls (rx_ml P mi) (rx_lc ad lv)) (hlo : ∀ q ∈ lv, rx_okv L.length q.2) (hrest : ∀ v ∈ rest, rx_okv L.length v) (has : ∀ v ∈ as, rx_okv L.length v) (hfree : ∀ q, A q → free q)
    (hQ : ∀ (ad' : Nat → Nat) (v : Option Value) (H' : Heap) (locs' : List Loc) (t : State), res.1 = .inl v → rx_ext L.length ad ad' → rx_Wd D dA A ad' res.2.1 s H' locs' → L.length ≤ res.2.1.length → (∀ w, v = some w → rx_okv res.2.1.length w) → t.heap = H' → s.WarmedH t.vm → Qc args s (.returned (v.map (rx_v ad'))) t)
    (hX : ∀ (E : String) (ad' : Nat → Nat) (H' : Heap) (locs' : List Loc) (t : State), res.1 = .inr E → rx_ext L.length ad ad' → rx_Wd D dA A ad' res.2.1 s H' locs' → L.length ≤ res.2.1.length → t.heap = H' → s.vm.Alike t.vm → XC E s t)
    {st0 : List Value}
    (runner : ∀ (o : (Option Value) ⊕ String) (L1 : List va_E) (c1 s1 F' Lo' : Nat), vx_Met l (rx_yn P mj) (rx_ws P mj) ({ frames := F', cells := c1, slots := s1, locals := Lo' }) (rx_Pc P D dA ad L as H.size) (rx_Qr D dA (va_A (rx_cw ad dA 0 L) H.size) ad L o L1) (rx_Xr D dA (va_A (rx_cw ad dA 0 L) H.size) ad L o L1) c1 s1 (va_A (rx_cw ad dA 0 L) H.size) →
      (th = false → ∃ v, o = .inl v) → F' + 1 ≤ R.frames → 8 + (rx_ml P mj + 11) + Lo' ≤ R.locals → cells + c1 ≤ R.cells ∧ slots + s1 ≤ R.slots → ((rest.map (rx_v ad)).map fun v => v.category).sum ≤ 8 →
      vx_Run p l e R s m args below meth c H locs cells slots c1 s1 (F0 m pc ls st0) (rest.map (rx_v ad)) (rx_Qr D dA (va_A (rx_cw ad dA 0 L) H.size) ad L o L1 (as.map (rx_v ad)).toArray) (rx_Xr D dA (va_A (rx_cw ad dA 0 L) H.size) ad L o L1) (va_A (rx_cw ad dA 0 L) H.size)) :
    W p l e R s m args below meth c H locs cells slots (vx_MQ below Qc XC args s R.cells R.slots free) (F0 m pc ls st0) := by
  have hA := bd.2.2.2.2.2.2.2.2.2.1
  have htab := bd.2.2.2.2.2.2.2.2.2.2
  have hlocks := bd.2.2.2.2.2.2.1
  unfold rx_inv at h
  split at h
  · rename_i hcond
    obtain ⟨f1, f2, f3, f4⟩ := hcond
    have hwd : ((rest.map (rx_v ad)).map fun v => v.category).sum ≤ 8 := by
      rw [List.map_map]
      have e1 : ((fun v : Value => v.category) ∘ rx_v ad) = fun v : Value => v.category := by funext v; exact rx_v_cat ad v
      rw [e1]
      exact f3
    split at h
    · rename_i v L1 c1 s1 hcal
      cases hcont : rc mi F Lo (pc + 3) lv (v.toList ++ rest) L1 with
      | none => rw [hcont] at h; cases h
      | some r2 =>
        obtain ⟨o2, L2, c2, s2⟩ := r2
        rw [hcont] at h
        cases h
        have hc : cells + (c1 + c2) ≤ R.cells := hc
        have hs : slots + (s1 + s2) ≤ R.slots := hs
        have hM := rx_met okM hrc hcal f4 hW.2.2.2.1 hW.2.2.2.2 has D dA ad H.size
        refine rx_back hA hW (runner _ _ _ _ _ _ hM (fun _ => ⟨v, rfl⟩) (by omega) (by omega) ⟨by omega, by omega⟩ hwd) ?_ ?_
        · intro v' ad' H1 locs1 ev hv' he hle hW1
          cases ev
          have e1 : (v.map (rx_v ad')).toList ++ rest.map (rx_v ad) = (v.toList ++ rest).map (rx_v ad') := by
            rw [List.map_append, rx_vs_ext hrest he]
            cases v <;> rfl
          rw [e1]
          refine hrc _ _ _ _ _ _ _ _ hcont p e R s m args below meth c H1 locs1 (cells + c1) (slots + s1) D dA A ad' ls Qc XC free bd hF hLo (by show cells + c1 + c2 ≤ R.cells; omega) (by show slots + s1 + s2 ≤ R.slots; omega) hW1 (hC.ext he) (by rw [rx_lc_ext hlo he]; exact hl) (fun q hq => (hlo q hq).mono hle) ?_ hfree ?_ ?_
          · intro w hw
            rcases List.mem_append.mp hw with z | z
            · exact hv' w (by cases v with | none => cases z | some y => rw [List.mem_singleton.mp z])
            · exact (hrest w z).mono hle
          · intro ad2 v2 H' locs' t g1 g2 g3 g4 g5 g6 g7
            exact hQ ad2 v2 H' locs' t g1 (he.trans hle g2) g3 (Nat.le_trans hle g4) g5 g6 g7
          · intro E ad2 H' locs' t g1 g2 g3 g4 g6 g7
            exact hX E ad2 H' locs' t g1 (he.trans hle g2) g3 (Nat.le_trans hle g4) g6 g7
        · intro E ad' H1 locs1 ce q ev
          cases ev
    · rename_i E L1 c1 s1 hcal
      split at h
      · rename_i hth
        have hM := rx_met okM hrc hcal f4 hW.2.2.2.1 hW.2.2.2.2 has D dA ad H.size
        split at h
        · rename_i hpc k hht
          obtain ⟨hdh, hkl⟩ := okH _ _ _ _ _ hht
          cases hcont : rc mi F Lo (hpc + 1) (rx_rm lv k) [] L1 with
          | none => rw [hcont] at h; cases h
          | some r2 =>
            obtain ⟨o2, L2, c2, s2⟩ := r2
            rw [hcont] at h
            cases h
            have hc : cells + (c1 + c2) ≤ R.cells := hc
            have hs : slots + (s1 + s2) ≤ R.slots := hs
            refine rx_back hA hW (runner _ _ _ _ _ _ hM (fun z => by rw [hth] at z; cases z) (by omega) (by omega) ⟨by omega, by omega⟩ hwd) ?_ ?_
            · intro v' ad' H1 locs1 ev
              cases ev
            · intro E' ad' H1 locs1 ce q ev he hle hW1 hce hcv hcl
              cases ev
              have kk : W p l e R s m args below meth c H1 locs1 (cells + c1) (slots + s1) (vx_MQ below Qc XC args s R.cells R.slots free) (F0 m hpc ls [.ref q]) := by
                refine lv_astore_n bd.1 bd.2.1 hdh rfl hl hkl rfl (fun ls' hl' => ?_)
                refine hrc _ _ _ _ _ _ _ _ hcont p e R s m args below meth c H1 locs1 (cells + c1) (slots + s1) D dA A ad' ls' Qc XC free bd hF hLo (by show cells + c1 + c2 ≤ R.cells; omega) (by show slots + s1 + s2 ≤ R.slots; omega) hW1 (hC.ext he) (by rw [rx_lc_ext (lv := rx_rm lv k) (fun q hq => hlo q (List.mem_filter.mp hq).1) he]; exact rx_rm_c hl') (fun q hq => (hlo q (List.mem_filter.mp hq).1).mono hle) (fun w hw => by cases hw) hfree ?_ ?_
                · intro ad2 v2 H' locs' t g1 g2 g3 g4 g5 g6 g7
                  exact hQ ad2 v2 H' locs' t g1 (he.trans hle g2) g3 (Nat.le_trans hle g4) g5 g6 g7
                · intro E ad2 H' locs' t g1 g2 g3 g4 g6 g7
                  exact hX E ad2 H' locs' t g1 (he.trans hle g2) g3 (Nat.le_trans hle g4) g6 g7
              rcases hC.2.2.2.2.2.2.1 _ _ _ _ _ hht with ⟨x, suf, name, g1, g2, g3, g4, g5, g6⟩ | ⟨y, x, suf, nm1, name, g1, g2, g3, g4, g5, g6, g7, g8, g9, g10⟩
              · subst g4
                exact rx_catch1 bd.2.2.2.1 (htab.trans g1) g2 g3 (bd.2.2.2.2.1 _ g5) (va_Nw.use rfl g6) hce hcv hcl kk
              · subst g8
                exact rx_catch2 bd.2.2.2.1 (htab.trans g1) g2 g3 (bd.2.2.2.2.1 _ g4) g5 g6 g7 (bd.2.2.2.2.1 _ g9) (va_Nw.use rfl g10) hce hcv hcl kk
        · split at h
          · rename_i hnil
            cases h
            have hc : cells + c1 ≤ R.cells := hc
            have hs : slots + s1 ≤ R.slots := hs
            refine rx_back hA hW (runner _ _ _ _ _ _ hM (fun z => by rw [hth] at z; cases z) (by omega) (by omega) ⟨hc, hs⟩ hwd) ?_ ?_
            · intro v' ad' H1 locs1 ev
              cases ev
            · intro E' ad' H1 locs1 ce q ev he hle hW1 hce hcv hcl
              cases ev
              exact vx_out (fun x hx => by rw [htab, hnil] at hx; cases hx) hlocks hce hcv hcl (fun t ht hal => hX E ad' H1 locs1 t rfl he hW1 hle ht hal) (fun z hz => hfree _ (hW1.2.2.1.2.2 z hz)) hc hs
          · cases h
      · cases h
    · cases h
  · cases h
end
section
/-! THE ABSTRACT MACHINE, part l: what it runs, the machine runs -/
theorem rx_gV {P : rx_P} {mj idx : Nat} {own : String} (okM : rx_OkM P mj) (h1 : Cond.methodLink own idx (rx_yn P mj) ∈ rx_TT) (h2 : Cond.instanceMethod (rx_yn P mj) ∈ rx_TT) (h3 : Cond.selects (rx_yn P mj).cls (rx_yn P mj) (rx_yn P mj) ∈ rx_TT) : GoodIn rx_TT (wsV own idx (rx_yn P mj).cls (rx_yn P mj) (rx_ws P mj)) := by
  intro w hw
  rcases List.mem_append.mp hw with z | z
  · have hm : w ∈ rx_TT := by
      simp only [List.mem_cons, List.not_mem_nil, or_false] at z
      rcases z with rfl | rfl | rfl | rfl
      · exact h1
      · exact h2
      · exact h3
      · exact okM.2.2.1
    exact ⟨hm, rx_TT_good hm⟩
  · exact rx_good okM w z
theorem rx_gS {P : rx_P} {mj idx : Nat} {own : String} (okM : rx_OkM P mj) (h1 : Cond.methodLink own idx (rx_yn P mj) ∈ rx_TT) (h2 : Cond.static (rx_yn P mj) ∈ rx_TT) : GoodIn rx_TT (va_wsS own idx (rx_yn P mj) (rx_ws P mj)) := by
  intro w hw
  rcases List.mem_append.mp hw with z | z
  · have hm : w ∈ rx_TT := by
      simp only [List.mem_cons, List.not_mem_nil, or_false] at z
      rcases z with rfl | rfl | rfl
      · exact h1
      · exact h2
      · exact okM.2.2.1
    exact ⟨hm, rx_TT_good hm⟩
  · exact rx_good okM w z
theorem rx_isa_ok {P : rx_P} {s : State} {H : Heap} {locs : List Loc} {D : va_G} {dA : Nat → ClassId} {A : Nat → Prop} {ad : Nat → Nat} {L : List va_E} {b : Nat} {C : String} (h : rx_isa P L b C = true) (hK : va_K D vwCl (rx_tys dA) s) (hW : rx_Wd D dA A ad L s H locs) (hC : rx_KC P A ad s s.heap) : ∃ cell : Cell, H[ad b]? = some cell ∧ cell.vm.isStatics = false ∧ s.vm.findClass C = some cell.cls := by
  unfold rx_isa at h
  split at h
  · rename_i cj fs hL
    split at h
    · rename_i q hq
      have e := beq_iff_eq.mp h
      subst e
      exact va_recv hK hW.1 hq (rx_at hL)
    · cases h
  · cases h
  · simp only [Bool.and_eq_true, beq_iff_eq] at h
    obtain ⟨h1, h2, h3⟩ := h
    subst h1
    obtain ⟨bs, hbs⟩ := Option.isSome_iff_exists.mp h3
    obtain ⟨cell, g1, g2, g3, -⟩ := (hC.2.1 _ _ hbs).1.kept hW.2.2.1.2.1
    rw [← h2] at g1
    exact ⟨cell, g1, g2, g3⟩
theorem rx_words_c (ad : Nat → Nat) (r : List Value) : ((r.map (rx_v ad)).map fun v => v.category).sum = rx_words r := by
  have e1 : ((fun v : Value => v.category) ∘ rx_v ad) = fun v : Value => v.category := by funext v; exact rx_v_cat ad v
  rw [List.map_map, e1]
  rfl
theorem rx_room0 {m : MethodId} {pc Lo : Nat} {ls : Array Slot} {st r : List Value} {ad : Nat → Nat} (h : rx_words r + 12 ≤ Lo) : 2 * (F0 m pc ls st).monitorRoom + ((r.map (rx_v ad)).map fun v => v.category).sum + 12 ≤ Lo := by
  show 2 * 0 + _ + 12 ≤ Lo
  rw [rx_words_c]
  omega
set_option maxHeartbeats 8000000 in
theorem rx_step {P : rx_P} {l : Launch} (ok : rx_OkAll P l) {rc : rx_F} (hrc : rx_Sound P l rc) : rx_Sound P l (rx_go P rc) := by
  obtain ⟨ok, okD, okI, okO, okX, okH⟩ := ok
  intro mi F Lo pc lv st L res h
  unfold rx_go at h
  split at h
  · split at h
    · rename_i hx hcc
      cases h
      obtain ⟨rfl, c1, c2⟩ := hcc
      exact rx_throw okX hx c1 c2
    · cases h
  split at h
  · cases h
  rename_i ins hcd
  obtain ⟨len, hdec, hlen⟩ := okD _ _ _ hcd
  intro p e R s m args below meth c H locs cells slots D dA A ad ls Qc XC free bd hF hLo hc hs hW hC hl hlo hst hfree hQ hX
  obtain ⟨hx, hb, hml, hown, hts, hname, hlocks, hret, hK, hA, hout⟩ := id bd
  split at h
  · rename_i st' hp
    have hlen' : len = rx_len ins := hlen.elim id (fun ⟨a, b, d, f, q⟩ => by subst q; cases hp)
    subst hlen'
    exact rx_pure_ok hp hx hb hdec (hrc _ _ _ _ _ _ _ _ h p e R s m args below meth c H locs cells slots D dA A ad ls Qc XC free bd hF hLo hc hs hW hC hl hlo (rx_pure_okv hp hst) hfree hQ hX)
  split at h
  · rename_i lv' st' hp
    have hlen' : len = rx_len ins := hlen.elim id (fun ⟨a, b, d, f, q⟩ => by subst q; cases hp)
    subst hlen'
    obtain ⟨o1, o2⟩ := rx_loc_okv hp hlo hst
    exact rx_loc_ok hp hx hb hdec hl (fun ls' hl' => hrc _ _ _ _ _ _ _ _ h p e R s m args below meth c H locs cells slots D dA A ad ls' Qc XC free bd hF hLo hc hs hW hC hl' o1 o2 hfree hQ hX)
  split at h
  · rename_i pc' st' hp
    exact rx_jmp_ok hp hx hb hdec hlen (hrc _ _ _ _ _ _ _ _ h p e R s m args below meth c H locs cells slots D dA A ad ls Qc XC free bd hF hLo hc hs hW hC hl hlo (rx_jmp_okv hp hst) hfree hQ hX)
  split at h
  · rename_i st' L' dc ds hp
    have hlen' : len = rx_len ins := hlen.elim id (fun ⟨a, b, d, f, q⟩ => by subst q; cases hp)
    subst hlen'
    cases hcont : rc mi F Lo (pc + rx_len ins) lv st' L' with
    | none => rw [hcont] at h; cases h
    | some r2 =>
      obtain ⟨o2, L2, c2, s2⟩ := r2
      rw [hcont] at h
      cases h
      have hc : cells + (dc + c2) ≤ R.cells := hc
      have hs : slots + (ds + s2) ≤ R.slots := hs
      refine rx_heap_ok ok bd hp hdec hW hC hst (by omega) (by omega) (fun ad' H1 locs1 he hW1 hst1 hle => ?_)
      refine hrc _ _ _ _ _ _ _ _ hcont p e R s m args below meth c H1 locs1 (cells + dc) (slots + ds) D dA A ad' ls Qc XC free bd hF hLo (by show cells + dc + c2 ≤ R.cells; omega) (by show slots + ds + s2 ≤ R.slots; omega) hW1 (hC.ext he) (by rw [rx_lc_ext hlo he]; exact hl) (fun q hq => (hlo q hq).mono hle) hst1 hfree ?_ ?_
      · intro ad2 v2 H' locs' t g1 g2 g3 g4 g5 g6 g7
        exact hQ ad2 v2 H' locs' t g1 (he.trans hle g2) g3 (Nat.le_trans hle g4) g5 g6 g7
      · intro E ad2 H' locs' t g1 g2 g3 g4 g6 g7
        exact hX E ad2 H' locs' t g1 (he.trans hle g2) g3 (Nat.le_trans hle g4) g6 g7
  split at h
  · rename_i v hp
    cases h
    have hlen' : len = rx_len ins := hlen.elim id (fun ⟨a, b, d, f, q⟩ => by subst q; cases hp)
    subst hlen'
    have hc : cells + 0 ≤ R.cells := hc
    have hs : slots + 0 ≤ R.slots := hs
    have hf : ∀ q ∈ locs, free q.base := fun z hz => hfree _ (hW.2.2.1.2.2 z hz)
    have hq : ∀ t : State, t.heap = H → s.WarmedH t.vm → Qc args s (.returned (v.map (rx_v ad))) t := fun t ht hw => hQ ad v H locs t rfl rx_ext.rf hW (Nat.le_refl _) (fun w hw => by
      subst hw
      unfold rx_ret at hp
      split at hp <;> first
        | (cases hp; done)
        | (split at hp <;> first
            | (cases hp; done)
            | (split at hp <;> first
                | (cases hp; done)
                | (cases hp; exact hst _ List.mem_cons_self)
                | (split at hp <;> first
                    | (cases hp; done)
                    | (cases hp; exact hst _ List.mem_cons_self))))) ht hw
    refine W.widen (k := R.cells) (n := R.slots) hc hs (vx_ret ?_)
    unfold rx_ret at hp
    split at hp
    · split at hp
      · split at hp
        · rename_i ty hty
          split at hp
          · rename_i hn
            cases hp
            exact W.zret hx hb (hret.trans hty) hn hq hf hdec hlocks
          · cases hp
        · cases hp
      · cases hp
    · split at hp
      · split at hp
        · rename_i hty
          cases hp
          exact W.lret hx hb (hret.trans hty) hq hf hdec hlocks
        · cases hp
      · cases hp
    · split at hp
      · split at hp
        · rename_i hty
          cases hp
          exact W.aret hx hb (hret.trans hty) (Or.inl ⟨_, rfl⟩) (Or.inr ⟨_, rfl⟩) hq hf hdec hlocks
        · rename_i hty
          cases hp
          exact W.aret hx hb (hret.trans hty) (Or.inr ⟨_, rfl⟩) (Or.inr ⟨_, rfl⟩) hq hf hdec hlocks
        · cases hp
      · cases hp
    · split at hp
      · split at hp
        · rename_i hty
          cases hp
          exact W.vret hx hb (hret.trans hty) hq hf hdec hlocks
        · cases hp
      · cases hp
    · cases hp
  unfold rx_call at h
  split at h
  -- virtual
  · have hlen' := hlen.elim id (fun ⟨a, b, d, f, q⟩ => by cases q)
    subst hlen'
    split at h
    · rename_i kd mj n hct
      split at h
      · rename_i as b rest htk
        split at h
        · rename_i hcc
          obtain ⟨rfl, hisa⟩ := hcc
          obtain ⟨est, hn⟩ := rx_take_spec htk
          rcases okI _ _ _ _ _ hct with ⟨z, -⟩ | ⟨okM, hdesc, z⟩
          · cases z
          rcases z with ⟨-, w0, w1, w2, w3⟩ | z
          rotate_left
          · rcases z with ⟨z | z, -⟩ | ⟨z, -⟩ | ⟨z, -⟩ | ⟨z, -⟩ <;> cases z
          ·
            have hst2 : ∀ v ∈ as.reverse ++ .ref b :: rest, rx_okv L.length v := by rw [← est]; exact hst
            refine rx_inv_ok okH hrc h okM bd hF hLo hc hs hW hC hl hlo (fun v hv => hst2 v (List.mem_append_right _ (List.mem_cons_of_mem _ hv))) (fun v hv => by
              rcases List.mem_cons.mp hv with rfl | z
              · exact hst2 _ (List.mem_append_right _ List.mem_cons_self)
              · exact hst2 v (List.mem_append_left _ (List.mem_reverse.mpr z))) hfree hQ hX (fun o L1 c1 s1 F' Lo' hM _ g1 g2 g3 g4 => ?_)
            exact vx_runV (Ts := rx_TT) (own := (rx_yn P mi).cls) (C := (rx_yn P mj).cls) (b := ad b) (As := as.map (rx_v ad)) ⟨hx, hb, hml, hown, hts⟩ hM (cwV n hts (rx_gV okM w1 w2 w3) (rx_ws0 w0) rfl rfl ⟨rfl, okM.2.2.2.1, okM.2.2.2.2, hdesc⟩ ⟨g1, g2⟩) ⟨rx_blind, rx_isa_ok hisa hK hW hC, rx_pre hK hA hW hC (.ref b :: as)⟩ rfl (by rw [List.length_map]; exact hn) hl.1 (by rw [est, List.map_append, List.map_reverse] <;> rfl) (lv_room g4) hdec g3
        · cases h
      · cases h
    · cases h
  -- static
  · have hlen' := hlen.elim id (fun ⟨a, b, d, f, q⟩ => by cases q)
    subst hlen'
    split at h
    · rename_i kd mj n hct
      split at h
      · rename_i as rest htk
        obtain ⟨est, hn⟩ := rx_take_spec htk
        have hst2 : ∀ v ∈ as.reverse ++ rest, rx_okv L.length v := by rw [← est]; exact hst
        have hR2 : ∀ v ∈ rest, rx_okv L.length v := fun v hv => hst2 v (List.mem_append_right _ hv)
        have hA2 : ∀ v ∈ as, rx_okv L.length v := fun v hv => hst2 v (List.mem_append_left _ (List.mem_reverse.mpr hv))
        split at h
        · rename_i hkd
          rcases okI _ _ _ _ _ hct with ⟨z, -⟩ | ⟨okM, hdesc, z⟩
          · exact absurd z (by omega)
          rcases z with ⟨z, -⟩ | ⟨-, w0, w3, w1, w2⟩ | z
          · exact absurd z (by omega)
          rotate_left
          · rcases z with ⟨z, -⟩ | ⟨z, -⟩ | ⟨z, -⟩ <;> exact absurd z (by omega)
          ·
            refine rx_inv_ok okH hrc h okM bd hF hLo hc hs hW hC hl hlo hR2 hA2 hfree hQ hX (fun o L1 c1 s1 F' Lo' hM _ g1 g2 g3 g4 => ?_)
            rcases hkd with hkd | hkd
            · exact vx_runS (Ts := rx_TT) (own := (rx_yn P mi).cls) (As := as.map (rx_v ad)) ⟨hx, hb, hml, hown, hts⟩ hM (va_cwS n hts (rx_gS okM w1 w2) (rx_ws0 (w0 hkd)) rfl rfl ⟨okM.2.2.2.1, okM.2.2.2.2, hdesc⟩ ⟨g1, g2⟩) ⟨rx_blind, rx_pre hK hA hW hC as⟩ rfl (by rw [List.length_map]; exact hn) hl.1 (by rw [est, List.map_append, List.map_reverse] <;> rfl) (lv_room g4) hdec g3
            · exact vx_runSX (Ts := rx_TT) (own := (rx_yn P mi).cls) (As := as.map (rx_v ad)) ⟨hx, hb, hml, hown, hts⟩ hM (vx_cwSW n hts (rx_gS okM w1 w2) (rx_ws1 (w3 hkd)) rfl rfl ⟨okM.2.2.2.1, okM.2.2.2.2, hdesc⟩ ⟨g1, g2⟩) ⟨rx_blind, rx_pre hK hA hW hC as⟩ rfl (by rw [List.length_map]; exact hn) hl.1 (by rw [est, List.map_append, List.map_reverse] <;> rfl) (lv_room g4) hdec g3
        · split at h
          · rename_i hkd
            subst hkd
            rcases okI _ _ _ _ _ hct with ⟨z, -⟩ | ⟨okM, hdesc, z⟩
            · cases z
            rcases z with ⟨z, -⟩ | ⟨z | z, -⟩ | ⟨z, -⟩ | ⟨-, w0, hw3⟩ | ⟨z, -⟩
            · cases z
            · cases z
            · cases z
            · cases z
            rotate_left
            · cases z
            ·
              obtain ⟨host, hnest⟩ := hC.2.2.2.2.1 _ _ _ _ _ hct (by decide)
              refine rx_inv_ok okH hrc h okM bd hF hLo hc hs hW hC hl hlo hR2 hA2 hfree hQ hX (fun o L1 c1 s1 F' Lo' hM hth g1 g2 g3 g4 => ?_)
              obtain ⟨v, rfl⟩ := hth rfl
              exact rx_ofRun (va_runSN (Ts := rx_TT) (own := (rx_yn P mi).cls) (As := as.map (rx_v ad)) ⟨hx, hb, hml, hown, hts⟩ (rx_noX hM (fun E _ _ q => by cases q.1)) ⟨va_cnB n hts (rx_good okM) (rx_ws0 w0) rfl rfl hnest (hts _ okM.2.2.1) ⟨okM.2.2.2.1, okM.2.2.2.2, hdesc⟩ ⟨g1, g2⟩, hts _ hw3, trivial⟩ ⟨rx_blind, rx_pre hK hA hW hC as⟩ rfl (by rw [List.length_map]; exact hn) hl.1 (by rw [est, List.map_append, List.map_reverse] <;> rfl) (lv_room g4) hdec g3)
          · cases h
      · cases h
    · cases h
  -- special
  · have hlen' := hlen.elim id (fun ⟨a, b, d, f, q⟩ => by cases q)
    subst hlen'
    split at h
    · rename_i kd mj n hct
      split at h
      · rename_i hkd
        subst hkd
        split at h
        · split at h
          · rename_i hcc
            obtain ⟨c1, c2⟩ := hcc
            rcases okI _ _ _ _ _ hct with ⟨-, hml2⟩ | ⟨-, -, z⟩
            rotate_left
            · rcases z with ⟨z, -⟩ | ⟨z | z, -⟩ | ⟨z, -⟩ | ⟨z, -⟩ | ⟨z, -⟩ <;> cases z
            refine W.objInit hx hb hown (hts _ hml2) (hts _ okO.1) (hts _ okO.2) rfl (by rw [hml]; exact hl.1) rfl hdec (by omega) (rx_room0 (by rw [hLo]; exact c2)) ?_
            exact hrc _ _ _ _ _ _ _ _ h p e R s m args below meth c H locs cells slots D dA A ad ls Qc XC free bd hF hLo hc hs hW hC hl hlo (rx_ok_tl hst) hfree hQ hX
          · cases h
        · cases h
      · split at h
        · rename_i as b rest htk
          split at h
          · rename_i hkd
            obtain ⟨est, hn⟩ := rx_take_spec htk
            have hst2 : ∀ v ∈ as.reverse ++ .ref b :: rest, rx_okv L.length v := by rw [← est]; exact hst
            have hR2 : ∀ v ∈ rest, rx_okv L.length v := fun v hv => hst2 v (List.mem_append_right _ (List.mem_cons_of_mem _ hv))
            have hA2 : ∀ v ∈ Value.ref b :: as, rx_okv L.length v := fun v hv => by
              rcases List.mem_cons.mp hv with rfl | z
              · exact hst2 _ (List.mem_append_right _ List.mem_cons_self)
              · exact hst2 v (List.mem_append_left _ (List.mem_reverse.mpr z))
            rcases hkd with rfl | rfl
            · rcases okI _ _ _ _ _ hct with ⟨z, -⟩ | ⟨okM, hdesc, z⟩
              · cases z
              rcases z with ⟨z, -⟩ | ⟨z | z, -⟩ | ⟨-, w0, w1, w2, w3, w4⟩ | z
              · cases z
              · cases z
              · cases z
              rotate_left
              · rcases z with ⟨z, -⟩ | ⟨z, -⟩ <;> cases z
              ·
                refine rx_inv_ok okH hrc h okM bd hF hLo hc hs hW hC hl hlo hR2 hA2 hfree hQ hX (fun o L1 c1 s1 F' Lo' hM hth g1 g2 g3 g4 => ?_)
                obtain ⟨v, rfl⟩ := hth rfl
                exact rx_ofRun (va_runI (Ts := rx_TT) (own := (rx_yn P mi).cls) (b := ad b) (As := as.map (rx_v ad)) ⟨hx, hb, hml, hown, hts⟩ (rx_noX hM (fun E _ _ q => by cases q.1)) (cwI n hts (rx_good okM) (by rw [rx_ws0 w0, w4]) rfl rfl (hts _ okM.2.2.1) (hts _ w1) (hts _ w2) w3 ⟨okM.2.2.2.1, okM.2.2.2.2, hdesc⟩ ⟨g1, g2⟩) ⟨rx_blind, rx_pre hK hA hW hC (.ref b :: as)⟩ rfl (by rw [List.length_map]; exact hn) hl.1 (by rw [est, List.map_append, List.map_reverse] <;> rfl) (lv_room g4) hdec g3)
            · rcases okI _ _ _ _ _ hct with ⟨z, -⟩ | ⟨okM, hdesc, z⟩
              · cases z
              rcases z with ⟨z, -⟩ | ⟨z | z, -⟩ | ⟨z, -⟩ | ⟨z, -⟩ | ⟨-, w0, hw3⟩
              · cases z
              · cases z
              · cases z
              · cases z
              · cases z
              ·
                obtain ⟨host, hnest⟩ := hC.2.2.2.2.1 _ _ _ _ _ hct (by decide)
                refine rx_inv_ok okH hrc h okM bd hF hLo hc hs hW hC hl hlo hR2 hA2 hfree hQ hX (fun o L1 c1 s1 F' Lo' hM hth g1 g2 g3 g4 => ?_)
                obtain ⟨v, rfl⟩ := hth rfl
                exact rx_ofRun (va_runIN (Ts := rx_TT) (own := (rx_yn P mi).cls) (b := ad b) (As := as.map (rx_v ad)) ⟨hx, hb, hml, hown, hts⟩ (rx_noX hM (fun E _ _ q => by cases q.1)) ⟨va_cnB n hts (rx_good okM) (by rw [rx_ws0 w0, hw3.2.2]) rfl rfl hnest (hts _ okM.2.2.1) ⟨okM.2.2.2.1, okM.2.2.2.2, hdesc⟩ ⟨g1, g2⟩, hw3.2.1, hts _ hw3.1⟩ ⟨rx_blind, rx_pre hK hA hW hC (.ref b :: as)⟩ rfl (by rw [List.length_map]; exact hn) hl.1 (by rw [est, List.map_append, List.map_reverse] <;> rfl) (lv_room g4) hdec g3)
          · cases h
        · cases h
    · cases h
  · cases h
theorem rx_sound {P : rx_P} {l : Launch} (ok : rx_OkAll P l) : ∀ f, rx_Sound P l (rx_run P f)
  | 0 => fun _ _ _ _ _ _ _ _ h => by cases h
  | f + 1 => rx_step ok (rx_sound ok f)
end
section
/-! THE TABLES: texts, layouts, the code as the machine decodes it: by wip/whole/gentab.py -/
def rt_ST : List (List Int32) := [[111, 114, 100, 101, 114, 32, 107, 105, 110, 100, 32, 99, 108, 97, 115, 115, 32, 102, 105, 101, 108, 100, 32, 109, 101, 116, 104, 111, 100, 32, 112, 97, 114, 97, 109, 32, 109, 97, 107, 101, 114, 32, 97, 100, 100, 115, 32, 111, 110, 32, 104, 101, 105, 114, 115, 32, 109, 97, 110, 121, 32, 110, 111, 32, 105, 110, 116, 32, 116, 101, 120, 116, 32, 112, 117, 115, 104, 32, 114, 101, 97, 100, 32, 108, 111, 97, 100, 32, 115, 116, 111, 114, 101, 32, 103, 101, 116, 32, 115, 101, 116, 32, 99, 97, 108, 108, 32, 114, 101, 116, 32, 97, 100, 100, 32, 115, 117, 98, 32, 109, 117, 108, 32, 100, 117, 112, 32, 112, 111, 112, 32, 106, 117, 109, 112, 32, 122, 101, 114, 111, 32, 105, 115, 32, 97, 115], [97, 32, 70, 65, 85, 76, 84], [111, 114, 100, 101, 114], [107, 105, 110, 100], [99, 108, 97, 115, 115], [102, 105, 101, 108, 100], [109, 101, 116, 104, 111, 100], [112, 97, 114, 97, 109], [109, 97, 107, 101, 114], [97, 100, 100, 115], [111, 110], [104, 101, 105, 114, 115], [109, 97, 110, 121], [110, 111], [105, 110, 116], [116, 101, 120, 116], [112, 117, 115, 104], [114, 101, 97, 100], [108, 111, 97, 100], [115, 116, 111, 114, 101], [103, 101, 116], [115, 101, 116], [99, 97, 108, 108], [114, 101, 116], [97, 100, 100], [115, 117, 98], [109, 117, 108], [100, 117, 112], [112, 111, 112], [106, 117, 109, 112], [122, 101, 114, 111], [105, 115], [97, 115], [102, 114, 111, 109, 73, 110, 100, 101, 120, 40], [41, 32, 62, 32, 116, 111, 73, 110, 100, 101, 120, 40], [41]]
theorem rt_okC : rx_OkC := by
  intro ci q h
  match ci, h with
  | 0, h =>
    obtain rfl : (RJ0, TJ0, 4) = q := Option.some.inj h
    exact ⟨tyJ0, fun w hw => rx_TT_3 hw, tyJ0_ok, nmJ0⟩
  | 1, h =>
    obtain rfl : (RJ4, TJ4, 4) = q := Option.some.inj h
    exact ⟨tyJ4, fun w hw => rx_TT_4 hw, tyJ4_ok, nmJ4⟩
  | 2, h =>
    obtain rfl : (RX0, TX0, 20) = q := Option.some.inj h
    exact ⟨tyX0, fun w hw => rx_TT_5 hw, tyX0_ok, nmX0⟩
  | 3, h =>
    obtain rfl : (RX1, TX1, 8) = q := Option.some.inj h
    exact ⟨tyX1, fun w hw => rx_TT_6 hw, tyX1_ok, nmX1⟩
  | 4, h =>
    obtain rfl : (RX2, TX2, 10) = q := Option.some.inj h
    exact ⟨tyX2, fun w hw => rx_TT_7 hw, tyX2_ok, nmX2⟩
  | 5, h =>
    obtain rfl : (RX3, TX3, 17) = q := Option.some.inj h
    exact ⟨tyX3, fun w hw => rx_TT_8 hw, tyX3_ok, nmX3⟩
  | 6, h =>
    obtain rfl : (RX4, TX4, 10) = q := Option.some.inj h
    exact ⟨tyX4, fun w hw => rx_TT_9 hw, tyX4_ok, nmX4⟩
  | 7, h =>
    obtain rfl : (RX5, TX5, 14) = q := Option.some.inj h
    exact ⟨tyX5, fun w hw => rx_TT_10 hw, tyX5_ok, nmX5⟩
  | 8, h =>
    obtain rfl : (RX6, TX6, 9) = q := Option.some.inj h
    exact ⟨tyX6, fun w hw => rx_TT_11 hw, tyX6_ok, nmX6⟩
  | 9, h =>
    obtain rfl : (RX7, TX7, 15) = q := Option.some.inj h
    exact ⟨tyX7, fun w hw => rx_TT_12 hw, tyX7_ok, nmX7⟩
  | 10, h =>
    obtain rfl : (RX8, TX8, 12) = q := Option.some.inj h
    exact ⟨tyX8, fun w hw => rx_TT_13 hw, tyX8_ok, nmX8⟩
  | 11, h =>
    obtain rfl : (RX9, TX9, 15) = q := Option.some.inj h
    exact ⟨tyX9, fun w hw => rx_TT_14 hw, tyX9_ok, nmX9⟩
  | 12, h =>
    obtain rfl : (RX10, TX10, 7) = q := Option.some.inj h
    exact ⟨tyX10, fun w hw => rx_TT_15 hw, tyX10_ok, nmX10⟩
  | 13, h =>
    obtain rfl : (RX11, TX11, 10) = q := Option.some.inj h
    exact ⟨tyX11, fun w hw => rx_TT_16 hw, tyX11_ok, nmX11⟩
  | 14, h =>
    obtain rfl : (RX12, TX12, 10) = q := Option.some.inj h
    exact ⟨tyX12, fun w hw => rx_TT_17 hw, tyX12_ok, nmX12⟩
  | 15, h =>
    obtain rfl : (RX13, TX13, 140) = q := Option.some.inj h
    exact ⟨tyX13, fun w hw => rx_TT_18 hw, tyX13_ok, nmX13⟩
  | k + 16, h => exact absurd h (by simp [vwCl])
def rt_sw : Instr → Bool
  | .tableswitch _ _ _ _ => true
  | _ => false
def rt_dk (cc : ByteArray) (l : List (Nat × Instr)) : Bool := l.all (fun q => match decode cc q.1 with
  | .ok (i, n) => decide (i = q.2) && (Nat.beq n (rx_len i) || rt_sw i)
  | .error _ => false)
set_option maxRecDepth 100000 in
theorem rt_d0_0 : rt_dk code rt_i0_0 = true := by decide +kernel
set_option maxRecDepth 100000 in
theorem rt_d0_1 : rt_dk code rt_i0_1 = true := by decide +kernel
set_option maxRecDepth 100000 in
theorem rt_d0_5 : rt_dk code rt_i0_5 = true := by decide +kernel
set_option maxRecDepth 100000 in
theorem rt_d0_6 : rt_dk code rt_i0_6 = true := by decide +kernel
set_option maxRecDepth 100000 in
theorem rt_d0_7 : rt_dk code rt_i0_7 = true := by decide +kernel
set_option maxRecDepth 100000 in
theorem rt_d0_8 : rt_dk code rt_i0_8 = true := by decide +kernel
set_option maxRecDepth 100000 in
theorem rt_d0_9 : rt_dk code rt_i0_9 = true := by decide +kernel
set_option maxRecDepth 100000 in
theorem rt_d0_10 : rt_dk code rt_i0_10 = true := by decide +kernel
set_option maxRecDepth 100000 in
theorem rt_d0_11 : rt_dk code rt_i0_11 = true := by decide +kernel
set_option maxRecDepth 100000 in
theorem rt_d0_12 : rt_dk code rt_i0_12 = true := by decide +kernel
set_option maxRecDepth 100000 in
theorem rt_d0_13 : rt_dk code rt_i0_13 = true := by decide +kernel
set_option maxRecDepth 100000 in
theorem rt_d0_14 : rt_dk code rt_i0_14 = true := by decide +kernel
set_option maxRecDepth 100000 in
theorem rt_d0_15 : rt_dk code rt_i0_15 = true := by decide +kernel
set_option maxRecDepth 100000 in
theorem rt_d0_16 : rt_dk code rt_i0_16 = true := by decide +kernel
set_option maxRecDepth 100000 in
theorem rt_d0_17 : rt_dk code rt_i0_17 = true := by decide +kernel
set_option maxRecDepth 100000 in
theorem rt_d0_18 : rt_dk code rt_i0_18 = true := by decide +kernel
set_option maxRecDepth 100000 in
theorem rt_d0_19 : rt_dk code rt_i0_19 = true := by decide +kernel
set_option maxRecDepth 100000 in
theorem rt_d0_20 : rt_dk code rt_i0_20 = true := by decide +kernel
set_option maxRecDepth 100000 in
theorem rt_d0_21 : rt_dk code rt_i0_21 = true := by decide +kernel
set_option maxRecDepth 100000 in
theorem rt_d0_22 : rt_dk code rt_i0_22 = true := by decide +kernel
set_option maxRecDepth 100000 in
theorem rt_d0_23 : rt_dk code rt_i0_23 = true := by decide +kernel
set_option maxRecDepth 100000 in
theorem rt_d0_24 : rt_dk code rt_i0_24 = true := by decide +kernel
set_option maxRecDepth 100000 in
theorem rt_d0_25 : rt_dk code rt_i0_25 = true := by decide +kernel
set_option maxRecDepth 100000 in
theorem rt_d0_26 : rt_dk code rt_i0_26 = true := by decide +kernel
set_option maxRecDepth 100000 in
theorem rt_d0_27 : rt_dk code rt_i0_27 = true := by decide +kernel
set_option maxRecDepth 100000 in
theorem rt_d0_28 : rt_dk code rt_i0_28 = true := by decide +kernel
set_option maxRecDepth 100000 in
theorem rt_d0_29 : rt_dk code rt_i0_29 = true := by decide +kernel
set_option maxRecDepth 100000 in
theorem rt_d0_30 : rt_dk code rt_i0_30 = true := by decide +kernel
set_option maxRecDepth 100000 in
theorem rt_d0_31 : rt_dk code rt_i0_31 = true := by decide +kernel
set_option maxRecDepth 100000 in
theorem rt_d0_32 : rt_dk code rt_i0_32 = true := by decide +kernel
set_option maxRecDepth 100000 in
theorem rt_d0_33 : rt_dk code rt_i0_33 = true := by decide +kernel
set_option maxRecDepth 100000 in
theorem rt_d0_34 : rt_dk code rt_i0_34 = true := by decide +kernel
set_option maxRecDepth 100000 in
theorem rt_d0_35 : rt_dk code rt_i0_35 = true := by decide +kernel
set_option maxRecDepth 100000 in
theorem rt_d0_36 : rt_dk code rt_i0_36 = true := by decide +kernel
set_option maxRecDepth 100000 in
theorem rt_d0_37 : rt_dk code rt_i0_37 = true := by decide +kernel
set_option maxRecDepth 100000 in
theorem rt_d0_38 : rt_dk code rt_i0_38 = true := by decide +kernel
set_option maxRecDepth 100000 in
theorem rt_d0_39 : rt_dk code rt_i0_39 = true := by decide +kernel
set_option maxRecDepth 100000 in
theorem rt_d0_40 : rt_dk code rt_i0_40 = true := by decide +kernel
set_option maxRecDepth 100000 in
theorem rt_d0_41 : rt_dk code rt_i0_41 = true := by decide +kernel
theorem rt_D0 : ∀ c ∈ rt_m0.2.2.2.2.2.2.1, rt_dk rt_m0.2.2.2.1 c.2 = true := by
  intro c hc
  have hc : c ∈ [(0, rt_i0_0), (1, rt_i0_1), (5, rt_i0_5), (6, rt_i0_6), (7, rt_i0_7), (8, rt_i0_8), (9, rt_i0_9), (10, rt_i0_10), (11, rt_i0_11), (12, rt_i0_12), (13, rt_i0_13), (14, rt_i0_14), (15, rt_i0_15), (16, rt_i0_16), (17, rt_i0_17), (18, rt_i0_18), (19, rt_i0_19), (20, rt_i0_20), (21, rt_i0_21), (22, rt_i0_22), (23, rt_i0_23), (24, rt_i0_24), (25, rt_i0_25), (26, rt_i0_26), (27, rt_i0_27), (28, rt_i0_28), (29, rt_i0_29), (30, rt_i0_30), (31, rt_i0_31), (32, rt_i0_32), (33, rt_i0_33), (34, rt_i0_34), (35, rt_i0_35), (36, rt_i0_36), (37, rt_i0_37), (38, rt_i0_38), (39, rt_i0_39), (40, rt_i0_40), (41, rt_i0_41)] := hc
  simp only [List.mem_cons, List.not_mem_nil, or_false] at hc
  rcases hc with rfl | rfl | rfl | rfl | rfl | rfl | rfl | rfl | rfl | rfl | rfl | rfl | rfl | rfl | rfl | rfl | rfl | rfl | rfl | rfl | rfl | rfl | rfl | rfl | rfl | rfl | rfl | rfl | rfl | rfl | rfl | rfl | rfl | rfl | rfl | rfl | rfl | rfl | rfl
  · exact rt_d0_0
  · exact rt_d0_1
  · exact rt_d0_5
  · exact rt_d0_6
  · exact rt_d0_7
  · exact rt_d0_8
  · exact rt_d0_9
  · exact rt_d0_10
  · exact rt_d0_11
  · exact rt_d0_12
  · exact rt_d0_13
  · exact rt_d0_14
  · exact rt_d0_15
  · exact rt_d0_16
  · exact rt_d0_17
  · exact rt_d0_18
  · exact rt_d0_19
  · exact rt_d0_20
  · exact rt_d0_21
  · exact rt_d0_22
  · exact rt_d0_23
  · exact rt_d0_24
  · exact rt_d0_25
  · exact rt_d0_26
  · exact rt_d0_27
  · exact rt_d0_28
  · exact rt_d0_29
  · exact rt_d0_30
  · exact rt_d0_31
  · exact rt_d0_32
  · exact rt_d0_33
  · exact rt_d0_34
  · exact rt_d0_35
  · exact rt_d0_36
  · exact rt_d0_37
  · exact rt_d0_38
  · exact rt_d0_39
  · exact rt_d0_40
  · exact rt_d0_41
set_option maxRecDepth 100000 in
theorem rt_d16_0 : rt_dk method_3_code rt_i16_0 = true := by decide +kernel
theorem rt_D16 : ∀ c ∈ rt_m16.2.2.2.2.2.2.1, rt_dk rt_m16.2.2.2.1 c.2 = true := by
  intro c hc
  have hc : c ∈ [(0, rt_i16_0)] := hc
  simp only [List.mem_cons, List.not_mem_nil, or_false] at hc
  rcases hc with rfl
  · exact rt_d16_0
set_option maxRecDepth 100000 in
theorem rt_d17_0 : rt_dk method_4_code rt_i17_0 = true := by decide +kernel
theorem rt_D17 : ∀ c ∈ rt_m17.2.2.2.2.2.2.1, rt_dk rt_m17.2.2.2.1 c.2 = true := by
  intro c hc
  have hc : c ∈ [(0, rt_i17_0)] := hc
  simp only [List.mem_cons, List.not_mem_nil, or_false] at hc
  rcases hc with rfl
  · exact rt_d17_0
set_option maxRecDepth 100000 in
theorem rt_d18_0 : rt_dk method_5_code rt_i18_0 = true := by decide +kernel
theorem rt_D18 : ∀ c ∈ rt_m18.2.2.2.2.2.2.1, rt_dk rt_m18.2.2.2.1 c.2 = true := by
  intro c hc
  have hc : c ∈ [(0, rt_i18_0)] := hc
  simp only [List.mem_cons, List.not_mem_nil, or_false] at hc
  rcases hc with rfl
  · exact rt_d18_0
set_option maxRecDepth 100000 in
theorem rt_d19_0 : rt_dk prog_2_method_1_code rt_i19_0 = true := by decide +kernel
set_option maxRecDepth 100000 in
theorem rt_d19_1 : rt_dk prog_2_method_1_code rt_i19_1 = true := by decide +kernel
set_option maxRecDepth 100000 in
theorem rt_d19_2 : rt_dk prog_2_method_1_code rt_i19_2 = true := by decide +kernel
set_option maxRecDepth 100000 in
theorem rt_d19_3 : rt_dk prog_2_method_1_code rt_i19_3 = true := by decide +kernel
set_option maxRecDepth 100000 in
theorem rt_d19_4 : rt_dk prog_2_method_1_code rt_i19_4 = true := by decide +kernel
set_option maxRecDepth 100000 in
theorem rt_d19_5 : rt_dk prog_2_method_1_code rt_i19_5 = true := by decide +kernel
theorem rt_D19 : ∀ c ∈ rt_m19.2.2.2.2.2.2.1, rt_dk rt_m19.2.2.2.1 c.2 = true := by
  intro c hc
  have hc : c ∈ [(0, rt_i19_0), (1, rt_i19_1), (2, rt_i19_2), (3, rt_i19_3), (4, rt_i19_4), (5, rt_i19_5)] := hc
  simp only [List.mem_cons, List.not_mem_nil, or_false] at hc
  rcases hc with rfl | rfl | rfl | rfl | rfl | rfl
  · exact rt_d19_0
  · exact rt_d19_1
  · exact rt_d19_2
  · exact rt_d19_3
  · exact rt_d19_4
  · exact rt_d19_5
set_option maxRecDepth 100000 in
theorem rt_d20_0 : rt_dk prog_2_method_2_code rt_i20_0 = true := by decide +kernel
theorem rt_D20 : ∀ c ∈ rt_m20.2.2.2.2.2.2.1, rt_dk rt_m20.2.2.2.1 c.2 = true := by
  intro c hc
  have hc : c ∈ [(0, rt_i20_0)] := hc
  simp only [List.mem_cons, List.not_mem_nil, or_false] at hc
  rcases hc with rfl
  · exact rt_d20_0
set_option maxRecDepth 100000 in
theorem rt_d21_0 : rt_dk prog_2_method_3_code rt_i21_0 = true := by decide +kernel
set_option maxRecDepth 100000 in
theorem rt_d21_1 : rt_dk prog_2_method_3_code rt_i21_1 = true := by decide +kernel
set_option maxRecDepth 100000 in
theorem rt_d21_2 : rt_dk prog_2_method_3_code rt_i21_2 = true := by decide +kernel
set_option maxRecDepth 100000 in
theorem rt_d21_3 : rt_dk prog_2_method_3_code rt_i21_3 = true := by decide +kernel
theorem rt_D21 : ∀ c ∈ rt_m21.2.2.2.2.2.2.1, rt_dk rt_m21.2.2.2.1 c.2 = true := by
  intro c hc
  have hc : c ∈ [(0, rt_i21_0), (1, rt_i21_1), (2, rt_i21_2), (3, rt_i21_3)] := hc
  simp only [List.mem_cons, List.not_mem_nil, or_false] at hc
  rcases hc with rfl | rfl | rfl | rfl
  · exact rt_d21_0
  · exact rt_d21_1
  · exact rt_d21_2
  · exact rt_d21_3
set_option maxRecDepth 100000 in
theorem rt_d22_0 : rt_dk prog_2_method_4_code rt_i22_0 = true := by decide +kernel
theorem rt_D22 : ∀ c ∈ rt_m22.2.2.2.2.2.2.1, rt_dk rt_m22.2.2.2.1 c.2 = true := by
  intro c hc
  have hc : c ∈ [(0, rt_i22_0)] := hc
  simp only [List.mem_cons, List.not_mem_nil, or_false] at hc
  rcases hc with rfl
  · exact rt_d22_0
set_option maxRecDepth 100000 in
theorem rt_d23_0 : rt_dk prog_3_method_1_code rt_i23_0 = true := by decide +kernel
set_option maxRecDepth 100000 in
theorem rt_d23_1 : rt_dk prog_3_method_1_code rt_i23_1 = true := by decide +kernel
set_option maxRecDepth 100000 in
theorem rt_d23_2 : rt_dk prog_3_method_1_code rt_i23_2 = true := by decide +kernel
set_option maxRecDepth 100000 in
theorem rt_d23_3 : rt_dk prog_3_method_1_code rt_i23_3 = true := by decide +kernel
theorem rt_D23 : ∀ c ∈ rt_m23.2.2.2.2.2.2.1, rt_dk rt_m23.2.2.2.1 c.2 = true := by
  intro c hc
  have hc : c ∈ [(0, rt_i23_0), (1, rt_i23_1), (2, rt_i23_2), (3, rt_i23_3)] := hc
  simp only [List.mem_cons, List.not_mem_nil, or_false] at hc
  rcases hc with rfl | rfl | rfl | rfl
  · exact rt_d23_0
  · exact rt_d23_1
  · exact rt_d23_2
  · exact rt_d23_3
set_option maxRecDepth 100000 in
theorem rt_d24_0 : rt_dk prog_3_method_2_code rt_i24_0 = true := by decide +kernel
set_option maxRecDepth 100000 in
theorem rt_d24_1 : rt_dk prog_3_method_2_code rt_i24_1 = true := by decide +kernel
theorem rt_D24 : ∀ c ∈ rt_m24.2.2.2.2.2.2.1, rt_dk rt_m24.2.2.2.1 c.2 = true := by
  intro c hc
  have hc : c ∈ [(0, rt_i24_0), (1, rt_i24_1)] := hc
  simp only [List.mem_cons, List.not_mem_nil, or_false] at hc
  rcases hc with rfl | rfl
  · exact rt_d24_0
  · exact rt_d24_1
set_option maxRecDepth 100000 in
theorem rt_d25_0 : rt_dk prog_3_method_3_code rt_i25_0 = true := by decide +kernel
set_option maxRecDepth 100000 in
theorem rt_d25_1 : rt_dk prog_3_method_3_code rt_i25_1 = true := by decide +kernel
set_option maxRecDepth 100000 in
theorem rt_d25_2 : rt_dk prog_3_method_3_code rt_i25_2 = true := by decide +kernel
theorem rt_D25 : ∀ c ∈ rt_m25.2.2.2.2.2.2.1, rt_dk rt_m25.2.2.2.1 c.2 = true := by
  intro c hc
  have hc : c ∈ [(0, rt_i25_0), (1, rt_i25_1), (2, rt_i25_2)] := hc
  simp only [List.mem_cons, List.not_mem_nil, or_false] at hc
  rcases hc with rfl | rfl | rfl
  · exact rt_d25_0
  · exact rt_d25_1
  · exact rt_d25_2
set_option maxRecDepth 100000 in
theorem rt_d26_0 : rt_dk prog_3_method_4_code rt_i26_0 = true := by decide +kernel
set_option maxRecDepth 100000 in
theorem rt_d26_1 : rt_dk prog_3_method_4_code rt_i26_1 = true := by decide +kernel
theorem rt_D26 : ∀ c ∈ rt_m26.2.2.2.2.2.2.1, rt_dk rt_m26.2.2.2.1 c.2 = true := by
  intro c hc
  have hc : c ∈ [(0, rt_i26_0), (1, rt_i26_1)] := hc
  simp only [List.mem_cons, List.not_mem_nil, or_false] at hc
  rcases hc with rfl | rfl
  · exact rt_d26_0
  · exact rt_d26_1
set_option maxRecDepth 100000 in
theorem rt_d27_0 : rt_dk prog_4_method_1_code rt_i27_0 = true := by decide +kernel
set_option maxRecDepth 100000 in
theorem rt_d27_1 : rt_dk prog_4_method_1_code rt_i27_1 = true := by decide +kernel
theorem rt_D27 : ∀ c ∈ rt_m27.2.2.2.2.2.2.1, rt_dk rt_m27.2.2.2.1 c.2 = true := by
  intro c hc
  have hc : c ∈ [(0, rt_i27_0), (1, rt_i27_1)] := hc
  simp only [List.mem_cons, List.not_mem_nil, or_false] at hc
  rcases hc with rfl | rfl
  · exact rt_d27_0
  · exact rt_d27_1
set_option maxRecDepth 100000 in
theorem rt_d28_0 : rt_dk prog_5_method_1_code rt_i28_0 = true := by decide +kernel
set_option maxRecDepth 100000 in
theorem rt_d28_1 : rt_dk prog_5_method_1_code rt_i28_1 = true := by decide +kernel
set_option maxRecDepth 100000 in
theorem rt_d28_2 : rt_dk prog_5_method_1_code rt_i28_2 = true := by decide +kernel
theorem rt_D28 : ∀ c ∈ rt_m28.2.2.2.2.2.2.1, rt_dk rt_m28.2.2.2.1 c.2 = true := by
  intro c hc
  have hc : c ∈ [(0, rt_i28_0), (1, rt_i28_1), (2, rt_i28_2)] := hc
  simp only [List.mem_cons, List.not_mem_nil, or_false] at hc
  rcases hc with rfl | rfl | rfl
  · exact rt_d28_0
  · exact rt_d28_1
  · exact rt_d28_2
set_option maxRecDepth 100000 in
theorem rt_d29_0 : rt_dk prog_5_method_2_code rt_i29_0 = true := by decide +kernel
theorem rt_D29 : ∀ c ∈ rt_m29.2.2.2.2.2.2.1, rt_dk rt_m29.2.2.2.1 c.2 = true := by
  intro c hc
  have hc : c ∈ [(0, rt_i29_0)] := hc
  simp only [List.mem_cons, List.not_mem_nil, or_false] at hc
  rcases hc with rfl
  · exact rt_d29_0
set_option maxRecDepth 100000 in
theorem rt_d30_0 : rt_dk prog_5_method_14_code rt_i30_0 = true := by decide +kernel
theorem rt_D30 : ∀ c ∈ rt_m30.2.2.2.2.2.2.1, rt_dk rt_m30.2.2.2.1 c.2 = true := by
  intro c hc
  have hc : c ∈ [(0, rt_i30_0)] := hc
  simp only [List.mem_cons, List.not_mem_nil, or_false] at hc
  rcases hc with rfl
  · exact rt_d30_0
set_option maxRecDepth 100000 in
theorem rt_d31_0 : rt_dk prog_6_method_1_code rt_i31_0 = true := by decide +kernel
set_option maxRecDepth 100000 in
theorem rt_d31_1 : rt_dk prog_6_method_1_code rt_i31_1 = true := by decide +kernel
theorem rt_D31 : ∀ c ∈ rt_m31.2.2.2.2.2.2.1, rt_dk rt_m31.2.2.2.1 c.2 = true := by
  intro c hc
  have hc : c ∈ [(0, rt_i31_0), (1, rt_i31_1)] := hc
  simp only [List.mem_cons, List.not_mem_nil, or_false] at hc
  rcases hc with rfl | rfl
  · exact rt_d31_0
  · exact rt_d31_1
set_option maxRecDepth 100000 in
theorem rt_d32_0 : rt_dk prog_7_method_1_code rt_i32_0 = true := by decide +kernel
set_option maxRecDepth 100000 in
theorem rt_d32_1 : rt_dk prog_7_method_1_code rt_i32_1 = true := by decide +kernel
set_option maxRecDepth 100000 in
theorem rt_d32_2 : rt_dk prog_7_method_1_code rt_i32_2 = true := by decide +kernel
set_option maxRecDepth 100000 in
theorem rt_d32_3 : rt_dk prog_7_method_1_code rt_i32_3 = true := by decide +kernel
theorem rt_D32 : ∀ c ∈ rt_m32.2.2.2.2.2.2.1, rt_dk rt_m32.2.2.2.1 c.2 = true := by
  intro c hc
  have hc : c ∈ [(0, rt_i32_0), (1, rt_i32_1), (2, rt_i32_2), (3, rt_i32_3)] := hc
  simp only [List.mem_cons, List.not_mem_nil, or_false] at hc
  rcases hc with rfl | rfl | rfl | rfl
  · exact rt_d32_0
  · exact rt_d32_1
  · exact rt_d32_2
  · exact rt_d32_3
set_option maxRecDepth 100000 in
theorem rt_d33_0 : rt_dk prog_7_method_2_code rt_i33_0 = true := by decide +kernel
theorem rt_D33 : ∀ c ∈ rt_m33.2.2.2.2.2.2.1, rt_dk rt_m33.2.2.2.1 c.2 = true := by
  intro c hc
  have hc : c ∈ [(0, rt_i33_0)] := hc
  simp only [List.mem_cons, List.not_mem_nil, or_false] at hc
  rcases hc with rfl
  · exact rt_d33_0
set_option maxRecDepth 100000 in
theorem rt_d34_0 : rt_dk prog_8_method_1_code rt_i34_0 = true := by decide +kernel
set_option maxRecDepth 100000 in
theorem rt_d34_1 : rt_dk prog_8_method_1_code rt_i34_1 = true := by decide +kernel
theorem rt_D34 : ∀ c ∈ rt_m34.2.2.2.2.2.2.1, rt_dk rt_m34.2.2.2.1 c.2 = true := by
  intro c hc
  have hc : c ∈ [(0, rt_i34_0), (1, rt_i34_1)] := hc
  simp only [List.mem_cons, List.not_mem_nil, or_false] at hc
  rcases hc with rfl | rfl
  · exact rt_d34_0
  · exact rt_d34_1
set_option maxRecDepth 100000 in
theorem rt_d35_0 : rt_dk prog_9_method_1_code rt_i35_0 = true := by decide +kernel
set_option maxRecDepth 100000 in
theorem rt_d35_1 : rt_dk prog_9_method_1_code rt_i35_1 = true := by decide +kernel
set_option maxRecDepth 100000 in
theorem rt_d35_2 : rt_dk prog_9_method_1_code rt_i35_2 = true := by decide +kernel
set_option maxRecDepth 100000 in
theorem rt_d35_3 : rt_dk prog_9_method_1_code rt_i35_3 = true := by decide +kernel
set_option maxRecDepth 100000 in
theorem rt_d35_4 : rt_dk prog_9_method_1_code rt_i35_4 = true := by decide +kernel
theorem rt_D35 : ∀ c ∈ rt_m35.2.2.2.2.2.2.1, rt_dk rt_m35.2.2.2.1 c.2 = true := by
  intro c hc
  have hc : c ∈ [(0, rt_i35_0), (1, rt_i35_1), (2, rt_i35_2), (3, rt_i35_3), (4, rt_i35_4)] := hc
  simp only [List.mem_cons, List.not_mem_nil, or_false] at hc
  rcases hc with rfl | rfl | rfl | rfl | rfl
  · exact rt_d35_0
  · exact rt_d35_1
  · exact rt_d35_2
  · exact rt_d35_3
  · exact rt_d35_4
set_option maxRecDepth 100000 in
theorem rt_d36_0 : rt_dk prog_9_method_2_code rt_i36_0 = true := by decide +kernel
theorem rt_D36 : ∀ c ∈ rt_m36.2.2.2.2.2.2.1, rt_dk rt_m36.2.2.2.1 c.2 = true := by
  intro c hc
  have hc : c ∈ [(0, rt_i36_0)] := hc
  simp only [List.mem_cons, List.not_mem_nil, or_false] at hc
  rcases hc with rfl
  · exact rt_d36_0
set_option maxRecDepth 100000 in
theorem rt_d37_0 : rt_dk prog_9_method_3_code rt_i37_0 = true := by decide +kernel
theorem rt_D37 : ∀ c ∈ rt_m37.2.2.2.2.2.2.1, rt_dk rt_m37.2.2.2.1 c.2 = true := by
  intro c hc
  have hc : c ∈ [(0, rt_i37_0)] := hc
  simp only [List.mem_cons, List.not_mem_nil, or_false] at hc
  rcases hc with rfl
  · exact rt_d37_0
set_option maxRecDepth 100000 in
theorem rt_d38_0 : rt_dk prog_9_method_4_code rt_i38_0 = true := by decide +kernel
set_option maxRecDepth 100000 in
theorem rt_d38_1 : rt_dk prog_9_method_4_code rt_i38_1 = true := by decide +kernel
theorem rt_D38 : ∀ c ∈ rt_m38.2.2.2.2.2.2.1, rt_dk rt_m38.2.2.2.1 c.2 = true := by
  intro c hc
  have hc : c ∈ [(0, rt_i38_0), (1, rt_i38_1)] := hc
  simp only [List.mem_cons, List.not_mem_nil, or_false] at hc
  rcases hc with rfl | rfl
  · exact rt_d38_0
  · exact rt_d38_1
set_option maxRecDepth 100000 in
theorem rt_d39_0 : rt_dk prog_10_method_1_code rt_i39_0 = true := by decide +kernel
theorem rt_D39 : ∀ c ∈ rt_m39.2.2.2.2.2.2.1, rt_dk rt_m39.2.2.2.1 c.2 = true := by
  intro c hc
  have hc : c ∈ [(0, rt_i39_0)] := hc
  simp only [List.mem_cons, List.not_mem_nil, or_false] at hc
  rcases hc with rfl
  · exact rt_d39_0
set_option maxRecDepth 100000 in
theorem rt_d40_0 : rt_dk prog_10_method_2_code rt_i40_0 = true := by decide +kernel
set_option maxRecDepth 100000 in
theorem rt_d40_1 : rt_dk prog_10_method_2_code rt_i40_1 = true := by decide +kernel
theorem rt_D40 : ∀ c ∈ rt_m40.2.2.2.2.2.2.1, rt_dk rt_m40.2.2.2.1 c.2 = true := by
  intro c hc
  have hc : c ∈ [(0, rt_i40_0), (1, rt_i40_1)] := hc
  simp only [List.mem_cons, List.not_mem_nil, or_false] at hc
  rcases hc with rfl | rfl
  · exact rt_d40_0
  · exact rt_d40_1
set_option maxRecDepth 100000 in
theorem rt_d41_0 : rt_dk prog_10_method_3_code rt_i41_0 = true := by decide +kernel
theorem rt_D41 : ∀ c ∈ rt_m41.2.2.2.2.2.2.1, rt_dk rt_m41.2.2.2.1 c.2 = true := by
  intro c hc
  have hc : c ∈ [(0, rt_i41_0)] := hc
  simp only [List.mem_cons, List.not_mem_nil, or_false] at hc
  rcases hc with rfl
  · exact rt_d41_0
set_option maxRecDepth 100000 in
theorem rt_d42_0 : rt_dk prog_10_method_4_code rt_i42_0 = true := by decide +kernel
theorem rt_D42 : ∀ c ∈ rt_m42.2.2.2.2.2.2.1, rt_dk rt_m42.2.2.2.1 c.2 = true := by
  intro c hc
  have hc : c ∈ [(0, rt_i42_0)] := hc
  simp only [List.mem_cons, List.not_mem_nil, or_false] at hc
  rcases hc with rfl
  · exact rt_d42_0
set_option maxRecDepth 100000 in
theorem rt_d43_0 : rt_dk prog_10_method_5_code rt_i43_0 = true := by decide +kernel
theorem rt_D43 : ∀ c ∈ rt_m43.2.2.2.2.2.2.1, rt_dk rt_m43.2.2.2.1 c.2 = true := by
  intro c hc
  have hc : c ∈ [(0, rt_i43_0)] := hc
  simp only [List.mem_cons, List.not_mem_nil, or_false] at hc
  rcases hc with rfl
  · exact rt_d43_0
set_option maxRecDepth 100000 in
theorem rt_d44_0 : rt_dk prog_10_method_10_code rt_i44_0 = true := by decide +kernel
set_option maxRecDepth 100000 in
theorem rt_d44_1 : rt_dk prog_10_method_10_code rt_i44_1 = true := by decide +kernel
set_option maxRecDepth 100000 in
theorem rt_d44_2 : rt_dk prog_10_method_10_code rt_i44_2 = true := by decide +kernel
theorem rt_D44 : ∀ c ∈ rt_m44.2.2.2.2.2.2.1, rt_dk rt_m44.2.2.2.1 c.2 = true := by
  intro c hc
  have hc : c ∈ [(0, rt_i44_0), (1, rt_i44_1), (2, rt_i44_2)] := hc
  simp only [List.mem_cons, List.not_mem_nil, or_false] at hc
  rcases hc with rfl | rfl | rfl
  · exact rt_d44_0
  · exact rt_d44_1
  · exact rt_d44_2
set_option maxRecDepth 100000 in
theorem rt_d45_0 : rt_dk prog_10_method_11_code rt_i45_0 = true := by decide +kernel
set_option maxRecDepth 100000 in
theorem rt_d45_1 : rt_dk prog_10_method_11_code rt_i45_1 = true := by decide +kernel
set_option maxRecDepth 100000 in
theorem rt_d45_2 : rt_dk prog_10_method_11_code rt_i45_2 = true := by decide +kernel
set_option maxRecDepth 100000 in
theorem rt_d45_3 : rt_dk prog_10_method_11_code rt_i45_3 = true := by decide +kernel
set_option maxRecDepth 100000 in
theorem rt_d45_4 : rt_dk prog_10_method_11_code rt_i45_4 = true := by decide +kernel
theorem rt_D45 : ∀ c ∈ rt_m45.2.2.2.2.2.2.1, rt_dk rt_m45.2.2.2.1 c.2 = true := by
  intro c hc
  have hc : c ∈ [(0, rt_i45_0), (1, rt_i45_1), (2, rt_i45_2), (3, rt_i45_3), (4, rt_i45_4)] := hc
  simp only [List.mem_cons, List.not_mem_nil, or_false] at hc
  rcases hc with rfl | rfl | rfl | rfl | rfl
  · exact rt_d45_0
  · exact rt_d45_1
  · exact rt_d45_2
  · exact rt_d45_3
  · exact rt_d45_4
set_option maxRecDepth 100000 in
theorem rt_d46_0 : rt_dk prog_11_method_1_code rt_i46_0 = true := by decide +kernel
set_option maxRecDepth 100000 in
theorem rt_d46_1 : rt_dk prog_11_method_1_code rt_i46_1 = true := by decide +kernel
set_option maxRecDepth 100000 in
theorem rt_d46_2 : rt_dk prog_11_method_1_code rt_i46_2 = true := by decide +kernel
set_option maxRecDepth 100000 in
theorem rt_d46_3 : rt_dk prog_11_method_1_code rt_i46_3 = true := by decide +kernel
theorem rt_D46 : ∀ c ∈ rt_m46.2.2.2.2.2.2.1, rt_dk rt_m46.2.2.2.1 c.2 = true := by
  intro c hc
  have hc : c ∈ [(0, rt_i46_0), (1, rt_i46_1), (2, rt_i46_2), (3, rt_i46_3)] := hc
  simp only [List.mem_cons, List.not_mem_nil, or_false] at hc
  rcases hc with rfl | rfl | rfl | rfl
  · exact rt_d46_0
  · exact rt_d46_1
  · exact rt_d46_2
  · exact rt_d46_3
set_option maxRecDepth 100000 in
theorem rt_d47_0 : rt_dk prog_11_method_2_code rt_i47_0 = true := by decide +kernel
set_option maxRecDepth 100000 in
theorem rt_d47_1 : rt_dk prog_11_method_2_code rt_i47_1 = true := by decide +kernel
theorem rt_D47 : ∀ c ∈ rt_m47.2.2.2.2.2.2.1, rt_dk rt_m47.2.2.2.1 c.2 = true := by
  intro c hc
  have hc : c ∈ [(0, rt_i47_0), (1, rt_i47_1)] := hc
  simp only [List.mem_cons, List.not_mem_nil, or_false] at hc
  rcases hc with rfl | rfl
  · exact rt_d47_0
  · exact rt_d47_1
set_option maxRecDepth 100000 in
theorem rt_d48_0 : rt_dk prog_11_method_4_code rt_i48_0 = true := by decide +kernel
theorem rt_D48 : ∀ c ∈ rt_m48.2.2.2.2.2.2.1, rt_dk rt_m48.2.2.2.1 c.2 = true := by
  intro c hc
  have hc : c ∈ [(0, rt_i48_0)] := hc
  simp only [List.mem_cons, List.not_mem_nil, or_false] at hc
  rcases hc with rfl
  · exact rt_d48_0
set_option maxRecDepth 100000 in
theorem rt_d49_0 : rt_dk prog_11_method_5_code rt_i49_0 = true := by decide +kernel
theorem rt_D49 : ∀ c ∈ rt_m49.2.2.2.2.2.2.1, rt_dk rt_m49.2.2.2.1 c.2 = true := by
  intro c hc
  have hc : c ∈ [(0, rt_i49_0)] := hc
  simp only [List.mem_cons, List.not_mem_nil, or_false] at hc
  rcases hc with rfl
  · exact rt_d49_0
set_option maxRecDepth 100000 in
theorem rt_d50_0 : rt_dk prog_11_method_23_code rt_i50_0 = true := by decide +kernel
set_option maxRecDepth 100000 in
theorem rt_d50_1 : rt_dk prog_11_method_23_code rt_i50_1 = true := by decide +kernel
set_option maxRecDepth 100000 in
theorem rt_d50_2 : rt_dk prog_11_method_23_code rt_i50_2 = true := by decide +kernel
set_option maxRecDepth 100000 in
theorem rt_d50_3 : rt_dk prog_11_method_23_code rt_i50_3 = true := by decide +kernel
theorem rt_D50 : ∀ c ∈ rt_m50.2.2.2.2.2.2.1, rt_dk rt_m50.2.2.2.1 c.2 = true := by
  intro c hc
  have hc : c ∈ [(0, rt_i50_0), (1, rt_i50_1), (2, rt_i50_2), (3, rt_i50_3)] := hc
  simp only [List.mem_cons, List.not_mem_nil, or_false] at hc
  rcases hc with rfl | rfl | rfl | rfl
  · exact rt_d50_0
  · exact rt_d50_1
  · exact rt_d50_2
  · exact rt_d50_3
set_option maxRecDepth 100000 in
theorem rt_d51_0 : rt_dk prog_12_method_1_code rt_i51_0 = true := by decide +kernel
set_option maxRecDepth 100000 in
theorem rt_d51_1 : rt_dk prog_12_method_1_code rt_i51_1 = true := by decide +kernel
theorem rt_D51 : ∀ c ∈ rt_m51.2.2.2.2.2.2.1, rt_dk rt_m51.2.2.2.1 c.2 = true := by
  intro c hc
  have hc : c ∈ [(0, rt_i51_0), (1, rt_i51_1)] := hc
  simp only [List.mem_cons, List.not_mem_nil, or_false] at hc
  rcases hc with rfl | rfl
  · exact rt_d51_0
  · exact rt_d51_1
set_option maxRecDepth 100000 in
theorem rt_d52_0 : rt_dk prog_13_method_1_code rt_i52_0 = true := by decide +kernel
set_option maxRecDepth 100000 in
theorem rt_d52_1 : rt_dk prog_13_method_1_code rt_i52_1 = true := by decide +kernel
theorem rt_D52 : ∀ c ∈ rt_m52.2.2.2.2.2.2.1, rt_dk rt_m52.2.2.2.1 c.2 = true := by
  intro c hc
  have hc : c ∈ [(0, rt_i52_0), (1, rt_i52_1)] := hc
  simp only [List.mem_cons, List.not_mem_nil, or_false] at hc
  rcases hc with rfl | rfl
  · exact rt_d52_0
  · exact rt_d52_1
set_option maxRecDepth 100000 in
theorem rt_d53_0 : rt_dk prog_13_method_2_code rt_i53_0 = true := by decide +kernel
theorem rt_D53 : ∀ c ∈ rt_m53.2.2.2.2.2.2.1, rt_dk rt_m53.2.2.2.1 c.2 = true := by
  intro c hc
  have hc : c ∈ [(0, rt_i53_0)] := hc
  simp only [List.mem_cons, List.not_mem_nil, or_false] at hc
  rcases hc with rfl
  · exact rt_d53_0
set_option maxRecDepth 100000 in
theorem rt_d54_0 : rt_dk prog_13_method_3_code rt_i54_0 = true := by decide +kernel
set_option maxRecDepth 100000 in
theorem rt_d54_1 : rt_dk prog_13_method_3_code rt_i54_1 = true := by decide +kernel
theorem rt_D54 : ∀ c ∈ rt_m54.2.2.2.2.2.2.1, rt_dk rt_m54.2.2.2.1 c.2 = true := by
  intro c hc
  have hc : c ∈ [(0, rt_i54_0), (1, rt_i54_1)] := hc
  simp only [List.mem_cons, List.not_mem_nil, or_false] at hc
  rcases hc with rfl | rfl
  · exact rt_d54_0
  · exact rt_d54_1
set_option maxRecDepth 100000 in
theorem rt_d55_0 : rt_dk prog_1_method_1_code rt_i55_0 = true := by decide +kernel
set_option maxRecDepth 100000 in
theorem rt_d55_1 : rt_dk prog_1_method_1_code rt_i55_1 = true := by decide +kernel
set_option maxRecDepth 100000 in
theorem rt_d55_2 : rt_dk prog_1_method_1_code rt_i55_2 = true := by decide +kernel
set_option maxRecDepth 100000 in
theorem rt_d55_3 : rt_dk prog_1_method_1_code rt_i55_3 = true := by decide +kernel
set_option maxRecDepth 100000 in
theorem rt_d55_4 : rt_dk prog_1_method_1_code rt_i55_4 = true := by decide +kernel
set_option maxRecDepth 100000 in
theorem rt_d55_5 : rt_dk prog_1_method_1_code rt_i55_5 = true := by decide +kernel
set_option maxRecDepth 100000 in
theorem rt_d55_6 : rt_dk prog_1_method_1_code rt_i55_6 = true := by decide +kernel
theorem rt_D55 : ∀ c ∈ rt_m55.2.2.2.2.2.2.1, rt_dk rt_m55.2.2.2.1 c.2 = true := by
  intro c hc
  have hc : c ∈ [(0, rt_i55_0), (1, rt_i55_1), (2, rt_i55_2), (3, rt_i55_3), (4, rt_i55_4), (5, rt_i55_5), (6, rt_i55_6)] := hc
  simp only [List.mem_cons, List.not_mem_nil, or_false] at hc
  rcases hc with rfl | rfl | rfl | rfl | rfl | rfl | rfl
  · exact rt_d55_0
  · exact rt_d55_1
  · exact rt_d55_2
  · exact rt_d55_3
  · exact rt_d55_4
  · exact rt_d55_5
  · exact rt_d55_6
set_option maxRecDepth 100000 in
theorem rt_d56_0 : rt_dk prog_1_method_2_code rt_i56_0 = true := by decide +kernel
set_option maxRecDepth 100000 in
theorem rt_d56_1 : rt_dk prog_1_method_2_code rt_i56_1 = true := by decide +kernel
set_option maxRecDepth 100000 in
theorem rt_d56_2 : rt_dk prog_1_method_2_code rt_i56_2 = true := by decide +kernel
theorem rt_D56 : ∀ c ∈ rt_m56.2.2.2.2.2.2.1, rt_dk rt_m56.2.2.2.1 c.2 = true := by
  intro c hc
  have hc : c ∈ [(0, rt_i56_0), (1, rt_i56_1), (2, rt_i56_2)] := hc
  simp only [List.mem_cons, List.not_mem_nil, or_false] at hc
  rcases hc with rfl | rfl | rfl
  · exact rt_d56_0
  · exact rt_d56_1
  · exact rt_d56_2
set_option maxRecDepth 100000 in
theorem rt_d57_0 : rt_dk prog_1_method_3_code rt_i57_0 = true := by decide +kernel
theorem rt_D57 : ∀ c ∈ rt_m57.2.2.2.2.2.2.1, rt_dk rt_m57.2.2.2.1 c.2 = true := by
  intro c hc
  have hc : c ∈ [(0, rt_i57_0)] := hc
  simp only [List.mem_cons, List.not_mem_nil, or_false] at hc
  rcases hc with rfl
  · exact rt_d57_0
set_option maxRecDepth 100000 in
theorem rt_d58_0 : rt_dk prog_1_method_4_code rt_i58_0 = true := by decide +kernel
theorem rt_D58 : ∀ c ∈ rt_m58.2.2.2.2.2.2.1, rt_dk rt_m58.2.2.2.1 c.2 = true := by
  intro c hc
  have hc : c ∈ [(0, rt_i58_0)] := hc
  simp only [List.mem_cons, List.not_mem_nil, or_false] at hc
  rcases hc with rfl
  · exact rt_d58_0
set_option maxRecDepth 100000 in
theorem rt_d59_0 : rt_dk prog_1_method_5_code rt_i59_0 = true := by decide +kernel
set_option maxRecDepth 100000 in
theorem rt_d59_1 : rt_dk prog_1_method_5_code rt_i59_1 = true := by decide +kernel
theorem rt_D59 : ∀ c ∈ rt_m59.2.2.2.2.2.2.1, rt_dk rt_m59.2.2.2.1 c.2 = true := by
  intro c hc
  have hc : c ∈ [(0, rt_i59_0), (1, rt_i59_1)] := hc
  simp only [List.mem_cons, List.not_mem_nil, or_false] at hc
  rcases hc with rfl | rfl
  · exact rt_d59_0
  · exact rt_d59_1
set_option maxRecDepth 100000 in
theorem rt_d60_0 : rt_dk prog_1_method_6_code rt_i60_0 = true := by decide +kernel
theorem rt_D60 : ∀ c ∈ rt_m60.2.2.2.2.2.2.1, rt_dk rt_m60.2.2.2.1 c.2 = true := by
  intro c hc
  have hc : c ∈ [(0, rt_i60_0)] := hc
  simp only [List.mem_cons, List.not_mem_nil, or_false] at hc
  rcases hc with rfl
  · exact rt_d60_0
set_option maxRecDepth 100000 in
theorem rt_d61_0 : rt_dk prog_1_method_7_code rt_i61_0 = true := by decide +kernel
theorem rt_D61 : ∀ c ∈ rt_m61.2.2.2.2.2.2.1, rt_dk rt_m61.2.2.2.1 c.2 = true := by
  intro c hc
  have hc : c ∈ [(0, rt_i61_0)] := hc
  simp only [List.mem_cons, List.not_mem_nil, or_false] at hc
  rcases hc with rfl
  · exact rt_d61_0
set_option maxRecDepth 100000 in
theorem rt_d62_0 : rt_dk prog_1_method_8_code rt_i62_0 = true := by decide +kernel
set_option maxRecDepth 100000 in
theorem rt_d62_1 : rt_dk prog_1_method_8_code rt_i62_1 = true := by decide +kernel
set_option maxRecDepth 100000 in
theorem rt_d62_2 : rt_dk prog_1_method_8_code rt_i62_2 = true := by decide +kernel
theorem rt_D62 : ∀ c ∈ rt_m62.2.2.2.2.2.2.1, rt_dk rt_m62.2.2.2.1 c.2 = true := by
  intro c hc
  have hc : c ∈ [(0, rt_i62_0), (1, rt_i62_1), (2, rt_i62_2)] := hc
  simp only [List.mem_cons, List.not_mem_nil, or_false] at hc
  rcases hc with rfl | rfl | rfl
  · exact rt_d62_0
  · exact rt_d62_1
  · exact rt_d62_2
set_option maxRecDepth 100000 in
theorem rt_d63_0 : rt_dk prog_1_method_10_code rt_i63_0 = true := by decide +kernel
set_option maxRecDepth 100000 in
theorem rt_d63_1 : rt_dk prog_1_method_10_code rt_i63_1 = true := by decide +kernel
set_option maxRecDepth 100000 in
theorem rt_d63_2 : rt_dk prog_1_method_10_code rt_i63_2 = true := by decide +kernel
set_option maxRecDepth 100000 in
theorem rt_d63_3 : rt_dk prog_1_method_10_code rt_i63_3 = true := by decide +kernel
theorem rt_D63 : ∀ c ∈ rt_m63.2.2.2.2.2.2.1, rt_dk rt_m63.2.2.2.1 c.2 = true := by
  intro c hc
  have hc : c ∈ [(0, rt_i63_0), (1, rt_i63_1), (2, rt_i63_2), (3, rt_i63_3)] := hc
  simp only [List.mem_cons, List.not_mem_nil, or_false] at hc
  rcases hc with rfl | rfl | rfl | rfl
  · exact rt_d63_0
  · exact rt_d63_1
  · exact rt_d63_2
  · exact rt_d63_3
set_option maxRecDepth 100000 in
theorem rt_d64_0 : rt_dk prog_1_method_11_code rt_i64_0 = true := by decide +kernel
set_option maxRecDepth 100000 in
theorem rt_d64_1 : rt_dk prog_1_method_11_code rt_i64_1 = true := by decide +kernel
set_option maxRecDepth 100000 in
theorem rt_d64_2 : rt_dk prog_1_method_11_code rt_i64_2 = true := by decide +kernel
set_option maxRecDepth 100000 in
theorem rt_d64_3 : rt_dk prog_1_method_11_code rt_i64_3 = true := by decide +kernel
set_option maxRecDepth 100000 in
theorem rt_d64_4 : rt_dk prog_1_method_11_code rt_i64_4 = true := by decide +kernel
theorem rt_D64 : ∀ c ∈ rt_m64.2.2.2.2.2.2.1, rt_dk rt_m64.2.2.2.1 c.2 = true := by
  intro c hc
  have hc : c ∈ [(0, rt_i64_0), (1, rt_i64_1), (2, rt_i64_2), (3, rt_i64_3), (4, rt_i64_4)] := hc
  simp only [List.mem_cons, List.not_mem_nil, or_false] at hc
  rcases hc with rfl | rfl | rfl | rfl | rfl
  · exact rt_d64_0
  · exact rt_d64_1
  · exact rt_d64_2
  · exact rt_d64_3
  · exact rt_d64_4
set_option maxRecDepth 100000 in
theorem rt_d65_0 : rt_dk prog_1_method_12_code rt_i65_0 = true := by decide +kernel
set_option maxRecDepth 100000 in
theorem rt_d65_1 : rt_dk prog_1_method_12_code rt_i65_1 = true := by decide +kernel
set_option maxRecDepth 100000 in
theorem rt_d65_2 : rt_dk prog_1_method_12_code rt_i65_2 = true := by decide +kernel
set_option maxRecDepth 100000 in
theorem rt_d65_3 : rt_dk prog_1_method_12_code rt_i65_3 = true := by decide +kernel
theorem rt_D65 : ∀ c ∈ rt_m65.2.2.2.2.2.2.1, rt_dk rt_m65.2.2.2.1 c.2 = true := by
  intro c hc
  have hc : c ∈ [(0, rt_i65_0), (1, rt_i65_1), (2, rt_i65_2), (3, rt_i65_3)] := hc
  simp only [List.mem_cons, List.not_mem_nil, or_false] at hc
  rcases hc with rfl | rfl | rfl | rfl
  · exact rt_d65_0
  · exact rt_d65_1
  · exact rt_d65_2
  · exact rt_d65_3
set_option maxRecDepth 100000 in
theorem rt_d66_0 : rt_dk prog_1_method_13_code rt_i66_0 = true := by decide +kernel
theorem rt_D66 : ∀ c ∈ rt_m66.2.2.2.2.2.2.1, rt_dk rt_m66.2.2.2.1 c.2 = true := by
  intro c hc
  have hc : c ∈ [(0, rt_i66_0)] := hc
  simp only [List.mem_cons, List.not_mem_nil, or_false] at hc
  rcases hc with rfl
  · exact rt_d66_0
set_option maxRecDepth 100000 in
theorem rt_d67_0 : rt_dk prog_1_method_14_code rt_i67_0 = true := by decide +kernel
theorem rt_D67 : ∀ c ∈ rt_m67.2.2.2.2.2.2.1, rt_dk rt_m67.2.2.2.1 c.2 = true := by
  intro c hc
  have hc : c ∈ [(0, rt_i67_0)] := hc
  simp only [List.mem_cons, List.not_mem_nil, or_false] at hc
  rcases hc with rfl
  · exact rt_d67_0
set_option maxRecDepth 100000 in
theorem rt_d68_0 : rt_dk prog_1_method_15_code rt_i68_0 = true := by decide +kernel
set_option maxRecDepth 100000 in
theorem rt_d68_1 : rt_dk prog_1_method_15_code rt_i68_1 = true := by decide +kernel
set_option maxRecDepth 100000 in
theorem rt_d68_2 : rt_dk prog_1_method_15_code rt_i68_2 = true := by decide +kernel
set_option maxRecDepth 100000 in
theorem rt_d68_3 : rt_dk prog_1_method_15_code rt_i68_3 = true := by decide +kernel
theorem rt_D68 : ∀ c ∈ rt_m68.2.2.2.2.2.2.1, rt_dk rt_m68.2.2.2.1 c.2 = true := by
  intro c hc
  have hc : c ∈ [(0, rt_i68_0), (1, rt_i68_1), (2, rt_i68_2), (3, rt_i68_3)] := hc
  simp only [List.mem_cons, List.not_mem_nil, or_false] at hc
  rcases hc with rfl | rfl | rfl | rfl
  · exact rt_d68_0
  · exact rt_d68_1
  · exact rt_d68_2
  · exact rt_d68_3
set_option maxRecDepth 100000 in
theorem rt_d69_0 : rt_dk prog_1_method_16_code rt_i69_0 = true := by decide +kernel
set_option maxRecDepth 100000 in
theorem rt_d69_1 : rt_dk prog_1_method_16_code rt_i69_1 = true := by decide +kernel
set_option maxRecDepth 100000 in
theorem rt_d69_2 : rt_dk prog_1_method_16_code rt_i69_2 = true := by decide +kernel
set_option maxRecDepth 100000 in
theorem rt_d69_3 : rt_dk prog_1_method_16_code rt_i69_3 = true := by decide +kernel
theorem rt_D69 : ∀ c ∈ rt_m69.2.2.2.2.2.2.1, rt_dk rt_m69.2.2.2.1 c.2 = true := by
  intro c hc
  have hc : c ∈ [(0, rt_i69_0), (1, rt_i69_1), (2, rt_i69_2), (3, rt_i69_3)] := hc
  simp only [List.mem_cons, List.not_mem_nil, or_false] at hc
  rcases hc with rfl | rfl | rfl | rfl
  · exact rt_d69_0
  · exact rt_d69_1
  · exact rt_d69_2
  · exact rt_d69_3
set_option maxRecDepth 100000 in
theorem rt_d70_0 : rt_dk prog_1_method_17_code rt_i70_0 = true := by decide +kernel
theorem rt_D70 : ∀ c ∈ rt_m70.2.2.2.2.2.2.1, rt_dk rt_m70.2.2.2.1 c.2 = true := by
  intro c hc
  have hc : c ∈ [(0, rt_i70_0)] := hc
  simp only [List.mem_cons, List.not_mem_nil, or_false] at hc
  rcases hc with rfl
  · exact rt_d70_0
set_option maxRecDepth 100000 in
theorem rt_d71_0 : rt_dk prog_1_method_18_code rt_i71_0 = true := by decide +kernel
set_option maxRecDepth 100000 in
theorem rt_d71_1 : rt_dk prog_1_method_18_code rt_i71_1 = true := by decide +kernel
theorem rt_D71 : ∀ c ∈ rt_m71.2.2.2.2.2.2.1, rt_dk rt_m71.2.2.2.1 c.2 = true := by
  intro c hc
  have hc : c ∈ [(0, rt_i71_0), (1, rt_i71_1)] := hc
  simp only [List.mem_cons, List.not_mem_nil, or_false] at hc
  rcases hc with rfl | rfl
  · exact rt_d71_0
  · exact rt_d71_1
set_option maxRecDepth 100000 in
theorem rt_d72_0 : rt_dk prog_1_method_19_code rt_i72_0 = true := by decide +kernel
theorem rt_D72 : ∀ c ∈ rt_m72.2.2.2.2.2.2.1, rt_dk rt_m72.2.2.2.1 c.2 = true := by
  intro c hc
  have hc : c ∈ [(0, rt_i72_0)] := hc
  simp only [List.mem_cons, List.not_mem_nil, or_false] at hc
  rcases hc with rfl
  · exact rt_d72_0
set_option maxRecDepth 100000 in
theorem rt_d73_0 : rt_dk prog_1_method_20_code rt_i73_0 = true := by decide +kernel
set_option maxRecDepth 100000 in
theorem rt_d73_1 : rt_dk prog_1_method_20_code rt_i73_1 = true := by decide +kernel
theorem rt_D73 : ∀ c ∈ rt_m73.2.2.2.2.2.2.1, rt_dk rt_m73.2.2.2.1 c.2 = true := by
  intro c hc
  have hc : c ∈ [(0, rt_i73_0), (1, rt_i73_1)] := hc
  simp only [List.mem_cons, List.not_mem_nil, or_false] at hc
  rcases hc with rfl | rfl
  · exact rt_d73_0
  · exact rt_d73_1
set_option maxRecDepth 100000 in
theorem rt_d74_0 : rt_dk prog_1_method_21_code rt_i74_0 = true := by decide +kernel
theorem rt_D74 : ∀ c ∈ rt_m74.2.2.2.2.2.2.1, rt_dk rt_m74.2.2.2.1 c.2 = true := by
  intro c hc
  have hc : c ∈ [(0, rt_i74_0)] := hc
  simp only [List.mem_cons, List.not_mem_nil, or_false] at hc
  rcases hc with rfl
  · exact rt_d74_0
set_option maxRecDepth 100000 in
theorem rt_d75_0 : rt_dk prog_1_method_22_code rt_i75_0 = true := by decide +kernel
theorem rt_D75 : ∀ c ∈ rt_m75.2.2.2.2.2.2.1, rt_dk rt_m75.2.2.2.1 c.2 = true := by
  intro c hc
  have hc : c ∈ [(0, rt_i75_0)] := hc
  simp only [List.mem_cons, List.not_mem_nil, or_false] at hc
  rcases hc with rfl
  · exact rt_d75_0
set_option maxRecDepth 100000 in
theorem rt_d76_0 : rt_dk prog_1_method_23_code rt_i76_0 = true := by decide +kernel
theorem rt_D76 : ∀ c ∈ rt_m76.2.2.2.2.2.2.1, rt_dk rt_m76.2.2.2.1 c.2 = true := by
  intro c hc
  have hc : c ∈ [(0, rt_i76_0)] := hc
  simp only [List.mem_cons, List.not_mem_nil, or_false] at hc
  rcases hc with rfl
  · exact rt_d76_0
set_option maxRecDepth 100000 in
theorem rt_d77_0 : rt_dk prog_1_method_24_code rt_i77_0 = true := by decide +kernel
set_option maxRecDepth 100000 in
theorem rt_d77_1 : rt_dk prog_1_method_24_code rt_i77_1 = true := by decide +kernel
theorem rt_D77 : ∀ c ∈ rt_m77.2.2.2.2.2.2.1, rt_dk rt_m77.2.2.2.1 c.2 = true := by
  intro c hc
  have hc : c ∈ [(0, rt_i77_0), (1, rt_i77_1)] := hc
  simp only [List.mem_cons, List.not_mem_nil, or_false] at hc
  rcases hc with rfl | rfl
  · exact rt_d77_0
  · exact rt_d77_1
set_option maxRecDepth 100000 in
theorem rt_d78_0 : rt_dk prog_1_method_25_code rt_i78_0 = true := by decide +kernel
set_option maxRecDepth 100000 in
theorem rt_d78_1 : rt_dk prog_1_method_25_code rt_i78_1 = true := by decide +kernel
theorem rt_D78 : ∀ c ∈ rt_m78.2.2.2.2.2.2.1, rt_dk rt_m78.2.2.2.1 c.2 = true := by
  intro c hc
  have hc : c ∈ [(0, rt_i78_0), (1, rt_i78_1)] := hc
  simp only [List.mem_cons, List.not_mem_nil, or_false] at hc
  rcases hc with rfl | rfl
  · exact rt_d78_0
  · exact rt_d78_1
set_option maxRecDepth 100000 in
theorem rt_d79_0 : rt_dk prog_1_method_26_code rt_i79_0 = true := by decide +kernel
set_option maxRecDepth 100000 in
theorem rt_d79_1 : rt_dk prog_1_method_26_code rt_i79_1 = true := by decide +kernel
theorem rt_D79 : ∀ c ∈ rt_m79.2.2.2.2.2.2.1, rt_dk rt_m79.2.2.2.1 c.2 = true := by
  intro c hc
  have hc : c ∈ [(0, rt_i79_0), (1, rt_i79_1)] := hc
  simp only [List.mem_cons, List.not_mem_nil, or_false] at hc
  rcases hc with rfl | rfl
  · exact rt_d79_0
  · exact rt_d79_1
set_option maxRecDepth 100000 in
theorem rt_d80_0 : rt_dk prog_1_method_27_code rt_i80_0 = true := by decide +kernel
set_option maxRecDepth 100000 in
theorem rt_d80_1 : rt_dk prog_1_method_27_code rt_i80_1 = true := by decide +kernel
set_option maxRecDepth 100000 in
theorem rt_d80_2 : rt_dk prog_1_method_27_code rt_i80_2 = true := by decide +kernel
set_option maxRecDepth 100000 in
theorem rt_d80_3 : rt_dk prog_1_method_27_code rt_i80_3 = true := by decide +kernel
theorem rt_D80 : ∀ c ∈ rt_m80.2.2.2.2.2.2.1, rt_dk rt_m80.2.2.2.1 c.2 = true := by
  intro c hc
  have hc : c ∈ [(0, rt_i80_0), (1, rt_i80_1), (2, rt_i80_2), (3, rt_i80_3)] := hc
  simp only [List.mem_cons, List.not_mem_nil, or_false] at hc
  rcases hc with rfl | rfl | rfl | rfl
  · exact rt_d80_0
  · exact rt_d80_1
  · exact rt_d80_2
  · exact rt_d80_3
set_option maxRecDepth 100000 in
theorem rt_d81_0 : rt_dk prog_1_method_28_code rt_i81_0 = true := by decide +kernel
set_option maxRecDepth 100000 in
theorem rt_d81_1 : rt_dk prog_1_method_28_code rt_i81_1 = true := by decide +kernel
theorem rt_D81 : ∀ c ∈ rt_m81.2.2.2.2.2.2.1, rt_dk rt_m81.2.2.2.1 c.2 = true := by
  intro c hc
  have hc : c ∈ [(0, rt_i81_0), (1, rt_i81_1)] := hc
  simp only [List.mem_cons, List.not_mem_nil, or_false] at hc
  rcases hc with rfl | rfl
  · exact rt_d81_0
  · exact rt_d81_1
set_option maxRecDepth 100000 in
theorem rt_d82_0 : rt_dk prog_1_method_29_code rt_i82_0 = true := by decide +kernel
theorem rt_D82 : ∀ c ∈ rt_m82.2.2.2.2.2.2.1, rt_dk rt_m82.2.2.2.1 c.2 = true := by
  intro c hc
  have hc : c ∈ [(0, rt_i82_0)] := hc
  simp only [List.mem_cons, List.not_mem_nil, or_false] at hc
  rcases hc with rfl
  · exact rt_d82_0
set_option maxRecDepth 100000 in
theorem rt_d83_0 : rt_dk prog_1_method_30_code rt_i83_0 = true := by decide +kernel
theorem rt_D83 : ∀ c ∈ rt_m83.2.2.2.2.2.2.1, rt_dk rt_m83.2.2.2.1 c.2 = true := by
  intro c hc
  have hc : c ∈ [(0, rt_i83_0)] := hc
  simp only [List.mem_cons, List.not_mem_nil, or_false] at hc
  rcases hc with rfl
  · exact rt_d83_0
set_option maxRecDepth 100000 in
theorem rt_d84_0 : rt_dk prog_1_method_31_code rt_i84_0 = true := by decide +kernel
set_option maxRecDepth 100000 in
theorem rt_d84_1 : rt_dk prog_1_method_31_code rt_i84_1 = true := by decide +kernel
set_option maxRecDepth 100000 in
theorem rt_d84_2 : rt_dk prog_1_method_31_code rt_i84_2 = true := by decide +kernel
theorem rt_D84 : ∀ c ∈ rt_m84.2.2.2.2.2.2.1, rt_dk rt_m84.2.2.2.1 c.2 = true := by
  intro c hc
  have hc : c ∈ [(0, rt_i84_0), (1, rt_i84_1), (2, rt_i84_2)] := hc
  simp only [List.mem_cons, List.not_mem_nil, or_false] at hc
  rcases hc with rfl | rfl | rfl
  · exact rt_d84_0
  · exact rt_d84_1
  · exact rt_d84_2
set_option maxRecDepth 100000 in
theorem rt_d85_0 : rt_dk prog_1_method_32_code rt_i85_0 = true := by decide +kernel
set_option maxRecDepth 100000 in
theorem rt_d85_1 : rt_dk prog_1_method_32_code rt_i85_1 = true := by decide +kernel
theorem rt_D85 : ∀ c ∈ rt_m85.2.2.2.2.2.2.1, rt_dk rt_m85.2.2.2.1 c.2 = true := by
  intro c hc
  have hc : c ∈ [(0, rt_i85_0), (1, rt_i85_1)] := hc
  simp only [List.mem_cons, List.not_mem_nil, or_false] at hc
  rcases hc with rfl | rfl
  · exact rt_d85_0
  · exact rt_d85_1
set_option maxRecDepth 100000 in
theorem rt_d86_0 : rt_dk prog_1_method_33_code rt_i86_0 = true := by decide +kernel
theorem rt_D86 : ∀ c ∈ rt_m86.2.2.2.2.2.2.1, rt_dk rt_m86.2.2.2.1 c.2 = true := by
  intro c hc
  have hc : c ∈ [(0, rt_i86_0)] := hc
  simp only [List.mem_cons, List.not_mem_nil, or_false] at hc
  rcases hc with rfl
  · exact rt_d86_0
set_option maxRecDepth 100000 in
theorem rt_d87_0 : rt_dk prog_1_method_34_code rt_i87_0 = true := by decide +kernel
theorem rt_D87 : ∀ c ∈ rt_m87.2.2.2.2.2.2.1, rt_dk rt_m87.2.2.2.1 c.2 = true := by
  intro c hc
  have hc : c ∈ [(0, rt_i87_0)] := hc
  simp only [List.mem_cons, List.not_mem_nil, or_false] at hc
  rcases hc with rfl
  · exact rt_d87_0
set_option maxRecDepth 100000 in
theorem rt_d88_0 : rt_dk prog_1_method_35_code rt_i88_0 = true := by decide +kernel
theorem rt_D88 : ∀ c ∈ rt_m88.2.2.2.2.2.2.1, rt_dk rt_m88.2.2.2.1 c.2 = true := by
  intro c hc
  have hc : c ∈ [(0, rt_i88_0)] := hc
  simp only [List.mem_cons, List.not_mem_nil, or_false] at hc
  rcases hc with rfl
  · exact rt_d88_0
set_option maxRecDepth 100000 in
theorem rt_d89_0 : rt_dk prog_1_method_36_code rt_i89_0 = true := by decide +kernel
theorem rt_D89 : ∀ c ∈ rt_m89.2.2.2.2.2.2.1, rt_dk rt_m89.2.2.2.1 c.2 = true := by
  intro c hc
  have hc : c ∈ [(0, rt_i89_0)] := hc
  simp only [List.mem_cons, List.not_mem_nil, or_false] at hc
  rcases hc with rfl
  · exact rt_d89_0
set_option maxRecDepth 100000 in
theorem rt_d90_0 : rt_dk prog_1_method_37_code rt_i90_0 = true := by decide +kernel
theorem rt_D90 : ∀ c ∈ rt_m90.2.2.2.2.2.2.1, rt_dk rt_m90.2.2.2.1 c.2 = true := by
  intro c hc
  have hc : c ∈ [(0, rt_i90_0)] := hc
  simp only [List.mem_cons, List.not_mem_nil, or_false] at hc
  rcases hc with rfl
  · exact rt_d90_0
set_option maxRecDepth 100000 in
theorem rt_d91_0 : rt_dk prog_15_method_1_code rt_i91_0 = true := by decide +kernel
set_option maxRecDepth 100000 in
theorem rt_d91_1 : rt_dk prog_15_method_1_code rt_i91_1 = true := by decide +kernel
set_option maxRecDepth 100000 in
theorem rt_d91_2 : rt_dk prog_15_method_1_code rt_i91_2 = true := by decide +kernel
set_option maxRecDepth 100000 in
theorem rt_d91_3 : rt_dk prog_15_method_1_code rt_i91_3 = true := by decide +kernel
set_option maxRecDepth 100000 in
theorem rt_d91_4 : rt_dk prog_15_method_1_code rt_i91_4 = true := by decide +kernel
set_option maxRecDepth 100000 in
theorem rt_d91_5 : rt_dk prog_15_method_1_code rt_i91_5 = true := by decide +kernel
set_option maxRecDepth 100000 in
theorem rt_d91_6 : rt_dk prog_15_method_1_code rt_i91_6 = true := by decide +kernel
set_option maxRecDepth 100000 in
theorem rt_d91_7 : rt_dk prog_15_method_1_code rt_i91_7 = true := by decide +kernel
set_option maxRecDepth 100000 in
theorem rt_d91_8 : rt_dk prog_15_method_1_code rt_i91_8 = true := by decide +kernel
set_option maxRecDepth 100000 in
theorem rt_d91_9 : rt_dk prog_15_method_1_code rt_i91_9 = true := by decide +kernel
set_option maxRecDepth 100000 in
theorem rt_d91_10 : rt_dk prog_15_method_1_code rt_i91_10 = true := by decide +kernel
set_option maxRecDepth 100000 in
theorem rt_d91_11 : rt_dk prog_15_method_1_code rt_i91_11 = true := by decide +kernel
set_option maxRecDepth 100000 in
theorem rt_d91_12 : rt_dk prog_15_method_1_code rt_i91_12 = true := by decide +kernel
set_option maxRecDepth 100000 in
theorem rt_d91_13 : rt_dk prog_15_method_1_code rt_i91_13 = true := by decide +kernel
set_option maxRecDepth 100000 in
theorem rt_d91_14 : rt_dk prog_15_method_1_code rt_i91_14 = true := by decide +kernel
set_option maxRecDepth 100000 in
theorem rt_d91_15 : rt_dk prog_15_method_1_code rt_i91_15 = true := by decide +kernel
set_option maxRecDepth 100000 in
theorem rt_d91_16 : rt_dk prog_15_method_1_code rt_i91_16 = true := by decide +kernel
set_option maxRecDepth 100000 in
theorem rt_d91_17 : rt_dk prog_15_method_1_code rt_i91_17 = true := by decide +kernel
set_option maxRecDepth 100000 in
theorem rt_d91_18 : rt_dk prog_15_method_1_code rt_i91_18 = true := by decide +kernel
set_option maxRecDepth 100000 in
theorem rt_d91_19 : rt_dk prog_15_method_1_code rt_i91_19 = true := by decide +kernel
set_option maxRecDepth 100000 in
theorem rt_d91_20 : rt_dk prog_15_method_1_code rt_i91_20 = true := by decide +kernel
set_option maxRecDepth 100000 in
theorem rt_d91_21 : rt_dk prog_15_method_1_code rt_i91_21 = true := by decide +kernel
set_option maxRecDepth 100000 in
theorem rt_d91_22 : rt_dk prog_15_method_1_code rt_i91_22 = true := by decide +kernel
set_option maxRecDepth 100000 in
theorem rt_d91_23 : rt_dk prog_15_method_1_code rt_i91_23 = true := by decide +kernel
set_option maxRecDepth 100000 in
theorem rt_d91_24 : rt_dk prog_15_method_1_code rt_i91_24 = true := by decide +kernel
set_option maxRecDepth 100000 in
theorem rt_d91_25 : rt_dk prog_15_method_1_code rt_i91_25 = true := by decide +kernel
set_option maxRecDepth 100000 in
theorem rt_d91_26 : rt_dk prog_15_method_1_code rt_i91_26 = true := by decide +kernel
set_option maxRecDepth 100000 in
theorem rt_d91_27 : rt_dk prog_15_method_1_code rt_i91_27 = true := by decide +kernel
set_option maxRecDepth 100000 in
theorem rt_d91_28 : rt_dk prog_15_method_1_code rt_i91_28 = true := by decide +kernel
set_option maxRecDepth 100000 in
theorem rt_d91_29 : rt_dk prog_15_method_1_code rt_i91_29 = true := by decide +kernel
theorem rt_D91 : ∀ c ∈ rt_m91.2.2.2.2.2.2.1, rt_dk rt_m91.2.2.2.1 c.2 = true := by
  intro c hc
  have hc : c ∈ [(0, rt_i91_0), (1, rt_i91_1), (2, rt_i91_2), (3, rt_i91_3), (4, rt_i91_4), (5, rt_i91_5), (6, rt_i91_6), (7, rt_i91_7), (8, rt_i91_8), (9, rt_i91_9), (10, rt_i91_10), (11, rt_i91_11), (12, rt_i91_12), (13, rt_i91_13), (14, rt_i91_14), (15, rt_i91_15), (16, rt_i91_16), (17, rt_i91_17), (18, rt_i91_18), (19, rt_i91_19), (20, rt_i91_20), (21, rt_i91_21), (22, rt_i91_22), (23, rt_i91_23), (24, rt_i91_24), (25, rt_i91_25), (26, rt_i91_26), (27, rt_i91_27), (28, rt_i91_28), (29, rt_i91_29)] := hc
  simp only [List.mem_cons, List.not_mem_nil, or_false] at hc
  rcases hc with rfl | rfl | rfl | rfl | rfl | rfl | rfl | rfl | rfl | rfl | rfl | rfl | rfl | rfl | rfl | rfl | rfl | rfl | rfl | rfl | rfl | rfl | rfl | rfl | rfl | rfl | rfl | rfl | rfl | rfl
  · exact rt_d91_0
  · exact rt_d91_1
  · exact rt_d91_2
  · exact rt_d91_3
  · exact rt_d91_4
  · exact rt_d91_5
  · exact rt_d91_6
  · exact rt_d91_7
  · exact rt_d91_8
  · exact rt_d91_9
  · exact rt_d91_10
  · exact rt_d91_11
  · exact rt_d91_12
  · exact rt_d91_13
  · exact rt_d91_14
  · exact rt_d91_15
  · exact rt_d91_16
  · exact rt_d91_17
  · exact rt_d91_18
  · exact rt_d91_19
  · exact rt_d91_20
  · exact rt_d91_21
  · exact rt_d91_22
  · exact rt_d91_23
  · exact rt_d91_24
  · exact rt_d91_25
  · exact rt_d91_26
  · exact rt_d91_27
  · exact rt_d91_28
  · exact rt_d91_29
set_option maxRecDepth 100000 in
theorem rt_d92_0 : rt_dk prog_15_method_2_code rt_i92_0 = true := by decide +kernel
theorem rt_D92 : ∀ c ∈ rt_m92.2.2.2.2.2.2.1, rt_dk rt_m92.2.2.2.1 c.2 = true := by
  intro c hc
  have hc : c ∈ [(0, rt_i92_0)] := hc
  simp only [List.mem_cons, List.not_mem_nil, or_false] at hc
  rcases hc with rfl
  · exact rt_d92_0
set_option maxRecDepth 100000 in
theorem rt_d93_0 : rt_dk prog_15_method_3_code rt_i93_0 = true := by decide +kernel
set_option maxRecDepth 100000 in
theorem rt_d93_1 : rt_dk prog_15_method_3_code rt_i93_1 = true := by decide +kernel
theorem rt_D93 : ∀ c ∈ rt_m93.2.2.2.2.2.2.1, rt_dk rt_m93.2.2.2.1 c.2 = true := by
  intro c hc
  have hc : c ∈ [(0, rt_i93_0), (1, rt_i93_1)] := hc
  simp only [List.mem_cons, List.not_mem_nil, or_false] at hc
  rcases hc with rfl | rfl
  · exact rt_d93_0
  · exact rt_d93_1
set_option maxRecDepth 100000 in
theorem rt_d94_0 : rt_dk prog_15_method_4_code rt_i94_0 = true := by decide +kernel
set_option maxRecDepth 100000 in
theorem rt_d94_1 : rt_dk prog_15_method_4_code rt_i94_1 = true := by decide +kernel
theorem rt_D94 : ∀ c ∈ rt_m94.2.2.2.2.2.2.1, rt_dk rt_m94.2.2.2.1 c.2 = true := by
  intro c hc
  have hc : c ∈ [(0, rt_i94_0), (1, rt_i94_1)] := hc
  simp only [List.mem_cons, List.not_mem_nil, or_false] at hc
  rcases hc with rfl | rfl
  · exact rt_d94_0
  · exact rt_d94_1
set_option maxRecDepth 100000 in
theorem rt_d95_0 : rt_dk prog_15_method_5_code rt_i95_0 = true := by decide +kernel
theorem rt_D95 : ∀ c ∈ rt_m95.2.2.2.2.2.2.1, rt_dk rt_m95.2.2.2.1 c.2 = true := by
  intro c hc
  have hc : c ∈ [(0, rt_i95_0)] := hc
  simp only [List.mem_cons, List.not_mem_nil, or_false] at hc
  rcases hc with rfl
  · exact rt_d95_0
set_option maxRecDepth 100000 in
theorem rt_d96_0 : rt_dk prog_15_method_6_code rt_i96_0 = true := by decide +kernel
theorem rt_D96 : ∀ c ∈ rt_m96.2.2.2.2.2.2.1, rt_dk rt_m96.2.2.2.1 c.2 = true := by
  intro c hc
  have hc : c ∈ [(0, rt_i96_0)] := hc
  simp only [List.mem_cons, List.not_mem_nil, or_false] at hc
  rcases hc with rfl
  · exact rt_d96_0
set_option maxRecDepth 100000 in
theorem rt_d97_0 : rt_dk prog_15_method_20_code rt_i97_0 = true := by decide +kernel
theorem rt_D97 : ∀ c ∈ rt_m97.2.2.2.2.2.2.1, rt_dk rt_m97.2.2.2.1 c.2 = true := by
  intro c hc
  have hc : c ∈ [(0, rt_i97_0)] := hc
  simp only [List.mem_cons, List.not_mem_nil, or_false] at hc
  rcases hc with rfl
  · exact rt_d97_0
set_option maxRecDepth 100000 in
theorem rt_d98_0 : rt_dk prog_15_method_21_code rt_i98_0 = true := by decide +kernel
set_option maxRecDepth 100000 in
theorem rt_d98_1 : rt_dk prog_15_method_21_code rt_i98_1 = true := by decide +kernel
theorem rt_D98 : ∀ c ∈ rt_m98.2.2.2.2.2.2.1, rt_dk rt_m98.2.2.2.1 c.2 = true := by
  intro c hc
  have hc : c ∈ [(0, rt_i98_0), (1, rt_i98_1)] := hc
  simp only [List.mem_cons, List.not_mem_nil, or_false] at hc
  rcases hc with rfl | rfl
  · exact rt_d98_0
  · exact rt_d98_1
set_option maxRecDepth 100000 in
theorem rt_d99_0 : rt_dk prog_15_method_24_code rt_i99_0 = true := by decide +kernel
set_option maxRecDepth 100000 in
theorem rt_d99_1 : rt_dk prog_15_method_24_code rt_i99_1 = true := by decide +kernel
set_option maxRecDepth 100000 in
theorem rt_d99_2 : rt_dk prog_15_method_24_code rt_i99_2 = true := by decide +kernel
set_option maxRecDepth 100000 in
theorem rt_d99_3 : rt_dk prog_15_method_24_code rt_i99_3 = true := by decide +kernel
set_option maxRecDepth 100000 in
theorem rt_d99_4 : rt_dk prog_15_method_24_code rt_i99_4 = true := by decide +kernel
set_option maxRecDepth 100000 in
theorem rt_d99_5 : rt_dk prog_15_method_24_code rt_i99_5 = true := by decide +kernel
set_option maxRecDepth 100000 in
theorem rt_d99_6 : rt_dk prog_15_method_24_code rt_i99_6 = true := by decide +kernel
set_option maxRecDepth 100000 in
theorem rt_d99_7 : rt_dk prog_15_method_24_code rt_i99_7 = true := by decide +kernel
set_option maxRecDepth 100000 in
theorem rt_d99_8 : rt_dk prog_15_method_24_code rt_i99_8 = true := by decide +kernel
set_option maxRecDepth 100000 in
theorem rt_d99_9 : rt_dk prog_15_method_24_code rt_i99_9 = true := by decide +kernel
set_option maxRecDepth 100000 in
theorem rt_d99_10 : rt_dk prog_15_method_24_code rt_i99_10 = true := by decide +kernel
set_option maxRecDepth 100000 in
theorem rt_d99_11 : rt_dk prog_15_method_24_code rt_i99_11 = true := by decide +kernel
set_option maxRecDepth 100000 in
theorem rt_d99_12 : rt_dk prog_15_method_24_code rt_i99_12 = true := by decide +kernel
set_option maxRecDepth 100000 in
theorem rt_d99_13 : rt_dk prog_15_method_24_code rt_i99_13 = true := by decide +kernel
theorem rt_D99 : ∀ c ∈ rt_m99.2.2.2.2.2.2.1, rt_dk rt_m99.2.2.2.1 c.2 = true := by
  intro c hc
  have hc : c ∈ [(0, rt_i99_0), (1, rt_i99_1), (2, rt_i99_2), (3, rt_i99_3), (4, rt_i99_4), (5, rt_i99_5), (6, rt_i99_6), (7, rt_i99_7), (8, rt_i99_8), (9, rt_i99_9), (10, rt_i99_10), (11, rt_i99_11), (12, rt_i99_12), (13, rt_i99_13)] := hc
  simp only [List.mem_cons, List.not_mem_nil, or_false] at hc
  rcases hc with rfl | rfl | rfl | rfl | rfl | rfl | rfl | rfl | rfl | rfl | rfl | rfl | rfl | rfl
  · exact rt_d99_0
  · exact rt_d99_1
  · exact rt_d99_2
  · exact rt_d99_3
  · exact rt_d99_4
  · exact rt_d99_5
  · exact rt_d99_6
  · exact rt_d99_7
  · exact rt_d99_8
  · exact rt_d99_9
  · exact rt_d99_10
  · exact rt_d99_11
  · exact rt_d99_12
  · exact rt_d99_13
set_option maxRecDepth 100000 in
theorem rt_d100_0 : rt_dk prog_15_method_32_code rt_i100_0 = true := by decide +kernel
set_option maxRecDepth 100000 in
theorem rt_d100_1 : rt_dk prog_15_method_32_code rt_i100_1 = true := by decide +kernel
theorem rt_D100 : ∀ c ∈ rt_m100.2.2.2.2.2.2.1, rt_dk rt_m100.2.2.2.1 c.2 = true := by
  intro c hc
  have hc : c ∈ [(0, rt_i100_0), (1, rt_i100_1)] := hc
  simp only [List.mem_cons, List.not_mem_nil, or_false] at hc
  rcases hc with rfl | rfl
  · exact rt_d100_0
  · exact rt_d100_1
set_option maxRecDepth 100000 in
theorem rt_d101_0 : rt_dk prog_15_method_33_code rt_i101_0 = true := by decide +kernel
set_option maxRecDepth 100000 in
theorem rt_d101_1 : rt_dk prog_15_method_33_code rt_i101_1 = true := by decide +kernel
theorem rt_D101 : ∀ c ∈ rt_m101.2.2.2.2.2.2.1, rt_dk rt_m101.2.2.2.1 c.2 = true := by
  intro c hc
  have hc : c ∈ [(0, rt_i101_0), (1, rt_i101_1)] := hc
  simp only [List.mem_cons, List.not_mem_nil, or_false] at hc
  rcases hc with rfl | rfl
  · exact rt_d101_0
  · exact rt_d101_1
set_option maxRecDepth 100000 in
theorem rt_d102_0 : rt_dk prog_15_method_34_code rt_i102_0 = true := by decide +kernel
theorem rt_D102 : ∀ c ∈ rt_m102.2.2.2.2.2.2.1, rt_dk rt_m102.2.2.2.1 c.2 = true := by
  intro c hc
  have hc : c ∈ [(0, rt_i102_0)] := hc
  simp only [List.mem_cons, List.not_mem_nil, or_false] at hc
  rcases hc with rfl
  · exact rt_d102_0
set_option maxRecDepth 100000 in
theorem rt_d103_0 : rt_dk prog_15_method_36_code rt_i103_0 = true := by decide +kernel
theorem rt_D103 : ∀ c ∈ rt_m103.2.2.2.2.2.2.1, rt_dk rt_m103.2.2.2.1 c.2 = true := by
  intro c hc
  have hc : c ∈ [(0, rt_i103_0)] := hc
  simp only [List.mem_cons, List.not_mem_nil, or_false] at hc
  rcases hc with rfl
  · exact rt_d103_0
set_option maxRecDepth 100000 in
theorem rt_d104_0 : rt_dk prog_15_method_40_code rt_i104_0 = true := by decide +kernel
set_option maxRecDepth 100000 in
theorem rt_d104_1 : rt_dk prog_15_method_40_code rt_i104_1 = true := by decide +kernel
set_option maxRecDepth 100000 in
theorem rt_d104_2 : rt_dk prog_15_method_40_code rt_i104_2 = true := by decide +kernel
set_option maxRecDepth 100000 in
theorem rt_d104_3 : rt_dk prog_15_method_40_code rt_i104_3 = true := by decide +kernel
set_option maxRecDepth 100000 in
theorem rt_d104_4 : rt_dk prog_15_method_40_code rt_i104_4 = true := by decide +kernel
set_option maxRecDepth 100000 in
theorem rt_d104_5 : rt_dk prog_15_method_40_code rt_i104_5 = true := by decide +kernel
theorem rt_D104 : ∀ c ∈ rt_m104.2.2.2.2.2.2.1, rt_dk rt_m104.2.2.2.1 c.2 = true := by
  intro c hc
  have hc : c ∈ [(0, rt_i104_0), (1, rt_i104_1), (2, rt_i104_2), (3, rt_i104_3), (4, rt_i104_4), (5, rt_i104_5)] := hc
  simp only [List.mem_cons, List.not_mem_nil, or_false] at hc
  rcases hc with rfl | rfl | rfl | rfl | rfl | rfl
  · exact rt_d104_0
  · exact rt_d104_1
  · exact rt_d104_2
  · exact rt_d104_3
  · exact rt_d104_4
  · exact rt_d104_5
set_option maxRecDepth 100000 in
theorem rt_d105_0 : rt_dk prog_15_method_74_code rt_i105_0 = true := by decide +kernel
set_option maxRecDepth 100000 in
theorem rt_d105_1 : rt_dk prog_15_method_74_code rt_i105_1 = true := by decide +kernel
theorem rt_D105 : ∀ c ∈ rt_m105.2.2.2.2.2.2.1, rt_dk rt_m105.2.2.2.1 c.2 = true := by
  intro c hc
  have hc : c ∈ [(0, rt_i105_0), (1, rt_i105_1)] := hc
  simp only [List.mem_cons, List.not_mem_nil, or_false] at hc
  rcases hc with rfl | rfl
  · exact rt_d105_0
  · exact rt_d105_1
set_option maxRecDepth 100000 in
theorem rt_d106_0 : rt_dk prog_15_method_80_code rt_i106_0 = true := by decide +kernel
set_option maxRecDepth 100000 in
theorem rt_d106_1 : rt_dk prog_15_method_80_code rt_i106_1 = true := by decide +kernel
set_option maxRecDepth 100000 in
theorem rt_d106_2 : rt_dk prog_15_method_80_code rt_i106_2 = true := by decide +kernel
set_option maxRecDepth 100000 in
theorem rt_d106_3 : rt_dk prog_15_method_80_code rt_i106_3 = true := by decide +kernel
set_option maxRecDepth 100000 in
theorem rt_d106_4 : rt_dk prog_15_method_80_code rt_i106_4 = true := by decide +kernel
set_option maxRecDepth 100000 in
theorem rt_d106_5 : rt_dk prog_15_method_80_code rt_i106_5 = true := by decide +kernel
theorem rt_D106 : ∀ c ∈ rt_m106.2.2.2.2.2.2.1, rt_dk rt_m106.2.2.2.1 c.2 = true := by
  intro c hc
  have hc : c ∈ [(0, rt_i106_0), (1, rt_i106_1), (2, rt_i106_2), (3, rt_i106_3), (4, rt_i106_4), (5, rt_i106_5)] := hc
  simp only [List.mem_cons, List.not_mem_nil, or_false] at hc
  rcases hc with rfl | rfl | rfl | rfl | rfl | rfl
  · exact rt_d106_0
  · exact rt_d106_1
  · exact rt_d106_2
  · exact rt_d106_3
  · exact rt_d106_4
  · exact rt_d106_5
set_option maxRecDepth 100000 in
theorem rt_d107_0 : rt_dk prog_15_method_81_code rt_i107_0 = true := by decide +kernel
theorem rt_D107 : ∀ c ∈ rt_m107.2.2.2.2.2.2.1, rt_dk rt_m107.2.2.2.1 c.2 = true := by
  intro c hc
  have hc : c ∈ [(0, rt_i107_0)] := hc
  simp only [List.mem_cons, List.not_mem_nil, or_false] at hc
  rcases hc with rfl
  · exact rt_d107_0
set_option maxRecDepth 100000 in
theorem rt_d108_0 : rt_dk prog_15_method_82_code rt_i108_0 = true := by decide +kernel
theorem rt_D108 : ∀ c ∈ rt_m108.2.2.2.2.2.2.1, rt_dk rt_m108.2.2.2.1 c.2 = true := by
  intro c hc
  have hc : c ∈ [(0, rt_i108_0)] := hc
  simp only [List.mem_cons, List.not_mem_nil, or_false] at hc
  rcases hc with rfl
  · exact rt_d108_0
set_option maxRecDepth 100000 in
theorem rt_d109_0 : rt_dk prog_15_method_83_code rt_i109_0 = true := by decide +kernel
set_option maxRecDepth 100000 in
theorem rt_d109_1 : rt_dk prog_15_method_83_code rt_i109_1 = true := by decide +kernel
set_option maxRecDepth 100000 in
theorem rt_d109_2 : rt_dk prog_15_method_83_code rt_i109_2 = true := by decide +kernel
set_option maxRecDepth 100000 in
theorem rt_d109_3 : rt_dk prog_15_method_83_code rt_i109_3 = true := by decide +kernel
theorem rt_D109 : ∀ c ∈ rt_m109.2.2.2.2.2.2.1, rt_dk rt_m109.2.2.2.1 c.2 = true := by
  intro c hc
  have hc : c ∈ [(0, rt_i109_0), (1, rt_i109_1), (2, rt_i109_2), (3, rt_i109_3)] := hc
  simp only [List.mem_cons, List.not_mem_nil, or_false] at hc
  rcases hc with rfl | rfl | rfl | rfl
  · exact rt_d109_0
  · exact rt_d109_1
  · exact rt_d109_2
  · exact rt_d109_3
set_option maxRecDepth 100000 in
theorem rt_d110_0 : rt_dk prog_15_method_84_code rt_i110_0 = true := by decide +kernel
set_option maxRecDepth 100000 in
theorem rt_d110_1 : rt_dk prog_15_method_84_code rt_i110_1 = true := by decide +kernel
theorem rt_D110 : ∀ c ∈ rt_m110.2.2.2.2.2.2.1, rt_dk rt_m110.2.2.2.1 c.2 = true := by
  intro c hc
  have hc : c ∈ [(0, rt_i110_0), (1, rt_i110_1)] := hc
  simp only [List.mem_cons, List.not_mem_nil, or_false] at hc
  rcases hc with rfl | rfl
  · exact rt_d110_0
  · exact rt_d110_1
set_option maxRecDepth 100000 in
theorem rt_d111_0 : rt_dk prog_15_method_87_code rt_i111_0 = true := by decide +kernel
theorem rt_D111 : ∀ c ∈ rt_m111.2.2.2.2.2.2.1, rt_dk rt_m111.2.2.2.1 c.2 = true := by
  intro c hc
  have hc : c ∈ [(0, rt_i111_0)] := hc
  simp only [List.mem_cons, List.not_mem_nil, or_false] at hc
  rcases hc with rfl
  · exact rt_d111_0
set_option maxRecDepth 100000 in
theorem rt_d112_0 : rt_dk prog_15_method_88_code rt_i112_0 = true := by decide +kernel
theorem rt_D112 : ∀ c ∈ rt_m112.2.2.2.2.2.2.1, rt_dk rt_m112.2.2.2.1 c.2 = true := by
  intro c hc
  have hc : c ∈ [(0, rt_i112_0)] := hc
  simp only [List.mem_cons, List.not_mem_nil, or_false] at hc
  rcases hc with rfl
  · exact rt_d112_0
set_option maxRecDepth 100000 in
theorem rt_d113_0 : rt_dk prog_15_method_90_code rt_i113_0 = true := by decide +kernel
set_option maxRecDepth 100000 in
theorem rt_d113_1 : rt_dk prog_15_method_90_code rt_i113_1 = true := by decide +kernel
theorem rt_D113 : ∀ c ∈ rt_m113.2.2.2.2.2.2.1, rt_dk rt_m113.2.2.2.1 c.2 = true := by
  intro c hc
  have hc : c ∈ [(0, rt_i113_0), (1, rt_i113_1)] := hc
  simp only [List.mem_cons, List.not_mem_nil, or_false] at hc
  rcases hc with rfl | rfl
  · exact rt_d113_0
  · exact rt_d113_1
set_option maxRecDepth 100000 in
theorem rt_d114_0 : rt_dk prog_15_method_100_code rt_i114_0 = true := by decide +kernel
set_option maxRecDepth 100000 in
theorem rt_d114_1 : rt_dk prog_15_method_100_code rt_i114_1 = true := by decide +kernel
theorem rt_D114 : ∀ c ∈ rt_m114.2.2.2.2.2.2.1, rt_dk rt_m114.2.2.2.1 c.2 = true := by
  intro c hc
  have hc : c ∈ [(0, rt_i114_0), (1, rt_i114_1)] := hc
  simp only [List.mem_cons, List.not_mem_nil, or_false] at hc
  rcases hc with rfl | rfl
  · exact rt_d114_0
  · exact rt_d114_1
set_option maxRecDepth 100000 in
theorem rt_d115_0 : rt_dk prog_15_method_101_code rt_i115_0 = true := by decide +kernel
set_option maxRecDepth 100000 in
theorem rt_d115_1 : rt_dk prog_15_method_101_code rt_i115_1 = true := by decide +kernel
set_option maxRecDepth 100000 in
theorem rt_d115_2 : rt_dk prog_15_method_101_code rt_i115_2 = true := by decide +kernel
set_option maxRecDepth 100000 in
theorem rt_d115_3 : rt_dk prog_15_method_101_code rt_i115_3 = true := by decide +kernel
set_option maxRecDepth 100000 in
theorem rt_d115_4 : rt_dk prog_15_method_101_code rt_i115_4 = true := by decide +kernel
set_option maxRecDepth 100000 in
theorem rt_d115_5 : rt_dk prog_15_method_101_code rt_i115_5 = true := by decide +kernel
theorem rt_D115 : ∀ c ∈ rt_m115.2.2.2.2.2.2.1, rt_dk rt_m115.2.2.2.1 c.2 = true := by
  intro c hc
  have hc : c ∈ [(0, rt_i115_0), (1, rt_i115_1), (2, rt_i115_2), (3, rt_i115_3), (4, rt_i115_4), (5, rt_i115_5)] := hc
  simp only [List.mem_cons, List.not_mem_nil, or_false] at hc
  rcases hc with rfl | rfl | rfl | rfl | rfl | rfl
  · exact rt_d115_0
  · exact rt_d115_1
  · exact rt_d115_2
  · exact rt_d115_3
  · exact rt_d115_4
  · exact rt_d115_5
set_option maxRecDepth 100000 in
theorem rt_d116_0 : rt_dk prog_15_method_102_code rt_i116_0 = true := by decide +kernel
set_option maxRecDepth 100000 in
theorem rt_d116_1 : rt_dk prog_15_method_102_code rt_i116_1 = true := by decide +kernel
set_option maxRecDepth 100000 in
theorem rt_d116_2 : rt_dk prog_15_method_102_code rt_i116_2 = true := by decide +kernel
set_option maxRecDepth 100000 in
theorem rt_d116_3 : rt_dk prog_15_method_102_code rt_i116_3 = true := by decide +kernel
set_option maxRecDepth 100000 in
theorem rt_d116_4 : rt_dk prog_15_method_102_code rt_i116_4 = true := by decide +kernel
set_option maxRecDepth 100000 in
theorem rt_d116_5 : rt_dk prog_15_method_102_code rt_i116_5 = true := by decide +kernel
set_option maxRecDepth 100000 in
theorem rt_d116_6 : rt_dk prog_15_method_102_code rt_i116_6 = true := by decide +kernel
theorem rt_D116 : ∀ c ∈ rt_m116.2.2.2.2.2.2.1, rt_dk rt_m116.2.2.2.1 c.2 = true := by
  intro c hc
  have hc : c ∈ [(0, rt_i116_0), (1, rt_i116_1), (2, rt_i116_2), (3, rt_i116_3), (4, rt_i116_4), (5, rt_i116_5), (6, rt_i116_6)] := hc
  simp only [List.mem_cons, List.not_mem_nil, or_false] at hc
  rcases hc with rfl | rfl | rfl | rfl | rfl | rfl | rfl
  · exact rt_d116_0
  · exact rt_d116_1
  · exact rt_d116_2
  · exact rt_d116_3
  · exact rt_d116_4
  · exact rt_d116_5
  · exact rt_d116_6
set_option maxRecDepth 100000 in
theorem rt_d117_0 : rt_dk prog_15_method_103_code rt_i117_0 = true := by decide +kernel
set_option maxRecDepth 100000 in
theorem rt_d117_1 : rt_dk prog_15_method_103_code rt_i117_1 = true := by decide +kernel
set_option maxRecDepth 100000 in
theorem rt_d117_2 : rt_dk prog_15_method_103_code rt_i117_2 = true := by decide +kernel
set_option maxRecDepth 100000 in
theorem rt_d117_3 : rt_dk prog_15_method_103_code rt_i117_3 = true := by decide +kernel
set_option maxRecDepth 100000 in
theorem rt_d117_4 : rt_dk prog_15_method_103_code rt_i117_4 = true := by decide +kernel
theorem rt_D117 : ∀ c ∈ rt_m117.2.2.2.2.2.2.1, rt_dk rt_m117.2.2.2.1 c.2 = true := by
  intro c hc
  have hc : c ∈ [(0, rt_i117_0), (1, rt_i117_1), (2, rt_i117_2), (3, rt_i117_3), (4, rt_i117_4)] := hc
  simp only [List.mem_cons, List.not_mem_nil, or_false] at hc
  rcases hc with rfl | rfl | rfl | rfl | rfl
  · exact rt_d117_0
  · exact rt_d117_1
  · exact rt_d117_2
  · exact rt_d117_3
  · exact rt_d117_4
set_option maxRecDepth 100000 in
theorem rt_d118_0 : rt_dk prog_15_method_104_code rt_i118_0 = true := by decide +kernel
set_option maxRecDepth 100000 in
theorem rt_d118_2 : rt_dk prog_15_method_104_code rt_i118_2 = true := by decide +kernel
set_option maxRecDepth 100000 in
theorem rt_d118_3 : rt_dk prog_15_method_104_code rt_i118_3 = true := by decide +kernel
set_option maxRecDepth 100000 in
theorem rt_d118_4 : rt_dk prog_15_method_104_code rt_i118_4 = true := by decide +kernel
set_option maxRecDepth 100000 in
theorem rt_d118_5 : rt_dk prog_15_method_104_code rt_i118_5 = true := by decide +kernel
set_option maxRecDepth 100000 in
theorem rt_d118_6 : rt_dk prog_15_method_104_code rt_i118_6 = true := by decide +kernel
set_option maxRecDepth 100000 in
theorem rt_d118_7 : rt_dk prog_15_method_104_code rt_i118_7 = true := by decide +kernel
theorem rt_D118 : ∀ c ∈ rt_m118.2.2.2.2.2.2.1, rt_dk rt_m118.2.2.2.1 c.2 = true := by
  intro c hc
  have hc : c ∈ [(0, rt_i118_0), (2, rt_i118_2), (3, rt_i118_3), (4, rt_i118_4), (5, rt_i118_5), (6, rt_i118_6), (7, rt_i118_7)] := hc
  simp only [List.mem_cons, List.not_mem_nil, or_false] at hc
  rcases hc with rfl | rfl | rfl | rfl | rfl | rfl | rfl
  · exact rt_d118_0
  · exact rt_d118_2
  · exact rt_d118_3
  · exact rt_d118_4
  · exact rt_d118_5
  · exact rt_d118_6
  · exact rt_d118_7
set_option maxRecDepth 100000 in
theorem rt_d119_0 : rt_dk prog_15_method_105_code rt_i119_0 = true := by decide +kernel
theorem rt_D119 : ∀ c ∈ rt_m119.2.2.2.2.2.2.1, rt_dk rt_m119.2.2.2.1 c.2 = true := by
  intro c hc
  have hc : c ∈ [(0, rt_i119_0)] := hc
  simp only [List.mem_cons, List.not_mem_nil, or_false] at hc
  rcases hc with rfl
  · exact rt_d119_0
set_option maxRecDepth 100000 in
theorem rt_d120_0 : rt_dk prog_15_method_106_code rt_i120_0 = true := by decide +kernel
set_option maxRecDepth 100000 in
theorem rt_d120_1 : rt_dk prog_15_method_106_code rt_i120_1 = true := by decide +kernel
set_option maxRecDepth 100000 in
theorem rt_d120_2 : rt_dk prog_15_method_106_code rt_i120_2 = true := by decide +kernel
set_option maxRecDepth 100000 in
theorem rt_d120_3 : rt_dk prog_15_method_106_code rt_i120_3 = true := by decide +kernel
theorem rt_D120 : ∀ c ∈ rt_m120.2.2.2.2.2.2.1, rt_dk rt_m120.2.2.2.1 c.2 = true := by
  intro c hc
  have hc : c ∈ [(0, rt_i120_0), (1, rt_i120_1), (2, rt_i120_2), (3, rt_i120_3)] := hc
  simp only [List.mem_cons, List.not_mem_nil, or_false] at hc
  rcases hc with rfl | rfl | rfl | rfl
  · exact rt_d120_0
  · exact rt_d120_1
  · exact rt_d120_2
  · exact rt_d120_3
set_option maxRecDepth 100000 in
theorem rt_d121_0 : rt_dk prog_15_method_111_code rt_i121_0 = true := by decide +kernel
set_option maxRecDepth 100000 in
theorem rt_d121_1 : rt_dk prog_15_method_111_code rt_i121_1 = true := by decide +kernel
set_option maxRecDepth 100000 in
theorem rt_d121_2 : rt_dk prog_15_method_111_code rt_i121_2 = true := by decide +kernel
set_option maxRecDepth 100000 in
theorem rt_d121_3 : rt_dk prog_15_method_111_code rt_i121_3 = true := by decide +kernel
set_option maxRecDepth 100000 in
theorem rt_d121_4 : rt_dk prog_15_method_111_code rt_i121_4 = true := by decide +kernel
set_option maxRecDepth 100000 in
theorem rt_d121_5 : rt_dk prog_15_method_111_code rt_i121_5 = true := by decide +kernel
set_option maxRecDepth 100000 in
theorem rt_d121_6 : rt_dk prog_15_method_111_code rt_i121_6 = true := by decide +kernel
set_option maxRecDepth 100000 in
theorem rt_d121_7 : rt_dk prog_15_method_111_code rt_i121_7 = true := by decide +kernel
set_option maxRecDepth 100000 in
theorem rt_d121_8 : rt_dk prog_15_method_111_code rt_i121_8 = true := by decide +kernel
theorem rt_D121 : ∀ c ∈ rt_m121.2.2.2.2.2.2.1, rt_dk rt_m121.2.2.2.1 c.2 = true := by
  intro c hc
  have hc : c ∈ [(0, rt_i121_0), (1, rt_i121_1), (2, rt_i121_2), (3, rt_i121_3), (4, rt_i121_4), (5, rt_i121_5), (6, rt_i121_6), (7, rt_i121_7), (8, rt_i121_8)] := hc
  simp only [List.mem_cons, List.not_mem_nil, or_false] at hc
  rcases hc with rfl | rfl | rfl | rfl | rfl | rfl | rfl | rfl | rfl
  · exact rt_d121_0
  · exact rt_d121_1
  · exact rt_d121_2
  · exact rt_d121_3
  · exact rt_d121_4
  · exact rt_d121_5
  · exact rt_d121_6
  · exact rt_d121_7
  · exact rt_d121_8
set_option maxRecDepth 100000 in
theorem rt_d122_0 : rt_dk prog_15_method_114_code rt_i122_0 = true := by decide +kernel
set_option maxRecDepth 100000 in
theorem rt_d122_1 : rt_dk prog_15_method_114_code rt_i122_1 = true := by decide +kernel
set_option maxRecDepth 100000 in
theorem rt_d122_2 : rt_dk prog_15_method_114_code rt_i122_2 = true := by decide +kernel
set_option maxRecDepth 100000 in
theorem rt_d122_3 : rt_dk prog_15_method_114_code rt_i122_3 = true := by decide +kernel
set_option maxRecDepth 100000 in
theorem rt_d122_4 : rt_dk prog_15_method_114_code rt_i122_4 = true := by decide +kernel
set_option maxRecDepth 100000 in
theorem rt_d122_5 : rt_dk prog_15_method_114_code rt_i122_5 = true := by decide +kernel
set_option maxRecDepth 100000 in
theorem rt_d122_6 : rt_dk prog_15_method_114_code rt_i122_6 = true := by decide +kernel
theorem rt_D122 : ∀ c ∈ rt_m122.2.2.2.2.2.2.1, rt_dk rt_m122.2.2.2.1 c.2 = true := by
  intro c hc
  have hc : c ∈ [(0, rt_i122_0), (1, rt_i122_1), (2, rt_i122_2), (3, rt_i122_3), (4, rt_i122_4), (5, rt_i122_5), (6, rt_i122_6)] := hc
  simp only [List.mem_cons, List.not_mem_nil, or_false] at hc
  rcases hc with rfl | rfl | rfl | rfl | rfl | rfl | rfl
  · exact rt_d122_0
  · exact rt_d122_1
  · exact rt_d122_2
  · exact rt_d122_3
  · exact rt_d122_4
  · exact rt_d122_5
  · exact rt_d122_6
set_option maxRecDepth 100000 in
theorem rt_d123_0 : rt_dk prog_15_method_125_code rt_i123_0 = true := by decide +kernel
set_option maxRecDepth 100000 in
theorem rt_d123_1 : rt_dk prog_15_method_125_code rt_i123_1 = true := by decide +kernel
set_option maxRecDepth 100000 in
theorem rt_d123_2 : rt_dk prog_15_method_125_code rt_i123_2 = true := by decide +kernel
set_option maxRecDepth 100000 in
theorem rt_d123_3 : rt_dk prog_15_method_125_code rt_i123_3 = true := by decide +kernel
set_option maxRecDepth 100000 in
theorem rt_d123_4 : rt_dk prog_15_method_125_code rt_i123_4 = true := by decide +kernel
set_option maxRecDepth 100000 in
theorem rt_d123_5 : rt_dk prog_15_method_125_code rt_i123_5 = true := by decide +kernel
theorem rt_D123 : ∀ c ∈ rt_m123.2.2.2.2.2.2.1, rt_dk rt_m123.2.2.2.1 c.2 = true := by
  intro c hc
  have hc : c ∈ [(0, rt_i123_0), (1, rt_i123_1), (2, rt_i123_2), (3, rt_i123_3), (4, rt_i123_4), (5, rt_i123_5)] := hc
  simp only [List.mem_cons, List.not_mem_nil, or_false] at hc
  rcases hc with rfl | rfl | rfl | rfl | rfl | rfl
  · exact rt_d123_0
  · exact rt_d123_1
  · exact rt_d123_2
  · exact rt_d123_3
  · exact rt_d123_4
  · exact rt_d123_5
set_option maxRecDepth 100000 in
theorem rt_d124_0 : rt_dk prog_15_method_126_code rt_i124_0 = true := by decide +kernel
set_option maxRecDepth 100000 in
theorem rt_d124_1 : rt_dk prog_15_method_126_code rt_i124_1 = true := by decide +kernel
set_option maxRecDepth 100000 in
theorem rt_d124_2 : rt_dk prog_15_method_126_code rt_i124_2 = true := by decide +kernel
set_option maxRecDepth 100000 in
theorem rt_d124_3 : rt_dk prog_15_method_126_code rt_i124_3 = true := by decide +kernel
set_option maxRecDepth 100000 in
theorem rt_d124_4 : rt_dk prog_15_method_126_code rt_i124_4 = true := by decide +kernel
set_option maxRecDepth 100000 in
theorem rt_d124_5 : rt_dk prog_15_method_126_code rt_i124_5 = true := by decide +kernel
set_option maxRecDepth 100000 in
theorem rt_d124_6 : rt_dk prog_15_method_126_code rt_i124_6 = true := by decide +kernel
set_option maxRecDepth 100000 in
theorem rt_d124_7 : rt_dk prog_15_method_126_code rt_i124_7 = true := by decide +kernel
set_option maxRecDepth 100000 in
theorem rt_d124_8 : rt_dk prog_15_method_126_code rt_i124_8 = true := by decide +kernel
theorem rt_D124 : ∀ c ∈ rt_m124.2.2.2.2.2.2.1, rt_dk rt_m124.2.2.2.1 c.2 = true := by
  intro c hc
  have hc : c ∈ [(0, rt_i124_0), (1, rt_i124_1), (2, rt_i124_2), (3, rt_i124_3), (4, rt_i124_4), (5, rt_i124_5), (6, rt_i124_6), (7, rt_i124_7), (8, rt_i124_8)] := hc
  simp only [List.mem_cons, List.not_mem_nil, or_false] at hc
  rcases hc with rfl | rfl | rfl | rfl | rfl | rfl | rfl | rfl | rfl
  · exact rt_d124_0
  · exact rt_d124_1
  · exact rt_d124_2
  · exact rt_d124_3
  · exact rt_d124_4
  · exact rt_d124_5
  · exact rt_d124_6
  · exact rt_d124_7
  · exact rt_d124_8
set_option maxRecDepth 100000 in
theorem rt_d125_0 : rt_dk prog_15_method_128_code rt_i125_0 = true := by decide +kernel
theorem rt_D125 : ∀ c ∈ rt_m125.2.2.2.2.2.2.1, rt_dk rt_m125.2.2.2.1 c.2 = true := by
  intro c hc
  have hc : c ∈ [(0, rt_i125_0)] := hc
  simp only [List.mem_cons, List.not_mem_nil, or_false] at hc
  rcases hc with rfl
  · exact rt_d125_0
set_option maxRecDepth 100000 in
theorem rt_d126_0 : rt_dk prog_15_method_140_code rt_i126_0 = true := by decide +kernel
set_option maxRecDepth 100000 in
theorem rt_d126_1 : rt_dk prog_15_method_140_code rt_i126_1 = true := by decide +kernel
theorem rt_D126 : ∀ c ∈ rt_m126.2.2.2.2.2.2.1, rt_dk rt_m126.2.2.2.1 c.2 = true := by
  intro c hc
  have hc : c ∈ [(0, rt_i126_0), (1, rt_i126_1)] := hc
  simp only [List.mem_cons, List.not_mem_nil, or_false] at hc
  rcases hc with rfl | rfl
  · exact rt_d126_0
  · exact rt_d126_1
set_option maxRecDepth 100000 in
theorem rt_d127_0 : rt_dk prog_15_method_141_code rt_i127_0 = true := by decide +kernel
set_option maxRecDepth 100000 in
theorem rt_d127_1 : rt_dk prog_15_method_141_code rt_i127_1 = true := by decide +kernel
set_option maxRecDepth 100000 in
theorem rt_d127_2 : rt_dk prog_15_method_141_code rt_i127_2 = true := by decide +kernel
set_option maxRecDepth 100000 in
theorem rt_d127_3 : rt_dk prog_15_method_141_code rt_i127_3 = true := by decide +kernel
theorem rt_D127 : ∀ c ∈ rt_m127.2.2.2.2.2.2.1, rt_dk rt_m127.2.2.2.1 c.2 = true := by
  intro c hc
  have hc : c ∈ [(0, rt_i127_0), (1, rt_i127_1), (2, rt_i127_2), (3, rt_i127_3)] := hc
  simp only [List.mem_cons, List.not_mem_nil, or_false] at hc
  rcases hc with rfl | rfl | rfl | rfl
  · exact rt_d127_0
  · exact rt_d127_1
  · exact rt_d127_2
  · exact rt_d127_3
set_option maxRecDepth 100000 in
theorem rt_d128_0 : rt_dk prog_15_method_142_code rt_i128_0 = true := by decide +kernel
set_option maxRecDepth 100000 in
theorem rt_d128_1 : rt_dk prog_15_method_142_code rt_i128_1 = true := by decide +kernel
set_option maxRecDepth 100000 in
theorem rt_d128_2 : rt_dk prog_15_method_142_code rt_i128_2 = true := by decide +kernel
set_option maxRecDepth 100000 in
theorem rt_d128_3 : rt_dk prog_15_method_142_code rt_i128_3 = true := by decide +kernel
theorem rt_D128 : ∀ c ∈ rt_m128.2.2.2.2.2.2.1, rt_dk rt_m128.2.2.2.1 c.2 = true := by
  intro c hc
  have hc : c ∈ [(0, rt_i128_0), (1, rt_i128_1), (2, rt_i128_2), (3, rt_i128_3)] := hc
  simp only [List.mem_cons, List.not_mem_nil, or_false] at hc
  rcases hc with rfl | rfl | rfl | rfl
  · exact rt_d128_0
  · exact rt_d128_1
  · exact rt_d128_2
  · exact rt_d128_3
set_option maxRecDepth 100000 in
theorem rt_d129_0 : rt_dk prog_15_method_144_code rt_i129_0 = true := by decide +kernel
set_option maxRecDepth 100000 in
theorem rt_d129_1 : rt_dk prog_15_method_144_code rt_i129_1 = true := by decide +kernel
set_option maxRecDepth 100000 in
theorem rt_d129_2 : rt_dk prog_15_method_144_code rt_i129_2 = true := by decide +kernel
set_option maxRecDepth 100000 in
theorem rt_d129_3 : rt_dk prog_15_method_144_code rt_i129_3 = true := by decide +kernel
set_option maxRecDepth 100000 in
theorem rt_d129_4 : rt_dk prog_15_method_144_code rt_i129_4 = true := by decide +kernel
set_option maxRecDepth 100000 in
theorem rt_d129_5 : rt_dk prog_15_method_144_code rt_i129_5 = true := by decide +kernel
set_option maxRecDepth 100000 in
theorem rt_d129_6 : rt_dk prog_15_method_144_code rt_i129_6 = true := by decide +kernel
set_option maxRecDepth 100000 in
theorem rt_d129_7 : rt_dk prog_15_method_144_code rt_i129_7 = true := by decide +kernel
set_option maxRecDepth 100000 in
theorem rt_d129_8 : rt_dk prog_15_method_144_code rt_i129_8 = true := by decide +kernel
set_option maxRecDepth 100000 in
theorem rt_d129_9 : rt_dk prog_15_method_144_code rt_i129_9 = true := by decide +kernel
set_option maxRecDepth 100000 in
theorem rt_d129_10 : rt_dk prog_15_method_144_code rt_i129_10 = true := by decide +kernel
set_option maxRecDepth 100000 in
theorem rt_d129_11 : rt_dk prog_15_method_144_code rt_i129_11 = true := by decide +kernel
theorem rt_D129 : ∀ c ∈ rt_m129.2.2.2.2.2.2.1, rt_dk rt_m129.2.2.2.1 c.2 = true := by
  intro c hc
  have hc : c ∈ [(0, rt_i129_0), (1, rt_i129_1), (2, rt_i129_2), (3, rt_i129_3), (4, rt_i129_4), (5, rt_i129_5), (6, rt_i129_6), (7, rt_i129_7), (8, rt_i129_8), (9, rt_i129_9), (10, rt_i129_10), (11, rt_i129_11)] := hc
  simp only [List.mem_cons, List.not_mem_nil, or_false] at hc
  rcases hc with rfl | rfl | rfl | rfl | rfl | rfl | rfl | rfl | rfl | rfl | rfl | rfl
  · exact rt_d129_0
  · exact rt_d129_1
  · exact rt_d129_2
  · exact rt_d129_3
  · exact rt_d129_4
  · exact rt_d129_5
  · exact rt_d129_6
  · exact rt_d129_7
  · exact rt_d129_8
  · exact rt_d129_9
  · exact rt_d129_10
  · exact rt_d129_11
set_option maxRecDepth 100000 in
theorem rt_d130_0 : rt_dk prog_15_method_146_code rt_i130_0 = true := by decide +kernel
set_option maxRecDepth 100000 in
theorem rt_d130_1 : rt_dk prog_15_method_146_code rt_i130_1 = true := by decide +kernel
theorem rt_D130 : ∀ c ∈ rt_m130.2.2.2.2.2.2.1, rt_dk rt_m130.2.2.2.1 c.2 = true := by
  intro c hc
  have hc : c ∈ [(0, rt_i130_0), (1, rt_i130_1)] := hc
  simp only [List.mem_cons, List.not_mem_nil, or_false] at hc
  rcases hc with rfl | rfl
  · exact rt_d130_0
  · exact rt_d130_1
set_option maxRecDepth 100000 in
theorem rt_d131_0 : rt_dk prog_15_method_147_code rt_i131_0 = true := by decide +kernel
set_option maxRecDepth 100000 in
theorem rt_d131_1 : rt_dk prog_15_method_147_code rt_i131_1 = true := by decide +kernel
set_option maxRecDepth 100000 in
theorem rt_d131_2 : rt_dk prog_15_method_147_code rt_i131_2 = true := by decide +kernel
set_option maxRecDepth 100000 in
theorem rt_d131_3 : rt_dk prog_15_method_147_code rt_i131_3 = true := by decide +kernel
set_option maxRecDepth 100000 in
theorem rt_d131_4 : rt_dk prog_15_method_147_code rt_i131_4 = true := by decide +kernel
set_option maxRecDepth 100000 in
theorem rt_d131_5 : rt_dk prog_15_method_147_code rt_i131_5 = true := by decide +kernel
set_option maxRecDepth 100000 in
theorem rt_d131_6 : rt_dk prog_15_method_147_code rt_i131_6 = true := by decide +kernel
set_option maxRecDepth 100000 in
theorem rt_d131_7 : rt_dk prog_15_method_147_code rt_i131_7 = true := by decide +kernel
set_option maxRecDepth 100000 in
theorem rt_d131_8 : rt_dk prog_15_method_147_code rt_i131_8 = true := by decide +kernel
set_option maxRecDepth 100000 in
theorem rt_d131_9 : rt_dk prog_15_method_147_code rt_i131_9 = true := by decide +kernel
theorem rt_D131 : ∀ c ∈ rt_m131.2.2.2.2.2.2.1, rt_dk rt_m131.2.2.2.1 c.2 = true := by
  intro c hc
  have hc : c ∈ [(0, rt_i131_0), (1, rt_i131_1), (2, rt_i131_2), (3, rt_i131_3), (4, rt_i131_4), (5, rt_i131_5), (6, rt_i131_6), (7, rt_i131_7), (8, rt_i131_8), (9, rt_i131_9)] := hc
  simp only [List.mem_cons, List.not_mem_nil, or_false] at hc
  rcases hc with rfl | rfl | rfl | rfl | rfl | rfl | rfl | rfl | rfl | rfl
  · exact rt_d131_0
  · exact rt_d131_1
  · exact rt_d131_2
  · exact rt_d131_3
  · exact rt_d131_4
  · exact rt_d131_5
  · exact rt_d131_6
  · exact rt_d131_7
  · exact rt_d131_8
  · exact rt_d131_9
set_option maxRecDepth 100000 in
theorem rt_d132_0 : rt_dk prog_15_method_148_code rt_i132_0 = true := by decide +kernel
set_option maxRecDepth 100000 in
theorem rt_d132_1 : rt_dk prog_15_method_148_code rt_i132_1 = true := by decide +kernel
theorem rt_D132 : ∀ c ∈ rt_m132.2.2.2.2.2.2.1, rt_dk rt_m132.2.2.2.1 c.2 = true := by
  intro c hc
  have hc : c ∈ [(0, rt_i132_0), (1, rt_i132_1)] := hc
  simp only [List.mem_cons, List.not_mem_nil, or_false] at hc
  rcases hc with rfl | rfl
  · exact rt_d132_0
  · exact rt_d132_1
set_option maxRecDepth 100000 in
theorem rt_d133_0 : rt_dk prog_15_method_149_code rt_i133_0 = true := by decide +kernel
theorem rt_D133 : ∀ c ∈ rt_m133.2.2.2.2.2.2.1, rt_dk rt_m133.2.2.2.1 c.2 = true := by
  intro c hc
  have hc : c ∈ [(0, rt_i133_0)] := hc
  simp only [List.mem_cons, List.not_mem_nil, or_false] at hc
  rcases hc with rfl
  · exact rt_d133_0
set_option maxRecDepth 100000 in
theorem rt_d134_0 : rt_dk prog_15_method_151_code rt_i134_0 = true := by decide +kernel
set_option maxRecDepth 100000 in
theorem rt_d134_1 : rt_dk prog_15_method_151_code rt_i134_1 = true := by decide +kernel
set_option maxRecDepth 100000 in
theorem rt_d134_2 : rt_dk prog_15_method_151_code rt_i134_2 = true := by decide +kernel
set_option maxRecDepth 100000 in
theorem rt_d134_3 : rt_dk prog_15_method_151_code rt_i134_3 = true := by decide +kernel
set_option maxRecDepth 100000 in
theorem rt_d134_4 : rt_dk prog_15_method_151_code rt_i134_4 = true := by decide +kernel
theorem rt_D134 : ∀ c ∈ rt_m134.2.2.2.2.2.2.1, rt_dk rt_m134.2.2.2.1 c.2 = true := by
  intro c hc
  have hc : c ∈ [(0, rt_i134_0), (1, rt_i134_1), (2, rt_i134_2), (3, rt_i134_3), (4, rt_i134_4)] := hc
  simp only [List.mem_cons, List.not_mem_nil, or_false] at hc
  rcases hc with rfl | rfl | rfl | rfl | rfl
  · exact rt_d134_0
  · exact rt_d134_1
  · exact rt_d134_2
  · exact rt_d134_3
  · exact rt_d134_4
set_option maxRecDepth 100000 in
theorem rt_d135_0 : rt_dk prog_15_method_154_code rt_i135_0 = true := by decide +kernel
set_option maxRecDepth 100000 in
theorem rt_d135_1 : rt_dk prog_15_method_154_code rt_i135_1 = true := by decide +kernel
set_option maxRecDepth 100000 in
theorem rt_d135_2 : rt_dk prog_15_method_154_code rt_i135_2 = true := by decide +kernel
set_option maxRecDepth 100000 in
theorem rt_d135_3 : rt_dk prog_15_method_154_code rt_i135_3 = true := by decide +kernel
set_option maxRecDepth 100000 in
theorem rt_d135_4 : rt_dk prog_15_method_154_code rt_i135_4 = true := by decide +kernel
set_option maxRecDepth 100000 in
theorem rt_d135_5 : rt_dk prog_15_method_154_code rt_i135_5 = true := by decide +kernel
theorem rt_D135 : ∀ c ∈ rt_m135.2.2.2.2.2.2.1, rt_dk rt_m135.2.2.2.1 c.2 = true := by
  intro c hc
  have hc : c ∈ [(0, rt_i135_0), (1, rt_i135_1), (2, rt_i135_2), (3, rt_i135_3), (4, rt_i135_4), (5, rt_i135_5)] := hc
  simp only [List.mem_cons, List.not_mem_nil, or_false] at hc
  rcases hc with rfl | rfl | rfl | rfl | rfl | rfl
  · exact rt_d135_0
  · exact rt_d135_1
  · exact rt_d135_2
  · exact rt_d135_3
  · exact rt_d135_4
  · exact rt_d135_5
set_option maxRecDepth 100000 in
theorem rt_d136_0 : rt_dk prog_15_method_155_code rt_i136_0 = true := by decide +kernel
theorem rt_D136 : ∀ c ∈ rt_m136.2.2.2.2.2.2.1, rt_dk rt_m136.2.2.2.1 c.2 = true := by
  intro c hc
  have hc : c ∈ [(0, rt_i136_0)] := hc
  simp only [List.mem_cons, List.not_mem_nil, or_false] at hc
  rcases hc with rfl
  · exact rt_d136_0
set_option maxRecDepth 100000 in
theorem rt_d137_0 : rt_dk prog_15_method_156_code rt_i137_0 = true := by decide +kernel
set_option maxRecDepth 100000 in
theorem rt_d137_1 : rt_dk prog_15_method_156_code rt_i137_1 = true := by decide +kernel
theorem rt_D137 : ∀ c ∈ rt_m137.2.2.2.2.2.2.1, rt_dk rt_m137.2.2.2.1 c.2 = true := by
  intro c hc
  have hc : c ∈ [(0, rt_i137_0), (1, rt_i137_1)] := hc
  simp only [List.mem_cons, List.not_mem_nil, or_false] at hc
  rcases hc with rfl | rfl
  · exact rt_d137_0
  · exact rt_d137_1
set_option maxRecDepth 100000 in
theorem rt_d138_0 : rt_dk prog_15_method_158_code rt_i138_0 = true := by decide +kernel
set_option maxRecDepth 100000 in
theorem rt_d138_1 : rt_dk prog_15_method_158_code rt_i138_1 = true := by decide +kernel
theorem rt_D138 : ∀ c ∈ rt_m138.2.2.2.2.2.2.1, rt_dk rt_m138.2.2.2.1 c.2 = true := by
  intro c hc
  have hc : c ∈ [(0, rt_i138_0), (1, rt_i138_1)] := hc
  simp only [List.mem_cons, List.not_mem_nil, or_false] at hc
  rcases hc with rfl | rfl
  · exact rt_d138_0
  · exact rt_d138_1
set_option maxRecDepth 100000 in
theorem rt_d139_0 : rt_dk prog_15_method_160_code rt_i139_0 = true := by decide +kernel
set_option maxRecDepth 100000 in
theorem rt_d139_1 : rt_dk prog_15_method_160_code rt_i139_1 = true := by decide +kernel
set_option maxRecDepth 100000 in
theorem rt_d139_2 : rt_dk prog_15_method_160_code rt_i139_2 = true := by decide +kernel
set_option maxRecDepth 100000 in
theorem rt_d139_3 : rt_dk prog_15_method_160_code rt_i139_3 = true := by decide +kernel
set_option maxRecDepth 100000 in
theorem rt_d139_4 : rt_dk prog_15_method_160_code rt_i139_4 = true := by decide +kernel
set_option maxRecDepth 100000 in
theorem rt_d139_5 : rt_dk prog_15_method_160_code rt_i139_5 = true := by decide +kernel
set_option maxRecDepth 100000 in
theorem rt_d139_6 : rt_dk prog_15_method_160_code rt_i139_6 = true := by decide +kernel
theorem rt_D139 : ∀ c ∈ rt_m139.2.2.2.2.2.2.1, rt_dk rt_m139.2.2.2.1 c.2 = true := by
  intro c hc
  have hc : c ∈ [(0, rt_i139_0), (1, rt_i139_1), (2, rt_i139_2), (3, rt_i139_3), (4, rt_i139_4), (5, rt_i139_5), (6, rt_i139_6)] := hc
  simp only [List.mem_cons, List.not_mem_nil, or_false] at hc
  rcases hc with rfl | rfl | rfl | rfl | rfl | rfl | rfl
  · exact rt_d139_0
  · exact rt_d139_1
  · exact rt_d139_2
  · exact rt_d139_3
  · exact rt_d139_4
  · exact rt_d139_5
  · exact rt_d139_6
set_option maxRecDepth 100000 in
theorem rt_d140_0 : rt_dk prog_15_method_161_code rt_i140_0 = true := by decide +kernel
set_option maxRecDepth 100000 in
theorem rt_d140_1 : rt_dk prog_15_method_161_code rt_i140_1 = true := by decide +kernel
set_option maxRecDepth 100000 in
theorem rt_d140_2 : rt_dk prog_15_method_161_code rt_i140_2 = true := by decide +kernel
set_option maxRecDepth 100000 in
theorem rt_d140_3 : rt_dk prog_15_method_161_code rt_i140_3 = true := by decide +kernel
set_option maxRecDepth 100000 in
theorem rt_d140_4 : rt_dk prog_15_method_161_code rt_i140_4 = true := by decide +kernel
set_option maxRecDepth 100000 in
theorem rt_d140_5 : rt_dk prog_15_method_161_code rt_i140_5 = true := by decide +kernel
theorem rt_D140 : ∀ c ∈ rt_m140.2.2.2.2.2.2.1, rt_dk rt_m140.2.2.2.1 c.2 = true := by
  intro c hc
  have hc : c ∈ [(0, rt_i140_0), (1, rt_i140_1), (2, rt_i140_2), (3, rt_i140_3), (4, rt_i140_4), (5, rt_i140_5)] := hc
  simp only [List.mem_cons, List.not_mem_nil, or_false] at hc
  rcases hc with rfl | rfl | rfl | rfl | rfl | rfl
  · exact rt_d140_0
  · exact rt_d140_1
  · exact rt_d140_2
  · exact rt_d140_3
  · exact rt_d140_4
  · exact rt_d140_5
set_option maxRecDepth 100000 in
theorem rt_d141_0 : rt_dk prog_15_method_168_code rt_i141_0 = true := by decide +kernel
set_option maxRecDepth 100000 in
theorem rt_d141_1 : rt_dk prog_15_method_168_code rt_i141_1 = true := by decide +kernel
set_option maxRecDepth 100000 in
theorem rt_d141_2 : rt_dk prog_15_method_168_code rt_i141_2 = true := by decide +kernel
set_option maxRecDepth 100000 in
theorem rt_d141_4 : rt_dk prog_15_method_168_code rt_i141_4 = true := by decide +kernel
set_option maxRecDepth 100000 in
theorem rt_d141_5 : rt_dk prog_15_method_168_code rt_i141_5 = true := by decide +kernel
set_option maxRecDepth 100000 in
theorem rt_d141_6 : rt_dk prog_15_method_168_code rt_i141_6 = true := by decide +kernel
set_option maxRecDepth 100000 in
theorem rt_d141_7 : rt_dk prog_15_method_168_code rt_i141_7 = true := by decide +kernel
theorem rt_D141 : ∀ c ∈ rt_m141.2.2.2.2.2.2.1, rt_dk rt_m141.2.2.2.1 c.2 = true := by
  intro c hc
  have hc : c ∈ [(0, rt_i141_0), (1, rt_i141_1), (2, rt_i141_2), (4, rt_i141_4), (5, rt_i141_5), (6, rt_i141_6), (7, rt_i141_7)] := hc
  simp only [List.mem_cons, List.not_mem_nil, or_false] at hc
  rcases hc with rfl | rfl | rfl | rfl | rfl | rfl | rfl
  · exact rt_d141_0
  · exact rt_d141_1
  · exact rt_d141_2
  · exact rt_d141_4
  · exact rt_d141_5
  · exact rt_d141_6
  · exact rt_d141_7
set_option maxRecDepth 100000 in
theorem rt_d142_0 : rt_dk prog_15_method_169_code rt_i142_0 = true := by decide +kernel
theorem rt_D142 : ∀ c ∈ rt_m142.2.2.2.2.2.2.1, rt_dk rt_m142.2.2.2.1 c.2 = true := by
  intro c hc
  have hc : c ∈ [(0, rt_i142_0)] := hc
  simp only [List.mem_cons, List.not_mem_nil, or_false] at hc
  rcases hc with rfl
  · exact rt_d142_0
set_option maxRecDepth 100000 in
theorem rt_d143_0 : rt_dk prog_15_method_174_code rt_i143_0 = true := by decide +kernel
set_option maxRecDepth 100000 in
theorem rt_d143_1 : rt_dk prog_15_method_174_code rt_i143_1 = true := by decide +kernel
set_option maxRecDepth 100000 in
theorem rt_d143_2 : rt_dk prog_15_method_174_code rt_i143_2 = true := by decide +kernel
set_option maxRecDepth 100000 in
theorem rt_d143_3 : rt_dk prog_15_method_174_code rt_i143_3 = true := by decide +kernel
set_option maxRecDepth 100000 in
theorem rt_d143_4 : rt_dk prog_15_method_174_code rt_i143_4 = true := by decide +kernel
set_option maxRecDepth 100000 in
theorem rt_d143_5 : rt_dk prog_15_method_174_code rt_i143_5 = true := by decide +kernel
set_option maxRecDepth 100000 in
theorem rt_d143_6 : rt_dk prog_15_method_174_code rt_i143_6 = true := by decide +kernel
theorem rt_D143 : ∀ c ∈ rt_m143.2.2.2.2.2.2.1, rt_dk rt_m143.2.2.2.1 c.2 = true := by
  intro c hc
  have hc : c ∈ [(0, rt_i143_0), (1, rt_i143_1), (2, rt_i143_2), (3, rt_i143_3), (4, rt_i143_4), (5, rt_i143_5), (6, rt_i143_6)] := hc
  simp only [List.mem_cons, List.not_mem_nil, or_false] at hc
  rcases hc with rfl | rfl | rfl | rfl | rfl | rfl | rfl
  · exact rt_d143_0
  · exact rt_d143_1
  · exact rt_d143_2
  · exact rt_d143_3
  · exact rt_d143_4
  · exact rt_d143_5
  · exact rt_d143_6
set_option maxRecDepth 100000 in
theorem rt_d144_0 : rt_dk prog_15_method_178_code rt_i144_0 = true := by decide +kernel
set_option maxRecDepth 100000 in
theorem rt_d144_1 : rt_dk prog_15_method_178_code rt_i144_1 = true := by decide +kernel
set_option maxRecDepth 100000 in
theorem rt_d144_2 : rt_dk prog_15_method_178_code rt_i144_2 = true := by decide +kernel
theorem rt_D144 : ∀ c ∈ rt_m144.2.2.2.2.2.2.1, rt_dk rt_m144.2.2.2.1 c.2 = true := by
  intro c hc
  have hc : c ∈ [(0, rt_i144_0), (1, rt_i144_1), (2, rt_i144_2)] := hc
  simp only [List.mem_cons, List.not_mem_nil, or_false] at hc
  rcases hc with rfl | rfl | rfl
  · exact rt_d144_0
  · exact rt_d144_1
  · exact rt_d144_2
set_option maxRecDepth 100000 in
theorem rt_d145_0 : rt_dk prog_26_method_54_code rt_i145_0 = true := by decide +kernel
theorem rt_D145 : ∀ c ∈ rt_m145.2.2.2.2.2.2.1, rt_dk rt_m145.2.2.2.1 c.2 = true := by
  intro c hc
  have hc : c ∈ [(0, rt_i145_0)] := hc
  simp only [List.mem_cons, List.not_mem_nil, or_false] at hc
  rcases hc with rfl
  · exact rt_d145_0
set_option maxRecDepth 100000 in
theorem rt_d146_0 : rt_dk prog_26_method_56_code rt_i146_0 = true := by decide +kernel
theorem rt_D146 : ∀ c ∈ rt_m146.2.2.2.2.2.2.1, rt_dk rt_m146.2.2.2.1 c.2 = true := by
  intro c hc
  have hc : c ∈ [(0, rt_i146_0)] := hc
  simp only [List.mem_cons, List.not_mem_nil, or_false] at hc
  rcases hc with rfl
  · exact rt_d146_0
set_option maxRecDepth 100000 in
theorem rt_d147_0 : rt_dk prog_26_method_152_code rt_i147_0 = true := by decide +kernel
theorem rt_D147 : ∀ c ∈ rt_m147.2.2.2.2.2.2.1, rt_dk rt_m147.2.2.2.1 c.2 = true := by
  intro c hc
  have hc : c ∈ [(0, rt_i147_0)] := hc
  simp only [List.mem_cons, List.not_mem_nil, or_false] at hc
  rcases hc with rfl
  · exact rt_d147_0
set_option maxRecDepth 100000 in
theorem rt_d148_0 : rt_dk prog_26_method_154_code rt_i148_0 = true := by decide +kernel
theorem rt_D148 : ∀ c ∈ rt_m148.2.2.2.2.2.2.1, rt_dk rt_m148.2.2.2.1 c.2 = true := by
  intro c hc
  have hc : c ∈ [(0, rt_i148_0)] := hc
  simp only [List.mem_cons, List.not_mem_nil, or_false] at hc
  rcases hc with rfl
  · exact rt_d148_0
set_option maxRecDepth 100000 in
theorem rt_d149_0 : rt_dk prog_26_method_155_code rt_i149_0 = true := by decide +kernel
theorem rt_D149 : ∀ c ∈ rt_m149.2.2.2.2.2.2.1, rt_dk rt_m149.2.2.2.1 c.2 = true := by
  intro c hc
  have hc : c ∈ [(0, rt_i149_0)] := hc
  simp only [List.mem_cons, List.not_mem_nil, or_false] at hc
  rcases hc with rfl
  · exact rt_d149_0
set_option maxRecDepth 100000 in
theorem rt_d150_0 : rt_dk prog_28_method_2_code rt_i150_0 = true := by decide +kernel
theorem rt_D150 : ∀ c ∈ rt_m150.2.2.2.2.2.2.1, rt_dk rt_m150.2.2.2.1 c.2 = true := by
  intro c hc
  have hc : c ∈ [(0, rt_i150_0)] := hc
  simp only [List.mem_cons, List.not_mem_nil, or_false] at hc
  rcases hc with rfl
  · exact rt_d150_0
set_option maxRecDepth 100000 in
theorem rt_d151_0 : rt_dk prog_32_method_30_code rt_i151_0 = true := by decide +kernel
set_option maxRecDepth 100000 in
theorem rt_d151_1 : rt_dk prog_32_method_30_code rt_i151_1 = true := by decide +kernel
set_option maxRecDepth 100000 in
theorem rt_d151_2 : rt_dk prog_32_method_30_code rt_i151_2 = true := by decide +kernel
theorem rt_D151 : ∀ c ∈ rt_m151.2.2.2.2.2.2.1, rt_dk rt_m151.2.2.2.1 c.2 = true := by
  intro c hc
  have hc : c ∈ [(0, rt_i151_0), (1, rt_i151_1), (2, rt_i151_2)] := hc
  simp only [List.mem_cons, List.not_mem_nil, or_false] at hc
  rcases hc with rfl | rfl | rfl
  · exact rt_d151_0
  · exact rt_d151_1
  · exact rt_d151_2
set_option maxRecDepth 100000 in
theorem rt_d152_0 : rt_dk prog_32_method_102_code rt_i152_0 = true := by decide +kernel
theorem rt_D152 : ∀ c ∈ rt_m152.2.2.2.2.2.2.1, rt_dk rt_m152.2.2.2.1 c.2 = true := by
  intro c hc
  have hc : c ∈ [(0, rt_i152_0)] := hc
  simp only [List.mem_cons, List.not_mem_nil, or_false] at hc
  rcases hc with rfl
  · exact rt_d152_0
set_option maxRecDepth 100000 in
theorem rt_d153_0 : rt_dk prog_32_method_103_code rt_i153_0 = true := by decide +kernel
theorem rt_D153 : ∀ c ∈ rt_m153.2.2.2.2.2.2.1, rt_dk rt_m153.2.2.2.1 c.2 = true := by
  intro c hc
  have hc : c ∈ [(0, rt_i153_0)] := hc
  simp only [List.mem_cons, List.not_mem_nil, or_false] at hc
  rcases hc with rfl
  · exact rt_d153_0
set_option maxRecDepth 100000 in
theorem rt_d154_0 : rt_dk prog_32_method_104_code rt_i154_0 = true := by decide +kernel
theorem rt_D154 : ∀ c ∈ rt_m154.2.2.2.2.2.2.1, rt_dk rt_m154.2.2.2.1 c.2 = true := by
  intro c hc
  have hc : c ∈ [(0, rt_i154_0)] := hc
  simp only [List.mem_cons, List.not_mem_nil, or_false] at hc
  rcases hc with rfl
  · exact rt_d154_0
set_option maxRecDepth 100000 in
theorem rt_d155_0 : rt_dk prog_35_method_11_code rt_i155_0 = true := by decide +kernel
theorem rt_D155 : ∀ c ∈ rt_m155.2.2.2.2.2.2.1, rt_dk rt_m155.2.2.2.1 c.2 = true := by
  intro c hc
  have hc : c ∈ [(0, rt_i155_0)] := hc
  simp only [List.mem_cons, List.not_mem_nil, or_false] at hc
  rcases hc with rfl
  · exact rt_d155_0
theorem rt_E0 : ∀ M ∈ rt_r0, ∀ c ∈ M.2.2.2.2.2.2.1, rt_dk M.2.2.2.1 c.2 = true := by
  intro M hM
  simp only [rt_r0, List.mem_cons, List.not_mem_nil, or_false] at hM
  rcases hM with rfl
  · exact rt_D0
theorem rt_E1 : ∀ M ∈ rt_r1, ∀ c ∈ M.2.2.2.2.2.2.1, rt_dk M.2.2.2.1 c.2 = true := by
  intro M hM
  simp only [rt_r1, List.mem_cons, List.not_mem_nil, or_false] at hM
  rcases hM with rfl | rfl | rfl | rfl | rfl | rfl | rfl | rfl | rfl | rfl | rfl | rfl | rfl | rfl | rfl | rfl
  · exact rt_D16
  · exact rt_D17
  · exact rt_D18
  · exact rt_D19
  · exact rt_D20
  · exact rt_D21
  · exact rt_D22
  · exact rt_D23
  · exact rt_D24
  · exact rt_D25
  · exact rt_D26
  · exact rt_D27
  · exact rt_D28
  · exact rt_D29
  · exact rt_D30
  · exact rt_D31
theorem rt_E2 : ∀ M ∈ rt_r2, ∀ c ∈ M.2.2.2.2.2.2.1, rt_dk M.2.2.2.1 c.2 = true := by
  intro M hM
  simp only [rt_r2, List.mem_cons, List.not_mem_nil, or_false] at hM
  rcases hM with rfl | rfl | rfl | rfl | rfl | rfl | rfl | rfl | rfl | rfl | rfl | rfl | rfl | rfl | rfl | rfl
  · exact rt_D32
  · exact rt_D33
  · exact rt_D34
  · exact rt_D35
  · exact rt_D36
  · exact rt_D37
  · exact rt_D38
  · exact rt_D39
  · exact rt_D40
  · exact rt_D41
  · exact rt_D42
  · exact rt_D43
  · exact rt_D44
  · exact rt_D45
  · exact rt_D46
  · exact rt_D47
theorem rt_E3 : ∀ M ∈ rt_r3, ∀ c ∈ M.2.2.2.2.2.2.1, rt_dk M.2.2.2.1 c.2 = true := by
  intro M hM
  simp only [rt_r3, List.mem_cons, List.not_mem_nil, or_false] at hM
  rcases hM with rfl | rfl | rfl | rfl | rfl | rfl | rfl | rfl | rfl | rfl | rfl | rfl | rfl | rfl | rfl | rfl
  · exact rt_D48
  · exact rt_D49
  · exact rt_D50
  · exact rt_D51
  · exact rt_D52
  · exact rt_D53
  · exact rt_D54
  · exact rt_D55
  · exact rt_D56
  · exact rt_D57
  · exact rt_D58
  · exact rt_D59
  · exact rt_D60
  · exact rt_D61
  · exact rt_D62
  · exact rt_D63
theorem rt_E4 : ∀ M ∈ rt_r4, ∀ c ∈ M.2.2.2.2.2.2.1, rt_dk M.2.2.2.1 c.2 = true := by
  intro M hM
  simp only [rt_r4, List.mem_cons, List.not_mem_nil, or_false] at hM
  rcases hM with rfl | rfl | rfl | rfl | rfl | rfl | rfl | rfl | rfl | rfl | rfl | rfl | rfl | rfl | rfl | rfl
  · exact rt_D64
  · exact rt_D65
  · exact rt_D66
  · exact rt_D67
  · exact rt_D68
  · exact rt_D69
  · exact rt_D70
  · exact rt_D71
  · exact rt_D72
  · exact rt_D73
  · exact rt_D74
  · exact rt_D75
  · exact rt_D76
  · exact rt_D77
  · exact rt_D78
  · exact rt_D79
theorem rt_E5 : ∀ M ∈ rt_r5, ∀ c ∈ M.2.2.2.2.2.2.1, rt_dk M.2.2.2.1 c.2 = true := by
  intro M hM
  simp only [rt_r5, List.mem_cons, List.not_mem_nil, or_false] at hM
  rcases hM with rfl | rfl | rfl | rfl | rfl | rfl | rfl | rfl | rfl | rfl | rfl | rfl | rfl | rfl | rfl | rfl
  · exact rt_D80
  · exact rt_D81
  · exact rt_D82
  · exact rt_D83
  · exact rt_D84
  · exact rt_D85
  · exact rt_D86
  · exact rt_D87
  · exact rt_D88
  · exact rt_D89
  · exact rt_D90
  · exact rt_D91
  · exact rt_D92
  · exact rt_D93
  · exact rt_D94
  · exact rt_D95
theorem rt_E6 : ∀ M ∈ rt_r6, ∀ c ∈ M.2.2.2.2.2.2.1, rt_dk M.2.2.2.1 c.2 = true := by
  intro M hM
  simp only [rt_r6, List.mem_cons, List.not_mem_nil, or_false] at hM
  rcases hM with rfl | rfl | rfl | rfl | rfl | rfl | rfl | rfl | rfl | rfl | rfl | rfl | rfl | rfl | rfl | rfl
  · exact rt_D96
  · exact rt_D97
  · exact rt_D98
  · exact rt_D99
  · exact rt_D100
  · exact rt_D101
  · exact rt_D102
  · exact rt_D103
  · exact rt_D104
  · exact rt_D105
  · exact rt_D106
  · exact rt_D107
  · exact rt_D108
  · exact rt_D109
  · exact rt_D110
  · exact rt_D111
theorem rt_E7 : ∀ M ∈ rt_r7, ∀ c ∈ M.2.2.2.2.2.2.1, rt_dk M.2.2.2.1 c.2 = true := by
  intro M hM
  simp only [rt_r7, List.mem_cons, List.not_mem_nil, or_false] at hM
  rcases hM with rfl | rfl | rfl | rfl | rfl | rfl | rfl | rfl | rfl | rfl | rfl | rfl | rfl | rfl | rfl | rfl
  · exact rt_D112
  · exact rt_D113
  · exact rt_D114
  · exact rt_D115
  · exact rt_D116
  · exact rt_D117
  · exact rt_D118
  · exact rt_D119
  · exact rt_D120
  · exact rt_D121
  · exact rt_D122
  · exact rt_D123
  · exact rt_D124
  · exact rt_D125
  · exact rt_D126
  · exact rt_D127
theorem rt_E8 : ∀ M ∈ rt_r8, ∀ c ∈ M.2.2.2.2.2.2.1, rt_dk M.2.2.2.1 c.2 = true := by
  intro M hM
  simp only [rt_r8, List.mem_cons, List.not_mem_nil, or_false] at hM
  rcases hM with rfl | rfl | rfl | rfl | rfl | rfl | rfl | rfl | rfl | rfl | rfl | rfl | rfl | rfl | rfl | rfl
  · exact rt_D128
  · exact rt_D129
  · exact rt_D130
  · exact rt_D131
  · exact rt_D132
  · exact rt_D133
  · exact rt_D134
  · exact rt_D135
  · exact rt_D136
  · exact rt_D137
  · exact rt_D138
  · exact rt_D139
  · exact rt_D140
  · exact rt_D141
  · exact rt_D142
  · exact rt_D143
theorem rt_E9 : ∀ M ∈ rt_r9, ∀ c ∈ M.2.2.2.2.2.2.1, rt_dk M.2.2.2.1 c.2 = true := by
  intro M hM
  simp only [rt_r9, List.mem_cons, List.not_mem_nil, or_false] at hM
  rcases hM with rfl | rfl | rfl | rfl | rfl | rfl | rfl | rfl | rfl | rfl | rfl | rfl
  · exact rt_D144
  · exact rt_D145
  · exact rt_D146
  · exact rt_D147
  · exact rt_D148
  · exact rt_D149
  · exact rt_D150
  · exact rt_D151
  · exact rt_D152
  · exact rt_D153
  · exact rt_D154
  · exact rt_D155
theorem rt_E : ∀ r ∈ rt_MT, ∀ M ∈ r, ∀ c ∈ M.2.2.2.2.2.2.1, rt_dk M.2.2.2.1 c.2 = true := by
  intro r hr
  simp only [rt_MT, rt_MS, List.mem_cons, List.not_mem_nil, or_false] at hr
  rcases hr with rfl | rfl | rfl | rfl | rfl | rfl | rfl | rfl | rfl | rfl
  · exact rt_E0
  · exact rt_E1
  · exact rt_E2
  · exact rt_E3
  · exact rt_E4
  · exact rt_E5
  · exact rt_E6
  · exact rt_E7
  · exact rt_E8
  · exact rt_E9
end
section
/-! THE PROGRAM of the tables; its tables are in order -/
def rx_S : Nat := rx_B + 100000
def rx_Fm : Nat := rx_B + 100001
def rt_cb (mi : Nat) : ByteArray := match rt_m mi with | some M => M.2.2.2.1 | none => ⟨#[]⟩
def rt_ml (mi : Nat) : Nat := match rt_m mi with | some M => M.2.2.2.2.1 | none => 0
def rt_rt (mi : Nat) : Option FieldType := match rt_m mi with | some M => M.2.2.2.2.2.1 | none => none
def rt_cd (mi pc : Nat) : Option Instr := match rt_m mi with
  | some M => match rt_look M.2.2.2.2.2.2.1 (pc / 32) with
    | some l => rt_look l pc
    | none => none
  | none => none
def rt_cl (mi : Nat) : Option rt_C := match rt_m mi with | some M => rt_nth rt_CT M.1 | none => none
def rt_ft (mi idx : Nat) : Option (Nat × Nat) := match rt_cl mi with | some r => rt_look r.2.1 idx | none => none
def rt_pt (mi idx : Nat) : Option (Nat × Nat × FieldType) := match rt_cl mi with
  | some r => match rt_look r.2.2.1 idx with
    | some (ci, k, ty, fin) => if fin = true ∧ (rt_yn mi).name ≠ "<init>" then none else some (ci, k, ty)
    | none => none
  | none => none
def rt_ct (mi idx : Nat) : Option (Nat × Nat × Nat) := match rt_cl mi with | some r => rt_look r.2.2.2.1 idx | none => none
def rt_kt (mi idx : Nat) : Option Value := match rt_cl mi with | some r => rt_look r.2.2.2.2.1 idx | none => none
def rt_nt (mi idx : Nat) : Option (Nat × Nat × List Value) := match rt_cl mi with | some r => rt_look r.2.2.2.2.2.1 idx | none => none
def rt_qt (mi idx : Nat) : Option Nat := match rt_cl mi with | some r => rt_look r.2.2.2.2.2.2.1 idx | none => none
def rt_gt (fm : Value) (mi idx : Nat) : Option Value := match rt_cl mi with
  | some r => match rt_look r.2.2.2.2.2.2.2 idx with
    | some (some v) => some v
    | some none => some fm
    | none => none
  | none => none
def rt_xt (mi pc : Nat) : Option (String × Nat × Nat) := match rt_m mi with | some M => rt_look M.2.2.2.2.2.2.2.1 pc | none => none
def rt_hh (mi : Nat) : List (Nat × Nat × Nat × Nat) := match rt_m mi with | some M => M.2.2.2.2.2.2.2.2.1 | none => []
def rt_find (l : List (Nat × String × Nat × Fin 4)) (pc : Nat) (E : String) : Option (Nat × Fin 4) := match l with
  | [] => none
  | q :: r => if q.1 = pc ∧ q.2.1 = E then some q.2.2 else rt_find r pc E
def rt_ht (mi pc : Nat) (E : String) : Option (Nat × Fin 4) := match rt_m mi with | some M => rt_find M.2.2.2.2.2.2.2.2.2 pc E | none => none
def rt_sb (i : Nat) : Option (List Int32) := rt_nth rt_ST i
def rt_ci (sc : Nat × (Nat → Int32)) (a : Nat) : Option (Nat × (Nat → Int32)) := match Nat.beq a rx_S with | true => some sc | false => none
def rt_P (sc : Nat × (Nat → Int32)) (fm : Value) : rx_P := (rt_yn, rt_cb, rt_ml, rt_rt, rt_cd, rt_ft, rt_pt, rt_ct, rt_kt, rt_nt, rt_qt, rt_gt fm, rt_xt, rt_sb, rt_ci sc, rt_hh, rt_ht)
theorem rt_m_in {mi : Nat} {M : rt_M} (h : rt_m mi = some M) : ∃ r ∈ rt_MT, M ∈ r := by
  unfold rt_m at h
  split at h
  · rename_i r hr
    exact ⟨r, rt_nth_mem hr, rt_nth_mem h⟩
  · cases h
theorem rt_m_inS {mi : Nat} {M : rt_M} (h : rt_m mi = some M) (h16 : 16 ≤ mi) : ∃ r ∈ rt_MS, M ∈ r := by
  unfold rt_m at h
  split at h
  · rename_i r hr
    refine ⟨r, ?_, rt_nth_mem h⟩
    have hd : 1 ≤ mi / 16 := by omega
    obtain ⟨n, hn⟩ : ∃ n, mi / 16 = n + 1 := ⟨mi / 16 - 1, by omega⟩
    rw [hn] at hr
    exact rt_nth_mem (l := rt_MS) hr
  · cases h
theorem rt_cl_in {mi : Nat} {r : rt_C} (h : rt_cl mi = some r) : r ∈ rt_CT ∧ (rt_yn mi).cls = r.1 := by
  unfold rt_cl at h
  split at h
  · rename_i M hM
    refine ⟨rt_nth_mem h, ?_⟩
    unfold rt_yn
    rw [hM]
    show rt_cn M.1 = r.1
    unfold rt_cn
    rw [h]
  · cases h
theorem rt_cw_TT {r : rt_C} (hr : r ∈ rt_CT) {w : Cond} (h : w ∈ rt_cw r) : w ∈ rx_TT := rx_TT_0 (List.mem_flatMap.mpr ⟨r, hr, h⟩)
def rt_cF : Bool := rt_CT.all (fun r => r.2.1.all (fun q => match vwCl[q.2.1]? with | some v => decide (q.2.2 < v.2.2) | none => false))
theorem rt_cF_ok : rt_cF = true := by decide +kernel
theorem rt_okF (sc : Nat × (Nat → Int32)) (fm : Value) : rx_OkF (rt_P sc fm) := by
  intro mi idx ci k h
  have h : rt_ft mi idx = some (ci, k) := h
  unfold rt_ft at h
  split at h
  · rename_i r hr
    obtain ⟨hr1, hr2⟩ := rt_cl_in hr
    have hm := rt_look_mem h
    have hc := List.all_eq_true.mp (List.all_eq_true.mp rt_cF_ok r hr1) _ hm
    split at hc
    · rename_i v hv
      refine ⟨v, hv, of_decide_eq_true hc, ?_⟩
      show Cond.fieldLink (rt_yn mi).cls idx _ _ _ ∈ rx_TT
      rw [hr2]
      refine rt_cw_TT hr1 ?_
      unfold rt_cw
      simp only [List.append_assoc]
      refine List.mem_append_left _ (List.mem_map.mpr ⟨_, hm, ?_⟩)
      show rt_wf r.1 (idx, ci, k) = _
      unfold rt_wf
      rw [hv]
    · cases hc
  · cases h
def rt_cW : Bool := rt_CT.all (fun r => r.2.2.1.all (fun q => match vwCl[q.2.1]? with | some v => decide (q.2.2.1 < v.2.2) && (decide (parseFieldDescriptor (v.2.1 q.2.2.1).2.2.1 = some q.2.2.2.1) && (decide ((v.2.1 q.2.2.1).2.2.2 = q.2.2.2.2) && (!q.2.2.2.2 || decide ((v.2.1 q.2.2.1).1 = r.1)))) | none => false))
theorem rt_cW_ok : rt_cW = true := by decide +kernel
theorem rt_okW (sc : Nat × (Nat → Int32)) (fm : Value) : rx_OkW (rt_P sc fm) := by
  intro mi idx ci k ty h
  have h : rt_pt mi idx = some (ci, k, ty) := h
  unfold rt_pt at h
  split at h
  · rename_i r hr
    obtain ⟨hr1, hr2⟩ := rt_cl_in hr
    split at h
    · rename_i ci' k' ty' fin hl
      split at h
      · cases h
      · rename_i hfin
        cases h
        have hm := rt_look_mem hl
        have hc := List.all_eq_true.mp (List.all_eq_true.mp rt_cW_ok r hr1) _ hm
        split at hc
        · rename_i v hv
          simp only [Bool.and_eq_true, decide_eq_true_eq, Bool.or_eq_true, Bool.not_eq_true'] at hc
          obtain ⟨c1, c2, c3, c4⟩ := hc
          refine ⟨v, hv, c1, ?_, c2, ?_⟩
          · show Cond.fieldLink (rt_yn mi).cls idx _ _ _ ∈ rx_TT
            rw [hr2]
            refine rt_cw_TT hr1 ?_
            unfold rt_cw
            simp only [List.append_assoc]
            refine List.mem_append_right _ (List.mem_append_left _ (List.mem_map.mpr ⟨_, hm, ?_⟩))
            show rt_wf r.1 (idx, ci, k) = _
            unfold rt_wf
            rw [hv]
          · cases hfe : fin with
            | false => exact Or.inl (c3.trans hfe)
            | true =>
              refine Or.inr ⟨c3.trans hfe, ?_, ?_⟩
              · exact Classical.byContradiction fun q => hfin ⟨hfe, q⟩
              · show _ = (rt_yn mi).cls
                rw [hr2]
                rcases c4 with c4 | c4
                · exact absurd (c4.symm.trans hfe) (by decide)
                · exact c4
        · cases hc
    · cases h
  · cases h
theorem rt_okK (sc : Nat × (Nat → Int32)) (fm : Value) : rx_OkK (rt_P sc fm) := by
  constructor
  · intro mi idx v h
    have h : rt_kt mi idx = some (.int v) := h
    unfold rt_kt at h
    split at h
    · rename_i r hr
      obtain ⟨hr1, hr2⟩ := rt_cl_in hr
      show Cond.constant (rt_yn mi).cls idx v ∈ rx_TT
      rw [hr2]
      refine rt_cw_TT hr1 ?_
      unfold rt_cw
      simp only [List.append_assoc]
      exact List.mem_append_right _ (List.mem_append_right _ (List.mem_append_right _ (List.mem_append_left _ (List.mem_flatMap.mpr ⟨_, rt_look_mem h, List.mem_cons_self⟩))))
    · cases h
  · intro mi idx v h
    have h : rt_kt mi idx = some (.long v) := h
    unfold rt_kt at h
    split at h
    · rename_i r hr
      obtain ⟨hr1, hr2⟩ := rt_cl_in hr
      show Cond.constantLong (rt_yn mi).cls idx v ∈ rx_TT
      rw [hr2]
      refine rt_cw_TT hr1 ?_
      unfold rt_cw
      simp only [List.append_assoc]
      exact List.mem_append_right _ (List.mem_append_right _ (List.mem_append_right _ (List.mem_append_left _ (List.mem_flatMap.mpr ⟨_, rt_look_mem h, List.mem_cons_self⟩))))
    · cases h
def rt_nr : Value → Bool
  | .ref _ => false
  | _ => true
def rt_cN : Bool := rt_CT.all (fun r => r.2.2.2.2.2.1.all (fun q => match vwCl[q.2.1]? with | some v => decide (v.2.2 = q.2.2.1) && ((List.range q.2.2.1).all (fun k => match parseFieldDescriptor (v.2.1 k).2.2.1 with | some t => decide (defaultValue t = vp_V q.2.2.2 k) | none => false) && q.2.2.2.all rt_nr) | none => false))
theorem rt_cN_ok : rt_cN = true := by decide +kernel
theorem rt_okN (sc : Nat × (Nat → Int32)) (fm : Value) (okC : rx_OkC) : rx_OkN (rt_P sc fm) := by
  intro mi idx ci N fs h
  have h : rt_nt mi idx = some (ci, N, fs) := h
  unfold rt_nt at h
  split at h
  · rename_i r hr
    obtain ⟨hr1, hr2⟩ := rt_cl_in hr
    have hm := rt_look_mem h
    have hc := List.all_eq_true.mp (List.all_eq_true.mp rt_cN_ok r hr1) _ hm
    split at hc
    · rename_i v hv
      simp only [Bool.and_eq_true, decide_eq_true_eq] at hc
      obtain ⟨c1, c2, c3⟩ := hc
      obtain ⟨ty, -, t2, -⟩ := okC _ _ hv
      have hw : ∀ w ∈ rt_wn r.1 (idx, ci, N, fs), w ∈ rx_TT := fun w hw => by
        refine rt_cw_TT hr1 ?_
        unfold rt_cw
        simp only [List.append_assoc]
        exact List.mem_append_right _ (List.mem_append_right _ (List.mem_append_right _ (List.mem_append_right _ (List.mem_append_left _ (List.mem_flatMap.mpr ⟨_, hm, hw⟩)))))
      have e1 : rt_wn r.1 (idx, ci, N, fs) = [.classLink r.1 idx v.1, .instantiable v.1 N, .initialized v.1] := by
        unfold rt_wn
        rw [hv]
      rw [e1] at hw
      refine ⟨v, ty, hv, c1, ?_, hw _ (List.mem_cons_of_mem _ List.mem_cons_self), hw _ (List.mem_cons_of_mem _ (List.mem_cons_of_mem _ List.mem_cons_self)), fun k hk => t2 k (by rw [c1]; exact hk), fun j hj => ?_, fun w hw2 k e => ?_⟩
      · show Cond.classLink (rt_yn mi).cls idx v.1 ∈ rx_TT
        rw [hr2]
        exact hw _ List.mem_cons_self
      · have h3 := List.all_eq_true.mp c2 j (List.mem_range.mpr hj)
        rw [t2 j (by rw [c1]; exact hj)] at h3
        exact of_decide_eq_true h3
      · have h3 := List.all_eq_true.mp c3 w hw2
        rw [e] at h3
        cases h3
    · cases hc
  · cases h
def rt_cQ : Bool := rt_CT.all (fun r => r.2.2.2.2.2.2.1.all (fun q => decide (rx_ty[q.2]? = some (.object (rt_tyn q.2)))))
theorem rt_cQ_ok : rt_cQ = true := by decide +kernel
theorem rt_okQ (sc : Nat × (Nat → Int32)) (fm : Value) : rx_OkQ (rt_P sc fm) := by
  intro mi idx t h
  have h : rt_qt mi idx = some t := h
  unfold rt_qt at h
  split at h
  · rename_i r hr
    obtain ⟨hr1, hr2⟩ := rt_cl_in hr
    have hm := rt_look_mem h
    have hc := List.all_eq_true.mp (List.all_eq_true.mp rt_cQ_ok r hr1) _ hm
    refine ⟨rt_tyn t, of_decide_eq_true hc, ?_⟩
    show Cond.classLink (rt_yn mi).cls idx _ ∈ rx_TT
    rw [hr2]
    refine rt_cw_TT hr1 ?_
    unfold rt_cw
    simp only [List.append_assoc]
    exact List.mem_append_right _ (List.mem_append_right _ (List.mem_append_right _ (List.mem_append_right _ (List.mem_append_right _ (List.mem_map.mpr ⟨_, hm, rfl⟩)))))
  · cases h
theorem rt_okA : rx_OkA := ⟨rx_TT_2 (by decide +kernel), rx_TT_2 (by decide +kernel), rx_TT_2 (by decide +kernel), rx_TT_2 (by decide +kernel)⟩
theorem rt_okO : rx_OkO := ⟨rx_TT_2 (by decide +kernel), rx_TT_2 (by decide +kernel)⟩
def rt_okcall (q : Nat × Nat × Nat × Nat) : Bool := decide (q.2.1 = 6) || (match rt_m q.2.2.1 with
  | some M => decide (16 ≤ q.2.2.1) && (plainName (rt_cn M.1) && (decide (rt_cn M.1 ≠ "java/lang/invoke/MethodHandle") && (decide (rt_cn M.1 ≠ "java/lang/invoke/VarHandle") && (decide ((parseMethodDescriptor M.2.2.1).map (fun d => d.parameters.length) = some q.2.2.2) &&
      (decide (q.2.1 = 0 ∧ M.2.2.2.2.2.2.2.2.1 = []) || (decide ((q.2.1 = 1 ∧ M.2.2.2.2.2.2.2.2.1 = []) ∨ (q.2.1 = 3 ∧ M.2.2.2.2.2.2.2.2.1 ≠ [])) || (decide ((q.2.1 = 2 ∨ q.2.1 = 12) ∧ M.2.2.2.2.2.2.2.2.1 = [] ∧ M.2.1 = "<init>" ∧ M.2.2.2.2.2.1 = none) || decide (q.2.1 = 11 ∧ M.2.2.2.2.2.2.2.2.1 = []))))))))
  | none => false)
def rt_cI : Bool := rt_CT.all (fun r => r.2.2.2.1.all rt_okcall)
theorem rt_cI_ok : rt_cI = true := by decide +kernel
theorem rt_okI (sc : Nat × (Nat → Int32)) (fm : Value) : rx_OkI (rt_P sc fm) := by
  intro mi idx kd mj n h
  have h : rt_ct mi idx = some (kd, mj, n) := h
  unfold rt_ct at h
  split at h
  · rename_i r hr
    obtain ⟨hr1, hr2⟩ := rt_cl_in hr
    have hm := rt_look_mem h
    have hc := List.all_eq_true.mp (List.all_eq_true.mp rt_cI_ok r hr1) _ hm
    have hw : ∀ w ∈ rt_wc r.1 (idx, kd, mj, n), w ∈ rx_TT := fun w hw => by
      refine rt_cw_TT hr1 ?_
      unfold rt_cw
      simp only [List.append_assoc]
      exact List.mem_append_right _ (List.mem_append_right _ (List.mem_append_left _ (List.mem_flatMap.mpr ⟨_, hm, hw⟩)))
    have hcls : (rx_yn (rt_P sc fm) mi).cls = r.1 := hr2
    unfold rt_okcall at hc
    rw [Bool.or_eq_true] at hc
    rcases hc with hc | hc
    · have h6 : kd = 6 := of_decide_eq_true hc
      subst h6
      refine Or.inl ⟨rfl, ?_⟩
      rw [hcls]
      exact hw _ List.mem_cons_self
    · split at hc
      · rename_i M hM
        have hyn : rx_yn (rt_P sc fm) mj = ⟨rt_cn M.1, M.2.1, M.2.2.1⟩ := by
          show rt_yn mj = _
          unfold rt_yn
          rw [hM]
        have hyn2 : rt_yn mj = ⟨rt_cn M.1, M.2.1, M.2.2.1⟩ := hyn
        have hhh : rx_hh (rt_P sc fm) mj = M.2.2.2.2.2.2.2.2.1 := by
          show rt_hh mj = _
          unfold rt_hh
          rw [hM]
        have hrt : rx_rt (rt_P sc fm) mj = M.2.2.2.2.2.1 := by
          show rt_rt mj = _
          unfold rt_rt
          rw [hM]
        simp only [Bool.and_eq_true, Bool.or_eq_true, decide_eq_true_eq] at hc
        obtain ⟨c0, c1, c2, c3, c4, c5⟩ := hc
        obtain ⟨R, hR1, hR2⟩ := rt_m_inS hM c0
        have hmw : ∀ w ∈ rt_mw M, w ∈ rx_TT := fun w hw => rx_TT_1 (List.mem_flatMap.mpr ⟨R, hR1, List.mem_flatMap.mpr ⟨M, hR2, hw⟩⟩)
        have okM : rx_OkM (rt_P sc fm) mj := by
          refine ⟨by rw [hyn]; exact c1, ?_, ?_, by rw [hyn]; exact c2, by rw [hyn]; exact c3⟩
          · have e1 : rx_cd1 (rt_P sc fm) mj = if M.2.2.2.2.2.2.2.2.1 = [] then Cond.code ⟨rt_cn M.1, M.2.1, M.2.2.1⟩ M.2.2.2.1 M.2.2.2.2.1 M.2.2.2.2.2.1 else Cond.codeWith ⟨rt_cn M.1, M.2.1, M.2.2.1⟩ M.2.2.2.1 M.2.2.2.2.1 M.2.2.2.2.2.1 M.2.2.2.2.2.2.2.2.1 := by
              unfold rx_cd1
              rw [hhh, hyn, hrt]
              have e2 : rx_cb (rt_P sc fm) mj = M.2.2.2.1 := by
                show rt_cb mj = _
                unfold rt_cb
                rw [hM]
              have e3 : rx_ml (rt_P sc fm) mj = M.2.2.2.2.1 := by
                show rt_ml mj = _
                unfold rt_ml
                rw [hM]
              rw [e2, e3]
            rw [e1]
            exact hmw _ List.mem_cons_self
          · rw [hyn]
            exact hmw _ (List.mem_cons_of_mem _ List.mem_cons_self)
        refine Or.inr ⟨okM, by rw [hyn]; exact c4, ?_⟩
        rw [hhh, hcls]
        have hyn3 : rx_yn (rt_P sc fm) mj = rt_yn mj := rfl
        rw [hrt, hyn3]
        rcases c5 with ⟨e, c5⟩ | c5 | ⟨e, c5, c6, c7⟩ | ⟨e, c5⟩
        · have e : kd = 0 := e
          subst e
          exact Or.inl ⟨rfl, c5, hw _ List.mem_cons_self, hw _ (List.mem_cons_of_mem _ List.mem_cons_self), hw _ (List.mem_cons_of_mem _ (List.mem_cons_of_mem _ List.mem_cons_self))⟩
        · rcases c5 with ⟨e, c5⟩ | ⟨e, c5⟩
          · have e : kd = 1 := e
            subst e
            exact Or.inr (Or.inl ⟨Or.inl rfl, fun _ => c5, (fun z => by cases z), hw _ List.mem_cons_self, hw _ (List.mem_cons_of_mem _ List.mem_cons_self)⟩)
          · have e : kd = 3 := e
            subst e
            exact Or.inr (Or.inl ⟨Or.inr rfl, (fun z => by cases z), fun _ => c5, hw _ List.mem_cons_self, hw _ (List.mem_cons_of_mem _ List.mem_cons_self)⟩)
        · rcases e with e | e
          · have e : kd = 2 := e
            subst e
            exact Or.inr (Or.inr (Or.inl ⟨rfl, c5, hw _ List.mem_cons_self, hw _ (List.mem_cons_of_mem _ List.mem_cons_self), by rw [hyn2]; exact c6, c7⟩))
          · have e : kd = 12 := e
            subst e
            exact Or.inr (Or.inr (Or.inr (Or.inr ⟨rfl, c5, hw _ List.mem_cons_self, by rw [hyn2]; exact c6, c7⟩)))
        · have e : kd = 11 := e
          subst e
          exact Or.inr (Or.inr (Or.inr (Or.inl ⟨rfl, c5, hw _ List.mem_cons_self⟩)))
      · cases hc
  · cases h
theorem rt_okD (sc : Nat × (Nat → Int32)) (fm : Value) : rx_OkD (rt_P sc fm) := by
  intro mi pc ins h
  have h : rt_cd mi pc = some ins := h
  unfold rt_cd at h
  split at h
  · rename_i M hM
    split at h
    · rename_i l hl
      obtain ⟨r, hr1, hr2⟩ := rt_m_in hM
      have hk := rt_E r hr1 M hr2 _ (rt_look_mem hl)
      have hq := List.all_eq_true.mp hk _ (rt_look_mem h)
      have e2 : rx_cb (rt_P sc fm) mi = M.2.2.2.1 := by
        show rt_cb mi = _
        unfold rt_cb
        rw [hM]
      rw [e2]
      split at hq
      · rename_i i n hi
        simp only [Bool.and_eq_true, Bool.or_eq_true, decide_eq_true_eq] at hq
        obtain ⟨q1, q2⟩ := hq
        subst q1
        refine ⟨n, hi, ?_⟩
        rcases q2 with q2 | q2
        · exact Or.inl (Nat.eq_of_beq_eq_true q2)
        · unfold rt_sw at q2
          split at q2
          · exact Or.inr ⟨_, _, _, _, rfl⟩
          · cases q2
      · cases hq
    · cases h
  · cases h
theorem rt_find_mem {pc : Nat} {E : String} {x : Nat × Fin 4} : ∀ {l : List (Nat × String × Nat × Fin 4)}, rt_find l pc E = some x → (pc, E, x) ∈ l
  | [], h => by cases h
  | q :: r, h => by
    unfold rt_find at h
    split at h
    · rename_i e
      cases h
      obtain ⟨rfl, rfl⟩ := e
      exact List.mem_cons_self
    · exact List.mem_cons_of_mem _ (rt_find_mem h)
def rt_cH : Bool := rt_MT.all (fun r => r.all (fun M => M.2.2.2.2.2.2.2.2.2.all (fun q => decide (decode M.2.2.2.1 q.2.2.1 = .ok (.astore_n q.2.2.2, 1)) && decide ((q.2.2.2 : Nat) < M.2.2.2.2.1))))
theorem rt_cH_ok : rt_cH = true := by decide +kernel
theorem rt_okH (sc : Nat × (Nat → Int32)) (fm : Value) : rx_OkH (rt_P sc fm) := by
  intro mi pc E hpc k h
  have h : rt_ht mi pc E = some (hpc, k) := h
  unfold rt_ht at h
  split at h
  · rename_i M hM
    obtain ⟨r, hr1, hr2⟩ := rt_m_in hM
    have hq := List.all_eq_true.mp (List.all_eq_true.mp (List.all_eq_true.mp rt_cH_ok r hr1) M hr2) _ (rt_find_mem h)
    simp only [Bool.and_eq_true, decide_eq_true_eq] at hq
    have e2 : rx_cb (rt_P sc fm) mi = M.2.2.2.1 := by
      show rt_cb mi = _
      unfold rt_cb
      rw [hM]
    have e3 : rx_ml (rt_P sc fm) mi = M.2.2.2.2.1 := by
      show rt_ml mi = _
      unfold rt_ml
      rw [hM]
    rw [e2, e3]
    exact hq
  · cases h
theorem rt_ok (sc : Nat × (Nat → Int32)) (fm : Value) {l : Launch} (hl : l.stackTraces = false) : rx_OkAll (rt_P sc fm) l :=
  ⟨⟨rt_okC, rt_okF sc fm, rt_okW sc fm, rt_okK sc fm, rt_okN sc fm rt_okC, rt_okQ sc fm, rt_okA⟩, rt_okD sc fm, rt_okI sc fm, rt_okO, hl, rt_okH sc fm⟩
end
section
/-! RUNS WITHOUT FUEL: rules, an instruction a rule -/
section RV
variable {P : rx_P}
theorem rv_add {dc ds : Nat} {o o' : Option rx_R} {r : rx_R} (h : ∀ q, o = some q → o' = some q) (hr : rx_add dc ds o = some r) : rx_add dc ds o' = some r := by
  cases o with
  | none => cases hr
  | some q => rw [h q rfl]; exact hr
theorem rv_inv {rc rc' : rx_F} (h : ∀ mi F Lo pc lv st L r, rc mi F Lo pc lv st L = some r → rc' mi F Lo pc lv st L = some r) {th : Bool} {mi F Lo pc mj : Nat} {lv : rx_L} {as rest : List Value} {L : List va_E} {r : rx_R} (hr : rx_inv P rc th mi F Lo pc lv mj as rest L = some r) : rx_inv P rc' th mi F Lo pc lv mj as rest L = some r := by
  unfold rx_inv at hr ⊢
  split at hr
  · rename_i hc
    rw [if_pos hc]
    cases hcal : rc mj (F - 1) (Lo - (rx_ml P mj + 19)) 0 (lv_args 0 as) [] L with
    | none => rw [hcal] at hr; cases hr
    | some q =>
      rw [h _ _ _ _ _ _ _ _ hcal]
      rw [hcal] at hr
      obtain ⟨o, L1, c1, s1⟩ := q
      cases o with
      | inl v => exact rv_add (h _ _ _ _ _ _ _) hr
      | inr E =>
        simp only at hr ⊢
        split at hr
        · rename_i ht
          rw [if_pos ht]
          split at hr
          · exact rv_add (h _ _ _ _ _ _ _) hr
          · exact hr
        · cases hr
  · cases hr
theorem rv_go {rc rc' : rx_F} (h : ∀ mi F Lo pc lv st L r, rc mi F Lo pc lv st L = some r → rc' mi F Lo pc lv st L = some r) {mi F Lo pc : Nat} {lv : rx_L} {st : List Value} {L : List va_E} {r : rx_R} (hr : rx_go P rc mi F Lo pc lv st L = some r) : rx_go P rc' mi F Lo pc lv st L = some r := by
  unfold rx_go at hr ⊢
  split at hr
  · exact hr
  split at hr
  · cases hr
  split at hr
  · exact h _ _ _ _ _ _ _ _ hr
  split at hr
  · exact h _ _ _ _ _ _ _ _ hr
  split at hr
  · exact h _ _ _ _ _ _ _ _ hr
  split at hr
  · exact rv_add (h _ _ _ _ _ _ _) hr
  split at hr
  · exact hr
  unfold rx_call at hr ⊢
  split at hr
  · split at hr
    · split at hr
      · split at hr
        · rename_i hc
          rw [if_pos hc]
          exact rv_inv h hr
        · cases hr
      · cases hr
    · cases hr
  · split at hr
    · split at hr
      · split at hr
        · rename_i hc
          rw [if_pos hc]
          exact rv_inv h hr
        · rename_i hn
          rw [if_neg hn]
          split at hr
          · rename_i hc
            rw [if_pos hc]
            exact rv_inv h hr
          · cases hr
      · cases hr
    · cases hr
  · split at hr
    · split at hr
      · rename_i hc
        rw [if_pos hc]
        split at hr
        · split at hr
          · rename_i hc2
            rw [if_pos hc2]
            exact h _ _ _ _ _ _ _ _ hr
          · cases hr
        · cases hr
      · rename_i hn
        rw [if_neg hn]
        split at hr
        · split at hr
          · rename_i hc
            rw [if_pos hc]
            exact rv_inv h hr
          · cases hr
        · cases hr
    · cases hr
  · cases hr
theorem rv_succ : ∀ (f mi F Lo pc : Nat) (lv : rx_L) (st : List Value) (L : List va_E) (r : rx_R), rx_run P f mi F Lo pc lv st L = some r → rx_run P (f + 1) mi F Lo pc lv st L = some r
  | 0, _, _, _, _, _, _, _, _, h => by cases h
  | f + 1, _, _, _, _, _, _, _, _, h => rv_go (rv_succ f) h
theorem rv_le {f g mi F Lo pc : Nat} {lv : rx_L} {st : List Value} {L : List va_E} {r : rx_R} (hfg : f ≤ g) (h : rx_run P f mi F Lo pc lv st L = some r) : rx_run P g mi F Lo pc lv st L = some r := by
  induction hfg with
  | refl => exact h
  | step _ ih => exact rv_succ _ _ _ _ _ _ _ _ _ ih
/-- a run, whatever the fuel -/
def rv (P : rx_P) (mi F Lo pc : Nat) (lv : rx_L) (st : List Value) (L : List va_E) (r : rx_R) : Prop := ∃ f, rx_run P f mi F Lo pc lv st L = some r
variable {mi F Lo pc : Nat} {lv : rx_L} {st : List Value} {L : List va_E} {r : rx_R}
theorem rv_pure {ins : Instr} {st' : List Value} (hx : rx_xt P mi pc = none) (hc : rx_cd P mi pc = some ins) (h : rx_pure ins st = some st') (k : rv P mi F Lo (pc + rx_len ins) lv st' L r) : rv P mi F Lo pc lv st L r := by
  obtain ⟨f, hf⟩ := k
  refine ⟨f + 1, ?_⟩
  show rx_go P (rx_run P f) mi F Lo pc lv st L = some r
  unfold rx_go
  rw [hx, hc]
  simp only [h]
  exact hf
theorem rv_loc {ins : Instr} {lv' : rx_L} {st' : List Value} (hx : rx_xt P mi pc = none) (hc : rx_cd P mi pc = some ins) (h0 : rx_pure ins st = none) (h : rx_loc ins (rx_ml P mi) lv st = some (lv', st')) (k : rv P mi F Lo (pc + rx_len ins) lv' st' L r) : rv P mi F Lo pc lv st L r := by
  obtain ⟨f, hf⟩ := k
  refine ⟨f + 1, ?_⟩
  show rx_go P (rx_run P f) mi F Lo pc lv st L = some r
  unfold rx_go
  rw [hx, hc]
  simp only [h0, h]
  exact hf
theorem rv_jmp {ins : Instr} {pc' : Nat} {st' : List Value} (hx : rx_xt P mi pc = none) (hc : rx_cd P mi pc = some ins) (h0 : rx_pure ins st = none) (h1 : rx_loc ins (rx_ml P mi) lv st = none) (h : rx_jmp ins pc st = some (pc', st')) (k : rv P mi F Lo pc' lv st' L r) : rv P mi F Lo pc lv st L r := by
  obtain ⟨f, hf⟩ := k
  refine ⟨f + 1, ?_⟩
  show rx_go P (rx_run P f) mi F Lo pc lv st L = some r
  unfold rx_go
  rw [hx, hc]
  simp only [h0, h1, h]
  exact hf
theorem rv_heap {ins : Instr} {st' : List Value} {L' : List va_E} {dc ds : Nat} {o : (Option Value) ⊕ String} {L2 : List va_E} {c2 s2 : Nat} (hx : rx_xt P mi pc = none) (hc : rx_cd P mi pc = some ins) (h0 : rx_pure ins st = none) (h1 : rx_loc ins (rx_ml P mi) lv st = none) (h2 : rx_jmp ins pc st = none) (h : rx_heap P mi ins st L = some (st', L', dc, ds)) (k : rv P mi F Lo (pc + rx_len ins) lv st' L' (o, L2, c2, s2)) : rv P mi F Lo pc lv st L (o, L2, dc + c2, ds + s2) := by
  obtain ⟨f, hf⟩ := k
  refine ⟨f + 1, ?_⟩
  show rx_go P (rx_run P f) mi F Lo pc lv st L = some _
  unfold rx_go
  rw [hx, hc]
  simp only [h0, h1, h2, h]
  rw [hf]
  rfl
theorem rv_ret {ins : Instr} {v : Option Value} (hx : rx_xt P mi pc = none) (hc : rx_cd P mi pc = some ins) (h0 : rx_pure ins st = none) (h1 : rx_loc ins (rx_ml P mi) lv st = none) (h2 : rx_jmp ins pc st = none) (h3 : rx_heap P mi ins st L = none) (h : rx_ret ins st (rx_rt P mi) = some v) : rv P mi F Lo pc lv st L (.inl v, L, 0, 0) := by
  refine ⟨1, ?_⟩
  show rx_go P (rx_run P 0) mi F Lo pc lv st L = some _
  unfold rx_go
  rw [hx, hc]
  simp only [h0, h1, h2, h3, h]
theorem rv_throw {E : String} {nf nl : Nat} (hx : rx_xt P mi pc = some (E, nf, nl)) (h1 : nf < F) (h2 : nl ≤ Lo) : rv P mi F Lo pc lv [] L (.inr E, L, 1, 6) := by
  refine ⟨1, ?_⟩
  show rx_go P (rx_run P 0) mi F Lo pc lv [] L = some _
  unfold rx_go
  rw [hx]
  simp only []
  rw [if_pos ⟨trivial, h1, h2⟩]
/-- an instance of a call that returns: the callee's run, then the rest -/
theorem rv_inv1 {th : Bool} {mj : Nat} {as rest : List Value} {v : Option Value} {L1 L2 : List va_E} {c1 s1 c2 s2 : Nat} {o : (Option Value) ⊕ String} (hc : 1 ≤ F ∧ rx_ml P mj + 19 ≤ Lo ∧ rx_words rest ≤ 8 ∧ (lg_sl as).length ≤ rx_ml P mj) (hcal : rv P mj (F - 1) (Lo - (rx_ml P mj + 19)) 0 (lv_args 0 as) [] L (.inl v, L1, c1, s1)) (k : rv P mi F Lo (pc + 3) lv (v.toList ++ rest) L1 (o, L2, c2, s2)) :
    ∃ f, rx_inv P (rx_run P f) th mi F Lo pc lv mj as rest L = some (o, L2, c1 + c2, s1 + s2) := by
  obtain ⟨f, hf⟩ := hcal
  obtain ⟨g, hg⟩ := k
  refine ⟨max f g, ?_⟩
  unfold rx_inv
  rw [if_pos hc, rv_le (Nat.le_max_left f g) hf]
  simp only []
  rw [rv_le (Nat.le_max_right f g) hg]
  rfl
theorem rv_callV {idx mj n b : Nat} {as rest : List Value} {v : Option Value} {L1 L2 : List va_E} {c1 s1 c2 s2 : Nat} {o : (Option Value) ⊕ String} (hx : rx_xt P mi pc = none) (hcd : rx_cd P mi pc = some (.invokevirtual idx)) (hct : rx_ct P mi idx = some (0, mj, n)) (htk : rx_take n st = some (as, .ref b :: rest)) (hisa : rx_isa P L b (rx_yn P mj).cls = true)
    (hc : 1 ≤ F ∧ rx_ml P mj + 19 ≤ Lo ∧ rx_words rest ≤ 8 ∧ (lg_sl (.ref b :: as)).length ≤ rx_ml P mj) (hcal : rv P mj (F - 1) (Lo - (rx_ml P mj + 19)) 0 (lv_args 0 (.ref b :: as)) [] L (.inl v, L1, c1, s1)) (k : rv P mi F Lo (pc + 3) lv (v.toList ++ rest) L1 (o, L2, c2, s2)) : rv P mi F Lo pc lv st L (o, L2, c1 + c2, s1 + s2) := by
  obtain ⟨f, hf⟩ := rv_inv1 (th := true) hc hcal k
  refine ⟨f + 1, ?_⟩
  show rx_go P (rx_run P f) mi F Lo pc lv st L = some _
  unfold rx_go
  rw [hx, hcd]
  show rx_call P (rx_run P f) mi F Lo pc lv st L (.invokevirtual idx) = _
  unfold rx_call
  simp only [hct, htk]
  rw [if_pos ⟨trivial, hisa⟩]
  exact hf
theorem rv_callS {idx kd mj n : Nat} {as rest : List Value} {v : Option Value} {L1 L2 : List va_E} {c1 s1 c2 s2 : Nat} {o : (Option Value) ⊕ String} (hx : rx_xt P mi pc = none) (hcd : rx_cd P mi pc = some (.invokestatic idx)) (hct : rx_ct P mi idx = some (kd, mj, n)) (hkd : kd = 1 ∨ kd = 3 ∨ kd = 11) (htk : rx_take n st = some (as, rest))
    (hc : 1 ≤ F ∧ rx_ml P mj + 19 ≤ Lo ∧ rx_words rest ≤ 8 ∧ (lg_sl as).length ≤ rx_ml P mj) (hcal : rv P mj (F - 1) (Lo - (rx_ml P mj + 19)) 0 (lv_args 0 as) [] L (.inl v, L1, c1, s1)) (k : rv P mi F Lo (pc + 3) lv (v.toList ++ rest) L1 (o, L2, c2, s2)) : rv P mi F Lo pc lv st L (o, L2, c1 + c2, s1 + s2) := by
  by_cases h13 : kd = 1 ∨ kd = 3
  · obtain ⟨f, hf⟩ := rv_inv1 (th := true) hc hcal k
    refine ⟨f + 1, ?_⟩
    show rx_go P (rx_run P f) mi F Lo pc lv st L = some _
    unfold rx_go
    rw [hx, hcd]
    show rx_call P (rx_run P f) mi F Lo pc lv st L (.invokestatic idx) = _
    unfold rx_call
    simp only [hct, htk]
    rw [if_pos h13]
    exact hf
  · obtain ⟨f, hf⟩ := rv_inv1 (th := false) hc hcal k
    refine ⟨f + 1, ?_⟩
    show rx_go P (rx_run P f) mi F Lo pc lv st L = some _
    unfold rx_go
    rw [hx, hcd]
    show rx_call P (rx_run P f) mi F Lo pc lv st L (.invokestatic idx) = _
    unfold rx_call
    simp only [hct, htk]
    rw [if_neg h13, if_pos (by omega)]
    exact hf
end RV
end
section
/-! THE CONSTANTS at the start: texts and where their words stand: by wip/whole/gentab.py -/
def rt_so : List (String × Nat × String × Nat × Nat × Nat) := [("MarkHouse$Cutter", 29, "order kind class field method param maker adds on heirs many no int text push read load store get set call ret add sub mul dup pop jump zero is as", 1, 48, 311), ("MarkHouse$Reader", 67, "a FAULT", 9, 67, 573), ("MarkHouseModel", 18, "order", 10, 238, 669), ("MarkHouseModel", 20, "kind", 10, 239, 678), ("MarkHouseModel", 22, "class", 11, 0, 686), ("MarkHouseModel", 24, "field", 11, 1, 695), ("MarkHouseModel", 26, "method", 11, 2, 704), ("MarkHouseModel", 28, "param", 11, 3, 714), ("MarkHouseModel", 30, "maker", 11, 4, 723), ("MarkHouseModel", 32, "adds", 11, 5, 732), ("MarkHouseModel", 34, "on", 11, 6, 740), ("MarkHouseModel", 36, "heirs", 11, 7, 746), ("MarkHouseModel", 38, "many", 11, 8, 755), ("MarkHouseModel", 40, "no", 11, 9, 763), ("MarkHouseModel", 42, "int", 11, 10, 769), ("MarkHouseModel", 44, "text", 11, 11, 776), ("MarkHouseModel", 46, "push", 11, 12, 784), ("MarkHouseModel", 48, "read", 11, 13, 792), ("MarkHouseModel", 50, "load", 11, 14, 800), ("MarkHouseModel", 52, "store", 11, 15, 808), ("MarkHouseModel", 54, "get", 11, 16, 817), ("MarkHouseModel", 56, "set", 11, 17, 824), ("MarkHouseModel", 58, "call", 11, 18, 831), ("MarkHouseModel", 60, "ret", 11, 19, 839), ("MarkHouseModel", 62, "add", 11, 20, 846), ("MarkHouseModel", 64, "sub", 11, 21, 853), ("MarkHouseModel", 66, "mul", 11, 22, 860), ("MarkHouseModel", 68, "dup", 11, 23, 867), ("MarkHouseModel", 70, "pop", 11, 24, 874), ("MarkHouseModel", 72, "jump", 11, 25, 881), ("MarkHouseModel", 74, "zero", 11, 26, 889), ("MarkHouseModel", 76, "is", 11, 27, 897), ("MarkHouseModel", 78, "as", 11, 28, 903), ("java/util/Arrays", 48, "fromIndex(", 5, 236, 467), ("java/util/Arrays", 57, ") > toIndex(", 6, 123, 481), ("java/util/Arrays", 59, ")", 6, 124, 497)]
end
section
/-! THE CONSTANTS AT THE START: by wip/whole/mkconst.py -/
def rk_el (t : Term) : Nat → List Int32 → List Cond
  | _, [] => []
  | j, x :: r => Cond.eq (.elem (.field t "java/lang/String" "value" "[B") (.int (Int32.ofNat j))) (.int x) :: rk_el t (j + 1) r
def rk_sc (own : String) (idx : Nat) (bs : List Int32) : List Cond :=
  Cond.exactly (.string own idx) "java/lang/String" :: Cond.eq (.field (.string own idx) "java/lang/String" "coder" "B") (.int 0) :: Cond.arrayOf (.field (.string own idx) "java/lang/String" "value" "[B") .byte :: Cond.eq (.length (.field (.string own idx) "java/lang/String" "value" "[B")) (.int (Int32.ofNat bs.length)) :: rk_el (.string own idx) 0 bs
theorem rk_el_mem (t : Term) : ∀ (bs : List Int32) (k j : Nat), j < bs.length → Cond.eq (.elem (.field t "java/lang/String" "value" "[B") (.int (Int32.ofNat (k + j)))) (.int (bs.getD j 0)) ∈ rk_el t k bs
  | [], k, j, h => by simp at h
  | x :: r, k, 0, _ => by simp [rk_el]
  | x :: r, k, j + 1, h => by
    have := rk_el_mem t r (k + 1) j (by simpa using h)
    simp only [rk_el, List.getD_cons_succ]
    rw [show k + (j + 1) = k + 1 + j by omega]
    exact List.mem_cons_of_mem _ this
theorem rk_of {args : Array Value} {s : State} {own : String} {idx : Nat} {bs : List Int32} {A : Nat → Prop} (hlen : bs.length < 2 ^ 31) (h : ∀ w ∈ rk_sc own idx bs, w.before args s = true) (hA : ∀ a : Nat, a < s.heap.size → ¬ A a) :
    ∃ q : Nat × Nat, (Term.string own idx).eval args s none [] s = some (.ref q.1) ∧ va_O "java/lang/String" q.1 A s s.heap ∧ va_OF "java/lang/String" "coder" "B" (.int 0) q.1 A s s.heap ∧ va_OF "java/lang/String" "value" "[B" (.ref q.2) q.1 A s s.heap ∧ va_T .byte q.2 bs.length (fun j => .int (bs.getD j 0)) A s s.heap := by
  have w1 := h _ (List.mem_cons_self)
  have w2 := h _ (List.mem_cons_of_mem _ List.mem_cons_self)
  have w3 := h _ (List.mem_cons_of_mem _ (List.mem_cons_of_mem _ List.mem_cons_self))
  have w4 := h _ (List.mem_cons_of_mem _ (List.mem_cons_of_mem _ (List.mem_cons_of_mem _ List.mem_cons_self)))
  have w5 : ∀ j : Nat, j < bs.length → (Cond.eq (.elem (.field (.string own idx) "java/lang/String" "value" "[B") (.int (Int32.ofNat j))) (.int (bs.getD j 0))).before args s = true := fun j hj => by
    have e := rk_el_mem (.string own idx) bs 0 j hj
    rw [Nat.zero_add] at e
    exact h _ (List.mem_cons_of_mem _ (List.mem_cons_of_mem _ (List.mem_cons_of_mem _ (List.mem_cons_of_mem _ e))))
  obtain ⟨a, c, cA, kA, q1, q2, q3, q4, q5, q6, -⟩ := Cond.exactly_spec (args := args) (first := s) (o := none) (s := s) (idx := []) (t := .string own idx) (cls := "java/lang/String") w1
  obtain ⟨t, ht, hT⟩ := va_Tof (f := fun j => .int (bs.getD j 0)) (A := A) hlen w3 (va_eqt w4) (fun j hj => va_eqt (w5 j hj)) hA
  exact ⟨(a, t), q1, ⟨cA, q3, q5, by rw [q6]; exact q2, hA a (Array.getElem?_eq_some_iff.mp q3).1⟩, vk_OFof q1 (va_eqt w2) hA, vk_OFof q1 ht hA, hT⟩
/-- what the Statement gives of the start, in one list -/
def rk_fl : List Cond := flatC (Jvm.Cond.and given_1 narrow_1)
def rk_zip : List (List Int32) → List (String × Nat × String × Nat × Nat × Nat) → Bool
  | [], [] => true
  | bs :: r, q :: r2 => (decide ((rt_tb q.2.2.2.1)[q.2.2.2.2.1]? = some (.stringRef q.1 q.2.1 q.2.2.1)) && (decide ((rk_fl.drop q.2.2.2.2.2).take (4 + bs.length) = rk_sc q.1 q.2.1 bs) && decide (bs.length < 2 ^ 31))) && rk_zip r r2
  | _, _ => false
theorem rk_zip_ok : rk_zip rt_ST rt_so = true := by decide +kernel
theorem rk_zip_at : ∀ {l : List (List Int32)} {l2 : List (String × Nat × String × Nat × Nat × Nat)} {i : Nat} {bs : List Int32}, rk_zip l l2 = true → rt_nth l i = some bs → ∃ q, rt_nth l2 i = some q ∧ Cond.stringRef q.1 q.2.1 q.2.2.1 ∈ lw_tbl ∧ (∀ w ∈ rk_sc q.1 q.2.1 bs, w ∈ rk_fl) ∧ bs.length < 2 ^ 31
  | [], _, _, _, _, h => by cases h
  | _ :: _, [], _, _, h, _ => by cases h
  | b0 :: r, q0 :: r2, 0, bs, h, hi => by
    cases hi
    simp only [rk_zip, Bool.and_eq_true, decide_eq_true_eq] at h
    obtain ⟨⟨h1, h2, h3⟩, -⟩ := h
    refine ⟨q0, rfl, rt_tb_in (List.mem_of_getElem? h1), fun w hw => ?_, h3⟩
    rw [← h2] at hw
    exact List.mem_of_mem_drop (List.mem_of_mem_take hw)
  | b0 :: r, q0 :: r2, i + 1, bs, h, hi => by
    simp only [rk_zip, Bool.and_eq_true] at h
    exact rk_zip_at (l := r) (l2 := r2) (i := i) h.2 hi
theorem rt_nth_lt {α : Type} {x : α} : ∀ {l : List α} {n : Nat}, rt_nth l n = some x → n < l.length
  | [], _, h => by cases h
  | a :: r, 0, _ => by simp
  | a :: r, n + 1, h => by
    have := rt_nth_lt (l := r) h
    simpa using this
def rk_ST_n : Bool := Nat.ble rt_ST.length 1000
theorem rk_ST_lt {i : Nat} {bs : List Int32} (h : rt_sb i = some bs) : i < 1000 := Nat.lt_of_lt_of_le (rt_nth_lt h) (Nat.le_of_ble_eq_true (by decide +kernel))
def rk_ad (b f : Nat) (g : Nat → Nat × Nat) (k : Nat) : Nat := if k = rx_S then b else if k = rx_Fm then f else if (k - rx_B) % 2 = 0 then (g ((k - rx_B) / 2)).1 else (g ((k - rx_B) / 2)).2
theorem rk_ad_K {b f : Nat} {g : Nat → Nat × Nat} {i : Nat} (hi : i < 1000) : rk_ad b f g (rx_K i) = (g i).1 := by
  have e : rx_K i - rx_B = 2 * i := by unfold rx_K; omega
  have e2 : 2 * i / 2 = i := by omega
  have e3 : 2 * i % 2 = 0 := by omega
  unfold rk_ad
  rw [if_neg (by unfold rx_K rx_S; omega), if_neg (by unfold rx_K rx_Fm; omega), e, if_pos e3, e2]
theorem rk_ad_V {b f : Nat} {g : Nat → Nat × Nat} {i : Nat} (hi : i < 1000) : rk_ad b f g (rx_V i) = (g i).2 := by
  have e : rx_V i - rx_B = 2 * i + 1 := by unfold rx_V; omega
  have e2 : (2 * i + 1) / 2 = i := by omega
  have e3 : ¬ (2 * i + 1) % 2 = 0 := by omega
  unfold rk_ad
  rw [if_neg (by unfold rx_V rx_S; omega), if_neg (by unfold rx_V rx_Fm; omega), e, if_neg e3, e2]
theorem rk_ad_S {b f : Nat} {g : Nat → Nat × Nat} : rk_ad b f g rx_S = b := by
  unfold rk_ad
  exact if_pos rfl
theorem rx_FS : rx_Fm ≠ rx_S := by unfold rx_Fm rx_S; omega
theorem rk_ad_F {b f : Nat} {g : Nat → Nat × Nat} : rk_ad b f g rx_Fm = f := by
  unfold rk_ad
  rw [if_neg rx_FS]
  exact if_pos rfl
theorem rx_S_B : rx_B ≤ rx_S := Nat.le_add_right _ _
theorem rx_Fm_B : rx_B ≤ rx_Fm := Nat.le_add_right _ _
theorem rk_cov {x : ExceptionTableEntry} {pc : Nat} (h : x.startPc ≤ pc ∧ pc < x.endPc) : covers x pc = true := by simpa [covers] using h
def rk_ktq (own : String) (idx : Nat) (v : Value) : Bool := match v with
  | .ref k => (List.range 1000).any (fun i => Nat.beq k (rx_K i) && (match rt_nth rt_ST i, rt_nth rt_so i with
    | some _, some z => decide (z.1 = own) && decide (z.2.1 = idx)
    | _, _ => false))
  | _ => true
def rk_ktc : Bool := rt_CT.all (fun r => r.2.2.2.2.1.all (fun q => rk_ktq r.1 q.1 q.2))
theorem rk_ktc_ok : rk_ktc = true := by decide +kernel
def rk_gtc : Bool := rt_CT.all (fun r => r.2.2.2.2.2.2.2.all (fun q => decide (r.1 = "java/lang/String") && (decide (q = (38, some (.int 1))) || decide (q = (1053, none)))))
theorem rk_gtc_ok : rk_gtc = true := by decide +kernel
def rk_nec : Bool := rt_CT.all (fun r => r.2.2.2.1.all (fun q => Nat.ble 10 q.2.1 = false || (List.range 17).any (fun a => decide (Cond.methodLinkNest r.1 q.1 (rt_yn q.2.2.1) "MarkHouse" ∈ rt_tb a))))
theorem rk_nec_ok : rk_nec = true := by decide +kernel
def rk_ex (c : Nat) : String := if c = 13 then "java/lang/IllegalArgumentException" else if c = 19 then "java/lang/IllegalStateException" else "java/util/NoSuchElementException"
def rk_any (w : Cond) : Bool := (List.range 17).any (fun a => decide (w ∈ rt_tb a))
theorem rk_any_in {w : Cond} (h : rk_any w = true) : w ∈ lw_tbl := by
  obtain ⟨a, -, h⟩ := List.any_eq_true.mp h
  exact rt_tb_in (of_decide_eq_true h)
def rk_hd1 (M : rt_M) (q : Nat × String × Nat × Fin 4) (x : ExceptionTableEntry) : Bool := covers x q.1 && (decide (x.catchType ≠ 0) && (decide (x.handlerPc = q.2.2.1) && (decide (Cond.classLink (rt_cn M.1) x.catchType (rk_ex x.catchType) ∈ rt_fx) && rk_any (.castable q.2.1 (rk_ex x.catchType)))))
def rk_hd2 (M : rt_M) (q : Nat × String × Nat × Fin 4) (y : ExceptionTableEntry) : Bool := covers y q.1 && (decide (y.catchType ≠ 0) && (decide (Cond.classLink (rt_cn M.1) y.catchType (rk_ex y.catchType) ∈ rt_fx) && decide (Cond.not (.castable q.2.1 (rk_ex y.catchType)) ∈ rk_fl)))
def rk_hdc : Bool := rt_MT.all (fun r => r.all (fun M => M.2.2.2.2.2.2.2.2.2.all (fun q => match tableOf M.2.2.2.2.2.2.2.2.1 with
  | [] => false
  | [x] => rk_hd1 M q x
  | y :: x :: _ => rk_hd1 M q y || (rk_hd2 M q y && rk_hd1 M q x))))
theorem rk_hdc_ok : rk_hdc = true := by decide +kernel
theorem rk_hdm {sc : Nat × (Nat → Int32)} {fm : Value} {mi pc hpc : Nat} {E : String} {k : Fin 4} {s : State} (hN : ∀ {w : Cond}, w.onTables = true → w ∈ lw_tbl → va_Nw w s) (hF : ∀ {C T : String}, Cond.not (.castable C T) ∈ rk_fl → va_Nc C T s) (h : rt_ht mi pc E = some (hpc, k)) : rx_Hd (rt_P sc fm) mi pc E hpc s := by
  unfold rt_ht at h
  split at h
  · rename_i M hM
    obtain ⟨r, hr1, hr2⟩ := rt_m_in hM
    have hq := List.all_eq_true.mp (List.all_eq_true.mp (List.all_eq_true.mp rk_hdc_ok r hr1) M hr2) _ (rt_find_mem h)
    have e1 : rx_hh (rt_P sc fm) mi = M.2.2.2.2.2.2.2.2.1 := by
      show rt_hh mi = _
      unfold rt_hh
      rw [hM]
    have e2 : (rx_yn (rt_P sc fm) mi).cls = rt_cn M.1 := by
      show (rt_yn mi).cls = _
      unfold rt_yn
      rw [hM]
    unfold rx_Hd
    rw [e1, e2]
    split at hq
    · cases hq
    · rename_i x hx
      simp only [rk_hd1, Bool.and_eq_true, decide_eq_true_eq] at hq
      obtain ⟨a1, a2, a3, a4, a5⟩ := hq
      exact Or.inl ⟨x, [], rk_ex x.catchType, hx, rk_cov a1, a2, a3, rx_TT_2 a4, hN rfl (rk_any_in a5)⟩
    · rename_i y x suf hx
      simp only [rk_hd1, rk_hd2, Bool.or_eq_true, Bool.and_eq_true, decide_eq_true_eq] at hq
      rcases hq with ⟨a1, a2, a3, a4, a5⟩ | ⟨⟨b1, b2, b3, b4⟩, a1, a2, a3, a4, a5⟩
      · exact Or.inl ⟨y, x :: suf, rk_ex y.catchType, hx, rk_cov a1, a2, a3, rx_TT_2 a4, hN rfl (rk_any_in a5)⟩
      · exact Or.inr ⟨y, x, suf, rk_ex y.catchType, rk_ex x.catchType, hx, rk_cov b1, b2, rx_TT_2 b3, hF b4, rk_cov a1, a2, a3, rx_TT_2 a4, hN rfl (rk_any_in a5)⟩
  · cases h
def rk_xs0 : List Cond := vx_atS "MarkHouse$Reader" 69 "java/lang/IllegalArgumentException" ["java/lang/RuntimeException", "java/lang/Exception"]
def rk_ngb (w : Cond) : Bool := match w with | .castable _ _ => true | .declares _ => true | _ => false
theorem rk_ngb_ok {w : Cond} (h : rk_ngb w = true) : rx_ng w := by
  cases w <;> first | (cases h; done) | exact Or.inl ⟨_, _, rfl⟩ | exact Or.inr ⟨_, rfl⟩
theorem rk_ng_ot {w : Cond} (h : rk_ngb w = true) : w.onTables = true := by
  cases w <;> first | (cases h; done) | rfl
theorem rk_xs0_ok : rk_xs0.all (fun w => (goodWord w || (rk_ngb w && rk_any w)) && vx_ot w) = true := by decide +kernel
theorem rk_xw0 {s : State} (hN : ∀ {w : Cond}, w.onTables = true → w ∈ lw_tbl → va_Nw w s) : ∀ w ∈ rk_xs0, w ∈ rx_TT ∨ (rx_ng w ∧ va_Nw w s) := by
  intro w hw
  have h := List.all_eq_true.mp rk_xs0_ok w hw
  simp only [Bool.and_eq_true, Bool.or_eq_true] at h
  rcases h.1 with g | ⟨g1, g2⟩
  · exact Or.inl (rx_TT_19 (List.mem_filter.mpr ⟨hw, g⟩))
  · exact Or.inr ⟨rk_ngb_ok g1, hN (rk_ng_ot g1) (rk_any_in g2)⟩
theorem rk_xo0 {own : String} {ik : Nat} {E : String} : ∀ w ∈ Cond.classLink own ik E :: Cond.initialized E :: rk_xs0, vx_ot w = true := by
  intro w hw
  rcases List.mem_cons.mp hw with rfl | hw
  · rfl
  rcases List.mem_cons.mp hw with rfl | hw
  · rfl
  have h := List.all_eq_true.mp rk_xs0_ok w hw
  simp only [Bool.and_eq_true] at h
  exact h.2
def rk_xs1 : List Cond := vx_atS "MarkHouse" 342 "java/lang/IllegalStateException" ["java/lang/RuntimeException", "java/lang/Exception"]
theorem rk_xs1_ok : rk_xs1.all (fun w => (goodWord w || (rk_ngb w && rk_any w)) && vx_ot w) = true := by decide +kernel
theorem rk_xw1 {s : State} (hN : ∀ {w : Cond}, w.onTables = true → w ∈ lw_tbl → va_Nw w s) : ∀ w ∈ rk_xs1, w ∈ rx_TT ∨ (rx_ng w ∧ va_Nw w s) := by
  intro w hw
  have h := List.all_eq_true.mp rk_xs1_ok w hw
  simp only [Bool.and_eq_true, Bool.or_eq_true] at h
  rcases h.1 with g | ⟨g1, g2⟩
  · exact Or.inl (rx_TT_20 (List.mem_filter.mpr ⟨hw, g⟩))
  · exact Or.inr ⟨rk_ngb_ok g1, hN (rk_ng_ot g1) (rk_any_in g2)⟩
theorem rk_xo1 {own : String} {ik : Nat} {E : String} : ∀ w ∈ Cond.classLink own ik E :: Cond.initialized E :: rk_xs1, vx_ot w = true := by
  intro w hw
  rcases List.mem_cons.mp hw with rfl | hw
  · rfl
  rcases List.mem_cons.mp hw with rfl | hw
  · rfl
  have h := List.all_eq_true.mp rk_xs1_ok w hw
  simp only [Bool.and_eq_true] at h
  exact h.2
def rk_xs2 : List Cond := vx_atS "MarkHouse" 358 "java/lang/IllegalArgumentException" ["java/lang/RuntimeException", "java/lang/Exception"]
theorem rk_xs2_ok : rk_xs2.all (fun w => (goodWord w || (rk_ngb w && rk_any w)) && vx_ot w) = true := by decide +kernel
theorem rk_xw2 {s : State} (hN : ∀ {w : Cond}, w.onTables = true → w ∈ lw_tbl → va_Nw w s) : ∀ w ∈ rk_xs2, w ∈ rx_TT ∨ (rx_ng w ∧ va_Nw w s) := by
  intro w hw
  have h := List.all_eq_true.mp rk_xs2_ok w hw
  simp only [Bool.and_eq_true, Bool.or_eq_true] at h
  rcases h.1 with g | ⟨g1, g2⟩
  · exact Or.inl (rx_TT_21 (List.mem_filter.mpr ⟨hw, g⟩))
  · exact Or.inr ⟨rk_ngb_ok g1, hN (rk_ng_ot g1) (rk_any_in g2)⟩
theorem rk_xo2 {own : String} {ik : Nat} {E : String} : ∀ w ∈ Cond.classLink own ik E :: Cond.initialized E :: rk_xs2, vx_ot w = true := by
  intro w hw
  rcases List.mem_cons.mp hw with rfl | hw
  · rfl
  rcases List.mem_cons.mp hw with rfl | hw
  · rfl
  have h := List.all_eq_true.mp rk_xs2_ok w hw
  simp only [Bool.and_eq_true] at h
  exact h.2
theorem rk_x_41_10 {sc : Nat × (Nat → Int32)} {fm : Value} {s : State} {args : Array Value} (hts : ∀ w ∈ lw_tbl, w.before args s = true) (hfl : ∀ w ∈ rk_fl, w.before args s = true) (hN : ∀ {w : Cond}, w.onTables = true → w ∈ lw_tbl → va_Nw w s) : ∃ ik is ic text sa names, rx_KT (rt_P sc fm) 41 10 "java/lang/IllegalArgumentException" 5 82 s ik is ic text sa names := by
  have hr : Cond.stringRef "MarkHouse$Reader" 67 "a FAULT" ∈ lw_tbl := rt_tb_in (List.mem_of_getElem? (l := rt_tb 9) (i := 67) (by decide +kernel))
  have hex : Cond.exactly (.string "MarkHouse$Reader" 67) "java/lang/String" ∈ rk_fl := by decide +kernel
  obtain ⟨a, c, cA, kA, q1, -⟩ := Cond.exactly_spec (args := args) (first := s) (o := none) (s := s) (idx := []) (t := .string "MarkHouse$Reader" 67) (cls := "java/lang/String") (hfl _ hex)
  exact ⟨65, 67, 69, "a FAULT", a, ["java/lang/RuntimeException", "java/lang/Exception"], (by decide +kernel : rt_hh 41 = []), by decide +kernel, by decide +kernel, rx_TT_2 (w := Cond.classLink "MarkHouse$Reader" 65 "java/lang/IllegalArgumentException") (by decide +kernel), rx_TT_2 (by decide +kernel), vk_R.of (own := "MarkHouse$Reader") (hts _ hr) q1, rk_xw0 hN, rk_xo0, (by decide +kernel : decode (rt_cb 41) 10 = .ok (.new 65, 3)), (by decide +kernel : decode (rt_cb 41) (10 + 3) = .ok (.dup, 1)), Or.inl ⟨(by decide +kernel : decode (rt_cb 41) (10 + 4) = .ok (.ldc 67, 2)), (by decide +kernel : decode (rt_cb 41) (10 + 6) = .ok (.invokespecial 69, 3)), (by decide +kernel : decode (rt_cb 41) (10 + 9) = .ok (.athrow, 1))⟩, by decide, by decide⟩
theorem rk_x_84_10 {sc : Nat × (Nat → Int32)} {fm : Value} {s : State} {args : Array Value} (hts : ∀ w ∈ lw_tbl, w.before args s = true) (hfl : ∀ w ∈ rk_fl, w.before args s = true) (hN : ∀ {w : Cond}, w.onTables = true → w ∈ lw_tbl → va_Nw w s) : ∃ ik is ic text sa names, rx_KT (rt_P sc fm) 84 10 "java/lang/IllegalStateException" 5 82 s ik is ic text sa names := by
  have hr : Cond.stringRef "MarkHouse" 340 "no program" ∈ lw_tbl := rt_tb_in (List.mem_of_getElem? (l := rt_tb 10) (i := 113) (by decide +kernel))
  have hex : Cond.exactly (.string "MarkHouse" 340) "java/lang/String" ∈ rk_fl := by decide +kernel
  obtain ⟨a, c, cA, kA, q1, -⟩ := Cond.exactly_spec (args := args) (first := s) (o := none) (s := s) (idx := []) (t := .string "MarkHouse" 340) (cls := "java/lang/String") (hfl _ hex)
  exact ⟨338, 340, 342, "no program", a, ["java/lang/RuntimeException", "java/lang/Exception"], (by decide +kernel : rt_hh 84 = []), by decide +kernel, by decide +kernel, rx_TT_2 (w := Cond.classLink "MarkHouse" 338 "java/lang/IllegalStateException") (by decide +kernel), rx_TT_2 (by decide +kernel), vk_R.of (own := "MarkHouse") (hts _ hr) q1, rk_xw1 hN, rk_xo1, (by decide +kernel : decode (rt_cb 84) 10 = .ok (.new 338, 3)), (by decide +kernel : decode (rt_cb 84) (10 + 3) = .ok (.dup, 1)), Or.inr ⟨(by decide +kernel : decode (rt_cb 84) (10 + 4) = .ok (.ldc_w 340, 3)), (by decide +kernel : decode (rt_cb 84) (10 + 7) = .ok (.invokespecial 342, 3)), (by decide +kernel : decode (rt_cb 84) (10 + 10) = .ok (.athrow, 1))⟩, by decide, by decide⟩
theorem rk_x_85_12 {sc : Nat × (Nat → Int32)} {fm : Value} {s : State} {args : Array Value} (hts : ∀ w ∈ lw_tbl, w.before args s = true) (hfl : ∀ w ∈ rk_fl, w.before args s = true) (hN : ∀ {w : Cond}, w.onTables = true → w ∈ lw_tbl → va_Nw w s) : ∃ ik is ic text sa names, rx_KT (rt_P sc fm) 85 12 "java/lang/IllegalArgumentException" 5 82 s ik is ic text sa names := by
  have hr : Cond.stringRef "MarkHouse" 356 "not 1 .. 10000 ACTS" ∈ lw_tbl := rt_tb_in (List.mem_of_getElem? (l := rt_tb 10) (i := 156) (by decide +kernel))
  have hex : Cond.exactly (.string "MarkHouse" 356) "java/lang/String" ∈ rk_fl := by decide +kernel
  obtain ⟨a, c, cA, kA, q1, -⟩ := Cond.exactly_spec (args := args) (first := s) (o := none) (s := s) (idx := []) (t := .string "MarkHouse" 356) (cls := "java/lang/String") (hfl _ hex)
  exact ⟨354, 356, 358, "not 1 .. 10000 ACTS", a, ["java/lang/RuntimeException", "java/lang/Exception"], (by decide +kernel : rt_hh 85 = []), by decide +kernel, by decide +kernel, rx_TT_2 (w := Cond.classLink "MarkHouse" 354 "java/lang/IllegalArgumentException") (by decide +kernel), rx_TT_2 (by decide +kernel), vk_R.of (own := "MarkHouse") (hts _ hr) q1, rk_xw2 hN, rk_xo2, (by decide +kernel : decode (rt_cb 85) 12 = .ok (.new 354, 3)), (by decide +kernel : decode (rt_cb 85) (12 + 3) = .ok (.dup, 1)), Or.inr ⟨(by decide +kernel : decode (rt_cb 85) (12 + 4) = .ok (.ldc_w 356, 3)), (by decide +kernel : decode (rt_cb 85) (12 + 7) = .ok (.invokespecial 358, 3)), (by decide +kernel : decode (rt_cb 85) (12 + 10) = .ok (.athrow, 1))⟩, by decide, by decide⟩
theorem rk_x_85_33 {sc : Nat × (Nat → Int32)} {fm : Value} {s : State} {args : Array Value} (hts : ∀ w ∈ lw_tbl, w.before args s = true) (hfl : ∀ w ∈ rk_fl, w.before args s = true) (hN : ∀ {w : Cond}, w.onTables = true → w ∈ lw_tbl → va_Nw w s) : ∃ ik is ic text sa names, rx_KT (rt_P sc fm) 85 33 "java/lang/IllegalStateException" 5 82 s ik is ic text sa names := by
  have hr : Cond.stringRef "MarkHouse" 363 "no run is under way" ∈ lw_tbl := rt_tb_in (List.mem_of_getElem? (l := rt_tb 10) (i := 159) (by decide +kernel))
  have hex : Cond.exactly (.string "MarkHouse" 363) "java/lang/String" ∈ rk_fl := by decide +kernel
  obtain ⟨a, c, cA, kA, q1, -⟩ := Cond.exactly_spec (args := args) (first := s) (o := none) (s := s) (idx := []) (t := .string "MarkHouse" 363) (cls := "java/lang/String") (hfl _ hex)
  exact ⟨338, 363, 342, "no run is under way", a, ["java/lang/RuntimeException", "java/lang/Exception"], (by decide +kernel : rt_hh 85 = []), by decide +kernel, by decide +kernel, rx_TT_2 (w := Cond.classLink "MarkHouse" 338 "java/lang/IllegalStateException") (by decide +kernel), rx_TT_2 (by decide +kernel), vk_R.of (own := "MarkHouse") (hts _ hr) q1, rk_xw1 hN, rk_xo1, (by decide +kernel : decode (rt_cb 85) 33 = .ok (.new 338, 3)), (by decide +kernel : decode (rt_cb 85) (33 + 3) = .ok (.dup, 1)), Or.inr ⟨(by decide +kernel : decode (rt_cb 85) (33 + 4) = .ok (.ldc_w 363, 3)), (by decide +kernel : decode (rt_cb 85) (33 + 7) = .ok (.invokespecial 342, 3)), (by decide +kernel : decode (rt_cb 85) (33 + 10) = .ok (.athrow, 1))⟩, by decide, by decide⟩
def rk_xtc : Bool := (List.range (16 * rt_MT.length)).all (fun mi => match rt_m mi with
  | some M => M.2.2.2.2.2.2.2.1.all (fun q => decide ((mi, q) = (41, 10, "java/lang/IllegalArgumentException", 5, 82)) || decide ((mi, q) = (84, 10, "java/lang/IllegalStateException", 5, 82)) || decide ((mi, q) = (85, 12, "java/lang/IllegalArgumentException", 5, 82)) || decide ((mi, q) = (85, 33, "java/lang/IllegalStateException", 5, 82)))
  | none => true)
theorem rk_xtc_ok : rk_xtc = true := by decide +kernel
theorem rk_xt {mi pc : Nat} {E : String} {nf nl : Nat} (h : rt_xt mi pc = some (E, nf, nl)) : (mi, pc, E, nf, nl) = (41, 10, "java/lang/IllegalArgumentException", 5, 82) ∨ (mi, pc, E, nf, nl) = (84, 10, "java/lang/IllegalStateException", 5, 82) ∨ (mi, pc, E, nf, nl) = (85, 12, "java/lang/IllegalArgumentException", 5, 82) ∨ (mi, pc, E, nf, nl) = (85, 33, "java/lang/IllegalStateException", 5, 82) := by
  unfold rt_xt at h
  split at h
  · rename_i M hM
    have hlt : mi < 16 * rt_MT.length := by
      unfold rt_m at hM
      split at hM
      · rename_i r hr
        have := rt_nth_lt hr
        omega
      · cases hM
    have hq := List.all_eq_true.mp rk_xtc_ok mi (List.mem_range.mpr hlt)
    rw [hM] at hq
    have hq := List.all_eq_true.mp hq _ (rt_look_mem h)
    simp only [Bool.or_eq_true, decide_eq_true_eq] at hq
    rcases hq with (((h0) | h1) | h2) | h3
    · exact Or.inl h0
    · exact Or.inr (Or.inl h1)
    · exact Or.inr (Or.inr (Or.inl h2))
    · exact Or.inr (Or.inr (Or.inr (h3)))
  · cases h
set_option maxHeartbeats 4000000 in
theorem rk_KC {s : State} {b L : Nat} {xs : Nat → Int32} (hts : ∀ w ∈ lw_tbl, w.before #[Value.ref b] s = true) (hfl : ∀ w ∈ rk_fl, w.before #[Value.ref b] s = true) (hX : va_X b L xs s s.heap) (hb : b < s.heap.size) (hL : L < 2 ^ 31) :
    ∃ (fm : Value) (ad : Nat → Nat), (fm = .null ∨ fm = .ref rx_Fm) ∧ ad rx_S = b ∧ rx_KC (rt_P (L, xs) fm) (fun q => s.heap.size ≤ q) ad s s.heap := by
  have hA : ∀ a : Nat, a < s.heap.size → ¬ (fun q : Nat => s.heap.size ≤ q) a := fun a h => Nat.not_le.mpr h
  have hN : ∀ {w : Cond}, w.onTables = true → w ∈ lw_tbl → va_Nw w s := fun h1 h2 => va_Nw.of h1 (hts _ h2)
  have hF : ∀ {C T : String}, Cond.not (.castable C T) ∈ rk_fl → va_Nc C T s := fun h => va_Nc.of (hfl _ h)
  have h0 : ∀ i : Nat, ∃ q : Nat × Nat, ∀ bs, rt_sb i = some bs → ∃ z, rt_nth rt_so i = some z ∧ Cond.stringRef z.1 z.2.1 z.2.2.1 ∈ lw_tbl ∧ (Term.string z.1 z.2.1).eval #[Value.ref b] s none [] s = some (.ref q.1) ∧ va_O "java/lang/String" q.1 (fun q => s.heap.size ≤ q) s s.heap ∧ va_OF "java/lang/String" "coder" "B" (.int 0) q.1 (fun q => s.heap.size ≤ q) s s.heap ∧ va_OF "java/lang/String" "value" "[B" (.ref q.2) q.1 (fun q => s.heap.size ≤ q) s s.heap ∧ va_T .byte q.2 bs.length (fun j => .int (bs.getD j 0)) (fun q => s.heap.size ≤ q) s s.heap := by
    intro i
    cases hi : rt_sb i with
    | none => exact ⟨(0, 0), fun bs h => by cases h⟩
    | some bs =>
      obtain ⟨z, z1, z2, z3, z4⟩ := rk_zip_at rk_zip_ok (show rt_nth rt_ST i = some bs from hi)
      obtain ⟨q, q1⟩ := rk_of (A := fun q => s.heap.size ≤ q) z4 (fun w hw => hfl w (z3 w hw)) hA
      exact ⟨q, fun bs' h => by cases h; exact ⟨z, z1, z2, q1⟩⟩
  obtain ⟨g, hg⟩ := Classical.axiomOfChoice h0
  have hcs : va_Z "java/lang/String" "COMPACT_STRINGS" "Z" (.int 1) (fun q => s.heap.size ≤ q) s s.heap := va_Zof (hts _ (rk_any_in (by decide +kernel))) (hts _ (rk_any_in (by decide +kernel))) (va_eqi (hfl _ (by decide +kernel))) hA
  have hfm : va_Zq "jdk/internal/util/Preconditions" "SIOOBE_FORMATTER" "Ljava/util/function/BiFunction;" (fun q => s.heap.size ≤ q) s s.heap := va_Zqof (hts _ (rk_any_in (by decide +kernel))) (hts _ (rk_any_in (by decide +kernel))) (hfl _ (by decide +kernel)) hA
  have main : ∀ (fm : Value) (f : Nat), (∀ k, fm = .ref k → rx_B ≤ k) → va_Z "jdk/internal/util/Preconditions" "SIOOBE_FORMATTER" "Ljava/util/function/BiFunction;" (rx_v (rk_ad b f g) fm) (fun q => s.heap.size ≤ q) s s.heap → rx_KC (rt_P (L, xs) fm) (fun q => s.heap.size ≤ q) (rk_ad b f g) s s.heap := by
    intro fm f hfr hfz
    refine ⟨fun mi idx k hk => ?_, fun i bs hb => ?_, fun mi idx v hv => ?_, fun t C ht => ?_, fun mi idx kd mj n hc hk => ?_, fun a n f' hf => ?_, fun mi pc E hpc k hk => ?_, ?_, ?_, fun mi pc E nf nl hx => ?_⟩
    · have hk : rt_kt mi idx = some (.ref k) := hk
      unfold rt_kt at hk
      split at hk
      · rename_i r hr
        obtain ⟨hr1, hr2⟩ := rt_cl_in hr
        have hq := List.all_eq_true.mp (List.all_eq_true.mp rk_ktc_ok r hr1) _ (rt_look_mem hk)
        obtain ⟨i, -, hq⟩ := List.any_eq_true.mp hq
        obtain ⟨k1, k2⟩ := (Bool.and_eq_true _ _).mp hq
        have k1 := Nat.eq_of_beq_eq_true k1
        refine ⟨by rw [k1]; exact Nat.le_add_right _ _, ?_⟩
        split at k2
        · rename_i bs z hst hso
          have k2 := (Bool.and_eq_true _ _).mp k2
          have k3 := of_decide_eq_true k2.1
          have k4 : z.2.1 = idx := of_decide_eq_true k2.2
          obtain ⟨z', z1, z2, z3, -⟩ := hg i bs hst
          rw [hso] at z1
          cases z1
          refine ⟨z.2.2.1, ?_⟩
          show vk_R (rt_yn mi).cls idx _ _ s
          rw [hr2, ← k3, ← k4, k1, rk_ad_K (rk_ST_lt hst)]
          exact vk_R.of (hts _ z2) z3
        · cases k2
      · cases hk
    · obtain ⟨z, z1, z2, z3, z4, z5, z6, z7⟩ := hg i bs hb
      rw [rk_ad_K (rk_ST_lt hb), rk_ad_V (rk_ST_lt hb)]
      exact ⟨z4, z5, z6, z7⟩
    · have hv : rt_gt fm mi idx = some v := hv
      unfold rt_gt at hv
      split at hv
      · rename_i r hr
        obtain ⟨hr1, hr2⟩ := rt_cl_in hr
        have hchk := fun q hq => List.all_eq_true.mp (List.all_eq_true.mp rk_gtc_ok r hr1) q hq
        split at hv
        · rename_i v' hl
          cases hv
          have hq := hchk _ (rt_look_mem hl)
          rw [Bool.and_eq_true, Bool.or_eq_true] at hq
          have e1 := of_decide_eq_true hq.1
          rcases hq.2 with e2 | e2 <;> have e2 := of_decide_eq_true e2
          · cases e2
            refine ⟨(fun k e => by cases e), "java/lang/String", "COMPACT_STRINGS", "Z", hcs, ?_⟩
            show Cond.fieldLink (rt_yn mi).cls 38 _ _ _ ∈ rx_TT
            rw [hr2, e1]
            exact rx_TT_2 (by decide +kernel)
          · cases e2
        · rename_i hl
          cases hv
          have hq := hchk _ (rt_look_mem hl)
          rw [Bool.and_eq_true, Bool.or_eq_true] at hq
          have e1 := of_decide_eq_true hq.1
          rcases hq.2 with e2 | e2 <;> have e2 := of_decide_eq_true e2
          · cases e2
          · cases e2
            refine ⟨hfr, "jdk/internal/util/Preconditions", "SIOOBE_FORMATTER", "Ljava/util/function/BiFunction;", hfz, ?_⟩
            show Cond.fieldLink (rt_yn mi).cls 1053 _ _ _ ∈ rx_TT
            rw [hr2, e1]
            exact rx_TT_2 (by decide +kernel)
        · cases hv
      · cases hv
    · have hC : C = "MarkHouse$Order" ∨ C = "MarkHouse$Kind" ∨ C = "java/lang/String" := by
        unfold rx_ty at ht
        match t, ht with
        | 0, ht => cases ht
        | 1, ht => cases ht
        | 2, ht => cases ht
        | 3, ht => cases ht
        | 4, ht => cases ht; exact Or.inl rfl
        | 5, ht => cases ht; exact Or.inr (Or.inl rfl)
        | 6, ht => cases ht; exact Or.inr (Or.inr rfl)
        | t + 7, ht => simp at ht
      have hao : ∀ C : String, Cond.arrayOver (.object C) ∈ lw_tbl → va_AO C s := fun C h => hts _ h
      rcases hC with rfl | rfl | rfl
      · exact hao _ (rk_any_in (by decide +kernel))
      · exact hao _ (rk_any_in (by decide +kernel))
      · exact hao _ (rk_any_in (by decide +kernel))
    · have hc : rt_ct mi idx = some (kd, mj, n) := hc
      unfold rt_ct at hc
      split at hc
      · rename_i r hr
        obtain ⟨hr1, hr2⟩ := rt_cl_in hr
        have hq := List.all_eq_true.mp (List.all_eq_true.mp rk_nec_ok r hr1) _ (rt_look_mem hc)
        refine ⟨"MarkHouse", ?_⟩
        show va_Nw (.methodLinkNest (rt_yn mi).cls idx (rt_yn mj) "MarkHouse") s
        rw [hr2]
        refine hN rfl ?_
        rw [Bool.or_eq_true] at hq
        rcases hq with hq | hq
        · have := of_decide_eq_true hq
          have h2 : Nat.ble 10 kd = true := Nat.ble_eq.mpr hk
          rw [h2] at this
          cases this
        · exact rk_any_in hq
      · cases hc
    · have hf : rt_ci (L, xs) a = some (n, f') := hf
      unfold rt_ci at hf
      split at hf
      · rename_i e
        cases hf
        have e := Nat.eq_of_beq_eq_true e
        subst e
        refine ⟨rx_S_B, ?_⟩
        obtain ⟨scr, x1, x2, x3, x4, x5⟩ := hX
        rw [rk_ad_S]
        exact ⟨scr, x1, x2, x3, by omega, (by rw [x4]), x5, hA b (by assumption)⟩
      · cases hf
    · exact rk_hdm hN hF hk
    · exact vx_Zqof (hts _ (rk_any_in (by decide +kernel))) (hts _ (rk_any_in (by decide +kernel))) (hfl _ (by decide +kernel)) hA
    · exact vx_Zqof (hts _ (rk_any_in (by decide +kernel))) (hts _ (rk_any_in (by decide +kernel))) (hfl _ (by decide +kernel)) hA
    · have hx : rt_xt mi pc = some (E, nf, nl) := hx
      rcases rk_xt hx with e | e | e | e
      · cases e; exact rk_x_41_10 hts hfl hN
      · cases e; exact rk_x_84_10 hts hfl hN
      · cases e; exact rk_x_85_12 hts hfl hN
      · cases e; exact rk_x_85_33 hts hfl hN
  rcases hfm with hz | ⟨t, hz⟩
  · exact ⟨.null, rk_ad b 0 g, Or.inl rfl, rk_ad_S, main .null 0 (fun k e => by cases e) hz⟩
  · refine ⟨.ref rx_Fm, rk_ad b t g, Or.inr rfl, rk_ad_S, main (.ref rx_Fm) t (fun k e => ?_) ?_⟩
    · rw [← Value.ref.inj e]
      exact rx_Fm_B
    · have e : rx_v (rk_ad b t g) (.ref rx_Fm) = .ref t := congrArg Value.ref rk_ad_F
      rw [e]
      exact hz
end
section
/-! THE CLAIM OUT OF A RUN OF THE ABSTRACT MACHINE: by wip/whole/mktop.py -/
def R_law : String := "MarkHouseLaw"
def lw_P (b : Addr) (xs : List Int32) (args : Array Value) (s : State) : Prop := args = #[.ref b] ∧ s.IntsAt b xs ∧ xs.length ≤ 6 ∧ (Jvm.Cond.and given_1 narrow_1).before args s = true
def lw_Q (_ : Array Value) (s : State) (o : Outcome) (t : State) : Prop := o = .returned (some (.int 1)) ∧ Framed s o t [] 600002 7302232
/-- what is left: on every script the law's run answers 1, within the room -/
def rz_Runs : Prop := ∀ (fm : Value) (L : Nat) (xs : Nat → Int32), (fm = .null ∨ fm = .ref rx_Fm) → L ≤ 6 → ∃ (f : Nat) (L1 : List va_E) (c n : Nat), rx_run (rt_P (L, xs) fm) f 0 2048 84000 0 [(0, .ref rx_S)] [] [] = some (.inl (some (.int 1)), L1, c, n) ∧ c ≤ 600002 ∧ n ≤ 7302232
theorem rz_cls {s : State} {args : Array Value} (hts : ∀ w ∈ lw_tbl, w.before args s = true) : ∃ (dC : Nat → ClassId) (dI : Nat → Nat → Nat), ∀ (k : Nat) (q : vw_C), vwCl[k]? = some q → u_Kn s q.1 q.2.1 q.2.2 (dC k) (dI k) := by
  have h0 : ∀ k : Nat, ∃ z : ClassId × (Nat → Nat), ∀ q, vwCl[k]? = some q → u_Kn s q.1 q.2.1 q.2.2 z.1 z.2 := by
    intro k
    cases hk : vwCl[k]? with
    | none => exact ⟨(0, fun _ => 0), fun q h => by cases h⟩
    | some q =>
      obtain ⟨ty, h1, -⟩ := rt_okC k q hk
      have hi : Cond.instantiable q.1 q.2.2 ∈ lw_tbl := by
        have hq : (vwCl.all (fun q => rk_any (.instantiable q.1 q.2.2))) = true := by decide +kernel
        exact rk_any_in (List.all_eq_true.mp hq q (List.mem_of_getElem? hk))
      obtain ⟨cC, iS, h⟩ := u_known (C := q.1) (T := q.2.1) (N := q.2.2) hts (fun w hw => (rx_TT_in w (h1 w hw)).1) (hts _ hi)
      exact ⟨(cC, iS), fun q' e => by cases e; exact h⟩
  obtain ⟨g, hg⟩ := Classical.axiomOfChoice h0
  exact ⟨fun k => (g k).1, fun k => (g k).2, hg⟩
theorem rz_arrP {s : State} {args : Array Value} {ty : FieldType} (h : (Cond.arrayClass ty).before args s = true) (hne : ∀ C, ty ≠ .object C) : ∃ c : ClassId, ArrOfT s c ty ∧ va_RA s c ty := by
  obtain ⟨c, k, comp, h1, h2, h3⟩ := Cond.arrayClass_spec h
  refine ⟨c, fun N z => ⟨(fun k h => by cases h), k, h2, comp, h3⟩, ?_⟩
  cases ty <;> first | exact h1 | exact absurd rfl (hne _)
theorem rz_arrO {s : State} {C : String} (h : va_AO C s) : ∃ c : ClassId, ArrOfT s c (.object C) ∧ va_RA s c (.object C) := by
  obtain ⟨comp, cA, kA, h1, -, h3, h4, h5⟩ := Cond.arrayOver_spec h
  exact ⟨cA, fun N z => ⟨(fun k h => by cases h), kA, h3, comp, h4⟩, kA, comp, h3, h4, h1, h5⟩
theorem rz_arr {s : State} {args : Array Value} (hts : ∀ w ∈ lw_tbl, w.before args s = true) (hao : ∀ (t : Nat) (C : String), rx_ty[t]? = some (FieldType.object C) → va_AO C s) : ∃ dA : Nat → ClassId, ∀ (k : Nat) (q : ClassId × FieldType), (rx_tys dA)[k]? = some q → ArrOfT s q.1 q.2 ∧ va_RA s q.1 q.2 := by
  have h0 : ∀ t : Nat, ∃ c : ClassId, ∀ ty, rx_ty[t]? = some ty → ArrOfT s c ty ∧ va_RA s c ty := by
    intro t
    have pr : ∀ ty : FieldType, Cond.arrayClass ty ∈ rt_fx → (∀ C, ty ≠ .object C) → ∃ c : ClassId, ArrOfT s c ty ∧ va_RA s c ty := fun ty h hne => rz_arrP (hts _ (rx_TT_in _ (rx_TT_2 h)).1) hne
    match t with
    | 0 => obtain ⟨c, hc⟩ := pr .int (by decide +kernel) (fun C => by simp); exact ⟨c, fun ty e => by cases e; exact hc⟩
    | 1 => obtain ⟨c, hc⟩ := pr .long (by decide +kernel) (fun C => by simp); exact ⟨c, fun ty e => by cases e; exact hc⟩
    | 2 => obtain ⟨c, hc⟩ := pr .byte (by decide +kernel) (fun C => by simp); exact ⟨c, fun ty e => by cases e; exact hc⟩
    | 3 => obtain ⟨c, hc⟩ := pr .boolean (by decide +kernel) (fun C => by simp); exact ⟨c, fun ty e => by cases e; exact hc⟩
    | 4 => obtain ⟨c, hc⟩ := rz_arrO (hao 4 _ rfl); exact ⟨c, fun ty e => by cases e; exact hc⟩
    | 5 => obtain ⟨c, hc⟩ := rz_arrO (hao 5 _ rfl); exact ⟨c, fun ty e => by cases e; exact hc⟩
    | 6 => obtain ⟨c, hc⟩ := rz_arrO (hao 6 _ rfl); exact ⟨c, fun ty e => by cases e; exact hc⟩
    | t + 7 => exact ⟨0, fun ty e => by simp [rx_ty] at e⟩
  obtain ⟨g, hg⟩ := Classical.axiomOfChoice h0
  refine ⟨g, fun k q hq => ?_⟩
  rw [rx_tys_get] at hq
  cases hk : rx_ty[k]? with
  | none => rw [hk] at hq; cases hq
  | some ty =>
    rw [hk] at hq
    cases hq
    rw [Nat.zero_add]
    exact hg k ty hk
set_option maxHeartbeats 4000000 in
theorem lw_walk (hruns : rz_Runs) (l : Launch) (hst : l.stackTraces = false) (b : Addr) (xs : List Int32) : MetFree l x (headSpec (Jvm.Cond.code x code maxLocals ret :: tables_1) room_1) (lw_P b xs) (fun _ _ _ _ _ => True) lw_Q := by
  refine MetFree.of_bodyS (code := code) (maxLocals := maxLocals) (ret := ret) (by decide) ?_ ?_
  · intro args s m h hn
    obtain ⟨meth, c, h1, h2, h3, h4, h5, h6, -, -⟩ := Cond.code_spec hn (atoms_spec (ws := Jvm.Cond.code x code maxLocals ret :: tables_1) h _ List.mem_cons_self)
    exact ⟨meth, c, h1, h2, h3, h4, h5, h6⟩
  · intro p e s m args below meth c s₁ B hml0 hP _
    obtain ⟨rfl, hx, hbd, hgv⟩ := hP
    obtain ⟨scr, harrAt, hlist, hof, hsmall⟩ := hx
    obtain ⟨hcb, hkn, -, -⟩ := State.arrayAt?_spec harrAt
    have hown : s.vm.findClass R_law = some m.cls := findClass_of_methodNamed B.named
    have hts0 : ∀ c ∈ (Jvm.Cond.code x code maxLocals ret :: tables_1), c.before #[Value.ref b] s = true := atoms_spec (ws := Jvm.Cond.code x code maxLocals ret :: tables_1) B.pre
    have hts : ∀ w ∈ lw_tbl, w.before #[Value.ref b] s = true := k2_hts_sels lw_privs (fun w hw => hts0 w (List.mem_cons_of_mem _ hw)) lw_privs_ok
    have hml : c.maxLocals = 7 := B.maxLocals_eq (hts0 _ List.mem_cons_self)
    have X₀ : Stand p l e room_1 s m #[Value.ref b] below meth c s₁ [] 0 0 := Stand.of_body B
    have hh0 : s₁.heap = s.heap := by rw [B.state]; rfl
    have hsz : scr.slots.size = xs.length := by rw [← Array.length_toList, hlist, List.length_map]
    have hval : ∀ j : Nat, j < xs.length → scr.slots[j]? = some (.int (xs.getD j 0)) := fun j hj => by
      rw [← Array.getElem?_toList, hlist]
      simp [hj]
    have hbl : b < s.heap.size := (Array.getElem?_eq_some_iff.mp hcb).1
    have hX : va_X b xs.length (fun j => xs.getD j 0) s s.heap := ⟨scr, hcb, hof, hkn, hsz, hval⟩
    have htab : c.exceptionTable.toList = tableOf [] := by
      obtain ⟨meth9, c9, h1, h2, -, -, -, -, h7, -⟩ := Cond.code_spec B.named (hts0 _ List.mem_cons_self)
      cases Option.some.inj (h1.symm.trans B.method)
      cases Option.some.inj (h2.symm.trans (Stand.of_body B).code)
      rw [Array.isEmpty_iff.mp h7]
      rfl
    have hfl : ∀ w ∈ rk_fl, w.before #[Value.ref b] s = true := flat_of_before _ hgv
    obtain ⟨fm, ad, hfm, had, hKC⟩ := rk_KC hts hfl hX hbl (by omega)
    obtain ⟨dC, dI, hKc⟩ := rz_cls hts
    obtain ⟨dA, hKa⟩ := rz_arr hts hKC.2.2.2.1
    obtain ⟨f, L1, c1, n1, hrun, hc, hn⟩ := hruns fm xs.length (fun j => xs.getD j 0) hfm hbd
    have hl := lv_entry ([.ref b]) (n := 7) (Nat.le_of_ble_eq_true rfl)
    have K : ∃ ls : Array Slot, entryFrame m ([Value.ref b] : List Value).toArray 7 = F0 m 0 ls [] ∧ lv_has ls 7 [(0, .ref b)] := by
      rw [lg_entry_eq]
      exact ⟨_, rfl, hl⟩
    obtain ⟨ls, hls, hl⟩ := K
    have hW := rx_sound (rt_ok (xs.length, fun j => xs.getD j 0) fm hst) f 0 2048 84000 0 _ [] [] _ hrun p e room_1 s m #[Value.ref b] below meth c s.heap [] 0 0 (dC, dI) dA (fun q => s.heap.size ≤ q) ad ls
      (fun _ _ o _ => o = .returned (some (.int 1))) (fun _ _ _ => False) (fun q => s.heap.size ≤ q)
      ⟨B.exec, B.bytes, hml, hown, fun w hw => hts w (rx_TT_in w hw).1, (name_of_methodNamed B.named B.method).1, B.notSynchronized, B.returns, ⟨hKc, hKa⟩, fun q hq => hq, htab⟩ rfl rfl
      (by show 0 + c1 ≤ 600002; omega) (by show 0 + n1 ≤ 7302232; omega)
      ⟨(fun k q h => by simp [rx_cw] at h), ⟨(fun i j p q h => by simp [rx_cw] at h), (fun k q h => by simp [rx_cw] at h)⟩, va_S.rf, (fun x hx => by cases hx), Nat.zero_le _⟩ hKC
      (by
        show lv_has ls 7 [(0, .ref (ad rx_S))]
        rw [had]
        exact hl)
      (fun q hq => by
        rw [List.mem_singleton.mp hq]
        intro k e
        cases e
        exact Or.inr (by unfold rx_S; omega))
      (fun v hv => by cases hv) (fun q hq => hq)
      (fun ad' v H' locs' t e1 _ _ _ _ _ _ => by
        cases e1
        rfl)
      (fun E ad' H' locs' t e1 _ _ _ _ _ => by cases e1)
    obtain ⟨t, a1, o, b1, b2, b3⟩ := hW s₁ hh0 X₀
    refine ⟨t, o, ?_, b1, b2, ?_⟩
    · have a2 := a1
      have hls2 : entryFrame m #[Value.ref b] maxLocals = F0 m 0 ls ([].map (rx_v ad)) := hls
      rw [hls2]
      exact a2
    · rcases b3 with ⟨rfl, L, ⟨g1, g2, g3⟩, g4⟩ | ⟨q, -, E, ce, L, hF, -⟩
      · exact ⟨rfl, g1, g2, g3.weaken (fun y hy hlt => absurd hlt (Nat.not_lt.mpr (g4 y hy))) (Nat.le_refl _) (Nat.le_refl _)⟩
      · exact hF.elim
theorem lw_pre_spec {args : Array Value} {s : State} (h : (Jvm.Cond.and given_1 narrow_1).before args s = true) (hr : rest_1_c.before args s = true) : ∃ (b : Addr) (xs : List Int32), lw_P b xs args s := by
  have hs := flat_of_before _ h
  have hq := flat_of_before _ hr
  have hc : (Cond.count 1).before args s = true := hs _ (by decide +kernel)
  have harr : (Cond.arrayOf (.arg 0) .int).before args s = true := hs _ (by decide +kernel)
  have hle : (Cond.le (.length (.arg 0)) (.int 6)).before args s = true := hs _ (by decide +kernel)
  have hlen : (Cond.isInt (.length (.arg 0))).before args s = true := hq _ (by decide +kernel)
  have hall : (Cond.all (.arg 0) (.isInt (.elem (.arg 0) (.index 0)))).before args s = true := hq _ (by decide +kernel)
  obtain ⟨b, xs, hb, hx⟩ := State.ints_of_pre rfl harr hlen hall
  have hsm : xs.length < 2 ^ 31 := hx.choose_spec.2.2.2
  have hev : (Term.length (.arg 0)).eval args s none [] s = some (.int xs.length.toInt32) := hx.length_eval hb
  have hv := Cond.le_ints hev (show (Term.int 6).eval args s none [] s = some (.int 6) from rfl)
  have hd : xs.length.toInt32 ≤ 6 := by
    simpa [Cond.before, Cond.holds, hv] using hle
  have hN : xs.length ≤ 6 := (Int32.ofNat_le_ofNat hsm (by decide)).mp (show Int32.ofNat xs.length ≤ Int32.ofNat 6 from hd)
  exact ⟨b, xs, Cond.one_arg hc (show args[0]? = some (.ref b) from hb), hx, hN, h⟩
theorem lw_comes (hruns : rz_Runs) (l : Launch) (hst : l.stackTraces = false) : Comes l x (Jvm.Cond.code x code maxLocals ret :: tables_1) room_1 (fun tb e args s => Calls_1 tb e args s ∧ rest_1 tb e args s ∧ Pre_1 tb e args s)
    (fun _ _ args s o t => lw_Q args s o t) := by
  intro p e ha hc hk s m args below hf hfit hheap happ hpre
  obtain ⟨b, xs, hP⟩ := lw_pre_spec hpre.2.2 hpre.2.1
  obtain ⟨k, o, h1, h2, h3, hQ⟩ := lw_walk hruns l hst b xs p e ha hc hk s m args below hf ((Spec.applies_iff_loose hf).mp happ).1 hP trivial
  exact ⟨k, o, h1, h2, h3, hQ⟩
theorem lw_frame {s t : State} {o : Outcome} {args : Array Value} (h : Framed s o t [] 600002 7302232) :
    Framed s o t (fieldLocs frame_1_writes args s ++ arrayLocs frame_1_arrays args s ++ staticLocs frame_1_statics s) 600002 7302232 := h
theorem lw_limb (hruns : rz_Runs) (L : Cond) (hL : ∀ (args : Array Value) (s t : State), L.after args s (.returned (some (.int 1))) t = true) :
    ArmFor flags0 classFile x code maxLocals ret World_1 tables_1 room_1 Calls_1 rest_1 Pre_1
      (fun tb e a s o t => postC L tb e a s o t ∧ Framed s o t (fieldLocs frame_1_writes a s ++ arrayLocs frame_1_arrays a s ++ staticLocs frame_1_statics s) 600002 7302232) := by
  intro l hfl _ _ p e ha hc hk s m args below hf hfit hheap happ hpre
  have hst : l.stackTraces = false := by
    unfold Launch.stackTraces
    rw [hfl]
    decide +kernel
  obtain ⟨k, o, h1, h2, h3, rfl, hF⟩ := lw_comes hruns l hst p e ha hc hk s m args below hf hfit hheap happ hpre
  exact ⟨k, _, h1, h2, h3, hL args s _, lw_frame hF⟩
/-- the claim out of the runs -/
theorem rz_claim (hruns : rz_Runs) : Claimed_1_1 ∧ Claimed_1_2 := ⟨lw_limb hruns limb_1_1 (fun args s t => by simp [limb_1_1, Cond.after, Cond.holds, Cond.value]), lw_limb hruns limb_1_2 (fun args s t => Cond.after_iff.mpr (by
  first | (rw [show limb_1_2 = Cond.eq .result (.int 1) from rfl, Cond.eq_ints (x := 1) (y := 1) rfl rfl]; simp; done) | (simp [limb_1_2, Cond.value, Term.eval]; done)))⟩
end
section
/-! RUNS THAT ASK NO SCRIPT -/
section RN
variable {P P' : rx_P}
/-- P' is P, but for arrays that nobody writes, of which P has none -/
def rn_le (P P' : rx_P) : Prop := rx_yn P' = rx_yn P ∧ rx_ml P' = rx_ml P ∧ rx_rt P' = rx_rt P ∧ rx_cd P' = rx_cd P ∧ rx_ft P' = rx_ft P ∧ rx_pt P' = rx_pt P ∧ rx_ct P' = rx_ct P ∧ rx_kt P' = rx_kt P ∧ rx_nt P' = rx_nt P ∧ rx_qt P' = rx_qt P ∧ rx_gt P' = rx_gt P ∧ rx_xt P' = rx_xt P ∧ rx_sb P' = rx_sb P ∧ rx_hh P' = rx_hh P ∧ rx_ht P' = rx_ht P ∧ (∀ a, rx_ci P a = none) ∧ ∀ a bs, rx_sb P ((a - rx_B) / 2) = some bs → rx_ci P' a = none
theorem rn_heap (hle : rn_le P P') {mi : Nat} {ins : Instr} {st : List Value} {L : List va_E} {x : List Value × List va_E × Nat × Nat} (h : rx_heap P mi ins st L = some x) : rx_heap P' mi ins st L = some x := by
  obtain ⟨-, -, -, -, e5, e6, -, e8, e9, e10, e11, -, e13, -, -, hn, hs⟩ := hle
  unfold rx_heap at h ⊢
  rw [e5, e6, e8, e9, e10, e11, e13]
  cases ins
  case iaload =>
    simp only at h ⊢
    split at h
    · split at h
      · exact h
      · cases h
      · rw [hn] at h
        cases h
    · cases h
  case arraylength =>
    simp only at h ⊢
    split at h
    · split at h
      · exact h
      · cases h
      · rw [hn] at h
        simp only at h
        split at h
        · rename_i bs hb
          rw [hs _ _ hb]
          exact h
        · cases h
    · cases h
  all_goals exact h
theorem rn_isa (hle : rn_le P P') {L : List va_E} {b : Nat} {C : String} : rx_isa P' L b C = rx_isa P L b C := by
  unfold rx_isa
  rw [hle.2.2.2.2.2.2.2.2.2.2.2.2.1]
/-- what neither returns nor calls has a heap's answer in both -/
theorem rn_none {mi : Nat} {ins : Instr} {st : List Value} {L : List va_E} (h : (∃ v, rx_ret ins st (rx_rt P mi) = some v) ∨ ∃ (rc : rx_F) (F Lo pc : Nat) (lv : rx_L) (r : rx_R), rx_call P rc mi F Lo pc lv st L ins = some r) : rx_heap P' mi ins st L = none := by
  rcases h with ⟨v, h⟩ | ⟨rc, F, Lo, pc, lv, r, h⟩
  · unfold rx_ret at h
    split at h
    case h_5 => cases h
    all_goals rfl
  · unfold rx_call at h
    split at h
    case h_4 => cases h
    all_goals rfl
theorem rn_inv (hle : rn_le P P') {rc rc' : rx_F} (h : ∀ mi F Lo pc lv st L r, rc mi F Lo pc lv st L = some r → rc' mi F Lo pc lv st L = some r) {th : Bool} {mi F Lo pc mj : Nat} {lv : rx_L} {as rest : List Value} {L : List va_E} {r : rx_R} (hr : rx_inv P rc th mi F Lo pc lv mj as rest L = some r) : rx_inv P' rc' th mi F Lo pc lv mj as rest L = some r := by
  have h1 := rv_inv (P := P) h hr
  have e : rx_inv P' rc' th mi F Lo pc lv mj as rest L = rx_inv P rc' th mi F Lo pc lv mj as rest L := by
    obtain ⟨e1, e2, e3, e4, e5, e6, e7, e8, e9, e10, e11, e12, e13, e14, e15, -⟩ := hle
    unfold rx_inv
    rw [e2, e14, e15]
  rw [e]
  exact h1
theorem rn_go (hle : rn_le P P') {rc rc' : rx_F} (h : ∀ mi F Lo pc lv st L r, rc mi F Lo pc lv st L = some r → rc' mi F Lo pc lv st L = some r) {mi F Lo pc : Nat} {lv : rx_L} {st : List Value} {L : List va_E} {r : rx_R} (hr : rx_go P rc mi F Lo pc lv st L = some r) : rx_go P' rc' mi F Lo pc lv st L = some r := by
  have hle0 := hle
  obtain ⟨e1, e2, e3, e4, e5, e6, e7, e8, e9, e10, e11, e12, e13, e14, e15, -, -⟩ := hle
  unfold rx_go at hr ⊢
  rw [e12, e4, e2, e3]
  split at hr
  · exact hr
  split at hr
  · cases hr
  split at hr
  · exact h _ _ _ _ _ _ _ _ hr
  split at hr
  · exact h _ _ _ _ _ _ _ _ hr
  split at hr
  · exact h _ _ _ _ _ _ _ _ hr
  split at hr
  · rename_i hh
    rw [rn_heap hle0 hh]
    exact rv_add (h _ _ _ _ _ _ _) hr
  split at hr
  · rename_i v hv
    rw [rn_none (P := P) (P' := P') (Or.inl ⟨v, hv⟩)]
    exact hr
  rw [rn_none (P := P) (P' := P') (Or.inr ⟨_, _, _, _, _, _, hr⟩)]
  simp only
  unfold rx_call at hr ⊢
  rw [e7, e1]
  simp only [rn_isa hle0]
  split at hr
  · split at hr
    · split at hr
      · split at hr
        · rename_i hc
          rw [if_pos hc]
          exact rn_inv hle0 h hr
        · cases hr
      · cases hr
    · cases hr
  · split at hr
    · split at hr
      · split at hr
        · rename_i hc
          rw [if_pos hc]
          exact rn_inv hle0 h hr
        · rename_i hn
          rw [if_neg hn]
          split at hr
          · rename_i hc
            rw [if_pos hc]
            exact rn_inv hle0 h hr
          · cases hr
      · cases hr
    · cases hr
  · split at hr
    · split at hr
      · rename_i hc
        rw [if_pos hc]
        split at hr
        · split at hr
          · rename_i hc2
            rw [if_pos hc2]
            exact h _ _ _ _ _ _ _ _ hr
          · cases hr
        · cases hr
      · rename_i hn
        rw [if_neg hn]
        split at hr
        · split at hr
          · rename_i hc
            rw [if_pos hc]
            exact rn_inv hle0 h hr
          · cases hr
        · cases hr
    · cases hr
  · cases hr
theorem rn_run (hle : rn_le P P') : ∀ (f mi F Lo pc : Nat) (lv : rx_L) (st : List Value) (L : List va_E) (r : rx_R), rx_run P f mi F Lo pc lv st L = some r → rx_run P' f mi F Lo pc lv st L = some r
  | 0, _, _, _, _, _, _, _, _, h => by cases h
  | f + 1, _, _, _, _, _, _, _, _, h => rn_go hle (rn_run hle f) h
end RN
/-- the program without a script -/
def rt_Pn (fm : Value) : rx_P := (rt_yn, rt_cb, rt_ml, rt_rt, rt_cd, rt_ft, rt_pt, rt_ct, rt_kt, rt_nt, rt_qt, rt_gt fm, rt_xt, rt_sb, (fun _ => none), rt_hh, rt_ht)
theorem rt_Pn_le {fm : Value} {sc : Nat × (Nat → Int32)} : rn_le (rt_Pn fm) (rt_P sc fm) := by
  refine ⟨(rfl : rt_yn = rt_yn), (rfl : rt_ml = rt_ml), (rfl : rt_rt = rt_rt), (rfl : rt_cd = rt_cd), (rfl : rt_ft = rt_ft), (rfl : rt_pt = rt_pt), (rfl : rt_ct = rt_ct), (rfl : rt_kt = rt_kt), (rfl : rt_nt = rt_nt), (rfl : rt_qt = rt_qt), (rfl : rt_gt fm = rt_gt fm), (rfl : rt_xt = rt_xt), (rfl : rt_sb = rt_sb), (rfl : rt_hh = rt_hh), (rfl : rt_ht = rt_ht), fun _ => rfl, fun a bs h => ?_⟩
  have h : rt_sb ((a - rx_B) / 2) = some bs := h
  show rt_ci sc a = none
  unfold rt_ci
  split
  · rename_i e
    have e := Nat.eq_of_beq_eq_true e
    have := rk_ST_lt h
    rw [e] at this
    exact absurd this (by unfold rx_S; rw [Nat.add_sub_cancel_left]; decide)
  · rfl
end
