section
-- ===== PART A: goes FIRST, ahead of the names: the tables' words, and 'selects' of the private methods out of them =====
/-- a private method of a class that the tables say can be made, by its rows of tables_1 -/
def lw_okq (q : MethodName × Nat) : Prop := (q.1.cls ≠ "java/lang/invoke/MethodHandle" ∧ q.1.cls ≠ "java/lang/invoke/VarHandle") ∧ Cond.instantiable q.1.cls q.2 ∈ tables_1 ∧ Cond.privateMethod q.1 ∈ tables_1 ∧ Cond.instanceMethod q.1 ∈ tables_1
theorem lw_p0 : lw_okq (⟨"java/lang/Throwable", "fillInStackTrace", "(I)Ljava/lang/Throwable;"⟩, 6) := ⟨⟨by decide +kernel, by decide +kernel⟩, List.mem_of_getElem? (i := 579) (by decide +kernel), List.mem_of_getElem? (i := 577) (by decide +kernel), List.mem_of_getElem? (i := 578) (by decide +kernel)⟩
theorem lw_p1 : lw_okq (⟨"PacketScheduler", "requireFlow", "(I)V"⟩, 10) := ⟨⟨by decide +kernel, by decide +kernel⟩, List.mem_of_getElem? (i := 29) (by decide +kernel), List.mem_of_getElem? (i := 764) (by decide +kernel), List.mem_of_getElem? (i := 765) (by decide +kernel)⟩
theorem lw_p2 : lw_okq (⟨"PacketScheduler", "requirePacket", "(I)V"⟩, 10) := ⟨⟨by decide +kernel, by decide +kernel⟩, List.mem_of_getElem? (i := 29) (by decide +kernel), List.mem_of_getElem? (i := 822) (by decide +kernel), List.mem_of_getElem? (i := 823) (by decide +kernel)⟩
theorem lw_p3 : lw_okq (⟨"PacketScheduler", "requireTransmission", "(I)V"⟩, 10) := ⟨⟨by decide +kernel, by decide +kernel⟩, List.mem_of_getElem? (i := 29) (by decide +kernel), List.mem_of_getElem? (i := 834) (by decide +kernel), List.mem_of_getElem? (i := 835) (by decide +kernel)⟩
theorem lw_p4 : lw_okq (⟨"PacketSchedulerModel", "tell", "(I)I"⟩, 29) := ⟨⟨by decide +kernel, by decide +kernel⟩, List.mem_of_getElem? (i := 1363) (by decide +kernel), List.mem_of_getElem? (i := 1480) (by decide +kernel), List.mem_of_getElem? (i := 1481) (by decide +kernel)⟩
theorem lw_p5 : lw_okq (⟨"PacketSchedulerModel", "raise", "(I)I"⟩, 29) := ⟨⟨by decide +kernel, by decide +kernel⟩, List.mem_of_getElem? (i := 1363) (by decide +kernel), List.mem_of_getElem? (i := 1514) (by decide +kernel), List.mem_of_getElem? (i := 1515) (by decide +kernel)⟩
theorem lw_p6 : lw_okq (⟨"PacketSchedulerModel", "flowFor", "(III)I"⟩, 29) := ⟨⟨by decide +kernel, by decide +kernel⟩, List.mem_of_getElem? (i := 1363) (by decide +kernel), List.mem_of_getElem? (i := 1518) (by decide +kernel), List.mem_of_getElem? (i := 1519) (by decide +kernel)⟩
theorem lw_p7 : lw_okq (⟨"PacketSchedulerModel", "matches", "(III)Z"⟩, 29) := ⟨⟨by decide +kernel, by decide +kernel⟩, List.mem_of_getElem? (i := 1363) (by decide +kernel), List.mem_of_getElem? (i := 1522) (by decide +kernel), List.mem_of_getElem? (i := 1523) (by decide +kernel)⟩
theorem lw_p8 : lw_okq (⟨"PacketSchedulerModel", "isFlow", "(I)Z"⟩, 29) := ⟨⟨by decide +kernel, by decide +kernel⟩, List.mem_of_getElem? (i := 1363) (by decide +kernel), List.mem_of_getElem? (i := 1530) (by decide +kernel), List.mem_of_getElem? (i := 1531) (by decide +kernel)⟩
theorem lw_p9 : lw_okq (⟨"PacketSchedulerModel", "bytesQueued", "(I)I"⟩, 29) := ⟨⟨by decide +kernel, by decide +kernel⟩, List.mem_of_getElem? (i := 1363) (by decide +kernel), List.mem_of_getElem? (i := 1534) (by decide +kernel), List.mem_of_getElem? (i := 1535) (by decide +kernel)⟩
theorem lw_p10 : lw_okq (⟨"PacketSchedulerModel", "ofFlow", "(II)I"⟩, 29) := ⟨⟨by decide +kernel, by decide +kernel⟩, List.mem_of_getElem? (i := 1363) (by decide +kernel), List.mem_of_getElem? (i := 1538) (by decide +kernel), List.mem_of_getElem? (i := 1539) (by decide +kernel)⟩
theorem lw_p11 : lw_okq (⟨"PacketSchedulerModel", "inQueue", "(II)I"⟩, 29) := ⟨⟨by decide +kernel, by decide +kernel⟩, List.mem_of_getElem? (i := 1363) (by decide +kernel), List.mem_of_getElem? (i := 1542) (by decide +kernel), List.mem_of_getElem? (i := 1543) (by decide +kernel)⟩
theorem lw_p12 : lw_okq (⟨"PacketSchedulerModel", "ofPacket", "(II)I"⟩, 29) := ⟨⟨by decide +kernel, by decide +kernel⟩, List.mem_of_getElem? (i := 1363) (by decide +kernel), List.mem_of_getElem? (i := 1546) (by decide +kernel), List.mem_of_getElem? (i := 1547) (by decide +kernel)⟩
theorem lw_p13 : lw_okq (⟨"PacketSchedulerModel", "droppedOf", "(I)I"⟩, 29) := ⟨⟨by decide +kernel, by decide +kernel⟩, List.mem_of_getElem? (i := 1363) (by decide +kernel), List.mem_of_getElem? (i := 1550) (by decide +kernel), List.mem_of_getElem? (i := 1551) (by decide +kernel)⟩
theorem lw_p14 : lw_okq (⟨"PacketSchedulerModel", "isUnused", "(I)Z"⟩, 29) := ⟨⟨by decide +kernel, by decide +kernel⟩, List.mem_of_getElem? (i := 1363) (by decide +kernel), List.mem_of_getElem? (i := 1562) (by decide +kernel), List.mem_of_getElem? (i := 1563) (by decide +kernel)⟩
theorem lw_p15 : lw_okq (⟨"PacketSchedulerModel", "outstandingOf", "(I)I"⟩, 29) := ⟨⟨by decide +kernel, by decide +kernel⟩, List.mem_of_getElem? (i := 1363) (by decide +kernel), List.mem_of_getElem? (i := 1566) (by decide +kernel), List.mem_of_getElem? (i := 1567) (by decide +kernel)⟩
def lw_privs_1 : List (MethodName × Nat) := [(⟨"java/lang/Throwable", "fillInStackTrace", "(I)Ljava/lang/Throwable;"⟩, 6), (⟨"PacketScheduler", "requireFlow", "(I)V"⟩, 10), (⟨"PacketScheduler", "requirePacket", "(I)V"⟩, 10), (⟨"PacketScheduler", "requireTransmission", "(I)V"⟩, 10), (⟨"PacketSchedulerModel", "tell", "(I)I"⟩, 29), (⟨"PacketSchedulerModel", "raise", "(I)I"⟩, 29), (⟨"PacketSchedulerModel", "flowFor", "(III)I"⟩, 29), (⟨"PacketSchedulerModel", "matches", "(III)Z"⟩, 29), (⟨"PacketSchedulerModel", "isFlow", "(I)Z"⟩, 29), (⟨"PacketSchedulerModel", "bytesQueued", "(I)I"⟩, 29), (⟨"PacketSchedulerModel", "ofFlow", "(II)I"⟩, 29), (⟨"PacketSchedulerModel", "inQueue", "(II)I"⟩, 29), (⟨"PacketSchedulerModel", "ofPacket", "(II)I"⟩, 29), (⟨"PacketSchedulerModel", "droppedOf", "(I)I"⟩, 29), (⟨"PacketSchedulerModel", "isUnused", "(I)Z"⟩, 29), (⟨"PacketSchedulerModel", "outstandingOf", "(I)I"⟩, 29)]
theorem lw_r1 : ∀ q ∈ lw_privs_1, lw_okq q := List.forall_mem_cons.mpr ⟨lw_p0, List.forall_mem_cons.mpr ⟨lw_p1, List.forall_mem_cons.mpr ⟨lw_p2, List.forall_mem_cons.mpr ⟨lw_p3, List.forall_mem_cons.mpr ⟨lw_p4, List.forall_mem_cons.mpr ⟨lw_p5, List.forall_mem_cons.mpr ⟨lw_p6, List.forall_mem_cons.mpr ⟨lw_p7, List.forall_mem_cons.mpr ⟨lw_p8, List.forall_mem_cons.mpr ⟨lw_p9, List.forall_mem_cons.mpr ⟨lw_p10, List.forall_mem_cons.mpr ⟨lw_p11, List.forall_mem_cons.mpr ⟨lw_p12, List.forall_mem_cons.mpr ⟨lw_p13, List.forall_mem_cons.mpr ⟨lw_p14, List.forall_mem_cons.mpr ⟨lw_p15, fun _ h => absurd h List.not_mem_nil⟩⟩⟩⟩⟩⟩⟩⟩⟩⟩⟩⟩⟩⟩⟩⟩
theorem lw_p16 : lw_okq (⟨"PacketSchedulerModel", "ofSending", "(II)I"⟩, 29) := ⟨⟨by decide +kernel, by decide +kernel⟩, List.mem_of_getElem? (i := 1363) (by decide +kernel), List.mem_of_getElem? (i := 1570) (by decide +kernel), List.mem_of_getElem? (i := 1571) (by decide +kernel)⟩
theorem lw_p17 : lw_okq (⟨"PacketSchedulerModel", "flowOfSending", "(I)I"⟩, 29) := ⟨⟨by decide +kernel, by decide +kernel⟩, List.mem_of_getElem? (i := 1363) (by decide +kernel), List.mem_of_getElem? (i := 1574) (by decide +kernel), List.mem_of_getElem? (i := 1575) (by decide +kernel)⟩
theorem lw_p18 : lw_okq (⟨"PacketSchedulerModel", "next", "()I"⟩, 29) := ⟨⟨by decide +kernel, by decide +kernel⟩, List.mem_of_getElem? (i := 1363) (by decide +kernel), List.mem_of_getElem? (i := 1586) (by decide +kernel), List.mem_of_getElem? (i := 1587) (by decide +kernel)⟩
theorem lw_p19 : lw_okq (⟨"PacketSchedulerModel", "isPacket", "(I)Z"⟩, 29) := ⟨⟨by decide +kernel, by decide +kernel⟩, List.mem_of_getElem? (i := 1363) (by decide +kernel), List.mem_of_getElem? (i := 1594) (by decide +kernel), List.mem_of_getElem? (i := 1595) (by decide +kernel)⟩
theorem lw_p20 : lw_okq (⟨"PacketSchedulerModel", "isSending", "(I)Z"⟩, 29) := ⟨⟨by decide +kernel, by decide +kernel⟩, List.mem_of_getElem? (i := 1363) (by decide +kernel), List.mem_of_getElem? (i := 1602) (by decide +kernel), List.mem_of_getElem? (i := 1603) (by decide +kernel)⟩
theorem lw_p21 : lw_okq (⟨"PacketSchedulerModel", "remember", "()V"⟩, 29) := ⟨⟨by decide +kernel, by decide +kernel⟩, List.mem_of_getElem? (i := 1363) (by decide +kernel), List.mem_of_getElem? (i := 1618) (by decide +kernel), List.mem_of_getElem? (i := 1619) (by decide +kernel)⟩
theorem lw_p22 : lw_okq (⟨"PacketSchedulerModel", "forgive", "(I)V"⟩, 29) := ⟨⟨by decide +kernel, by decide +kernel⟩, List.mem_of_getElem? (i := 1363) (by decide +kernel), List.mem_of_getElem? (i := 1628) (by decide +kernel), List.mem_of_getElem? (i := 1629) (by decide +kernel)⟩
theorem lw_p23 : lw_okq (⟨"PacketSchedulerModel", "addToFlow", "(III)V"⟩, 29) := ⟨⟨by decide +kernel, by decide +kernel⟩, List.mem_of_getElem? (i := 1363) (by decide +kernel), List.mem_of_getElem? (i := 1634) (by decide +kernel), List.mem_of_getElem? (i := 1635) (by decide +kernel)⟩
theorem lw_p24 : lw_okq (⟨"PacketSchedulerModel", "putPacket", "(III)V"⟩, 29) := ⟨⟨by decide +kernel, by decide +kernel⟩, List.mem_of_getElem? (i := 1363) (by decide +kernel), List.mem_of_getElem? (i := 1638) (by decide +kernel), List.mem_of_getElem? (i := 1639) (by decide +kernel)⟩
theorem lw_p25 : lw_okq (⟨"PacketSchedulerModel", "putInto", "(IIZ)V"⟩, 29) := ⟨⟨by decide +kernel, by decide +kernel⟩, List.mem_of_getElem? (i := 1363) (by decide +kernel), List.mem_of_getElem? (i := 1642) (by decide +kernel), List.mem_of_getElem? (i := 1643) (by decide +kernel)⟩
theorem lw_p26 : lw_okq (⟨"PacketSchedulerModel", "deliveredCount", "()I"⟩, 29) := ⟨⟨by decide +kernel, by decide +kernel⟩, List.mem_of_getElem? (i := 1363) (by decide +kernel), List.mem_of_getElem? (i := 1651) (by decide +kernel), List.mem_of_getElem? (i := 1652) (by decide +kernel)⟩
theorem lw_p27 : lw_okq (⟨"PacketSchedulerModel", "tick", "()V"⟩, 29) := ⟨⟨by decide +kernel, by decide +kernel⟩, List.mem_of_getElem? (i := 1363) (by decide +kernel), List.mem_of_getElem? (i := 1655) (by decide +kernel), List.mem_of_getElem? (i := 1656) (by decide +kernel)⟩
theorem lw_p28 : lw_okq (⟨"PacketSchedulerModel", "acknowledge", "(I)V"⟩, 29) := ⟨⟨by decide +kernel, by decide +kernel⟩, List.mem_of_getElem? (i := 1363) (by decide +kernel), List.mem_of_getElem? (i := 1659) (by decide +kernel), List.mem_of_getElem? (i := 1660) (by decide +kernel)⟩
theorem lw_p29 : lw_okq (⟨"PacketSchedulerModel", "putSending", "(III)V"⟩, 29) := ⟨⟨by decide +kernel, by decide +kernel⟩, List.mem_of_getElem? (i := 1363) (by decide +kernel), List.mem_of_getElem? (i := 1663) (by decide +kernel), List.mem_of_getElem? (i := 1664) (by decide +kernel)⟩
theorem lw_p30 : lw_okq (⟨"PacketSchedulerModel", "refund", "(I)V"⟩, 29) := ⟨⟨by decide +kernel, by decide +kernel⟩, List.mem_of_getElem? (i := 1363) (by decide +kernel), List.mem_of_getElem? (i := 1667) (by decide +kernel), List.mem_of_getElem? (i := 1668) (by decide +kernel)⟩
theorem lw_p31 : lw_okq (⟨"PacketSchedulerModel", "putCharge", "(IZ)V"⟩, 29) := ⟨⟨by decide +kernel, by decide +kernel⟩, List.mem_of_getElem? (i := 1363) (by decide +kernel), List.mem_of_getElem? (i := 1671) (by decide +kernel), List.mem_of_getElem? (i := 1672) (by decide +kernel)⟩
def lw_privs_2 : List (MethodName × Nat) := [(⟨"PacketSchedulerModel", "ofSending", "(II)I"⟩, 29), (⟨"PacketSchedulerModel", "flowOfSending", "(I)I"⟩, 29), (⟨"PacketSchedulerModel", "next", "()I"⟩, 29), (⟨"PacketSchedulerModel", "isPacket", "(I)Z"⟩, 29), (⟨"PacketSchedulerModel", "isSending", "(I)Z"⟩, 29), (⟨"PacketSchedulerModel", "remember", "()V"⟩, 29), (⟨"PacketSchedulerModel", "forgive", "(I)V"⟩, 29), (⟨"PacketSchedulerModel", "addToFlow", "(III)V"⟩, 29), (⟨"PacketSchedulerModel", "putPacket", "(III)V"⟩, 29), (⟨"PacketSchedulerModel", "putInto", "(IIZ)V"⟩, 29), (⟨"PacketSchedulerModel", "deliveredCount", "()I"⟩, 29), (⟨"PacketSchedulerModel", "tick", "()V"⟩, 29), (⟨"PacketSchedulerModel", "acknowledge", "(I)V"⟩, 29), (⟨"PacketSchedulerModel", "putSending", "(III)V"⟩, 29), (⟨"PacketSchedulerModel", "refund", "(I)V"⟩, 29), (⟨"PacketSchedulerModel", "putCharge", "(IZ)V"⟩, 29)]
theorem lw_r2 : ∀ q ∈ lw_privs_2, lw_okq q := List.forall_mem_cons.mpr ⟨lw_p16, List.forall_mem_cons.mpr ⟨lw_p17, List.forall_mem_cons.mpr ⟨lw_p18, List.forall_mem_cons.mpr ⟨lw_p19, List.forall_mem_cons.mpr ⟨lw_p20, List.forall_mem_cons.mpr ⟨lw_p21, List.forall_mem_cons.mpr ⟨lw_p22, List.forall_mem_cons.mpr ⟨lw_p23, List.forall_mem_cons.mpr ⟨lw_p24, List.forall_mem_cons.mpr ⟨lw_p25, List.forall_mem_cons.mpr ⟨lw_p26, List.forall_mem_cons.mpr ⟨lw_p27, List.forall_mem_cons.mpr ⟨lw_p28, List.forall_mem_cons.mpr ⟨lw_p29, List.forall_mem_cons.mpr ⟨lw_p30, List.forall_mem_cons.mpr ⟨lw_p31, fun _ h => absurd h List.not_mem_nil⟩⟩⟩⟩⟩⟩⟩⟩⟩⟩⟩⟩⟩⟩⟩⟩
theorem lw_p32 : lw_okq (⟨"PacketSchedulerModel", "deliver", "(III)V"⟩, 29) := ⟨⟨by decide +kernel, by decide +kernel⟩, List.mem_of_getElem? (i := 1363) (by decide +kernel), List.mem_of_getElem? (i := 1675) (by decide +kernel), List.mem_of_getElem? (i := 1676) (by decide +kernel)⟩
theorem lw_p33 : lw_okq (⟨"PacketSchedulerModel", "takeFrom", "(II)V"⟩, 29) := ⟨⟨by decide +kernel, by decide +kernel⟩, List.mem_of_getElem? (i := 1363) (by decide +kernel), List.mem_of_getElem? (i := 1679) (by decide +kernel), List.mem_of_getElem? (i := 1680) (by decide +kernel)⟩
theorem lw_p34 : lw_okq (⟨"PacketSchedulerModel", "declareLost", "(I)V"⟩, 29) := ⟨⟨by decide +kernel, by decide +kernel⟩, List.mem_of_getElem? (i := 1363) (by decide +kernel), List.mem_of_getElem? (i := 1683) (by decide +kernel), List.mem_of_getElem? (i := 1684) (by decide +kernel)⟩
theorem lw_p35 : lw_okq (⟨"PacketSchedulerModel", "isLatest", "(I)Z"⟩, 29) := ⟨⟨by decide +kernel, by decide +kernel⟩, List.mem_of_getElem? (i := 1363) (by decide +kernel), List.mem_of_getElem? (i := 1687) (by decide +kernel), List.mem_of_getElem? (i := 1688) (by decide +kernel)⟩
theorem lw_p36 : lw_okq (⟨"PacketSchedulerModel", "sendNext", "()Z"⟩, 29) := ⟨⟨by decide +kernel, by decide +kernel⟩, List.mem_of_getElem? (i := 1363) (by decide +kernel), List.mem_of_getElem? (i := 1693) (by decide +kernel), List.mem_of_getElem? (i := 1694) (by decide +kernel)⟩
theorem lw_p37 : lw_okq (⟨"PacketSchedulerModel", "send", "(II)V"⟩, 29) := ⟨⟨by decide +kernel, by decide +kernel⟩, List.mem_of_getElem? (i := 1363) (by decide +kernel), List.mem_of_getElem? (i := 1697) (by decide +kernel), List.mem_of_getElem? (i := 1698) (by decide +kernel)⟩
theorem lw_p38 : lw_okq (⟨"PacketSchedulerModel", "acknowledgmentTick", "(I)I"⟩, 29) := ⟨⟨by decide +kernel, by decide +kernel⟩, List.mem_of_getElem? (i := 1363) (by decide +kernel), List.mem_of_getElem? (i := 1701) (by decide +kernel), List.mem_of_getElem? (i := 1702) (by decide +kernel)⟩
theorem lw_p39 : lw_okq (⟨"PacketSchedulerModel", "record", "()V"⟩, 29) := ⟨⟨by decide +kernel, by decide +kernel⟩, List.mem_of_getElem? (i := 1363) (by decide +kernel), List.mem_of_getElem? (i := 1708) (by decide +kernel), List.mem_of_getElem? (i := 1709) (by decide +kernel)⟩
theorem lw_p40 : lw_okq (⟨"PacketSchedulerModel", "oldestTick", "()I"⟩, 29) := ⟨⟨by decide +kernel, by decide +kernel⟩, List.mem_of_getElem? (i := 1363) (by decide +kernel), List.mem_of_getElem? (i := 1720) (by decide +kernel), List.mem_of_getElem? (i := 1721) (by decide +kernel)⟩
theorem lw_p41 : lw_okq (⟨"PacketSchedulerModel", "areActive", "(III)Z"⟩, 29) := ⟨⟨by decide +kernel, by decide +kernel⟩, List.mem_of_getElem? (i := 1363) (by decide +kernel), List.mem_of_getElem? (i := 1726) (by decide +kernel), List.mem_of_getElem? (i := 1727) (by decide +kernel)⟩
theorem lw_p42 : lw_okq (⟨"PacketSchedulerModel", "recorded", "(II)I"⟩, 29) := ⟨⟨by decide +kernel, by decide +kernel⟩, List.mem_of_getElem? (i := 1363) (by decide +kernel), List.mem_of_getElem? (i := 1730) (by decide +kernel), List.mem_of_getElem? (i := 1731) (by decide +kernel)⟩
theorem lw_p43 : lw_okq (⟨"PacketSchedulerModel", "difference", "(IIII)J"⟩, 29) := ⟨⟨by decide +kernel, by decide +kernel⟩, List.mem_of_getElem? (i := 1363) (by decide +kernel), List.mem_of_getElem? (i := 1734) (by decide +kernel), List.mem_of_getElem? (i := 1735) (by decide +kernel)⟩
theorem lw_p44 : lw_okq (⟨"PacketSchedulerModel", "normalized", "(III)J"⟩, 29) := ⟨⟨by decide +kernel, by decide +kernel⟩, List.mem_of_getElem? (i := 1363) (by decide +kernel), List.mem_of_getElem? (i := 1738) (by decide +kernel), List.mem_of_getElem? (i := 1739) (by decide +kernel)⟩
theorem lw_p45 : lw_okq (⟨"PacketSchedulerModel", "worstOf", "(II)J"⟩, 29) := ⟨⟨by decide +kernel, by decide +kernel⟩, List.mem_of_getElem? (i := 1363) (by decide +kernel), List.mem_of_getElem? (i := 1747) (by decide +kernel), List.mem_of_getElem? (i := 1748) (by decide +kernel)⟩
theorem lw_p46 : lw_okq (⟨"PacketSchedulerModel", "mayForecast", "(III)Z"⟩, 29) := ⟨⟨by decide +kernel, by decide +kernel⟩, List.mem_of_getElem? (i := 1363) (by decide +kernel), List.mem_of_getElem? (i := 1768) (by decide +kernel), List.mem_of_getElem? (i := 1769) (by decide +kernel)⟩
theorem lw_p47 : lw_okq (⟨"PacketSchedulerModel", "layAside", "()V"⟩, 29) := ⟨⟨by decide +kernel, by decide +kernel⟩, List.mem_of_getElem? (i := 1363) (by decide +kernel), List.mem_of_getElem? (i := 1772) (by decide +kernel), List.mem_of_getElem? (i := 1773) (by decide +kernel)⟩
def lw_privs_3 : List (MethodName × Nat) := [(⟨"PacketSchedulerModel", "deliver", "(III)V"⟩, 29), (⟨"PacketSchedulerModel", "takeFrom", "(II)V"⟩, 29), (⟨"PacketSchedulerModel", "declareLost", "(I)V"⟩, 29), (⟨"PacketSchedulerModel", "isLatest", "(I)Z"⟩, 29), (⟨"PacketSchedulerModel", "sendNext", "()Z"⟩, 29), (⟨"PacketSchedulerModel", "send", "(II)V"⟩, 29), (⟨"PacketSchedulerModel", "acknowledgmentTick", "(I)I"⟩, 29), (⟨"PacketSchedulerModel", "record", "()V"⟩, 29), (⟨"PacketSchedulerModel", "oldestTick", "()I"⟩, 29), (⟨"PacketSchedulerModel", "areActive", "(III)Z"⟩, 29), (⟨"PacketSchedulerModel", "recorded", "(II)I"⟩, 29), (⟨"PacketSchedulerModel", "difference", "(IIII)J"⟩, 29), (⟨"PacketSchedulerModel", "normalized", "(III)J"⟩, 29), (⟨"PacketSchedulerModel", "worstOf", "(II)J"⟩, 29), (⟨"PacketSchedulerModel", "mayForecast", "(III)Z"⟩, 29), (⟨"PacketSchedulerModel", "layAside", "()V"⟩, 29)]
theorem lw_r3 : ∀ q ∈ lw_privs_3, lw_okq q := List.forall_mem_cons.mpr ⟨lw_p32, List.forall_mem_cons.mpr ⟨lw_p33, List.forall_mem_cons.mpr ⟨lw_p34, List.forall_mem_cons.mpr ⟨lw_p35, List.forall_mem_cons.mpr ⟨lw_p36, List.forall_mem_cons.mpr ⟨lw_p37, List.forall_mem_cons.mpr ⟨lw_p38, List.forall_mem_cons.mpr ⟨lw_p39, List.forall_mem_cons.mpr ⟨lw_p40, List.forall_mem_cons.mpr ⟨lw_p41, List.forall_mem_cons.mpr ⟨lw_p42, List.forall_mem_cons.mpr ⟨lw_p43, List.forall_mem_cons.mpr ⟨lw_p44, List.forall_mem_cons.mpr ⟨lw_p45, List.forall_mem_cons.mpr ⟨lw_p46, List.forall_mem_cons.mpr ⟨lw_p47, fun _ h => absurd h List.not_mem_nil⟩⟩⟩⟩⟩⟩⟩⟩⟩⟩⟩⟩⟩⟩⟩⟩
theorem lw_p48 : lw_okq (⟨"PacketSchedulerModel", "ticksUntilDelivered", "(II)I"⟩, 29) := ⟨⟨by decide +kernel, by decide +kernel⟩, List.mem_of_getElem? (i := 1363) (by decide +kernel), List.mem_of_getElem? (i := 1776) (by decide +kernel), List.mem_of_getElem? (i := 1777) (by decide +kernel)⟩
theorem lw_p49 : lw_okq (⟨"PacketSchedulerModel", "layBack", "()V"⟩, 29) := ⟨⟨by decide +kernel, by decide +kernel⟩, List.mem_of_getElem? (i := 1363) (by decide +kernel), List.mem_of_getElem? (i := 1780) (by decide +kernel), List.mem_of_getElem? (i := 1781) (by decide +kernel)⟩
theorem lw_p50 : lw_okq (⟨"PacketSchedulerModel", "write", "(Ljava/lang/String;)V"⟩, 29) := ⟨⟨by decide +kernel, by decide +kernel⟩, List.mem_of_getElem? (i := 1363) (by decide +kernel), List.mem_of_getElem? (i := 1809) (by decide +kernel), List.mem_of_getElem? (i := 1810) (by decide +kernel)⟩
theorem lw_p51 : lw_okq (⟨"PacketSchedulerModel", "writeNumber", "(I)V"⟩, 29) := ⟨⟨by decide +kernel, by decide +kernel⟩, List.mem_of_getElem? (i := 1363) (by decide +kernel), List.mem_of_getElem? (i := 1815) (by decide +kernel), List.mem_of_getElem? (i := 1816) (by decide +kernel)⟩
theorem lw_p52 : lw_okq (⟨"PacketSchedulerModel", "startText", "(I)V"⟩, 29) := ⟨⟨by decide +kernel, by decide +kernel⟩, List.mem_of_getElem? (i := 1363) (by decide +kernel), List.mem_of_getElem? (i := 1841) (by decide +kernel), List.mem_of_getElem? (i := 1842) (by decide +kernel)⟩
theorem lw_p53 : lw_okq (⟨"PacketSchedulerModel", "scan", "()V"⟩, 29) := ⟨⟨by decide +kernel, by decide +kernel⟩, List.mem_of_getElem? (i := 1363) (by decide +kernel), List.mem_of_getElem? (i := 1845) (by decide +kernel), List.mem_of_getElem? (i := 1846) (by decide +kernel)⟩
theorem lw_p54 : lw_okq (⟨"PacketSchedulerModel", "byteAt", "(I)I"⟩, 29) := ⟨⟨by decide +kernel, by decide +kernel⟩, List.mem_of_getElem? (i := 1363) (by decide +kernel), List.mem_of_getElem? (i := 1849) (by decide +kernel), List.mem_of_getElem? (i := 1850) (by decide +kernel)⟩
theorem lw_p55 : lw_okq (⟨"PacketSchedulerModel", "isLetter", "(I)Z"⟩, 29) := ⟨⟨by decide +kernel, by decide +kernel⟩, List.mem_of_getElem? (i := 1363) (by decide +kernel), List.mem_of_getElem? (i := 1853) (by decide +kernel), List.mem_of_getElem? (i := 1854) (by decide +kernel)⟩
theorem lw_p56 : lw_okq (⟨"PacketSchedulerModel", "isDigit", "(I)Z"⟩, 29) := ⟨⟨by decide +kernel, by decide +kernel⟩, List.mem_of_getElem? (i := 1363) (by decide +kernel), List.mem_of_getElem? (i := 1857) (by decide +kernel), List.mem_of_getElem? (i := 1858) (by decide +kernel)⟩
theorem lw_p57 : lw_okq (⟨"PacketSchedulerModel", "readClause", "()V"⟩, 29) := ⟨⟨by decide +kernel, by decide +kernel⟩, List.mem_of_getElem? (i := 1363) (by decide +kernel), List.mem_of_getElem? (i := 1861) (by decide +kernel), List.mem_of_getElem? (i := 1862) (by decide +kernel)⟩
theorem lw_p58 : lw_okq (⟨"PacketSchedulerModel", "isWord", "(Ljava/lang/String;)Z"⟩, 29) := ⟨⟨by decide +kernel, by decide +kernel⟩, List.mem_of_getElem? (i := 1363) (by decide +kernel), List.mem_of_getElem? (i := 1865) (by decide +kernel), List.mem_of_getElem? (i := 1866) (by decide +kernel)⟩
theorem lw_p59 : lw_okq (⟨"PacketSchedulerModel", "readFlow", "()V"⟩, 29) := ⟨⟨by decide +kernel, by decide +kernel⟩, List.mem_of_getElem? (i := 1363) (by decide +kernel), List.mem_of_getElem? (i := 1869) (by decide +kernel), List.mem_of_getElem? (i := 1870) (by decide +kernel)⟩
theorem lw_p60 : lw_okq (⟨"PacketSchedulerModel", "check", "(ZI)V"⟩, 29) := ⟨⟨by decide +kernel, by decide +kernel⟩, List.mem_of_getElem? (i := 1363) (by decide +kernel), List.mem_of_getElem? (i := 1873) (by decide +kernel), List.mem_of_getElem? (i := 1874) (by decide +kernel)⟩
theorem lw_p61 : lw_okq (⟨"PacketSchedulerModel", "fail", "(I)V"⟩, 29) := ⟨⟨by decide +kernel, by decide +kernel⟩, List.mem_of_getElem? (i := 1363) (by decide +kernel), List.mem_of_getElem? (i := 1877) (by decide +kernel), List.mem_of_getElem? (i := 1878) (by decide +kernel)⟩
theorem lw_p62 : lw_okq (⟨"PacketSchedulerModel", "advance", "()V"⟩, 29) := ⟨⟨by decide +kernel, by decide +kernel⟩, List.mem_of_getElem? (i := 1363) (by decide +kernel), List.mem_of_getElem? (i := 1881) (by decide +kernel), List.mem_of_getElem? (i := 1882) (by decide +kernel)⟩
theorem lw_p63 : lw_okq (⟨"PacketSchedulerModel", "putNumber", "(III)V"⟩, 29) := ⟨⟨by decide +kernel, by decide +kernel⟩, List.mem_of_getElem? (i := 1363) (by decide +kernel), List.mem_of_getElem? (i := 1885) (by decide +kernel), List.mem_of_getElem? (i := 1886) (by decide +kernel)⟩
def lw_privs_4 : List (MethodName × Nat) := [(⟨"PacketSchedulerModel", "ticksUntilDelivered", "(II)I"⟩, 29), (⟨"PacketSchedulerModel", "layBack", "()V"⟩, 29), (⟨"PacketSchedulerModel", "write", "(Ljava/lang/String;)V"⟩, 29), (⟨"PacketSchedulerModel", "writeNumber", "(I)V"⟩, 29), (⟨"PacketSchedulerModel", "startText", "(I)V"⟩, 29), (⟨"PacketSchedulerModel", "scan", "()V"⟩, 29), (⟨"PacketSchedulerModel", "byteAt", "(I)I"⟩, 29), (⟨"PacketSchedulerModel", "isLetter", "(I)Z"⟩, 29), (⟨"PacketSchedulerModel", "isDigit", "(I)Z"⟩, 29), (⟨"PacketSchedulerModel", "readClause", "()V"⟩, 29), (⟨"PacketSchedulerModel", "isWord", "(Ljava/lang/String;)Z"⟩, 29), (⟨"PacketSchedulerModel", "readFlow", "()V"⟩, 29), (⟨"PacketSchedulerModel", "check", "(ZI)V"⟩, 29), (⟨"PacketSchedulerModel", "fail", "(I)V"⟩, 29), (⟨"PacketSchedulerModel", "advance", "()V"⟩, 29), (⟨"PacketSchedulerModel", "putNumber", "(III)V"⟩, 29)]
theorem lw_r4 : ∀ q ∈ lw_privs_4, lw_okq q := List.forall_mem_cons.mpr ⟨lw_p48, List.forall_mem_cons.mpr ⟨lw_p49, List.forall_mem_cons.mpr ⟨lw_p50, List.forall_mem_cons.mpr ⟨lw_p51, List.forall_mem_cons.mpr ⟨lw_p52, List.forall_mem_cons.mpr ⟨lw_p53, List.forall_mem_cons.mpr ⟨lw_p54, List.forall_mem_cons.mpr ⟨lw_p55, List.forall_mem_cons.mpr ⟨lw_p56, List.forall_mem_cons.mpr ⟨lw_p57, List.forall_mem_cons.mpr ⟨lw_p58, List.forall_mem_cons.mpr ⟨lw_p59, List.forall_mem_cons.mpr ⟨lw_p60, List.forall_mem_cons.mpr ⟨lw_p61, List.forall_mem_cons.mpr ⟨lw_p62, List.forall_mem_cons.mpr ⟨lw_p63, fun _ h => absurd h List.not_mem_nil⟩⟩⟩⟩⟩⟩⟩⟩⟩⟩⟩⟩⟩⟩⟩⟩
theorem lw_p64 : lw_okq (⟨"PacketSchedulerModel", "number", "(II)I"⟩, 29) := ⟨⟨by decide +kernel, by decide +kernel⟩, List.mem_of_getElem? (i := 1363) (by decide +kernel), List.mem_of_getElem? (i := 1889) (by decide +kernel), List.mem_of_getElem? (i := 1890) (by decide +kernel)⟩
theorem lw_p65 : lw_okq (⟨"PacketSchedulerModel", "value", "()I"⟩, 29) := ⟨⟨by decide +kernel, by decide +kernel⟩, List.mem_of_getElem? (i := 1363) (by decide +kernel), List.mem_of_getElem? (i := 1893) (by decide +kernel), List.mem_of_getElem? (i := 1894) (by decide +kernel)⟩
theorem lw_p66 : lw_okq (⟨"PacketSchedulerModel", "readOption", "(I)Z"⟩, 29) := ⟨⟨by decide +kernel, by decide +kernel⟩, List.mem_of_getElem? (i := 1363) (by decide +kernel), List.mem_of_getElem? (i := 1898) (by decide +kernel), List.mem_of_getElem? (i := 1899) (by decide +kernel)⟩
theorem lw_p67 : lw_okq (⟨"PacketSchedulerModel", "accept", "(Ljava/lang/String;)Z"⟩, 29) := ⟨⟨by decide +kernel, by decide +kernel⟩, List.mem_of_getElem? (i := 1363) (by decide +kernel), List.mem_of_getElem? (i := 1903) (by decide +kernel), List.mem_of_getElem? (i := 1904) (by decide +kernel)⟩
theorem lw_p68 : lw_okq (⟨"PacketSchedulerModel", "readRule", "()V"⟩, 29) := ⟨⟨by decide +kernel, by decide +kernel⟩, List.mem_of_getElem? (i := 1363) (by decide +kernel), List.mem_of_getElem? (i := 1911) (by decide +kernel), List.mem_of_getElem? (i := 1912) (by decide +kernel)⟩
theorem lw_p69 : lw_okq (⟨"PacketSchedulerModel", "readCondition", "(I)Z"⟩, 29) := ⟨⟨by decide +kernel, by decide +kernel⟩, List.mem_of_getElem? (i := 1363) (by decide +kernel), List.mem_of_getElem? (i := 1915) (by decide +kernel), List.mem_of_getElem? (i := 1916) (by decide +kernel)⟩
theorem lw_p70 : lw_okq (⟨"PacketSchedulerModel", "expectWord", "(Ljava/lang/String;)V"⟩, 29) := ⟨⟨by decide +kernel, by decide +kernel⟩, List.mem_of_getElem? (i := 1363) (by decide +kernel), List.mem_of_getElem? (i := 1920) (by decide +kernel), List.mem_of_getElem? (i := 1921) (by decide +kernel)⟩
theorem lw_p71 : lw_okq (⟨"PacketSchedulerModel", "expect", "(I)V"⟩, 29) := ⟨⟨by decide +kernel, by decide +kernel⟩, List.mem_of_getElem? (i := 1363) (by decide +kernel), List.mem_of_getElem? (i := 1927) (by decide +kernel), List.mem_of_getElem? (i := 1928) (by decide +kernel)⟩
theorem lw_p72 : lw_okq (⟨"PacketSchedulerModel", "isSymbol", "(I)Z"⟩, 29) := ⟨⟨by decide +kernel, by decide +kernel⟩, List.mem_of_getElem? (i := 1363) (by decide +kernel), List.mem_of_getElem? (i := 1931) (by decide +kernel), List.mem_of_getElem? (i := 1932) (by decide +kernel)⟩
theorem lw_p73 : lw_okq (⟨"PacketSchedulerModel", "finish", "()I"⟩, 29) := ⟨⟨by decide +kernel, by decide +kernel⟩, List.mem_of_getElem? (i := 1363) (by decide +kernel), List.mem_of_getElem? (i := 1935) (by decide +kernel), List.mem_of_getElem? (i := 1936) (by decide +kernel)⟩
theorem lw_p74 : lw_okq (⟨"PacketSchedulerModel", "compileTest", "()V"⟩, 29) := ⟨⟨by decide +kernel, by decide +kernel⟩, List.mem_of_getElem? (i := 1363) (by decide +kernel), List.mem_of_getElem? (i := 1945) (by decide +kernel), List.mem_of_getElem? (i := 1946) (by decide +kernel)⟩
theorem lw_p75 : lw_okq (⟨"PacketSchedulerModel", "compileConjunction", "()V"⟩, 29) := ⟨⟨by decide +kernel, by decide +kernel⟩, List.mem_of_getElem? (i := 1363) (by decide +kernel), List.mem_of_getElem? (i := 1949) (by decide +kernel), List.mem_of_getElem? (i := 1950) (by decide +kernel)⟩
theorem lw_p76 : lw_okq (⟨"PacketSchedulerModel", "compileFactor", "()V"⟩, 29) := ⟨⟨by decide +kernel, by decide +kernel⟩, List.mem_of_getElem? (i := 1363) (by decide +kernel), List.mem_of_getElem? (i := 1953) (by decide +kernel), List.mem_of_getElem? (i := 1954) (by decide +kernel)⟩
theorem lw_p77 : lw_okq (⟨"PacketSchedulerModel", "enter", "()V"⟩, 29) := ⟨⟨by decide +kernel, by decide +kernel⟩, List.mem_of_getElem? (i := 1363) (by decide +kernel), List.mem_of_getElem? (i := 1958) (by decide +kernel), List.mem_of_getElem? (i := 1959) (by decide +kernel)⟩
theorem lw_p78 : lw_okq (⟨"PacketSchedulerModel", "emit", "(I)V"⟩, 29) := ⟨⟨by decide +kernel, by decide +kernel⟩, List.mem_of_getElem? (i := 1363) (by decide +kernel), List.mem_of_getElem? (i := 1962) (by decide +kernel), List.mem_of_getElem? (i := 1963) (by decide +kernel)⟩
theorem lw_p79 : lw_okq (⟨"PacketSchedulerModel", "compileValue", "()V"⟩, 29) := ⟨⟨by decide +kernel, by decide +kernel⟩, List.mem_of_getElem? (i := 1363) (by decide +kernel), List.mem_of_getElem? (i := 1966) (by decide +kernel), List.mem_of_getElem? (i := 1967) (by decide +kernel)⟩
def lw_privs_5 : List (MethodName × Nat) := [(⟨"PacketSchedulerModel", "number", "(II)I"⟩, 29), (⟨"PacketSchedulerModel", "value", "()I"⟩, 29), (⟨"PacketSchedulerModel", "readOption", "(I)Z"⟩, 29), (⟨"PacketSchedulerModel", "accept", "(Ljava/lang/String;)Z"⟩, 29), (⟨"PacketSchedulerModel", "readRule", "()V"⟩, 29), (⟨"PacketSchedulerModel", "readCondition", "(I)Z"⟩, 29), (⟨"PacketSchedulerModel", "expectWord", "(Ljava/lang/String;)V"⟩, 29), (⟨"PacketSchedulerModel", "expect", "(I)V"⟩, 29), (⟨"PacketSchedulerModel", "isSymbol", "(I)Z"⟩, 29), (⟨"PacketSchedulerModel", "finish", "()I"⟩, 29), (⟨"PacketSchedulerModel", "compileTest", "()V"⟩, 29), (⟨"PacketSchedulerModel", "compileConjunction", "()V"⟩, 29), (⟨"PacketSchedulerModel", "compileFactor", "()V"⟩, 29), (⟨"PacketSchedulerModel", "enter", "()V"⟩, 29), (⟨"PacketSchedulerModel", "emit", "(I)V"⟩, 29), (⟨"PacketSchedulerModel", "compileValue", "()V"⟩, 29)]
theorem lw_r5 : ∀ q ∈ lw_privs_5, lw_okq q := List.forall_mem_cons.mpr ⟨lw_p64, List.forall_mem_cons.mpr ⟨lw_p65, List.forall_mem_cons.mpr ⟨lw_p66, List.forall_mem_cons.mpr ⟨lw_p67, List.forall_mem_cons.mpr ⟨lw_p68, List.forall_mem_cons.mpr ⟨lw_p69, List.forall_mem_cons.mpr ⟨lw_p70, List.forall_mem_cons.mpr ⟨lw_p71, List.forall_mem_cons.mpr ⟨lw_p72, List.forall_mem_cons.mpr ⟨lw_p73, List.forall_mem_cons.mpr ⟨lw_p74, List.forall_mem_cons.mpr ⟨lw_p75, List.forall_mem_cons.mpr ⟨lw_p76, List.forall_mem_cons.mpr ⟨lw_p77, List.forall_mem_cons.mpr ⟨lw_p78, List.forall_mem_cons.mpr ⟨lw_p79, fun _ h => absurd h List.not_mem_nil⟩⟩⟩⟩⟩⟩⟩⟩⟩⟩⟩⟩⟩⟩⟩⟩
theorem lw_p80 : lw_okq (⟨"PacketSchedulerModel", "holdsFor", "(I)Z"⟩, 29) := ⟨⟨by decide +kernel, by decide +kernel⟩, List.mem_of_getElem? (i := 1363) (by decide +kernel), List.mem_of_getElem? (i := 1974) (by decide +kernel), List.mem_of_getElem? (i := 1975) (by decide +kernel)⟩
theorem lw_p81 : lw_okq (⟨"PacketSchedulerModel", "property", "(II)I"⟩, 29) := ⟨⟨by decide +kernel, by decide +kernel⟩, List.mem_of_getElem? (i := 1363) (by decide +kernel), List.mem_of_getElem? (i := 1978) (by decide +kernel), List.mem_of_getElem? (i := 1979) (by decide +kernel)⟩
def lw_privs_6 : List (MethodName × Nat) := [(⟨"PacketSchedulerModel", "holdsFor", "(I)Z"⟩, 29), (⟨"PacketSchedulerModel", "property", "(II)I"⟩, 29)]
theorem lw_r6 : ∀ q ∈ lw_privs_6, lw_okq q := List.forall_mem_cons.mpr ⟨lw_p80, List.forall_mem_cons.mpr ⟨lw_p81, fun _ h => absurd h List.not_mem_nil⟩⟩
def lw_privs : List (MethodName × Nat) := lw_privs_1 ++ (lw_privs_2 ++ (lw_privs_3 ++ (lw_privs_4 ++ (lw_privs_5 ++ (lw_privs_6)))))
def lw_tbl : List Cond := k2_sels lw_privs ++ tables_1
theorem lw_privs_ok : ∀ q ∈ lw_privs, lw_okq q := by
  show ∀ q ∈ lw_privs_1 ++ (lw_privs_2 ++ (lw_privs_3 ++ (lw_privs_4 ++ (lw_privs_5 ++ (lw_privs_6))))), lw_okq q
  exact List.forall_mem_append.mpr ⟨lw_r1, List.forall_mem_append.mpr ⟨lw_r2, List.forall_mem_append.mpr ⟨lw_r3, List.forall_mem_append.mpr ⟨lw_r4, List.forall_mem_append.mpr ⟨lw_r5, lw_r6⟩⟩⟩⟩⟩
/-- the streams that the claim lets the run draw from -/
abbrev lw_cs : List Choice := [Jvm.Choice.named "NaN.bits"]
theorem lw_bits : nanBits ∈ lw_cs := by first | decide | exact List.mem_cons_self | simp [lw_cs, nanBits]
-- ===== end of PART A; then your names; then what follows =====
end
section
/-! ===== BEGIN words of one list among another's, by their places ===== -/
theorem goodIn_r {big : List Cond} (ws : List Cond) (ps : List Nat) (hp : ws = ps.filterMap (fun i => big[i]?)) (h : ws.all goodWord = true) : GoodIn big ws := by
  intro w hw
  have h1 := List.all_eq_true.mp h w hw
  rw [hp] at hw
  obtain ⟨i, -, hi⟩ := List.mem_filterMap.mp hw
  have hm : w ∈ big := by first | exact List.mem_of_getElem? hi | exact List.getElem?_mem hi
  exact ⟨hm, good_of_word h1⟩
theorem goodIn_app {big a b : List Cond} (ha : GoodIn big a) (hb : GoodIn big b) : GoodIn big (a ++ b) := fun w h => (List.mem_append.mp h).elim (ha w) (hb w)
theorem goodIn_ca {big a b : List Cond} {c : Cond} (ha : GoodIn big (c :: a)) (hb : GoodIn big b) : GoodIn big (c :: (a ++ b)) := fun w h => (List.mem_cons.mp h).elim (fun e => ha w (List.mem_cons.mpr (Or.inl e))) (fun h => (List.mem_append.mp h).elim (fun h => ha w (List.mem_cons.mpr (Or.inr h))) (hb w))
theorem goodIn_sub {big ws : List Cond} (hm : ∀ w ∈ ws, w ∈ big) (h : ws.all goodWord = true) : GoodIn big ws := fun w hw => ⟨hm w hw, good_of_word (List.all_eq_true.mp h w hw)⟩
/-! ===== END ===== -/

/-! ===== BEGIN exceptions that leave a method, and their catching by the caller (launches without stack traces) ===== -/
section VXA
/-! The laws vx_back, vx_callV, vx_callS, vx_callSW, vx_throw0, vx_throwS follow proofs of the library, with one case more: JvmDerived/Free/Laws.lean (Back.of_free), Shelf42/LK1.lean (callV, callS), Shelf/KitTraced.lean (throwNew0V, throwNewS). -/
/-- where a method has thrown q: the class by its name, the cell, what was written, the world -/
def vx_T (XC : String → State → State → Prop) (st : State) (q : Addr) (t : State) (mc ms : Nat) (free : Addr → Prop) : Prop :=
  ∃ (E : String) (ce : Cell) (L : List Loc), XC E st t ∧ t.heap[q]? = some ce ∧ ce.vm = .none ∧ st.vm.findClass E = some ce.cls ∧ st.WarmedH t.vm ∧ st.sameButNew ({ t with vm := st.vm } : State) L mc ms ∧ ∀ z ∈ L, free z.base
def vx_Q (Qc : Array Value → State → Outcome → State → Prop) (XC : String → State → State → Prop) (mc ms : Nat) (free : Addr → Prop) : Array Value → State → Outcome → State → Prop := fun a st o t =>
  (Qc a st o t ∧ ∃ L, FrameEnd st o t L mc ms ∧ ∀ q ∈ L, free q.base) ∨ ∃ q, o = .threw q ∧ vx_T XC st q t mc ms free
/-- a callee that returns or throws -/
def vx_Met (l : Launch) (y : MethodName) (ws : List Cond) (rm : Room) (Pc : Array Value → State → Prop) (Qc : Array Value → State → Outcome → State → Prop) (XC : String → State → State → Prop) (mc ms : Nat) (free : Addr → Prop) : Prop :=
  MetFree l y (headSpec ws rm) Pc (fun _ _ _ _ _ => True) (vx_Q Qc XC mc ms free)
def vx_Post (XC : String → State → State → Prop) (mc ms : Nat) (free : Addr → Prop) : Pt → Array Value → Addr → Pt → Prop := fun A a q B =>
  ∃ (g : JFrame) (mk : MethodId) (t : State) (L : List Loc) (E : String) (ce : Cell), B.U.heap = t.heap ∧ B.U.vm = t.vm ∧ XC E (A.U.calling g mk a) t ∧ t.heap[q]? = some ce ∧ ce.vm = .none ∧ A.U.vm.findClass E = some ce.cls ∧ B.locs = A.locs ++ L ∧ (∀ z ∈ L, free z.base) ∧ B.cells = A.cells + mc ∧ B.slots = A.slots + ms
def vx_Back (l : Launch) (R : Room) (p : Program) (e : Env) (below : List Frame) (s : State) (sargs : Array Value) (y : MethodName) (len W9 : Nat)
    (Pre : Pt → Array Value → Prop) (Post : Pt → Array Value → Option Value → Pt → Prop) (PostX : Pt → Array Value → Addr → Pt → Prop) : Prop :=
  ∀ (m : MethodId) (meth : Method) (c : Code) (A : Pt) (g : JFrame) (ig : Instr) (mk : MethodId) (a : Array Value),
    Stand p l e R s m sargs below meth c A.U A.locs A.cells A.slots → g.method = m → g.locals.size = c.maxLocals → decode c.code g.pc = .ok (ig, len) →
    2 * g.monitorRoom + (g.stack.map fun v => v.category).sum ≤ W9 → A.U.methodNamed? y = some mk → Pre A a →
    (∃ (v : Option Value) (B : Pt), Stand p l e R s m sargs below meth c B.U B.locs B.cells B.slots ∧ Post A a v B ∧
      Steps p.tables e below (doInvoke e (A.U.setTop g) [] mk a).1 (B.U.setTop { g with pc := g.pc + len, stack := v.toList ++ g.stack })) ∨
    (∃ (q : Addr) (B : Pt), Stand p l e R s m sargs below meth c B.U B.locs B.cells B.slots ∧ PostX A a q B ∧
      Steps p.tables e below (doInvoke e (A.U.setTop g) [] mk a).1 ((B.U.setTop g).pushFrame (.throwing q)))
section Payer
variable {l : Launch} {R : Room} {p : Program} {e : Env} {below : List Frame} {s : State} {sargs : Array Value} {y : MethodName} {len W9 : Nat}
theorem vx_back {ws : List Cond} {rm : Room} {Pc : Array Value → State → Prop} {Qc : Array Value → State → Outcome → State → Prop} {XC : String → State → State → Prop} {mc ms : Nat} {free : Addr → Prop} {bytes : ByteArray} {maxL : Nat} {ret : Option FieldType}
    (hM : vx_Met l y ws rm Pc Qc XC mc ms free) (hblind : FrameBlind Pc) (hrc : rm.cells = mc) (hrs : rm.slots = ms)
    (hframes : rm.frames + 1 ≤ R.frames) (hlocals : W9 + (maxL + 11) + rm.locals ≤ R.locals)
    (hws : ∀ w ∈ ws, ∀ a' U, s.WarmedH U.vm → w.before a' U = true) (hcode : Cond.code y bytes maxL ret ∈ ws) (hinit : ∀ a' U, s.WarmedH U.vm → (Cond.initialized y.cls).before a' U = true) :
    vx_Back l R p e below s sargs y len W9 (PreOf R mc ms Pc) (PostOf Qc mc ms free) (vx_Post XC mc ms free) := by
  intro m meth c A g ig mk a X hg hsize hdg hW hn hp
  have h1 : (headSpec ws rm).pre.before a A.U = true := atoms_intro fun w hw => hws w hw _ _ X.warmed
  have h2 : (Cond.code y bytes maxL ret).before a A.U = true := hws _ hcode _ _ X.warmed
  have h3 : (Cond.initialized y.cls).before a A.U = true := hinit _ _ X.warmed
  have h4 : A.cells + (headSpec ws rm).room.cells ≤ R.cells := by rw [show (headSpec ws rm).room.cells = mc from hrc]; exact hp.1
  have h5 : A.slots + (headSpec ws rm).room.slots ≤ R.slots := by rw [show (headSpec ws rm).room.slots = ms from hrs]; exact hp.2.1
  have hPc : Pc a (A.U.calling g mk a) := hblind _ _ _ _ hp.2.2
  obtain ⟨U, Ls, c0, s0⟩ := A
  dsimp only [Pt.U, Pt.locs, Pt.cells, Pt.slots] at h1 h2 h3 h4 h5 X hn hPc ⊢
  obtain ⟨methY, cY, hmY, hcY, -, hlY, -, -, -, -⟩ := Cond.code_spec hn h2
  obtain ⟨kY, hkY, -⟩ := className_of_methodNamed hn
  have hinitY : kY.init = .initialized := Cond.initialized_spec (findClass_of_methodNamed hn) hkY h3
  have h : At U g.method c below := by rw [hg]; exact X.here
  have hlocals9 : W9 + (maxL + 11) + (headSpec ws rm).room.locals ≤ R.locals := hlocals
  have happ : (headSpec ws rm).appliesLoose y e.platform (U.calling g mk a) = true :=
    Spec.appliesLoose_calling (g := g) h hdg hn hkY hinitY
      (X.room_calling (g := g) (R' := (headSpec ws rm).room) hsize hmY hcY hframes (by rw [hlY]; omega) h4 h5) h1
  obtain ⟨mid, hmid⟩ := h.above
  have hfr : (U.setTop g).frames = (.java g :: mid) ++ below := by rw [State.frames_setTop' g h.top, hmid]; rfl
  obtain ⟨o, s₂, hsteps, -, hend, hq⟩ := Steps.callFree hM p X.admits X.cas X.clock (acts := []) hfr happ hPc trivial
  have hq' : vx_Q Qc XC mc ms free a (U.calling g mk a) o s₂ := hq
  rw [State.frames_setTop' g h.top] at hend
  obtain ⟨g₀, hg0⟩ := Option.isSome_iff_exists.mp h.top
  obtain ⟨r, hr⟩ := State.topJava?_eq_some.mp hg0
  have hr' : (({ U with heap := s₂.heap, slotsUsed := s₂.slotsUsed } : State).setVm s₂.vm).frames = .java g₀ :: r := hr
  rcases hq' with ⟨hqc, L, hfe, hL⟩ | ⟨q, rfl, E, ce, L, hx, hce, hcv, hcl, hW₂, hsm, hL⟩
  · obtain ⟨⟨v, rfl⟩, hW₂, e2, q2, q3, q4, q5, q6⟩ := id hfe
    have e3 : s₂ = ({ (U.calling g mk a).setFrames s₂.frames with heap := s₂.heap, slotsUsed := s₂.slotsUsed } : State).setVm s₂.vm := by
      have : s₂ = ({ s₂ with vm := (U.calling g mk a).vm } : State).setVm s₂.vm := rfl
      rw [e2] at this
      exact this
    obtain ⟨c₂, i₂, len₂, hc₂, hd₂, hf₂⟩ := hend
    have hW' : U.WarmedH s₂.vm := hW₂
    have hcc : c₂ = c := by
      have h1 : s₂.code? g.method = U.code? g.method := by
        rw [State.code?_eq, State.code?_eq, hW'.alike.method?]
      exact Option.some.inj (hc₂.symm.trans (h1.trans h.code))
    subst hcc
    have hlen : len₂ = len := by rw [hdg] at hd₂; cases hd₂; rfl
    subst hlen
    have hs₂ : s₂ = (({ U with heap := s₂.heap, slotsUsed := s₂.slotsUsed } : State).setVm s₂.vm).setTop { g with pc := g.pc + len₂, stack := v.toList ++ g.stack } := by
      refine e3.trans ?_
      rw [hf₂, State.calling_eq h.top, State.setFrames_setFrames, State.setTop_of_frames _ hr', hr]
      rfl
    have hsame : U.sameButNew ({ U with heap := s₂.heap, slotsUsed := s₂.slotsUsed } : State) L mc ms := by
      refine ⟨?_, q2, q3, q4, q5, q6⟩
      obtain ⟨t, ht, -⟩ := State.frames_cons hr
      show ({ U with heap := s₂.heap, slotsUsed := s₂.slotsUsed } : State) = { U.setFrames U.frames with heap := s₂.heap, slotsUsed := s₂.slotsUsed }
      rw [State.setFrames_self ht]
    subst hg
    refine Or.inl ⟨v, ⟨(({ U with heap := s₂.heap, slotsUsed := s₂.slotsUsed } : State).setVm s₂.vm), Ls ++ L, c0 + mc, s0 + ms⟩,
      ⟨X.admits, X.cas, X.clock, X.frames, X.room, X.hears, X.method, X.code, (X.here.setHeapUsed s₂.heap s₂.slotsUsed).setVm hW'.alike, X.tail, State.WarmedH.trans X.warmed hW', X.limits, X.bytes, X.same.trans (hsame.setVm s.vm)⟩,
      ⟨g, mk, s₂, L, rfl, rfl, hqc, rfl, hL, rfl, rfl⟩, ?_⟩
    show Steps p.tables e below _ ((({ U with heap := s₂.heap, slotsUsed := s₂.slotsUsed } : State).setVm s₂.vm).setTop { g with pc := g.pc + len₂, stack := v.toList ++ g.stack })
    rw [← hs₂]
    exact hsteps
  · obtain ⟨e2, q2, q3, q4, q5, q6⟩ := id hsm
    have e3 : s₂ = ({ (U.calling g mk a).setFrames s₂.frames with heap := s₂.heap, slotsUsed := s₂.slotsUsed } : State).setVm s₂.vm := by
      have : s₂ = ({ s₂ with vm := (U.calling g mk a).vm } : State).setVm s₂.vm := rfl
      rw [e2] at this
      exact this
    have hf₂ : s₂.frames = .throwing q :: .java g :: U.frames.tail := hend
    have hW' : U.WarmedH s₂.vm := hW₂
    have hs₂ : s₂ = ((({ U with heap := s₂.heap, slotsUsed := s₂.slotsUsed } : State).setVm s₂.vm).setTop g).pushFrame (.throwing q) := by
      refine e3.trans ?_
      rw [hf₂, State.calling_eq h.top, State.setFrames_setFrames, State.pushFrame, State.frames_setTop _ hr', State.setTop_of_frames _ hr', State.setFrames_setFrames, hr]
      rfl
    have hsame : U.sameButNew ({ U with heap := s₂.heap, slotsUsed := s₂.slotsUsed } : State) L mc ms := by
      refine ⟨?_, q2, q3, q4, q5, q6⟩
      obtain ⟨t, ht, -⟩ := State.frames_cons hr
      show ({ U with heap := s₂.heap, slotsUsed := s₂.slotsUsed } : State) = { U.setFrames U.frames with heap := s₂.heap, slotsUsed := s₂.slotsUsed }
      rw [State.setFrames_self ht]
    subst hg
    refine Or.inr ⟨q, ⟨(({ U with heap := s₂.heap, slotsUsed := s₂.slotsUsed } : State).setVm s₂.vm), Ls ++ L, c0 + mc, s0 + ms⟩,
      ⟨X.admits, X.cas, X.clock, X.frames, X.room, X.hears, X.method, X.code, (X.here.setHeapUsed s₂.heap s₂.slotsUsed).setVm hW'.alike, X.tail, State.WarmedH.trans X.warmed hW', X.limits, X.bytes, X.same.trans (hsame.setVm s.vm)⟩,
      ⟨g, mk, s₂, L, E, ce, rfl, rfl, hx, hce, hcv, hcl, rfl, hL, rfl, rfl⟩, ?_⟩
    show Steps p.tables e below _ (((({ U with heap := s₂.heap, slotsUsed := s₂.slotsUsed } : State).setVm s₂.vm).setTop g).pushFrame (.throwing q))
    rw [← hs₂]
    exact hsteps
end Payer
section Calls
variable {p : Program} {l : Launch} {e : Env} {R : Room} {s : State} {m : MethodId} {args : Array Value} {below : List Frame} {meth : Method} {c : Code} {T : State} {locs : List Loc} {cells slots : Nat}
theorem vx_callV (X : Stand p l e R s m args below meth c T locs cells slots) (hexec : p.tables.exec = Jvm.exec) {own C : String} {index : Nat} {y : MethodName} {bytes : ByteArray} {maxL : Nat} {ret : Option FieldType}
    (hown : s.vm.findClass own = some m.cls) (hlink : (Cond.methodLink own index y).before args s = true) (hinst : (Cond.instanceMethod y).before args s = true) (hsel : (Cond.selects C y y).before args s = true)
    (hcode : (Cond.code y bytes maxL ret).before args s = true) (hy : y.cls ≠ "java/lang/invoke/MethodHandle" ∧ y.cls ≠ "java/lang/invoke/VarHandle")
    {W9 : Nat} {Pre : Pt → Array Value → Prop} {Post : Pt → Array Value → Option Value → Pt → Prop} {PostX : Pt → Array Value → Addr → Pt → Prop} (hK : vx_Back l R p e below s args y 3 W9 Pre Post PostX)
    {b : Addr} {cellB : Cell} (hcell : T.heap[b]? = some cellB) (hobj : cellB.vm.isStatics = false) (hcls : s.vm.findClass C = some cellB.cls)
    {g : JFrame} (hg : g.method = m) (hsize : g.locals.size = c.maxLocals) {argsL rest : List Value} (hlen : ∀ sig, parseMethodDescriptor y.desc = some sig → argsL.length = sig.parameters.length)
    (hstack : g.stack = argsL.reverse ++ .ref b :: rest) (hW : 2 * g.monitorRoom + (rest.map fun v => v.category).sum ≤ W9) (hdg : decode c.code g.pc = .ok (.invokevirtual index, 3))
    (hpre : ∀ vm₁, s.WarmedH vm₁ → Pre ⟨T.setVm vm₁, locs, cells, slots⟩ (Value.ref b :: argsL).toArray) :
    (∃ (v : Option Value) (vm₁ : Vm) (B : Pt), s.WarmedH vm₁ ∧ Stand p l e R s m args below meth c B.U B.locs B.cells B.slots ∧ Post ⟨T.setVm vm₁, locs, cells, slots⟩ (Value.ref b :: argsL).toArray v B ∧
      ∀ target, Steps p.tables e below (B.U.setTop { g with pc := g.pc + 3, stack := v.toList ++ rest }) target → Steps p.tables e below (T.setTop g) target) ∨
    (∃ (q : Addr) (vm₁ : Vm) (B : Pt), s.WarmedH vm₁ ∧ Stand p l e R s m args below meth c B.U B.locs B.cells B.slots ∧ PostX ⟨T.setVm vm₁, locs, cells, slots⟩ (Value.ref b :: argsL).toArray q B ∧
      Steps p.tables e below (T.setTop g) ((B.U.setTop { g with stack := rest }).pushFrame (.throwing q))) := by
  obtain ⟨mk, methM, hnamed, hmethM, hstM, habM⟩ := Cond.instanceMethod_spec hinst
  obtain ⟨methM', cM, hmethM', -, -, -, -, -, -, hsigM⟩ := Cond.code_spec hnamed hcode
  cases hmethM.symm.trans hmethM'
  obtain ⟨c2, r2, m2, q1, q2, q3, q4, kP, hkP, hkPi⟩ := Cond.selects_spec hsel
  cases hcls.symm.trans q1
  cases (State.methodFound?_of_named hnamed hy).symm.trans q2
  cases hnamed.symm.trans q3
  have hselP : selectMethod e.platform s.vm cellB.cls mk = .method mk := by rw [Launch.admits_selectMethod X.admits]; exact q4
  obtain ⟨vm₁, X₁, hstep₁⟩ := X.invokevirtual hexec hown hlink hnamed hmethM hstM hkP hkPi hy (a := b) (cell := cellB) hcell
    (fun z h => by rw [h] at hobj; cases hobj) hselP hmethM habM hkP hkPi (g := g) hg (argsL := argsL) (rest := rest) (hlen _ hsigM) hstack hdg
  rcases hK m meth c ⟨T.setVm vm₁, locs, cells, slots⟩ { g with stack := rest } (.invokevirtual index) mk (Value.ref b :: argsL).toArray X₁ hg hsize hdg hW (X₁.named hnamed) (hpre vm₁ X₁.warmed) with ⟨v, B, X', hpost, hsteps⟩ | ⟨q, B, X', hpost, hsteps⟩
  · exact Or.inl ⟨v, vm₁, B, X₁.warmed, X', hpost, fun target h => hstep₁ _ fun acts => by rw [doInvoke_state]; exact hsteps.trans h⟩
  · exact Or.inr ⟨q, vm₁, B, X₁.warmed, X', hpost, hstep₁ _ fun acts => by rw [doInvoke_state]; exact hsteps⟩
theorem vx_callS (X : Stand p l e R s m args below meth c T locs cells slots) (hexec : p.tables.exec = Jvm.exec) {own : String} {index : Nat} {y : MethodName} {bytes : ByteArray} {maxL : Nat} {ret : Option FieldType}
    (hown : s.vm.findClass own = some m.cls) (hlink : (Cond.methodLink own index y).before args s = true) (hstat : (Cond.static y).before args s = true) (hinit : (Cond.initialized y.cls).before args s = true)
    (hcode : (Cond.code y bytes maxL ret).before args s = true) (hy : y.cls ≠ "java/lang/invoke/MethodHandle" ∧ y.cls ≠ "java/lang/invoke/VarHandle")
    {W9 : Nat} {Pre : Pt → Array Value → Prop} {Post : Pt → Array Value → Option Value → Pt → Prop} {PostX : Pt → Array Value → Addr → Pt → Prop} (hK : vx_Back l R p e below s args y 3 W9 Pre Post PostX)
    {g : JFrame} (hg : g.method = m) (hsize : g.locals.size = c.maxLocals) {argsL rest : List Value} (hlen : ∀ sig, parseMethodDescriptor y.desc = some sig → argsL.length = sig.parameters.length)
    (hstack : g.stack = argsL.reverse ++ rest) (hW : 2 * g.monitorRoom + (rest.map fun v => v.category).sum ≤ W9) (hdg : decode c.code g.pc = .ok (.invokestatic index, 3))
    (hpre : ∀ vm₁, s.WarmedH vm₁ → Pre ⟨T.setVm vm₁, locs, cells, slots⟩ argsL.toArray) :
    (∃ (v : Option Value) (vm₁ : Vm) (B : Pt), s.WarmedH vm₁ ∧ Stand p l e R s m args below meth c B.U B.locs B.cells B.slots ∧ Post ⟨T.setVm vm₁, locs, cells, slots⟩ argsL.toArray v B ∧
      ∀ target, Steps p.tables e below (B.U.setTop { g with pc := g.pc + 3, stack := v.toList ++ rest }) target → Steps p.tables e below (T.setTop g) target) ∨
    (∃ (q : Addr) (vm₁ : Vm) (B : Pt), s.WarmedH vm₁ ∧ Stand p l e R s m args below meth c B.U B.locs B.cells B.slots ∧ PostX ⟨T.setVm vm₁, locs, cells, slots⟩ argsL.toArray q B ∧
      Steps p.tables e below (T.setTop g) ((B.U.setTop { g with stack := rest }).pushFrame (.throwing q))) := by
  obtain ⟨mk, hnamed⟩ := Cond.code_named hcode
  obtain ⟨methM, cM, hmethM, -, -, -, -, -, -, hsigM⟩ := Cond.code_spec hnamed hcode
  have hstatic : methM.isStatic = true := Cond.static_spec hnamed hmethM hstat
  obtain ⟨kP, hkP, -⟩ := className_of_methodNamed hnamed
  have hinitP : kP.init = .initialized := Cond.initialized_spec (findClass_of_methodNamed hnamed) hkP hinit
  obtain ⟨vm₁, X₁, hstep₁⟩ := X.invokestatic hexec hown hlink hnamed hmethM hstatic hkP hinitP hy (g := g) hg (argsL := argsL) (rest := rest) (hlen _ hsigM) hstack hdg
  rcases hK m meth c ⟨T.setVm vm₁, locs, cells, slots⟩ { g with stack := rest } (.invokestatic index) mk argsL.toArray X₁ hg hsize hdg hW (X₁.named hnamed) (hpre vm₁ X₁.warmed) with ⟨v, B, X', hpost, hsteps⟩ | ⟨q, B, X', hpost, hsteps⟩
  · exact Or.inl ⟨v, vm₁, B, X₁.warmed, X', hpost, fun target h => hstep₁ _ fun acts => by rw [doInvoke_state]; exact hsteps.trans h⟩
  · exact Or.inr ⟨q, vm₁, B, X₁.warmed, X', hpost, hstep₁ _ fun acts => by rw [doInvoke_state]; exact hsteps⟩
end Calls
theorem vx_cls {s : State} {T : State} {vm₁ : Vm} {E : String} {k : ClassId} (hW : s.WarmedH vm₁) (h : (T.setVm vm₁).vm.findClass E = some k) : s.vm.findClass E = some k := by
  have h1 : vm₁.findClass E = some k := h
  rw [hW.alike.findClass] at h1
  exact h1
/-- the method's frame g, with q thrown over it -/
def vx_W (p : Program) (l : Launch) (e : Env) (R : Room) (s : State) (m : MethodId) (args : Array Value) (below : List Frame) (meth : Method) (c : Code) (H : Heap) (locs : List Loc) (cells slots : Nat) (Q : State → Prop) (g : JFrame) (q : Addr) : Prop :=
  ∀ T : State, T.heap = H → Stand p l e R s m args below meth c T locs cells slots → ∃ t, Steps p.tables e below ((T.setTop g).pushFrame (.throwing q)) t ∧ Q t
def vx_Run (p : Program) (l : Launch) (e : Env) (R : Room) (s : State) (m : MethodId) (args : Array Value) (below : List Frame) (meth : Method) (c : Code) (H : Heap) (locs : List Loc) (cells slots mc ms : Nat) (g : JFrame) (rest : List Value) (Qa : State → Outcome → State → Prop) (XC : String → State → State → Prop) (free : Addr → Prop) : Prop :=
  ∀ T : State, T.heap = H → Stand p l e R s m args below meth c T locs cells slots →
    (∃ (v : Option Value) (st₀ t T' : State) (L : List Loc), st₀.heap = H ∧ Stand p l e R s m args below meth c T' (locs ++ L) (cells + mc) (slots + ms) ∧ (∀ q ∈ L, free q.base) ∧ T'.heap = t.heap ∧ T'.vm = t.vm ∧ Qa st₀ (.returned v) t ∧
      Goes p e below T g T' { g with pc := g.pc + 3, stack := v.toList ++ rest }) ∨
    (∃ (q : Addr) (st₀ t T' : State) (L : List Loc) (E : String) (ce : Cell), st₀.heap = H ∧ Stand p l e R s m args below meth c T' (locs ++ L) (cells + mc) (slots + ms) ∧ (∀ z ∈ L, free z.base) ∧ T'.heap = t.heap ∧ T'.vm = t.vm ∧ XC E st₀ t ∧ t.heap[q]? = some ce ∧ ce.vm = .none ∧ s.vm.findClass E = some ce.cls ∧
      Steps p.tables e below (T.setTop g) ((T'.setTop { g with stack := rest }).pushFrame (.throwing q)))
def vx_X {S : Type} (px : S → Prop) (B : String → S → State → Prop) (A : Nat → Prop) : String → State → State → Prop := fun E st t => ∃ u : S, px u ∧ B E u t ∧ va_F A st t
section Runs
variable {p : Program} {l : Launch} {e : Env} {R : Room} {s : State} {m : MethodId} {args : Array Value} {below : List Frame} {meth : Method} {c : Code} {H : Heap} {locs : List Loc} {cells slots : Nat}
variable {y : MethodName} {bytes cc : ByteArray} {maxL nL mc ms n index : Nat} {ret : Option FieldType} {ws : List Cond} {rm : Room} {Pc : Array Value → State → Prop} {Qc : Array Value → State → Outcome → State → Prop} {XC : String → State → State → Prop} {free : Addr → Prop} {Ts : List Cond} {own C : String} {b : Addr} {As rest : List Value} {g : JFrame}
theorem vx_callBack (cb : CallB R s args own index y bytes maxL ret ws rm mc ms n) (hM : vx_Met l y ws rm Pc Qc XC mc ms free) (hbl : FrameBlind Pc) : vx_Back l R p e below s args y 3 8 (PreOf R mc ms Pc) (PostOf Qc mc ms free) (vx_Post XC mc ms free) := by
  obtain ⟨hrc, hrs, hfr, hlo, hws, hcw, -, hini, -⟩ := cb
  exact vx_back (bytes := bytes) (maxL := maxL) (ret := ret) hM hbl hrc hrs hfr hlo hws hcw (fun a' U hW => word_at hW (Or.inl (by first | rfl | simp [Cond.onTables, Cond.keeps, Cond.steady])) hini)
theorem vx_runV (S : CallFix p m c cc nL s args Ts own) (hM : vx_Met l y ws rm Pc Qc XC mc ms free) (cw : CallW R s args own C index y bytes maxL ret ws rm mc ms n) (hp : PreV s H C b Pc As)
    (hg : g.method = m) (hn : As.length = n) (hsize : g.locals.size = nL) (hstack : g.stack = As.reverse ++ .ref b :: rest) (hW : 2 * g.monitorRoom + (rest.map fun v => v.category).sum ≤ 8) (hdg : decode cc g.pc = .ok (.invokevirtual index, 3)) (hf : cells + mc ≤ R.cells ∧ slots + ms ≤ R.slots) :
    vx_Run p l e R s m args below meth c H locs cells slots mc ms g rest (Qc (Value.ref b :: As).toArray) XC free := by
  have hK : vx_Back l R p e below s args y 3 8 (PreOf R mc ms Pc) (PostOf Qc mc ms free) (vx_Post XC mc ms free) := vx_callBack cw.1 hM hp.1
  obtain ⟨⟨-, -, -, -, -, -, hcode, -, hy, hlen, hl⟩, hin, hse⟩ := cw
  obtain ⟨hx, hb, hml, ho, -⟩ := S
  obtain ⟨-, ⟨cellB, hcB, hoB, hclB⟩, hPc⟩ := hp
  intro T hT X
  rcases vx_callV X hx (C := C) (bytes := bytes) (maxL := maxL) (ret := ret) ho hl hin hse hcode hy hK (by rw [hT]; exact hcB) hoB hclB hg (hsize.trans hml.symm) (argsL := As) (rest := rest) (fun sig h => hn.trans (hlen sig h)) hstack hW (by rw [hb]; exact hdg)
    (fun vm₁ hW₁ => ⟨hf.1, hf.2, hPc (T.setVm vm₁) hT hW₁⟩) with ⟨v, vm₁, ⟨U', l2, c2, s2⟩, hW₁, X', ⟨g', mk, t, L, e1, e2, hq, h1, hL, h2, h3⟩, st⟩ | ⟨q, vm₁, ⟨U', l2, c2, s2⟩, hW₁, X', ⟨g', mk, t, L, E, ce, e1, e2, hq, hce, hcv, hcl, h1, hL, h2, h3⟩, st⟩
  · dsimp only [Pt.U, Pt.locs, Pt.cells, Pt.slots] at X' e1 e2 h1 h2 h3 st
    subst h1; subst h2; subst h3
    exact Or.inl ⟨v, (T.setVm vm₁).calling g' mk (Value.ref b :: As).toArray, t, U', L, hT, X', hL, e1, e2, hq, st⟩
  · dsimp only [Pt.U, Pt.locs, Pt.cells, Pt.slots] at X' e1 e2 h1 h2 h3 st hcl
    subst h1; subst h2; subst h3
    exact Or.inr ⟨q, (T.setVm vm₁).calling g' mk (Value.ref b :: As).toArray, t, U', L, E, ce, hT, X', hL, e1, e2, hq, hce, hcv, vx_cls hW₁ hcl, st⟩
theorem vx_runS (S : CallFix p m c cc nL s args Ts own) (hM : vx_Met l y ws rm Pc Qc XC mc ms free) (cw : CallB R s args own index y bytes maxL ret ws rm mc ms n ∧ (Cond.static y).before args s = true) (hp : PreS s H Pc As)
    (hg : g.method = m) (hn : As.length = n) (hsize : g.locals.size = nL) (hstack : g.stack = As.reverse ++ rest) (hW : 2 * g.monitorRoom + (rest.map fun v => v.category).sum ≤ 8) (hdg : decode cc g.pc = .ok (.invokestatic index, 3)) (hf : cells + mc ≤ R.cells ∧ slots + ms ≤ R.slots) :
    vx_Run p l e R s m args below meth c H locs cells slots mc ms g rest (Qc As.toArray) XC free := by
  have hK : vx_Back l R p e below s args y 3 8 (PreOf R mc ms Pc) (PostOf Qc mc ms free) (vx_Post XC mc ms free) := vx_callBack cw.1 hM hp.1
  obtain ⟨⟨-, -, -, -, -, -, hcode, hini, hy, hlen, hl⟩, hstt⟩ := cw
  obtain ⟨hx, hb, hml, ho, -⟩ := S
  intro T hT X
  rcases vx_callS X hx (bytes := bytes) (maxL := maxL) (ret := ret) ho hl hstt hini hcode hy hK hg (hsize.trans hml.symm) (argsL := As) (rest := rest) (fun sig h => hn.trans (hlen sig h)) hstack hW (by rw [hb]; exact hdg)
    (fun vm₁ hW₁ => ⟨hf.1, hf.2, hp.2 (T.setVm vm₁) hT hW₁⟩) with ⟨v, vm₁, ⟨U', l2, c2, s2⟩, hW₁, X', ⟨g', mk, t, L, e1, e2, hq, h1, hL, h2, h3⟩, st⟩ | ⟨q, vm₁, ⟨U', l2, c2, s2⟩, hW₁, X', ⟨g', mk, t, L, E, ce, e1, e2, hq, hce, hcv, hcl, h1, hL, h2, h3⟩, st⟩
  · dsimp only [Pt.U, Pt.locs, Pt.cells, Pt.slots] at X' e1 e2 h1 h2 h3 st
    subst h1; subst h2; subst h3
    exact Or.inl ⟨v, (T.setVm vm₁).calling g' mk As.toArray, t, U', L, hT, X', hL, e1, e2, hq, st⟩
  · dsimp only [Pt.U, Pt.locs, Pt.cells, Pt.slots] at X' e1 e2 h1 h2 h3 st hcl
    subst h1; subst h2; subst h3
    exact Or.inr ⟨q, (T.setVm vm₁).calling g' mk As.toArray, t, U', L, E, ce, hT, X', hL, e1, e2, hq, hce, hcv, vx_cls hW₁ hcl, st⟩
end Runs
section Rows
variable {p : Program} {l : Launch} {e : Env} {R : Room} {s : State} {m : MethodId} {args : Array Value} {below : List Frame} {meth : Method} {c : Code} {H : Heap} {locs : List Loc} {cells slots : Nat} {Q : State → Prop}
variable {mc ms : Nat} {free : Addr → Prop} {A0 A1 : Nat → Prop} {H0 : Heap} {a : Array Value} {pc : Nat} {ls : Array Slot} {st0 rest : List Value}
theorem vx_keep {st₀ t T' : State} {L : List Loc} (h0 : st₀.heap = H) (e1 : T'.heap = t.heap) (hS : va_S A0 H0 H locs) (hA : ∀ q, q < H.size → A1 q → A0 q) (hf : ∀ q, free q → A0 q) (hL : ∀ q ∈ L, free q.base) (hF : va_F A1 st₀ t) :
    H.size ≤ T'.heap.size ∧ (∀ q : Nat, q < H.size → ¬ A1 q → T'.heap[q]? = H[q]?) ∧ va_S A0 H0 T'.heap (locs ++ L) := by
  obtain ⟨hz, hk⟩ := hF
  rw [h0] at hz hk
  exact ⟨by rw [e1]; exact hz, fun q h1 h2 => by rw [e1]; exact hk q h1 h2,
    ⟨Nat.le_trans hS.1 (by rw [e1]; exact hz), fun q h1 h2 => by rw [e1, hk q (Nat.lt_of_lt_of_le h1 hS.1) (fun z => h2 (hA q (Nat.lt_of_lt_of_le h1 hS.1) z))]; exact hS.2.1 q h1 h2, fun q hq => by
      rcases List.mem_append.mp hq with h | h
      · exact hS.2.2 q h
      · exact hf _ (hL q h)⟩⟩
theorem vx_calli {S SX : Type} {post : Int32 → S → Prop} {px : SX → Prop} {B : S → State → Prop} {BX : String → SX → State → Prop} {AX : Nat → Prop} (hr : vx_Run p l e R s m args below meth c H locs cells slots mc ms (F0 m pc ls st0) rest (va_Qi post B A1 a) (vx_X px BX AX) free) (hS : va_S A0 H0 H locs) (hA : ∀ q, q < H.size → A1 q → A0 q) (hf : ∀ q, free q → A0 q) (hAX : ∀ q, q < H.size → AX q → A0 q)
    (kx : ∀ (E : String) (ce : Cell) (q9 : Addr) (u : SX) (t : State) (H1 : Heap) (locs1 : List Loc), t.heap = H1 → s.vm.Alike t.vm → px u → BX E u t → H.size ≤ H1.size → (∀ q : Nat, q < H.size → ¬ AX q → H1[q]? = H[q]?) → va_S A0 H0 H1 locs1 → H1[q9]? = some ce → ce.vm = .none → s.vm.findClass E = some ce.cls → vx_W p l e R s m args below meth c H1 locs1 (cells + mc) (slots + ms) Q (F0 m pc ls rest) q9)
    (kk : ∀ (r : Int32) (u : S) (t : State) (H1 : Heap) (locs1 : List Loc), t.heap = H1 → s.vm.Alike t.vm → post r u → B u t → H.size ≤ H1.size → (∀ q : Nat, q < H.size → ¬ A1 q → H1[q]? = H[q]?) → va_S A0 H0 H1 locs1 → W p l e R s m args below meth c H1 locs1 (cells + mc) (slots + ms) Q (F0 m (pc + 3) ls (.int r :: rest))) : W p l e R s m args below meth c H locs cells slots Q (F0 m pc ls st0) := by
  intro T hT X
  rcases hr T hT X with ⟨v, st₀, t, T', L, h0, X', hL, e1, e2, ⟨⟨r, u, hv, hp, hb⟩, hF⟩, st⟩ | ⟨q, st₀, t, T', L, E, ce, h0, X', hL, e1, e2, ⟨u, hp, hb, hF⟩, hce, hcv, hcl, st⟩
  · cases hv
    obtain ⟨k1, k2, k3⟩ := vx_keep h0 e1 hS hA hf hL hF
    obtain ⟨t2, a1, b1⟩ := kk r u t T'.heap (locs ++ L) e1.symm (by rw [← e2]; exact X'.warmed.alike) hp hb k1 k2 k3 T' rfl X'
    exact ⟨t2, st t2 a1, b1⟩
  · obtain ⟨k1, k2, k3⟩ := vx_keep h0 e1 hS hAX hf hL hF
    obtain ⟨t2, a1, b1⟩ := kx E ce q u t T'.heap (locs ++ L) e1.symm (by rw [← e2]; exact X'.warmed.alike) hp hb k1 k2 k3 (by rw [e1]; exact hce) hcv hcl T' rfl X'
    exact ⟨t2, st.trans a1, b1⟩
theorem vx_calll {S SX : Type} {post : Int64 → S → Prop} {px : SX → Prop} {B : S → State → Prop} {BX : String → SX → State → Prop} {AX : Nat → Prop} (hr : vx_Run p l e R s m args below meth c H locs cells slots mc ms (F0 m pc ls st0) rest (va_Ql post B A1 a) (vx_X px BX AX) free) (hS : va_S A0 H0 H locs) (hA : ∀ q, q < H.size → A1 q → A0 q) (hf : ∀ q, free q → A0 q) (hAX : ∀ q, q < H.size → AX q → A0 q)
    (kx : ∀ (E : String) (ce : Cell) (q9 : Addr) (u : SX) (t : State) (H1 : Heap) (locs1 : List Loc), t.heap = H1 → s.vm.Alike t.vm → px u → BX E u t → H.size ≤ H1.size → (∀ q : Nat, q < H.size → ¬ AX q → H1[q]? = H[q]?) → va_S A0 H0 H1 locs1 → H1[q9]? = some ce → ce.vm = .none → s.vm.findClass E = some ce.cls → vx_W p l e R s m args below meth c H1 locs1 (cells + mc) (slots + ms) Q (F0 m pc ls rest) q9)
    (kk : ∀ (r : Int64) (u : S) (t : State) (H1 : Heap) (locs1 : List Loc), t.heap = H1 → s.vm.Alike t.vm → post r u → B u t → H.size ≤ H1.size → (∀ q : Nat, q < H.size → ¬ A1 q → H1[q]? = H[q]?) → va_S A0 H0 H1 locs1 → W p l e R s m args below meth c H1 locs1 (cells + mc) (slots + ms) Q (F0 m (pc + 3) ls (.long r :: rest))) : W p l e R s m args below meth c H locs cells slots Q (F0 m pc ls st0) := by
  intro T hT X
  rcases hr T hT X with ⟨v, st₀, t, T', L, h0, X', hL, e1, e2, ⟨⟨r, u, hv, hp, hb⟩, hF⟩, st⟩ | ⟨q, st₀, t, T', L, E, ce, h0, X', hL, e1, e2, ⟨u, hp, hb, hF⟩, hce, hcv, hcl, st⟩
  · cases hv
    obtain ⟨k1, k2, k3⟩ := vx_keep h0 e1 hS hA hf hL hF
    obtain ⟨t2, a1, b1⟩ := kk r u t T'.heap (locs ++ L) e1.symm (by rw [← e2]; exact X'.warmed.alike) hp hb k1 k2 k3 T' rfl X'
    exact ⟨t2, st t2 a1, b1⟩
  · obtain ⟨k1, k2, k3⟩ := vx_keep h0 e1 hS hAX hf hL hF
    obtain ⟨t2, a1, b1⟩ := kx E ce q u t T'.heap (locs ++ L) e1.symm (by rw [← e2]; exact X'.warmed.alike) hp hb k1 k2 k3 (by rw [e1]; exact hce) hcv hcl T' rfl X'
    exact ⟨t2, st.trans a1, b1⟩
theorem vx_callf {S SX : Type} {post : UInt32 → S → Prop} {px : SX → Prop} {B : S → State → Prop} {BX : String → SX → State → Prop} {AX : Nat → Prop} (hr : vx_Run p l e R s m args below meth c H locs cells slots mc ms (F0 m pc ls st0) rest (va_Qf post B A1 a) (vx_X px BX AX) free) (hS : va_S A0 H0 H locs) (hA : ∀ q, q < H.size → A1 q → A0 q) (hf : ∀ q, free q → A0 q) (hAX : ∀ q, q < H.size → AX q → A0 q)
    (kx : ∀ (E : String) (ce : Cell) (q9 : Addr) (u : SX) (t : State) (H1 : Heap) (locs1 : List Loc), t.heap = H1 → s.vm.Alike t.vm → px u → BX E u t → H.size ≤ H1.size → (∀ q : Nat, q < H.size → ¬ AX q → H1[q]? = H[q]?) → va_S A0 H0 H1 locs1 → H1[q9]? = some ce → ce.vm = .none → s.vm.findClass E = some ce.cls → vx_W p l e R s m args below meth c H1 locs1 (cells + mc) (slots + ms) Q (F0 m pc ls rest) q9)
    (kk : ∀ (r : UInt32) (u : S) (t : State) (H1 : Heap) (locs1 : List Loc), t.heap = H1 → s.vm.Alike t.vm → post r u → B u t → H.size ≤ H1.size → (∀ q : Nat, q < H.size → ¬ A1 q → H1[q]? = H[q]?) → va_S A0 H0 H1 locs1 → W p l e R s m args below meth c H1 locs1 (cells + mc) (slots + ms) Q (F0 m (pc + 3) ls (.float r :: rest))) : W p l e R s m args below meth c H locs cells slots Q (F0 m pc ls st0) := by
  intro T hT X
  rcases hr T hT X with ⟨v, st₀, t, T', L, h0, X', hL, e1, e2, ⟨⟨r, u, hv, hp, hb⟩, hF⟩, st⟩ | ⟨q, st₀, t, T', L, E, ce, h0, X', hL, e1, e2, ⟨u, hp, hb, hF⟩, hce, hcv, hcl, st⟩
  · cases hv
    obtain ⟨k1, k2, k3⟩ := vx_keep h0 e1 hS hA hf hL hF
    obtain ⟨t2, a1, b1⟩ := kk r u t T'.heap (locs ++ L) e1.symm (by rw [← e2]; exact X'.warmed.alike) hp hb k1 k2 k3 T' rfl X'
    exact ⟨t2, st t2 a1, b1⟩
  · obtain ⟨k1, k2, k3⟩ := vx_keep h0 e1 hS hAX hf hL hF
    obtain ⟨t2, a1, b1⟩ := kx E ce q u t T'.heap (locs ++ L) e1.symm (by rw [← e2]; exact X'.warmed.alike) hp hb k1 k2 k3 (by rw [e1]; exact hce) hcv hcl T' rfl X'
    exact ⟨t2, st.trans a1, b1⟩
theorem vx_calld {S SX : Type} {post : UInt64 → S → Prop} {px : SX → Prop} {B : S → State → Prop} {BX : String → SX → State → Prop} {AX : Nat → Prop} (hr : vx_Run p l e R s m args below meth c H locs cells slots mc ms (F0 m pc ls st0) rest (va_Qd post B A1 a) (vx_X px BX AX) free) (hS : va_S A0 H0 H locs) (hA : ∀ q, q < H.size → A1 q → A0 q) (hf : ∀ q, free q → A0 q) (hAX : ∀ q, q < H.size → AX q → A0 q)
    (kx : ∀ (E : String) (ce : Cell) (q9 : Addr) (u : SX) (t : State) (H1 : Heap) (locs1 : List Loc), t.heap = H1 → s.vm.Alike t.vm → px u → BX E u t → H.size ≤ H1.size → (∀ q : Nat, q < H.size → ¬ AX q → H1[q]? = H[q]?) → va_S A0 H0 H1 locs1 → H1[q9]? = some ce → ce.vm = .none → s.vm.findClass E = some ce.cls → vx_W p l e R s m args below meth c H1 locs1 (cells + mc) (slots + ms) Q (F0 m pc ls rest) q9)
    (kk : ∀ (r : UInt64) (u : S) (t : State) (H1 : Heap) (locs1 : List Loc), t.heap = H1 → s.vm.Alike t.vm → post r u → B u t → H.size ≤ H1.size → (∀ q : Nat, q < H.size → ¬ A1 q → H1[q]? = H[q]?) → va_S A0 H0 H1 locs1 → W p l e R s m args below meth c H1 locs1 (cells + mc) (slots + ms) Q (F0 m (pc + 3) ls (.double r :: rest))) : W p l e R s m args below meth c H locs cells slots Q (F0 m pc ls st0) := by
  intro T hT X
  rcases hr T hT X with ⟨v, st₀, t, T', L, h0, X', hL, e1, e2, ⟨⟨r, u, hv, hp, hb⟩, hF⟩, st⟩ | ⟨q, st₀, t, T', L, E, ce, h0, X', hL, e1, e2, ⟨u, hp, hb, hF⟩, hce, hcv, hcl, st⟩
  · cases hv
    obtain ⟨k1, k2, k3⟩ := vx_keep h0 e1 hS hA hf hL hF
    obtain ⟨t2, a1, b1⟩ := kk r u t T'.heap (locs ++ L) e1.symm (by rw [← e2]; exact X'.warmed.alike) hp hb k1 k2 k3 T' rfl X'
    exact ⟨t2, st t2 a1, b1⟩
  · obtain ⟨k1, k2, k3⟩ := vx_keep h0 e1 hS hAX hf hL hF
    obtain ⟨t2, a1, b1⟩ := kx E ce q u t T'.heap (locs ++ L) e1.symm (by rw [← e2]; exact X'.warmed.alike) hp hb k1 k2 k3 (by rw [e1]; exact hce) hcv hcl T' rfl X'
    exact ⟨t2, st.trans a1, b1⟩
theorem vx_callv {S SX : Type} {post : S → Prop} {px : SX → Prop} {B : S → State → Prop} {BX : String → SX → State → Prop} {AX : Nat → Prop} (hr : vx_Run p l e R s m args below meth c H locs cells slots mc ms (F0 m pc ls st0) rest (va_Qv post B A1 a) (vx_X px BX AX) free) (hS : va_S A0 H0 H locs) (hA : ∀ q, q < H.size → A1 q → A0 q) (hf : ∀ q, free q → A0 q) (hAX : ∀ q, q < H.size → AX q → A0 q)
    (kx : ∀ (E : String) (ce : Cell) (q9 : Addr) (u : SX) (t : State) (H1 : Heap) (locs1 : List Loc), t.heap = H1 → s.vm.Alike t.vm → px u → BX E u t → H.size ≤ H1.size → (∀ q : Nat, q < H.size → ¬ AX q → H1[q]? = H[q]?) → va_S A0 H0 H1 locs1 → H1[q9]? = some ce → ce.vm = .none → s.vm.findClass E = some ce.cls → vx_W p l e R s m args below meth c H1 locs1 (cells + mc) (slots + ms) Q (F0 m pc ls rest) q9)
    (kk : ∀ (u : S) (t : State) (H1 : Heap) (locs1 : List Loc), t.heap = H1 → s.vm.Alike t.vm → post u → B u t → H.size ≤ H1.size → (∀ q : Nat, q < H.size → ¬ A1 q → H1[q]? = H[q]?) → va_S A0 H0 H1 locs1 → W p l e R s m args below meth c H1 locs1 (cells + mc) (slots + ms) Q (F0 m (pc + 3) ls (rest))) : W p l e R s m args below meth c H locs cells slots Q (F0 m pc ls st0) := by
  intro T hT X
  rcases hr T hT X with ⟨v, st₀, t, T', L, h0, X', hL, e1, e2, ⟨⟨u, hv, hp, hb⟩, hF⟩, st⟩ | ⟨q, st₀, t, T', L, E, ce, h0, X', hL, e1, e2, ⟨u, hp, hb, hF⟩, hce, hcv, hcl, st⟩
  · cases hv
    obtain ⟨k1, k2, k3⟩ := vx_keep h0 e1 hS hA hf hL hF
    obtain ⟨t2, a1, b1⟩ := kk u t T'.heap (locs ++ L) e1.symm (by rw [← e2]; exact X'.warmed.alike) hp hb k1 k2 k3 T' rfl X'
    exact ⟨t2, st t2 a1, b1⟩
  · obtain ⟨k1, k2, k3⟩ := vx_keep h0 e1 hS hAX hf hL hF
    obtain ⟨t2, a1, b1⟩ := kx E ce q u t T'.heap (locs ++ L) e1.symm (by rw [← e2]; exact X'.warmed.alike) hp hb k1 k2 k3 (by rw [e1]; exact hce) hcv hcl T' rfl X'
    exact ⟨t2, st.trans a1, b1⟩
/-- caught by the row x of this method's table; the rows ahead don't take it -/
theorem vx_catch {own name : String} {E : String} {ce : Cell} {q : Addr} (hown : s.vm.findClass own = some m.cls) (pre : List ExceptionTableEntry) (x : ExceptionTableEntry) (suf : List ExceptionTableEntry) (hsplit : c.exceptionTable.toList = pre ++ x :: suf)
    (hpass : ∀ z ∈ pre, covers z pc = false ∨ (z.catchType ≠ 0 ∧ ∃ nm : String, (Cond.classLink own z.catchType nm).before args s = true ∧ va_Nc E nm s)) (hx : covers x pc = true) (h0 : x.catchType ≠ 0)
    (hlink : (Cond.classLink own x.catchType name).before args s = true) (hcast : (Cond.castable E name).before args s = true) (hcell : H[q]? = some ce) (hv : ce.vm = .none) (hcl : s.vm.findClass E = some ce.cls)
    (kk : W p l e R s m args below meth c H locs cells slots Q (F0 m x.handlerPc ls [.ref q])) : vx_W p l e R s m args below meth c H locs cells slots Q (F0 m pc ls rest) q := by
  intro T hT X
  have hpl : e.platform.magicAccessors = ({} : Platform).magicAccessors := by rw [X.admits.platform]
  obtain ⟨c3, c4, hc3, hc4, hasg⟩ := Cond.castable_spec hcast
  cases Option.some.inj (hc3.symm.trans hcl)
  obtain ⟨c5, hc5, hcl5⟩ := Cond.classLink_spec hown hlink e.platform hpl
  cases Option.some.inj (hc4.symm.trans hc5)
  obtain ⟨vm', X', st⟩ := X.thenCaughtThrough q (g := F0 m pc ls rest) rfl (Steps.refl _) (by rw [hT]; exact hcell) (by rw [hv]; rfl) (by obtain ⟨k9, h9, -⟩ := Vm.findClass_spec hcl; exact ⟨k9, h9⟩) pre x suf hsplit
    (fun z hz => by
      rcases hpass z hz with h | ⟨hz0, nm, hl1, hn1⟩
      · exact Or.inl h
      · obtain ⟨c6, hc6, hcl6⟩ := Cond.classLink_spec hown hl1 e.platform hpl
        obtain ⟨a8, b8, h1, h2, h3⟩ := hn1
        cases Option.some.inj (h1.symm.trans hcl)
        cases Option.some.inj (h2.symm.trans hc6)
        exact Or.inr ⟨hz0, _, hcl6, h3⟩) hx (Or.inr ⟨h0, c4, hcl5, hasg⟩)
  obtain ⟨t, a1, b1⟩ := kk (T.setVm vm') hT X'
  exact ⟨t, st.trans a1, b1⟩
end Rows
section Ends
variable {p : Program} {l : Launch} {e : Env} {R : Room} {s : State} {m : MethodId} {args : Array Value} {below : List Frame} {meth : Method} {c : Code} {H : Heap} {locs : List Loc} {cells slots : Nat} {Q : State → Prop}
variable {mc ms : Nat} {free : Addr → Prop} {A0 A1 : Nat → Prop} {H0 : Heap} {a : Array Value} {ls : Array Slot} {st0 rest : List Value}
variable {Qc : Array Value → State → Outcome → State → Prop} {XC : String → State → State → Prop}
/-- what a body that may throw owes at its end -/
def vx_MQ (below : List Frame) (Qc : Array Value → State → Outcome → State → Prop) (XC : String → State → State → Prop) (a : Array Value) (s : State) (mc ms : Nat) (free : Addr → Prop) : State → Prop := fun t =>
  ∃ o, t.status = .running ∧ Ended t below o ∧ vx_Q Qc XC mc ms free a s o t
theorem vx_ret {g : JFrame} {mc ms : Nat} (k : W p l e R s m args below meth c H locs cells slots (MQ below Qc args s mc ms free) g) : W p l e R s m args below meth c H locs cells slots (vx_MQ below Qc XC args s mc ms free) g := by
  intro T hT X
  obtain ⟨t, a1, o, b1, b2, b3, b4⟩ := k T hT X
  exact ⟨t, a1, o, b1, b2, Or.inl ⟨b3, b4⟩⟩
/-- not caught here: it goes on to the caller -/
theorem vx_widen {g : JFrame} {q : Addr} {k n : Nat} (h1 : cells ≤ k) (h2 : slots ≤ n) (kk : vx_W p l e R s m args below meth c H locs k n Q g q) : vx_W p l e R s m args below meth c H locs cells slots Q g q := fun T hT X => kk T hT (stand_widen X h1 h2)
theorem vx_out {pc : Nat} {E : String} {ce : Cell} {q : Addr} {mc ms : Nat} (hout : ∀ x ∈ c.exceptionTable.toList, covers x pc = false) (hlocks : meth.locks = false) (hcell : H[q]? = some ce) (hv : ce.vm = .none) (hcl : s.vm.findClass E = some ce.cls)
    (hx : ∀ t : State, t.heap = H → s.vm.Alike t.vm → XC E s t) (hf : ∀ z ∈ locs, free z.base) (hc : cells ≤ mc) (hs : slots ≤ ms) :
    vx_W p l e R s m args below meth c H locs cells slots (vx_MQ below Qc XC args s mc ms free) (F0 m pc ls rest) q := by
  intro T hT X
  obtain ⟨st1, hrun, hend, hW, hsm⟩ := X.leaveThrown q (g := F0 m pc ls rest) rfl rfl rfl hout hlocks
  have hcell9 : (T.setFrames (.throwing q :: below)).heap[q]? = some ce := by
    show T.heap[q]? = some ce
    rw [hT]; exact hcell
  exact ⟨_, st1, .threw q, hrun, hend, Or.inr ⟨q, rfl, E, ce, locs, hx _ hT hW.alike, hcell9, hv, hcl, hW, hsm.mono hc hs, hf⟩⟩
theorem vx_frame {U : State} {k n : Nat} (h : s.sameButNew ({ U with vm := s.vm } : State) locs k n) : s.heap.size ≤ U.heap.size ∧ ∀ q : Nat, q < s.heap.size → (∀ z ∈ locs, z.base ≠ q) → U.heap[q]? = s.heap[q]? := by
  obtain ⟨-, h2, -, -, -, h6⟩ := h
  refine ⟨h2, fun q hq hz => ?_⟩
  obtain ⟨c9, e1, e2, e3, e4⟩ := h6 q _ (Array.getElem?_eq_getElem hq)
  have hs : c9.slots = (s.heap[q]).slots := Array.ext_getElem? fun i => e4 i fun hm => hz _ hm rfl
  have h9 : c9 = s.heap[q] := by
    rw [hs] at e2
    exact e2
  have e5 : U.heap[q]? = some c9 := e1
  rw [e5, h9, Array.getElem?_eq_getElem hq]
/-- the words of a throw but the four that speak of the heap -/
def vx_no (w : Cond) : Bool := decide (w ≠ .isRef (.static Bundle.tN "UNASSIGNED_STACK" Bundle.steD)) && decide (w ≠ .isRef (.static Bundle.tN "SUPPRESSED_SENTINEL" Bundle.listD)) && decide (w ≠ .laysStatic Bundle.tN "UNASSIGNED_STACK" Bundle.steD) && decide (w ≠ .laysStatic Bundle.tN "SUPPRESSED_SENTINEL" Bundle.listD)
def vx_at0 (own : String) (ic : Nat) (X : String) (names : List String) : List Cond := (Bundle.ownAtoms0 own ic X names).filter vx_no
def vx_atS (own : String) (ic : Nat) (X : String) (names : List String) : List Cond := (Bundle.ownAtoms own ic X names).filter vx_no
/-- a word that the tables alone decide, or a good one -/
def vx_ot (w : Cond) : Bool := w.onTables || goodWord w
theorem vx_ot_at {args a' : Array Value} {s U : State} {w : Cond} (hW : s.WarmedH U.vm) (hvm : s.vm = U.vm) (hg : vx_ot w = true) (h : w.before args s = true) : w.before a' U = true := by
  simp only [vx_ot, Bool.or_eq_true] at hg
  rcases hg with hg | hg
  · exact va_tabs hg hvm h
  · exact word_at hW (good_of_word hg) h
/-- a list's words: the good ones out of the method's own list, the others by premises of their own -/
theorem vx_hat {args : Array Value} {s : State} {L B : List Cond} (h1 : ∀ w ∈ L.filter goodWord, w.before args s = true) (h2 : ∀ w ∈ L.filter (fun w => !goodWord w), w ∈ B) (h3 : ∀ w ∈ B, w.before args s = true) : ∀ w ∈ L, w.before args s = true := by
  intro w hw
  by_cases g : goodWord w = true
  · exact h1 w (List.mem_filter.mpr ⟨hw, g⟩)
  · refine h3 w (h2 w (List.mem_filter.mpr ⟨hw, ?_⟩))
    show (!goodWord w) = true
    cases hgw : goodWord w
    · rfl
    · exact absurd hgw g
theorem vx_c {args : Array Value} {s : State} {w : Cond} {B : List Cond} (h : w.before args s = true) (t : ∀ w ∈ B, w.before args s = true) : ∀ w' ∈ w :: B, w'.before args s = true := fun w' h' => (List.mem_cons.mp h').elim (fun e => by rw [e]; exact h) (t w')
theorem vx_n {args : Array Value} {s : State} : ∀ w ∈ ([] : List Cond), w.before args s = true := fun _ h => nomatch h
theorem vx_own {args : Array Value} {s : State} {L : List Cond} (h1 : ∀ w ∈ L.filter vx_no, w.before args s = true)
    (hU : (Cond.isRef (.static Bundle.tN "UNASSIGNED_STACK" Bundle.steD)).before args s = true) (hN : (Cond.isRef (.static Bundle.tN "SUPPRESSED_SENTINEL" Bundle.listD)).before args s = true)
    (lU : (Cond.laysStatic Bundle.tN "UNASSIGNED_STACK" Bundle.steD).before args s = true) (lN : (Cond.laysStatic Bundle.tN "SUPPRESSED_SENTINEL" Bundle.listD).before args s = true) : ∀ w ∈ L, w.before args s = true := by
  intro w hw
  by_cases e1 : w = .isRef (.static Bundle.tN "UNASSIGNED_STACK" Bundle.steD)
  · rw [e1]; exact hU
  · by_cases e2 : w = .isRef (.static Bundle.tN "SUPPRESSED_SENTINEL" Bundle.listD)
    · rw [e2]; exact hN
    · by_cases e3 : w = .laysStatic Bundle.tN "UNASSIGNED_STACK" Bundle.steD
      · rw [e3]; exact lU
      · by_cases e4 : w = .laysStatic Bundle.tN "SUPPRESSED_SENTINEL" Bundle.listD
        · rw [e4]; exact lN
        · exact h1 w (List.mem_filter.mpr ⟨hw, by unfold vx_no; rw [decide_eq_true e1, decide_eq_true e2, decide_eq_true e3, decide_eq_true e4]; rfl⟩)
/-- where a static field lies, its class's statics cell in H -/
def vx_L (C n d : String) (A : Nat → Prop) (U : State) (H : Heap) : Prop := ∃ (c : ClassId) (k : Class) (i : Nat) (f : Field) (a : Nat) (cell : Cell), U.vm.findClass C = some c ∧ U.fieldFound? C n d = some (c, k, i, f) ∧ f.isStatic = true ∧ k.statics = some a ∧ H[a]? = some cell ∧ cell.vm.isStatics = true ∧ cell.cls = c ∧ f.slot < cell.slots.size ∧ k.staticTypes[f.slot]? = some f.type ∧ ¬ A a
theorem vx_L.moved {C n d : String} {A : Nat → Prop} {u U : State} {H : Heap} (hvm : u.vm.Alike U.vm) (h : vx_L C n d A u H) : vx_L C n d A U H := by
  obtain ⟨c, k, i, f, a, cell, h1, h2, h3, h4, h5, h6, h7, h8, h9, h10⟩ := h
  obtain ⟨k', hi', he⟩ := State.fieldFound?_setVm hvm h2
  exact ⟨c, k', i, f, a, cell, by rw [hvm.findClass]; exact h1, hi', h3, by rw [he]; exact h4, h5, h6, h7, h8, by rw [he]; exact h9, h10⟩
theorem vx_L.kept {C n d : String} {A : Nat → Prop} {U : State} {H H1 : Heap} (h : vx_L C n d A U H) (hq : ∀ a : Nat, a < H.size → ¬ A a → H1[a]? = H[a]?) : vx_L C n d A U H1 := by
  obtain ⟨c, k, i, f, a, cell, h1, h2, h3, h4, h5, h6, h7, h8, h9, h10⟩ := h
  exact ⟨c, k, i, f, a, cell, h1, h2, h3, h4, by rw [hq a (Array.getElem?_eq_some_iff.mp h5).1 h10]; exact h5, h6, h7, h8, h9, h10⟩
theorem vx_L.narrow {C n d : String} {A B : Nat → Prop} {U : State} {H : Heap} (h : vx_L C n d A U H) (hAB : ∀ q, B q → A q) : vx_L C n d B U H := by
  obtain ⟨c, k, i, f, a, cell, h1, h2, h3, h4, h5, h6, h7, h8, h9, h10⟩ := h
  exact ⟨c, k, i, f, a, cell, h1, h2, h3, h4, h5, h6, h7, h8, h9, fun z => h10 (hAB _ z)⟩
theorem vx_L.word {C n d : String} {A : Nat → Prop} {s : State} {args : Array Value} (h : vx_L C n d A s s.heap) : (Cond.laysStatic C n d).before args s = true := by
  obtain ⟨c, k, i, f, a, cell, h1, h2, h3, h4, h5, h6, h7, h8, h9, -⟩ := h
  show (Cond.laysStatic C n d).holds args s none s [] = true
  exact Cond.laysStatic_of h1 h2 h3 h4 h5 h6 h7 h8 h9
/-- .. and what it holds: null or some reference -/
def vx_Zq (C n d : String) (A : Nat → Prop) (U : State) (H : Heap) : Prop := va_Zq C n d A U H ∧ vx_L C n d A U H
theorem vx_Zq.moved {C n d : String} {A : Nat → Prop} {u U : State} {H : Heap} (hvm : u.vm.Alike U.vm) (h : vx_Zq C n d A u H) : vx_Zq C n d A U H := ⟨va_Zq.moved hvm h.1, vx_L.moved hvm h.2⟩
theorem vx_Zq.kept {C n d : String} {A : Nat → Prop} {U : State} {H H1 : Heap} (h : vx_Zq C n d A U H) (hq : ∀ a : Nat, a < H.size → ¬ A a → H1[a]? = H[a]?) : vx_Zq C n d A U H1 := ⟨va_Zq.kept h.1 hq, vx_L.kept h.2 hq⟩
theorem vx_Zq.narrow {C n d : String} {A B : Nat → Prop} {U : State} {H : Heap} (h : vx_Zq C n d A U H) (hAB : ∀ q, B q → A q) : vx_Zq C n d B U H := ⟨va_Zq.narrow h.1 hAB, vx_L.narrow h.2 hAB⟩
theorem vx_Zqof {args : Array Value} {s : State} {C n d : String} {A : Nat → Prop} (hl : (Cond.laysStatic C n d).before args s = true) (hini : (Cond.initialized C).before args s = true) (h : (Cond.isRef (.static C n d)).before args s = true) (hA : ∀ a : Nat, a < s.heap.size → ¬ A a) : vx_Zq C n d A s s.heap := by
  refine ⟨va_Zqof hl hini h hA, ?_⟩
  obtain ⟨c, k, i, f, a, cell, h1, h2, h3, h4, h5, h6, h7, h8, h9⟩ := Cond.laysStatic_spec hl
  exact ⟨c, k, i, f, a, cell, h1, h2, h3, h4, h5, h6, h7, h8, h9, hA a (Array.getElem?_eq_some_iff.mp h5).1⟩
theorem vx_isRef {C n d : String} {v : Value} {A : Nat → Prop} {s : State} {args : Array Value} (h : va_Z C n d v A s s.heap) (hv : v.isRef = true) : (Cond.isRef (.static C n d)).before args s = true := by
  obtain ⟨cf, kf, fi, f, a, cell, h1, h2, h3, h4, h5, h6, h7, -⟩ := h
  have he : (Term.static C n d).eval args s none [] s = some v := by
    simp [Term.eval, State.fieldNamed?, h1, h2, h4, h5, h6, h7]
  simp only [Cond.before, Cond.holds, Cond.value, he]
  cases v <;> simp_all [Value.isRef]
theorem vx_isRefq {C n d : String} {A : Nat → Prop} {s : State} {args : Array Value} (h : va_Zq C n d A s s.heap) : (Cond.isRef (.static C n d)).before args s = true := by
  rcases h with h | ⟨t, h⟩
  · exact vx_isRef h rfl
  · exact vx_isRef h rfl
/-- the same frame, seen from here: as if the method were called anew in this heap -/
theorem vx_rebase {T : State} (X : Stand p l e R s m args below meth c T locs cells slots) {R' : Room} (hf : R'.frames ≤ R.frames) (hl : R'.locals ≤ R.locals) (hc : cells + R'.cells ≤ R.cells) (hs : slots + R'.slots ≤ R.slots) :
    Stand p l e R' ((T.setVm s.vm).setFrames (.invoking m args :: below)) m args below meth c T [] 0 0 := by
  have htop : (T.setVm s.vm).topJava?.isSome := X.here.top
  have hF : ((T.setVm s.vm).setFrames (.invoking m args :: below)).frames = .invoking m args :: below := State.frames_setFrames _ (State.cur_lt_of_top htop)
  obtain ⟨g₀, hg0⟩ := Option.isSome_iff_exists.mp htop
  obtain ⟨r, hr⟩ := State.topJava?_eq_some.mp hg0
  have hl9 : e.platform.stackLimits (T.setVm s.vm).me = e.platform.stackLimits s.me := X.limits
  have hb9 : (T.setVm s.vm).me.stackBytes = s.me.stackBytes := X.bytes
  refine ⟨X.admits, X.cas, X.clock, hF, ?_, X.hears, X.method, X.code, X.here, X.tail, X.warmed, ?_, ?_, ?_⟩
  · have h := X.room
    have hU : ((T.setVm s.vm).setFrames (.invoking m args :: below)).localsInUse = s.localsInUse := by
      rw [State.localsInUse_invoking hF (meth := meth) (c := c) X.method X.code, State.localsInUse_invoking X.frames X.method X.code]
    simp only [State.hasRoom, Bool.and_eq_true, decide_eq_true_eq] at h ⊢
    obtain ⟨⟨⟨⟨h1, h2, h3, h4, h5, h6⟩, h7⟩, h8⟩, h9⟩ := h
    rw [X.frames, List.length_cons] at h2 h3
    have q1 := X.heapSize
    have q2 := X.used
    simp only [hF, hU, List.length_cons, State.stackLimits_setFrames, State.stackBytes_setFrames, hl9, hb9]
    refine ⟨⟨⟨⟨by omega, by omega, by omega, by omega, by omega, h6⟩, ?_⟩, ?_⟩, X.book⟩
    · show T.heap.size + R'.cells ≤ e.platform.maxCells
      omega
    · show T.slotsUsed + R'.slots ≤ e.platform.maxSlots
      omega
  · rw [State.stackLimits_setFrames]; rfl
  · rw [State.stackBytes_setFrames]; rfl
  · refine ⟨?_, Nat.le_refl _, Nat.le_refl _, ?_, ?_, fun a c9 h9 => ⟨c9, h9, rfl, rfl, fun _ _ => rfl⟩⟩
    · obtain ⟨t, ht, -⟩ := State.frames_cons hr
      show T.setVm s.vm = { ((T.setVm s.vm).setFrames (.invoking m args :: below)).setFrames (T.setVm s.vm).frames with heap := T.heap, slotsUsed := T.slotsUsed }
      rw [State.setFrames_setFrames, State.setFrames_self ht]
      rfl
    · show T.slotsUsed = T.slotsUsed + ((T.heap.toList.drop T.heap.size).map (·.slots.size)).sum
      rw [List.drop_eq_nil_of_le (Nat.le_of_eq Array.length_toList)]
      rfl
    · show ((T.heap.toList.drop T.heap.size).map (·.slots.size)).sum ≤ 0
      rw [List.drop_eq_nil_of_le (Nat.le_of_eq Array.length_toList)]
      exact Nat.le_refl _
/-- 'throw new E()': new; dup; invokespecial; athrow -/
theorem vx_throw0 {cc : ByteArray} {pc : Nat} (hexec : p.tables.exec = Jvm.exec) (hb : c.code = cc) (hl : l.stackTraces = false) {own cls : String} {names : List String} {ik ic mc ms : Nat} {A : Nat → Prop}
    (hown : s.vm.findClass own = some m.cls) (hcls : Bundle.fit cls = true) (hnames : ∀ n ∈ names, Bundle.fit n = true)
    (hk : (Cond.classLink own ik cls).before args s = true) (hini : (Cond.initialized cls).before args s = true) (hat : ∀ w ∈ vx_at0 own ic cls names, w.before args s = true)
    (hgood : ∀ w ∈ Cond.classLink own ik cls :: Cond.initialized cls :: vx_at0 own ic cls names, vx_ot w = true)
    (hU : vx_Zq Bundle.tN "UNASSIGNED_STACK" Bundle.steD A s s.heap) (hN : vx_Zq Bundle.tN "SUPPRESSED_SENTINEL" Bundle.listD A s s.heap) (hS : va_S A s.heap H locs) (hsize : ls.size = c.maxLocals)
    (d0 : decode cc pc = .ok (.new ik, 3)) (d3 : decode cc (pc + 3) = .ok (.dup, 1)) (d4 : decode cc (pc + 4) = .ok (.invokespecial ic, 3)) (d7 : decode cc (pc + 7) = .ok (.athrow, 1))
    (hout : ∀ x ∈ c.exceptionTable.toList, covers x (pc + 7) = false)
    (hRframes : names.length + 3 < R.frames) (hRlocals : (rest.map fun v => v.category).sum + (13 * (names.length + 1) + 42) ≤ R.locals) (hRcells : cells + 1 ≤ R.cells) (hRslots : slots + 6 ≤ R.slots) (hlocks : meth.locks = false)
    (hx : ∀ t : State, s.vm.Alike t.vm → H.size ≤ t.heap.size → (∀ q : Nat, q < H.size → t.heap[q]? = H[q]?) → XC cls s t)
    (hf : ∀ z ∈ locs, free z.base) (hc : cells + 1 ≤ mc) (hs : slots + 6 ≤ ms) :
    W p l e R s m args below meth c H locs cells slots (vx_MQ below Qc XC args s mc ms free) (F0 m pc ls rest) := by
  intro T hT X
  have htr : e.platform.stackTraces = false := (show e.platform.stackTraces = l.stackTraces by rw [X.admits.platform]).trans hl
  have Y := vx_rebase X (R' := { frames := R.frames, locals := R.locals, cells := 1, slots := 6 }) (Nat.le_refl _) (Nat.le_refl _) hRcells hRslots
  obtain ⟨s', hA⟩ : ∃ z, z = (T.setVm s.vm).setFrames (.invoking m args :: below) := ⟨_, rfl⟩
  rw [← hA] at Y
  have hvm : s'.vm = s.vm := by rw [hA]; rfl
  have hhp : s'.heap = H := by rw [hA]; exact hT
  have hW0 : s.WarmedH s'.vm := by rw [hvm]; exact State.WarmedH.refl s
  have hat' : ∀ w ∈ vx_at0 own ic cls names, w.before args s' = true := fun w hw => vx_ot_at hW0 hvm.symm (hgood w (List.mem_cons_of_mem _ (List.mem_cons_of_mem _ hw))) (hat w hw)
  have hk' : (Cond.classLink own ik cls).before args s' = true := vx_ot_at hW0 hvm.symm (hgood _ List.mem_cons_self) hk
  have hini' : (Cond.initialized cls).before args s' = true := vx_ot_at hW0 hvm.symm (hgood _ (List.mem_cons_of_mem _ List.mem_cons_self)) hini
  have hU' : vx_Zq Bundle.tN "UNASSIGNED_STACK" Bundle.steD A s' s'.heap := by rw [hhp]; exact vx_Zq.moved hW0.alike (hU.kept hS.2.1)
  have hN' : vx_Zq Bundle.tN "SUPPRESSED_SENTINEL" Bundle.listD A s' s'.heap := by rw [hhp]; exact vx_Zq.moved hW0.alike (hN.kept hS.2.1)
  have h : ∀ w ∈ Bundle.ownAtoms0 own ic cls names, w.before args s' = true := vx_own hat' (vx_isRefq hU'.1) (vx_isRefq hN'.1) hU'.2.word hN'.2.word
  have hown' : s'.vm.findClass own = some m.cls := by rw [hvm]; exact hown
  have hins : (Cond.instantiable cls 6).before args s' = true := h _ (by simp [Bundle.ownAtoms0])
  obtain ⟨vm₁, cX, kX, hfX, hkX, -, -, X₁, st1⟩ := Y.newCold hexec (own := own) (C := cls) (index := ik) (n := 6) hown' hk' hins hini'
    (g := F0 m pc ls rest) rfl (by rw [hb]; exact d0) (Nat.le_refl _) (Nat.le_refl _)
  generalize hT1 : (T.setVm vm₁).pushCell { cls := cX, slots := kX.instanceTypes.map defaultValue, vm := .none } = T1 at X₁ st1
  have hcat : (Value.ref T.heap.size).category = 1 := rfl
  have hcellA : T1.heap[T.heap.size]? = some (freshCell cX kX) := by rw [← hT1]; exact State.heap_pushCell_size _ _
  have d3' : decode c.code (pc + 3) = .ok (.dup, 1) := by rw [hb]; exact d3
  obtain ⟨U, hsteps, hrun, hend, hW, hsame, ce, hce, hO⟩ := X₁.ctorThrow0 hexec htr (own := own) (cls := cls) (names := names) (ic := ic) hown' hcls hnames h (fun x hx => nomatch hx) hfX hkX hcellA (by rw [hhp, hT]; exact Nat.le_refl _)
    (g := { method := m, pc := pc + 4, locals := ls, stack := .ref T.heap.size :: .ref T.heap.size :: rest, locked := none }) rfl hsize rfl rfl (rest := rest) rfl
    (by rw [hb]; exact d4) (by rw [hb]; exact d7) hout hRframes (by simp only [List.map_cons, List.sum_cons, hcat]; omega) hlocks
  obtain ⟨f1, f2⟩ := vx_frame hsame
  rw [hhp] at f1 f2
  have hWs : s.WarmedH U.vm := State.WarmedH.trans hW0 hW
  have hcl : s.vm.findClass cls = some ce.cls := by
    have h9 := hO.cls
    rw [hvm] at h9
    exact h9
  have hall : s.sameButNew ({ U with vm := s.vm } : State) locs mc ms := by
    subst hA
    obtain ⟨e1, e2⟩ := hsame
    rw [State.setFrames_setFrames] at e1
    have h2 : (T.setVm s.vm).sameButNew ({ U with vm := s.vm } : State) [] (0 + 1) (0 + 6) := ⟨e1, e2⟩
    have h3 := X.same.trans h2
    rw [List.append_nil] at h3
    exact h3.mono hc hs
  refine ⟨U, ?_, .threw T.heap.size, hrun, hend, Or.inr ⟨T.heap.size, rfl, cls, ce, locs, hx U hWs.alike f1 (fun q hq => f2 q hq (fun z hz => nomatch hz)), hce, hO.vm, hcl, hWs, hall, hf⟩⟩
  refine st1 _ ?_
  show Steps p.tables e below (T1.setTop { method := m, pc := pc + 3, locals := ls, stack := .ref T.heap.size :: rest, locked := none }) _
  jvm_step X₁.here [X₁.here.top, hexec, d3', Value.category]
  exact hsteps
/-- 'throw new E("text")': new; dup; ldc; invokespecial; athrow -/
theorem vx_throwS {cc : ByteArray} {pc : Nat} (hexec : p.tables.exec = Jvm.exec) (hb : c.code = cc) (hl : l.stackTraces = false) {own cls text : String} {names : List String} {ik is ic mc ms sa : Nat} {A : Nat → Prop}
    (hown : s.vm.findClass own = some m.cls) (hcls : Bundle.fit cls = true) (hnames : ∀ n ∈ names, Bundle.fit n = true)
    (hk : (Cond.classLink own ik cls).before args s = true) (hini : (Cond.initialized cls).before args s = true) (hstr : vk_R own is text sa s) (hat : ∀ w ∈ vx_atS own ic cls names, w.before args s = true)
    (hgood : ∀ w ∈ Cond.classLink own ik cls :: Cond.initialized cls :: vx_atS own ic cls names, vx_ot w = true)
    (hU : vx_Zq Bundle.tN "UNASSIGNED_STACK" Bundle.steD A s s.heap) (hN : vx_Zq Bundle.tN "SUPPRESSED_SENTINEL" Bundle.listD A s s.heap) (hS : va_S A s.heap H locs) (hsize : ls.size = c.maxLocals)
    (d0 : decode cc pc = .ok (.new ik, 3)) (d3 : decode cc (pc + 3) = .ok (.dup, 1)) (d4 : decode cc (pc + 4) = .ok (.ldc is, 2)) (d6 : decode cc (pc + 6) = .ok (.invokespecial ic, 3)) (d9 : decode cc (pc + 9) = .ok (.athrow, 1))
    (hout : ∀ x ∈ c.exceptionTable.toList, covers x (pc + 9) = false)
    (hRframes : names.length + 3 < R.frames) (hRlocals : (rest.map fun v => v.category).sum + (13 * (names.length + 1) + 43) ≤ R.locals) (hRcells : cells + 1 ≤ R.cells) (hRslots : slots + 6 ≤ R.slots) (hlocks : meth.locks = false)
    (hx : ∀ t : State, s.vm.Alike t.vm → H.size ≤ t.heap.size → (∀ q : Nat, q < H.size → t.heap[q]? = H[q]?) → XC cls s t)
    (hf : ∀ z ∈ locs, free z.base) (hc : cells + 1 ≤ mc) (hs : slots + 6 ≤ ms) :
    W p l e R s m args below meth c H locs cells slots (vx_MQ below Qc XC args s mc ms free) (F0 m pc ls rest) := by
  intro T hT X
  have htr : e.platform.stackTraces = false := (show e.platform.stackTraces = l.stackTraces by rw [X.admits.platform]).trans hl
  have Y := vx_rebase X (R' := { frames := R.frames, locals := R.locals, cells := 1, slots := 6 }) (Nat.le_refl _) (Nat.le_refl _) hRcells hRslots
  obtain ⟨s', hA⟩ : ∃ z, z = (T.setVm s.vm).setFrames (.invoking m args :: below) := ⟨_, rfl⟩
  rw [← hA] at Y
  have hvm : s'.vm = s.vm := by rw [hA]; rfl
  have hhp : s'.heap = H := by rw [hA]; exact hT
  have hW0 : s.WarmedH s'.vm := by rw [hvm]; exact State.WarmedH.refl s
  have hat' : ∀ w ∈ vx_atS own ic cls names, w.before args s' = true := fun w hw => vx_ot_at hW0 hvm.symm (hgood w (List.mem_cons_of_mem _ (List.mem_cons_of_mem _ hw))) (hat w hw)
  have hk' : (Cond.classLink own ik cls).before args s' = true := vx_ot_at hW0 hvm.symm (hgood _ List.mem_cons_self) hk
  have hini' : (Cond.initialized cls).before args s' = true := vx_ot_at hW0 hvm.symm (hgood _ (List.mem_cons_of_mem _ List.mem_cons_self)) hini
  have hU' : vx_Zq Bundle.tN "UNASSIGNED_STACK" Bundle.steD A s' s'.heap := by rw [hhp]; exact vx_Zq.moved hW0.alike (hU.kept hS.2.1)
  have hN' : vx_Zq Bundle.tN "SUPPRESSED_SENTINEL" Bundle.listD A s' s'.heap := by rw [hhp]; exact vx_Zq.moved hW0.alike (hN.kept hS.2.1)
  have h : ∀ w ∈ Bundle.ownAtoms own ic cls names, w.before args s' = true := vx_own hat' (vx_isRefq hU'.1) (vx_isRefq hN'.1) hU'.2.word hN'.2.word
  have hown' : s'.vm.findClass own = some m.cls := by rw [hvm]; exact hown
  have hins : (Cond.instantiable cls 6).before args s' = true := h _ (by simp [Bundle.ownAtoms])
  obtain ⟨vm₁, cX, kX, hfX, hkX, -, -, X₁, st1⟩ := Y.newCold hexec (own := own) (C := cls) (index := ik) (n := 6) hown' hk' hins hini'
    (g := F0 m pc ls rest) rfl (by rw [hb]; exact d0) (Nat.le_refl _) (Nat.le_refl _)
  generalize hT1 : (T.setVm vm₁).pushCell { cls := cX, slots := kX.instanceTypes.map defaultValue, vm := .none } = T1 at X₁ st1
  have hcat : (Value.ref T.heap.size).category = 1 := rfl
  have hcellA : T1.heap[T.heap.size]? = some (freshCell cX kX) := by rw [← hT1]; exact State.heap_pushCell_size _ _
  have d3' : decode c.code (pc + 3) = .ok (.dup, 1) := by rw [hb]; exact d3
  have d4' : decode c.code (pc + 4) = .ok (.ldc is, 2) := by rw [hb]; exact d4
  have hstr' : vk_R own is text sa s' := vk_R.warm hW0 hstr
  obtain ⟨U, hsteps, hrun, hend, hW, hsame, ce, hce, hO⟩ := X₁.ctorThrowS hexec htr (own := own) (cls := cls) (names := names) (ic := ic) hown' hcls hnames h (fun x hx => nomatch hx) hfX hkX hcellA (by rw [hhp, hT]; exact Nat.le_refl _) (msg := .ref sa) rfl
    (g := { method := m, pc := pc + 6, locals := ls, stack := .ref sa :: .ref T.heap.size :: .ref T.heap.size :: rest, locked := none }) rfl hsize rfl rfl (rest := rest) rfl
    (by rw [hb]; exact d6) (by rw [hb]; exact d9) hout hRframes (by simp only [List.map_cons, List.sum_cons, hcat]; omega) hlocks
  obtain ⟨f1, f2⟩ := vx_frame hsame
  rw [hhp] at f1 f2
  have hWs : s.WarmedH U.vm := State.WarmedH.trans hW0 hW
  have hcl : s.vm.findClass cls = some ce.cls := by
    have h9 := hO.cls
    rw [hvm] at h9
    exact h9
  have hall : s.sameButNew ({ U with vm := s.vm } : State) locs mc ms := by
    subst hA
    obtain ⟨e1, e2⟩ := hsame
    rw [State.setFrames_setFrames] at e1
    have h2 : (T.setVm s.vm).sameButNew ({ U with vm := s.vm } : State) [] (0 + 1) (0 + 6) := ⟨e1, e2⟩
    have h3 := X.same.trans h2
    rw [List.append_nil] at h3
    exact h3.mono hc hs
  refine ⟨U, ?_, .threw T.heap.size, hrun, hend, Or.inr ⟨T.heap.size, rfl, cls, ce, locs, hx U hWs.alike f1 (fun q hq => f2 q hq (fun z hz => nomatch hz)), hce, hO.vm, hcl, hWs, hall, hf⟩⟩
  refine st1 _ ?_
  show Steps p.tables e below (T1.setTop { method := m, pc := pc + 3, locals := ls, stack := .ref T.heap.size :: rest, locked := none }) _
  jvm_step X₁.here [X₁.here.top, hexec, d3', Value.category]
  exact X₁.ldcString hexec (own := own) (text := text) (index := is) (a := sa) hown' hstr'.1 hstr'.2
    (g := { method := m, pc := pc + 4, locals := ls, stack := .ref T.heap.size :: .ref T.heap.size :: rest, locked := none }) rfl d4' _ hsteps
/-- 'throw new E("text")', the text by a wide index -/
theorem vx_throwSW {cc : ByteArray} {pc : Nat} (hexec : p.tables.exec = Jvm.exec) (hb : c.code = cc) (hl : l.stackTraces = false) {own cls text : String} {names : List String} {ik is ic mc ms sa : Nat} {A : Nat → Prop}
    (hown : s.vm.findClass own = some m.cls) (hcls : Bundle.fit cls = true) (hnames : ∀ n ∈ names, Bundle.fit n = true)
    (hk : (Cond.classLink own ik cls).before args s = true) (hini : (Cond.initialized cls).before args s = true) (hstr : vk_R own is text sa s) (hat : ∀ w ∈ vx_atS own ic cls names, w.before args s = true)
    (hgood : ∀ w ∈ Cond.classLink own ik cls :: Cond.initialized cls :: vx_atS own ic cls names, vx_ot w = true)
    (hU : vx_Zq Bundle.tN "UNASSIGNED_STACK" Bundle.steD A s s.heap) (hN : vx_Zq Bundle.tN "SUPPRESSED_SENTINEL" Bundle.listD A s s.heap) (hS : va_S A s.heap H locs) (hsize : ls.size = c.maxLocals)
    (d0 : decode cc pc = .ok (.new ik, 3)) (d3 : decode cc (pc + 3) = .ok (.dup, 1)) (d4 : decode cc (pc + 4) = .ok (.ldc_w is, 3)) (d7 : decode cc (pc + 7) = .ok (.invokespecial ic, 3)) (d10 : decode cc (pc + 10) = .ok (.athrow, 1))
    (hout : ∀ x ∈ c.exceptionTable.toList, covers x (pc + 10) = false)
    (hRframes : names.length + 3 < R.frames) (hRlocals : (rest.map fun v => v.category).sum + (13 * (names.length + 1) + 43) ≤ R.locals) (hRcells : cells + 1 ≤ R.cells) (hRslots : slots + 6 ≤ R.slots) (hlocks : meth.locks = false)
    (hx : ∀ t : State, s.vm.Alike t.vm → H.size ≤ t.heap.size → (∀ q : Nat, q < H.size → t.heap[q]? = H[q]?) → XC cls s t)
    (hf : ∀ z ∈ locs, free z.base) (hc : cells + 1 ≤ mc) (hs : slots + 6 ≤ ms) :
    W p l e R s m args below meth c H locs cells slots (vx_MQ below Qc XC args s mc ms free) (F0 m pc ls rest) := by
  intro T hT X
  have htr : e.platform.stackTraces = false := (show e.platform.stackTraces = l.stackTraces by rw [X.admits.platform]).trans hl
  have Y := vx_rebase X (R' := { frames := R.frames, locals := R.locals, cells := 1, slots := 6 }) (Nat.le_refl _) (Nat.le_refl _) hRcells hRslots
  obtain ⟨s', hA⟩ : ∃ z, z = (T.setVm s.vm).setFrames (.invoking m args :: below) := ⟨_, rfl⟩
  rw [← hA] at Y
  have hvm : s'.vm = s.vm := by rw [hA]; rfl
  have hhp : s'.heap = H := by rw [hA]; exact hT
  have hW0 : s.WarmedH s'.vm := by rw [hvm]; exact State.WarmedH.refl s
  have hat' : ∀ w ∈ vx_atS own ic cls names, w.before args s' = true := fun w hw => vx_ot_at hW0 hvm.symm (hgood w (List.mem_cons_of_mem _ (List.mem_cons_of_mem _ hw))) (hat w hw)
  have hk' : (Cond.classLink own ik cls).before args s' = true := vx_ot_at hW0 hvm.symm (hgood _ List.mem_cons_self) hk
  have hini' : (Cond.initialized cls).before args s' = true := vx_ot_at hW0 hvm.symm (hgood _ (List.mem_cons_of_mem _ List.mem_cons_self)) hini
  have hU' : vx_Zq Bundle.tN "UNASSIGNED_STACK" Bundle.steD A s' s'.heap := by rw [hhp]; exact vx_Zq.moved hW0.alike (hU.kept hS.2.1)
  have hN' : vx_Zq Bundle.tN "SUPPRESSED_SENTINEL" Bundle.listD A s' s'.heap := by rw [hhp]; exact vx_Zq.moved hW0.alike (hN.kept hS.2.1)
  have h : ∀ w ∈ Bundle.ownAtoms own ic cls names, w.before args s' = true := vx_own hat' (vx_isRefq hU'.1) (vx_isRefq hN'.1) hU'.2.word hN'.2.word
  have hown' : s'.vm.findClass own = some m.cls := by rw [hvm]; exact hown
  have hins : (Cond.instantiable cls 6).before args s' = true := h _ (by simp [Bundle.ownAtoms])
  obtain ⟨vm₁, cX, kX, hfX, hkX, -, -, X₁, st1⟩ := Y.newCold hexec (own := own) (C := cls) (index := ik) (n := 6) hown' hk' hins hini'
    (g := F0 m pc ls rest) rfl (by rw [hb]; exact d0) (Nat.le_refl _) (Nat.le_refl _)
  generalize hT1 : (T.setVm vm₁).pushCell { cls := cX, slots := kX.instanceTypes.map defaultValue, vm := .none } = T1 at X₁ st1
  have hcat : (Value.ref T.heap.size).category = 1 := rfl
  have hcellA : T1.heap[T.heap.size]? = some (freshCell cX kX) := by rw [← hT1]; exact State.heap_pushCell_size _ _
  have d3' : decode c.code (pc + 3) = .ok (.dup, 1) := by rw [hb]; exact d3
  have d4' : decode c.code (pc + 4) = .ok (.ldc_w is, 3) := by rw [hb]; exact d4
  have hstr' : vk_R own is text sa s' := vk_R.warm hW0 hstr
  obtain ⟨U, hsteps, hrun, hend, hW, hsame, ce, hce, hO⟩ := X₁.ctorThrowS hexec htr (own := own) (cls := cls) (names := names) (ic := ic) hown' hcls hnames h (fun x hx => nomatch hx) hfX hkX hcellA (by rw [hhp, hT]; exact Nat.le_refl _) (msg := .ref sa) rfl
    (g := { method := m, pc := pc + 7, locals := ls, stack := .ref sa :: .ref T.heap.size :: .ref T.heap.size :: rest, locked := none }) rfl hsize rfl rfl (rest := rest) rfl
    (by rw [hb]; exact d7) (by rw [hb]; exact d10) hout hRframes (by simp only [List.map_cons, List.sum_cons, hcat]; omega) hlocks
  obtain ⟨f1, f2⟩ := vx_frame hsame
  rw [hhp] at f1 f2
  have hWs : s.WarmedH U.vm := State.WarmedH.trans hW0 hW
  have hcl : s.vm.findClass cls = some ce.cls := by
    have h9 := hO.cls
    rw [hvm] at h9
    exact h9
  have hall : s.sameButNew ({ U with vm := s.vm } : State) locs mc ms := by
    subst hA
    obtain ⟨e1, e2⟩ := hsame
    rw [State.setFrames_setFrames] at e1
    have h2 : (T.setVm s.vm).sameButNew ({ U with vm := s.vm } : State) [] (0 + 1) (0 + 6) := ⟨e1, e2⟩
    have h3 := X.same.trans h2
    rw [List.append_nil] at h3
    exact h3.mono hc hs
  refine ⟨U, ?_, .threw T.heap.size, hrun, hend, Or.inr ⟨T.heap.size, rfl, cls, ce, locs, hx U hWs.alike f1 (fun q hq => f2 q hq (fun z hz => nomatch hz)), hce, hO.vm, hcl, hWs, hall, hf⟩⟩
  refine st1 _ ?_
  show Steps p.tables e below (T1.setTop { method := m, pc := pc + 3, locals := ls, stack := .ref T.heap.size :: rest, locked := none }) _
  jvm_step X₁.here [X₁.here.top, hexec, d3', Value.category]
  exact X₁.ldcStringW hexec (own := own) (text := text) (index := is) (a := sa) hown' hstr'.1 hstr'.2
    (g := { method := m, pc := pc + 4, locals := ls, stack := .ref T.heap.size :: .ref T.heap.size :: rest, locked := none }) rfl d4' _ hsteps
end Ends
section Bodies
variable {l : Launch}
theorem vx_ofW {y : MethodName} {ws ws' : List Cond} {rm : Room} {Pc : Array Value → State → Prop} {Qc : Array Value → State → Outcome → State → Prop} {XC : String → State → State → Prop} {mc ms : Nat} {free : Addr → Prop} {cc : ByteArray} {maxL : Nat} {ret : Option FieldType}
    (hy : plainName y.cls = true) (hw : ws = Cond.code y cc maxL ret :: ws')
    (body : ∀ p e s m args below meth c s₁, BodyLoose p l y (headSpec ws rm) cc maxL ret e s m args below meth c s₁ → c.maxLocals = maxL → (∀ x ∈ c.exceptionTable.toList, False) → Pc args s →
      W p l e (headSpec ws rm).room s m args below meth c s.heap [] 0 0 (vx_MQ below Qc XC args s mc ms free) (entryFrame m args maxL)) : vx_Met l y ws rm Pc Qc XC mc ms free := by
  refine MetFree.of_bodyS (code := cc) (maxLocals := maxL) (ret := ret) hy ?_ ?_
  · intro args s m h hn
    obtain ⟨meth, c, h1, h2, h3, h4, h5, h6, -, -⟩ := Cond.code_spec hn (atoms_spec (ws := ws) h _ (by rw [hw]; exact List.mem_cons_self))
    exact ⟨meth, c, h1, h2, h3, h4, h5, h6⟩
  · intro p e s m args below meth c s₁ B hml hP _
    have hh0 : s₁.heap = s.heap := by rw [B.state]; rfl
    have ht : ∀ x ∈ c.exceptionTable.toList, False := by
      obtain ⟨meth9, c9, h1, h2, -, -, -, -, h7, -⟩ := Cond.code_spec B.named (atoms_spec (ws := ws) B.pre _ (by rw [hw]; exact List.mem_cons_self))
      cases Option.some.inj (h1.symm.trans B.method)
      cases Option.some.inj (h2.symm.trans (Stand.of_body B).code)
      intro x hx
      rw [Array.isEmpty_iff.mp h7] at hx
      cases hx
    obtain ⟨t, a1, o, b1, b2, b3⟩ := body p e s m args below meth c s₁ B hml ht hP s₁ hh0 (Stand.of_body B)
    exact ⟨t, o, a1, b1, b2, b3⟩
/-- the table of a body with handlers -/
theorem vx_table {p : Program} {x y : MethodName} {S : Spec} {cc bytes : ByteArray} {maxL maxL' : Nat} {ret ret' : Option FieldType} {e : Env} {s s₁ : State} {m : MethodId} {args : Array Value} {below : List Frame} {meth : Method} {c : Code} {hh : List (Nat × Nat × Nat × Nat)}
    (B : BodyLoose p l y S cc maxL ret e s m args below meth c s₁) (h : (Cond.codeWith y bytes maxL' ret' hh).before args s = true) : c.exceptionTable.toList = tableOf hh := by
  obtain ⟨m9, meth9, c9, hn9, h1, h2, -, -, h6, -⟩ := Cond.codeWith_spec h
  cases Option.some.inj (hn9.symm.trans B.named)
  cases Option.some.inj (h1.symm.trans B.method)
  cases Option.some.inj (h2.symm.trans (Stand.of_body B).code)
  rw [← h6, table_eq]
end Bodies
end VXA
/-! ===== END ===== -/
/-! ===== BEGIN a static call of a method with an exception table ===== -/
section VXS
variable {p : Program} {l : Launch} {e : Env} {R : Room} {s : State} {m : MethodId} {args : Array Value} {below : List Frame} {meth : Method} {c : Code} {T : State} {H : Heap} {locs : List Loc} {cells slots : Nat}
abbrev vx_CSW (R : Room) (s : State) (args : Array Value) (own : String) (index : Nat) (y : MethodName) (bytes : ByteArray) (maxL : Nat) (ret : Option FieldType) (hh : List (Nat × Nat × Nat × Nat)) (ws : List Cond) (rm : Room) (mc ms n : Nat) : Prop :=
  (rm.cells = mc ∧ rm.slots = ms ∧ rm.frames + 1 ≤ R.frames ∧ 8 + (maxL + 11) + rm.locals ≤ R.locals ∧ (∀ w ∈ ws, ∀ (a' : Array Value) (U : State), s.WarmedH U.vm → w.before a' U = true) ∧ Cond.codeWith y bytes maxL ret hh ∈ ws) ∧
  (Cond.codeWith y bytes maxL ret hh).before args s = true ∧ (Cond.initialized y.cls).before args s = true ∧ (y.cls ≠ "java/lang/invoke/MethodHandle" ∧ y.cls ≠ "java/lang/invoke/VarHandle") ∧
  (∀ sig, parseMethodDescriptor y.desc = some sig → n = sig.parameters.length) ∧ (Cond.methodLink own index y).before args s = true ∧ (Cond.static y).before args s = true
theorem vx_cwSW {own : String} {index maxL mc ms : Nat} {y : MethodName} {bytes : ByteArray} {ret : Option FieldType} {hh : List (Nat × Nat × Nat × Nat)} {Ts ws ws' : List Cond} {rm : Room} (n : Nat) (ht : ∀ w ∈ Ts, w.before args s = true) (hT : GoodIn Ts (va_wsS own index y ws)) (hw : ws = Cond.codeWith y bytes maxL ret hh :: ws') (hrc : rm.cells = mc) (hrs : rm.slots = ms)
    (hd : y.cls ≠ "java/lang/invoke/MethodHandle" ∧ y.cls ≠ "java/lang/invoke/VarHandle" ∧ (parseMethodDescriptor y.desc).map (fun d => d.parameters.length) = some n) (hR : rm.frames + 1 ≤ R.frames ∧ 8 + (maxL + 11) + rm.locals ≤ R.locals) :
    vx_CSW R s args own index y bytes maxL ret hh ws rm mc ms n := by
  have ok : ∀ w ∈ va_wsS own index y ws, w.before args s = true := fun w h => ht w (hT w h).1
  have hG : GoodIn Ts ws := fun w h => hT w (by unfold va_wsS; exact List.mem_append_right _ h)
  have hc : Cond.codeWith y bytes maxL ret hh ∈ ws := by rw [hw]; exact List.mem_cons_self
  refine ⟨⟨hrc, hrs, hR.1, hR.2, pay_in ht hG, hc⟩, ht _ (hG _ hc).1, ok _ (by simp [va_wsS]), ⟨hd.1, hd.2.1⟩, fun sig h => ?_, ok _ (by simp [va_wsS]), ok _ (by simp [va_wsS])⟩
  have h2 := hd.2.2
  rw [h] at h2
  exact (Option.some.inj h2).symm
theorem vx_callSW (X : Stand p l e R s m args below meth c T locs cells slots) (hexec : p.tables.exec = Jvm.exec) {own : String} {index : Nat} {y : MethodName} {bytes : ByteArray} {maxL : Nat} {ret : Option FieldType} {hh : List (Nat × Nat × Nat × Nat)}
    (hown : s.vm.findClass own = some m.cls) (hlink : (Cond.methodLink own index y).before args s = true) (hstat : (Cond.static y).before args s = true) (hinit : (Cond.initialized y.cls).before args s = true)
    (hcode : (Cond.codeWith y bytes maxL ret hh).before args s = true) (hy : y.cls ≠ "java/lang/invoke/MethodHandle" ∧ y.cls ≠ "java/lang/invoke/VarHandle")
    {W9 : Nat} {Pre : Pt → Array Value → Prop} {Post : Pt → Array Value → Option Value → Pt → Prop} (hK : Back l R p e below s args y 3 W9 Pre Post)
    {g : JFrame} (hg : g.method = m) (hsize : g.locals.size = c.maxLocals) {argsL rest : List Value} (hlen : ∀ sig, parseMethodDescriptor y.desc = some sig → argsL.length = sig.parameters.length)
    (hstack : g.stack = argsL.reverse ++ rest) (hW : 2 * g.monitorRoom + (rest.map fun v => v.category).sum ≤ W9) (hdg : decode c.code g.pc = .ok (.invokestatic index, 3))
    (hpre : ∀ vm₁, s.WarmedH vm₁ → Pre ⟨T.setVm vm₁, locs, cells, slots⟩ argsL.toArray) :
    ∃ (v : Option Value) (vm₁ : Vm) (B : Pt), s.WarmedH vm₁ ∧ Stand p l e R s m args below meth c B.U B.locs B.cells B.slots ∧ Post ⟨T.setVm vm₁, locs, cells, slots⟩ argsL.toArray v B ∧
      ∀ target, Steps p.tables e below (B.U.setTop { g with pc := g.pc + 3, stack := v.toList ++ rest }) target → Steps p.tables e below (T.setTop g) target := by
  obtain ⟨mk, methM, cM, hnamed, hmethM, -, -, -, -, -, -, hsigM⟩ := Cond.codeWith_spec hcode
  have hstatic : methM.isStatic = true := Cond.static_spec hnamed hmethM hstat
  obtain ⟨kP, hkP, -⟩ := className_of_methodNamed hnamed
  have hinitP : kP.init = .initialized := Cond.initialized_spec (findClass_of_methodNamed hnamed) hkP hinit
  obtain ⟨vm₁, X₁, hstep₁⟩ := X.invokestatic hexec hown hlink hnamed hmethM hstatic hkP hinitP hy (g := g) hg (argsL := argsL) (rest := rest) (hlen _ hsigM) hstack hdg
  obtain ⟨v, B, X', hpost, hsteps⟩ := hK m meth c ⟨T.setVm vm₁, locs, cells, slots⟩ { g with stack := rest } (.invokestatic index) mk argsL.toArray X₁ hg hsize hdg hW (X₁.named hnamed) (hpre vm₁ X₁.warmed)
  exact ⟨v, vm₁, B, X₁.warmed, X', hpost, fun target h => hstep₁ _ fun acts => by rw [doInvoke_state]; exact hsteps.trans h⟩
theorem vx_runSW {y : MethodName} {bytes cc : ByteArray} {maxL nL mc ms n index : Nat} {ret : Option FieldType} {hh : List (Nat × Nat × Nat × Nat)} {ws : List Cond} {rm : Room} {Pc : Array Value → State → Prop} {Qc : Array Value → State → Outcome → State → Prop} {free : Addr → Prop} {Ts : List Cond} {own : String} {As rest : List Value} {g : JFrame}
    (S : CallFix p m c cc nL s args Ts own) (hM : Met l y ws rm Pc Qc mc ms free) (cw : vx_CSW R s args own index y bytes maxL ret hh ws rm mc ms n) (hp : PreS s H Pc As)
    (hg : g.method = m) (hn : As.length = n) (hsize : g.locals.size = nL) (hstack : g.stack = As.reverse ++ rest) (hW : 2 * g.monitorRoom + (rest.map fun v => v.category).sum ≤ 8) (hdg : decode cc g.pc = .ok (.invokestatic index, 3)) (hf : cells + mc ≤ R.cells ∧ slots + ms ≤ R.slots) :
    va_Run p l e R s m args below meth c H locs cells slots mc ms g rest (Qc As.toArray) (free) := by
  obtain ⟨⟨hrc, hrs, hfr, hlo, hws, hcw⟩, hcode, hini, hy, hlen, hl, hstt⟩ := cw
  have hK : Back l R p e below s args y 3 8 (PreOf R mc ms Pc) (PostOf Qc mc ms free) := va_backW (hh := hh) (bytes := bytes) (maxL := maxL) (ret := ret) hM hp.1 hrc hrs hfr hlo hws hcw (fun a' U hW => word_at hW (Or.inl (by first | rfl | simp [Cond.onTables, Cond.keeps, Cond.steady])) hini)
  obtain ⟨hx, hb, hml, ho, -⟩ := S
  intro T hT X
  obtain ⟨v, vm₁, ⟨U', l2, c2, s2⟩, hW₁, X', ⟨g', mk, t, L, e1, e2, hq, h1, hL, h2, h3⟩, st⟩ := vx_callSW X hx (hh := hh) (bytes := bytes) (maxL := maxL) (ret := ret) ho hl hstt hini hcode hy hK hg (hsize.trans hml.symm) (argsL := As) (rest := rest) (fun sig h => hn.trans (hlen sig h)) hstack hW (by rw [hb]; exact hdg)
    (fun vm₁ hW₁ => ⟨hf.1, hf.2, hp.2 (T.setVm vm₁) hT hW₁⟩)
  dsimp only [Pt.U, Pt.locs, Pt.cells, Pt.slots] at X' e1 e2 h1 h2 h3 st
  subst h1; subst h2; subst h3
  exact ⟨v, (T.setVm vm₁).calling g' mk As.toArray, t, U', L, hT, X', hL, e1, e2, hq, st⟩
/-- not caught here, past rows that name other classes: it goes on to the caller -/
theorem vx_outP {p : Program} {l : Launch} {e : Env} {R : Room} {s : State} {m : MethodId} {args : Array Value} {below : List Frame} {meth : Method} {c : Code} {H : Heap} {locs : List Loc} {cells slots : Nat} {free : Addr → Prop} {ls : Array Slot} {rest : List Value} {Qc : Array Value → State → Outcome → State → Prop} {XC : String → State → State → Prop}
    {pc : Nat} {own E : String} {ce : Cell} {q : Addr} {mc ms : Nat} (hown : s.vm.findClass own = some m.cls) (hlocks : meth.locks = false)
    (hpass : ∀ z ∈ c.exceptionTable.toList, covers z pc = false ∨ (z.catchType ≠ 0 ∧ ∃ nm : String, (Cond.classLink own z.catchType nm).before args s = true ∧ va_Nc E nm s)) (hcell : H[q]? = some ce) (hv : ce.vm = .none) (hcl : s.vm.findClass E = some ce.cls)
    (hx : ∀ t : State, t.heap = H → s.vm.Alike t.vm → XC E s t) (hf : ∀ z ∈ locs, free z.base) (hc : cells ≤ mc) (hs : slots ≤ ms) :
    vx_W p l e R s m args below meth c H locs cells slots (vx_MQ below Qc XC args s mc ms free) (F0 m pc ls rest) q := by
  intro T hT X
  have hpl : e.platform.magicAccessors = ({} : Platform).magicAccessors := by rw [X.admits.platform]
  obtain ⟨vm', hW', X', st⟩ := X.outThrough hlocks q (g := F0 m pc ls rest) rfl rfl rfl (cell := ce) (by rw [hT]; exact hcell) (by rw [hv]; rfl)
    (by obtain ⟨k9, h9, -⟩ := Vm.findClass_spec hcl; exact ⟨k9, h9⟩) (fun z hz => by
      rcases hpass z hz with h | ⟨hz0, nm, hl1, hn1⟩
      · exact Or.inl h
      · obtain ⟨c6, hc6, hcl6⟩ := Cond.classLink_spec hown hl1 e.platform hpl
        obtain ⟨a8, b8, h1, h2, h3⟩ := hn1
        cases Option.some.inj (h1.symm.trans hcl)
        cases Option.some.inj (h2.symm.trans hc6)
        exact Or.inr ⟨hz0, _, hcl6, h3⟩)
  obtain ⟨g₀, hfr⟩ := X'.frames_eq
  have hcell9 : ((T.setVm vm').setFrames (.throwing q :: below)).heap[q]? = some ce := by
    show T.heap[q]? = some ce
    rw [hT]; exact hcell
  have hend : Ended ((T.setVm vm').setFrames (.throwing q :: below)) below (.threw q) := State.frames_setFrames _ (State.cur_lt_of_frames hfr)
  refine ⟨(T.setVm vm').setFrames (.throwing q :: below), ?_, .threw q, X'.here.running, hend, Or.inr ⟨q, rfl, E, ce, locs, hx _ hT (X'.ends _).1.alike, hcell9, hv, hcl, (X'.ends _).1, (X'.ends _).2.mono hc hs, hf⟩⟩
  rw [X.pushThrowing_eq]
  exact st
/-- a thing of a world lies in the heap -/
theorem vx_lt {D : va_G} {cl : List vw_C} {ws : va_W} {H1 : Heap} (h : va_P D cl ws H1) {k : Nat} {q : Nat × va_E} (hk : ws[k]? = some q) : q.1 < H1.size := (h k q hk).lt
end VXS
/-! ===== END ===== -/
/-! ===== BEGIN methods with a table of their own: called by a name, returning or throwing ===== -/
section VXH
/-! vx_backW, vx_callVX, vx_callSX, vx_callVW, vx_runVW, vx_runVX, vx_runSX, vx_ofWH follow the same proofs as their sisters above (Free/Laws.lean, Shelf42/LK1.lean); vx_outP calls Shelf42/NT130.lean (outThrough). -/
section
variable {l : Launch} {R : Room} {p : Program} {e : Env} {below : List Frame} {s : State} {sargs : Array Value} {y : MethodName} {len W9 : Nat}
theorem vx_backW {ws : List Cond} {rm : Room} {Pc : Array Value → State → Prop} {Qc : Array Value → State → Outcome → State → Prop} {XC : String → State → State → Prop} {mc ms : Nat} {free : Addr → Prop} {bytes : ByteArray} {maxL : Nat} {ret : Option FieldType} {hh : List (Nat × Nat × Nat × Nat)}
    (hM : vx_Met l y ws rm Pc Qc XC mc ms free) (hblind : FrameBlind Pc) (hrc : rm.cells = mc) (hrs : rm.slots = ms)
    (hframes : rm.frames + 1 ≤ R.frames) (hlocals : W9 + (maxL + 11) + rm.locals ≤ R.locals)
    (hws : ∀ w ∈ ws, ∀ a' U, s.WarmedH U.vm → w.before a' U = true) (hcode : Cond.codeWith y bytes maxL ret hh ∈ ws) (hinit : ∀ a' U, s.WarmedH U.vm → (Cond.initialized y.cls).before a' U = true) :
    vx_Back l R p e below s sargs y len W9 (PreOf R mc ms Pc) (PostOf Qc mc ms free) (vx_Post XC mc ms free) := by
  intro m meth c A g ig mk a X hg hsize hdg hW hn hp
  have h1 : (headSpec ws rm).pre.before a A.U = true := atoms_intro fun w hw => hws w hw _ _ X.warmed
  have h2 : (Cond.codeWith y bytes maxL ret hh).before a A.U = true := hws _ hcode _ _ X.warmed
  have h3 : (Cond.initialized y.cls).before a A.U = true := hinit _ _ X.warmed
  have h4 : A.cells + (headSpec ws rm).room.cells ≤ R.cells := by rw [show (headSpec ws rm).room.cells = mc from hrc]; exact hp.1
  have h5 : A.slots + (headSpec ws rm).room.slots ≤ R.slots := by rw [show (headSpec ws rm).room.slots = ms from hrs]; exact hp.2.1
  have hPc : Pc a (A.U.calling g mk a) := hblind _ _ _ _ hp.2.2
  obtain ⟨U, Ls, c0, s0⟩ := A
  dsimp only [Pt.U, Pt.locs, Pt.cells, Pt.slots] at h1 h2 h3 h4 h5 X hn hPc ⊢
  obtain ⟨m9, methY, cY, hn9, hmY, hcY, -, hlY, -⟩ := Cond.codeWith_spec h2
  cases Option.some.inj (hn9.symm.trans hn)
  obtain ⟨kY, hkY, -⟩ := className_of_methodNamed hn
  have hinitY : kY.init = .initialized := Cond.initialized_spec (findClass_of_methodNamed hn) hkY h3
  have h : At U g.method c below := by rw [hg]; exact X.here
  have hlocals9 : W9 + (maxL + 11) + (headSpec ws rm).room.locals ≤ R.locals := hlocals
  have happ : (headSpec ws rm).appliesLoose y e.platform (U.calling g mk a) = true :=
    Spec.appliesLoose_calling (g := g) h hdg hn hkY hinitY
      (X.room_calling (g := g) (R' := (headSpec ws rm).room) hsize hmY hcY hframes (by rw [hlY]; omega) h4 h5) h1
  obtain ⟨mid, hmid⟩ := h.above
  have hfr : (U.setTop g).frames = (.java g :: mid) ++ below := by rw [State.frames_setTop' g h.top, hmid]; rfl
  obtain ⟨o, s₂, hsteps, -, hend, hq⟩ := Steps.callFree hM p X.admits X.cas X.clock (acts := []) hfr happ hPc trivial
  have hq' : vx_Q Qc XC mc ms free a (U.calling g mk a) o s₂ := hq
  rw [State.frames_setTop' g h.top] at hend
  obtain ⟨g₀, hg0⟩ := Option.isSome_iff_exists.mp h.top
  obtain ⟨r, hr⟩ := State.topJava?_eq_some.mp hg0
  have hr' : (({ U with heap := s₂.heap, slotsUsed := s₂.slotsUsed } : State).setVm s₂.vm).frames = .java g₀ :: r := hr
  rcases hq' with ⟨hqc, L, hfe, hL⟩ | ⟨q, rfl, E, ce, L, hx, hce, hcv, hcl, hW₂, hsm, hL⟩
  · obtain ⟨⟨v, rfl⟩, hW₂, e2, q2, q3, q4, q5, q6⟩ := id hfe
    have e3 : s₂ = ({ (U.calling g mk a).setFrames s₂.frames with heap := s₂.heap, slotsUsed := s₂.slotsUsed } : State).setVm s₂.vm := by
      have : s₂ = ({ s₂ with vm := (U.calling g mk a).vm } : State).setVm s₂.vm := rfl
      rw [e2] at this
      exact this
    obtain ⟨c₂, i₂, len₂, hc₂, hd₂, hf₂⟩ := hend
    have hW' : U.WarmedH s₂.vm := hW₂
    have hcc : c₂ = c := by
      have h1 : s₂.code? g.method = U.code? g.method := by
        rw [State.code?_eq, State.code?_eq, hW'.alike.method?]
      exact Option.some.inj (hc₂.symm.trans (h1.trans h.code))
    subst hcc
    have hlen : len₂ = len := by rw [hdg] at hd₂; cases hd₂; rfl
    subst hlen
    have hs₂ : s₂ = (({ U with heap := s₂.heap, slotsUsed := s₂.slotsUsed } : State).setVm s₂.vm).setTop { g with pc := g.pc + len₂, stack := v.toList ++ g.stack } := by
      refine e3.trans ?_
      rw [hf₂, State.calling_eq h.top, State.setFrames_setFrames, State.setTop_of_frames _ hr', hr]
      rfl
    have hsame : U.sameButNew ({ U with heap := s₂.heap, slotsUsed := s₂.slotsUsed } : State) L mc ms := by
      refine ⟨?_, q2, q3, q4, q5, q6⟩
      obtain ⟨t, ht, -⟩ := State.frames_cons hr
      show ({ U with heap := s₂.heap, slotsUsed := s₂.slotsUsed } : State) = { U.setFrames U.frames with heap := s₂.heap, slotsUsed := s₂.slotsUsed }
      rw [State.setFrames_self ht]
    subst hg
    refine Or.inl ⟨v, ⟨(({ U with heap := s₂.heap, slotsUsed := s₂.slotsUsed } : State).setVm s₂.vm), Ls ++ L, c0 + mc, s0 + ms⟩,
      ⟨X.admits, X.cas, X.clock, X.frames, X.room, X.hears, X.method, X.code, (X.here.setHeapUsed s₂.heap s₂.slotsUsed).setVm hW'.alike, X.tail, State.WarmedH.trans X.warmed hW', X.limits, X.bytes, X.same.trans (hsame.setVm s.vm)⟩,
      ⟨g, mk, s₂, L, rfl, rfl, hqc, rfl, hL, rfl, rfl⟩, ?_⟩
    show Steps p.tables e below _ ((({ U with heap := s₂.heap, slotsUsed := s₂.slotsUsed } : State).setVm s₂.vm).setTop { g with pc := g.pc + len₂, stack := v.toList ++ g.stack })
    rw [← hs₂]
    exact hsteps
  · obtain ⟨e2, q2, q3, q4, q5, q6⟩ := id hsm
    have e3 : s₂ = ({ (U.calling g mk a).setFrames s₂.frames with heap := s₂.heap, slotsUsed := s₂.slotsUsed } : State).setVm s₂.vm := by
      have : s₂ = ({ s₂ with vm := (U.calling g mk a).vm } : State).setVm s₂.vm := rfl
      rw [e2] at this
      exact this
    have hf₂ : s₂.frames = .throwing q :: .java g :: U.frames.tail := hend
    have hW' : U.WarmedH s₂.vm := hW₂
    have hs₂ : s₂ = ((({ U with heap := s₂.heap, slotsUsed := s₂.slotsUsed } : State).setVm s₂.vm).setTop g).pushFrame (.throwing q) := by
      refine e3.trans ?_
      rw [hf₂, State.calling_eq h.top, State.setFrames_setFrames, State.pushFrame, State.frames_setTop _ hr', State.setTop_of_frames _ hr', State.setFrames_setFrames, hr]
      rfl
    have hsame : U.sameButNew ({ U with heap := s₂.heap, slotsUsed := s₂.slotsUsed } : State) L mc ms := by
      refine ⟨?_, q2, q3, q4, q5, q6⟩
      obtain ⟨t, ht, -⟩ := State.frames_cons hr
      show ({ U with heap := s₂.heap, slotsUsed := s₂.slotsUsed } : State) = { U.setFrames U.frames with heap := s₂.heap, slotsUsed := s₂.slotsUsed }
      rw [State.setFrames_self ht]
    subst hg
    refine Or.inr ⟨q, ⟨(({ U with heap := s₂.heap, slotsUsed := s₂.slotsUsed } : State).setVm s₂.vm), Ls ++ L, c0 + mc, s0 + ms⟩,
      ⟨X.admits, X.cas, X.clock, X.frames, X.room, X.hears, X.method, X.code, (X.here.setHeapUsed s₂.heap s₂.slotsUsed).setVm hW'.alike, X.tail, State.WarmedH.trans X.warmed hW', X.limits, X.bytes, X.same.trans (hsame.setVm s.vm)⟩,
      ⟨g, mk, s₂, L, E, ce, rfl, rfl, hx, hce, hcv, hcl, rfl, hL, rfl, rfl⟩, ?_⟩
    show Steps p.tables e below _ (((({ U with heap := s₂.heap, slotsUsed := s₂.slotsUsed } : State).setVm s₂.vm).setTop g).pushFrame (.throwing q))
    rw [← hs₂]
    exact hsteps
end
variable {p : Program} {l : Launch} {e : Env} {R : Room} {s : State} {m : MethodId} {args : Array Value} {below : List Frame} {meth : Method} {c : Code} {T : State} {H : Heap} {locs : List Loc} {cells slots : Nat}
theorem vx_callVX (X : Stand p l e R s m args below meth c T locs cells slots) (hexec : p.tables.exec = Jvm.exec) {own C : String} {index : Nat} {y : MethodName} {bytes : ByteArray} {maxL : Nat} {ret : Option FieldType} {hh : List (Nat × Nat × Nat × Nat)}
    (hown : s.vm.findClass own = some m.cls) (hlink : (Cond.methodLink own index y).before args s = true) (hinst : (Cond.instanceMethod y).before args s = true) (hsel : (Cond.selects C y y).before args s = true)
    (hcode : (Cond.codeWith y bytes maxL ret hh).before args s = true) (hy : y.cls ≠ "java/lang/invoke/MethodHandle" ∧ y.cls ≠ "java/lang/invoke/VarHandle")
    {W9 : Nat} {Pre : Pt → Array Value → Prop} {Post : Pt → Array Value → Option Value → Pt → Prop} {PostX : Pt → Array Value → Addr → Pt → Prop} (hK : vx_Back l R p e below s args y 3 W9 Pre Post PostX)
    {b : Addr} {cellB : Cell} (hcell : T.heap[b]? = some cellB) (hobj : cellB.vm.isStatics = false) (hcls : s.vm.findClass C = some cellB.cls)
    {g : JFrame} (hg : g.method = m) (hsize : g.locals.size = c.maxLocals) {argsL rest : List Value} (hlen : ∀ sig, parseMethodDescriptor y.desc = some sig → argsL.length = sig.parameters.length)
    (hstack : g.stack = argsL.reverse ++ .ref b :: rest) (hW : 2 * g.monitorRoom + (rest.map fun v => v.category).sum ≤ W9) (hdg : decode c.code g.pc = .ok (.invokevirtual index, 3))
    (hpre : ∀ vm₁, s.WarmedH vm₁ → Pre ⟨T.setVm vm₁, locs, cells, slots⟩ (Value.ref b :: argsL).toArray) :
    (∃ (v : Option Value) (vm₁ : Vm) (B : Pt), s.WarmedH vm₁ ∧ Stand p l e R s m args below meth c B.U B.locs B.cells B.slots ∧ Post ⟨T.setVm vm₁, locs, cells, slots⟩ (Value.ref b :: argsL).toArray v B ∧
      ∀ target, Steps p.tables e below (B.U.setTop { g with pc := g.pc + 3, stack := v.toList ++ rest }) target → Steps p.tables e below (T.setTop g) target) ∨
    (∃ (q : Addr) (vm₁ : Vm) (B : Pt), s.WarmedH vm₁ ∧ Stand p l e R s m args below meth c B.U B.locs B.cells B.slots ∧ PostX ⟨T.setVm vm₁, locs, cells, slots⟩ (Value.ref b :: argsL).toArray q B ∧
      Steps p.tables e below (T.setTop g) ((B.U.setTop { g with stack := rest }).pushFrame (.throwing q))) := by
  obtain ⟨mk, methM, hnamed, hmethM, hstM, habM⟩ := Cond.instanceMethod_spec hinst
  obtain ⟨m8, methM', cM, hn8, hmethM', -, -, -, -, -, -, hsigM⟩ := Cond.codeWith_spec hcode
  cases Option.some.inj (hn8.symm.trans hnamed)
  cases hmethM.symm.trans hmethM'
  obtain ⟨c2, r2, m2, q1, q2, q3, q4, kP, hkP, hkPi⟩ := Cond.selects_spec hsel
  cases hcls.symm.trans q1
  cases (State.methodFound?_of_named hnamed hy).symm.trans q2
  cases hnamed.symm.trans q3
  have hselP : selectMethod e.platform s.vm cellB.cls mk = .method mk := by rw [Launch.admits_selectMethod X.admits]; exact q4
  obtain ⟨vm₁, X₁, hstep₁⟩ := X.invokevirtual hexec hown hlink hnamed hmethM hstM hkP hkPi hy (a := b) (cell := cellB) hcell
    (fun z h => by rw [h] at hobj; cases hobj) hselP hmethM habM hkP hkPi (g := g) hg (argsL := argsL) (rest := rest) (hlen _ hsigM) hstack hdg
  rcases hK m meth c ⟨T.setVm vm₁, locs, cells, slots⟩ { g with stack := rest } (.invokevirtual index) mk (Value.ref b :: argsL).toArray X₁ hg hsize hdg hW (X₁.named hnamed) (hpre vm₁ X₁.warmed) with ⟨v, B, X', hpost, hsteps⟩ | ⟨q, B, X', hpost, hsteps⟩
  · exact Or.inl ⟨v, vm₁, B, X₁.warmed, X', hpost, fun target h => hstep₁ _ fun acts => by rw [doInvoke_state]; exact hsteps.trans h⟩
  · exact Or.inr ⟨q, vm₁, B, X₁.warmed, X', hpost, hstep₁ _ fun acts => by rw [doInvoke_state]; exact hsteps⟩
theorem vx_callSX (X : Stand p l e R s m args below meth c T locs cells slots) (hexec : p.tables.exec = Jvm.exec) {own : String} {index : Nat} {y : MethodName} {bytes : ByteArray} {maxL : Nat} {ret : Option FieldType} {hh : List (Nat × Nat × Nat × Nat)}
    (hown : s.vm.findClass own = some m.cls) (hlink : (Cond.methodLink own index y).before args s = true) (hstat : (Cond.static y).before args s = true) (hinit : (Cond.initialized y.cls).before args s = true)
    (hcode : (Cond.codeWith y bytes maxL ret hh).before args s = true) (hy : y.cls ≠ "java/lang/invoke/MethodHandle" ∧ y.cls ≠ "java/lang/invoke/VarHandle")
    {W9 : Nat} {Pre : Pt → Array Value → Prop} {Post : Pt → Array Value → Option Value → Pt → Prop} {PostX : Pt → Array Value → Addr → Pt → Prop} (hK : vx_Back l R p e below s args y 3 W9 Pre Post PostX)
    {g : JFrame} (hg : g.method = m) (hsize : g.locals.size = c.maxLocals) {argsL rest : List Value} (hlen : ∀ sig, parseMethodDescriptor y.desc = some sig → argsL.length = sig.parameters.length)
    (hstack : g.stack = argsL.reverse ++ rest) (hW : 2 * g.monitorRoom + (rest.map fun v => v.category).sum ≤ W9) (hdg : decode c.code g.pc = .ok (.invokestatic index, 3))
    (hpre : ∀ vm₁, s.WarmedH vm₁ → Pre ⟨T.setVm vm₁, locs, cells, slots⟩ argsL.toArray) :
    (∃ (v : Option Value) (vm₁ : Vm) (B : Pt), s.WarmedH vm₁ ∧ Stand p l e R s m args below meth c B.U B.locs B.cells B.slots ∧ Post ⟨T.setVm vm₁, locs, cells, slots⟩ argsL.toArray v B ∧
      ∀ target, Steps p.tables e below (B.U.setTop { g with pc := g.pc + 3, stack := v.toList ++ rest }) target → Steps p.tables e below (T.setTop g) target) ∨
    (∃ (q : Addr) (vm₁ : Vm) (B : Pt), s.WarmedH vm₁ ∧ Stand p l e R s m args below meth c B.U B.locs B.cells B.slots ∧ PostX ⟨T.setVm vm₁, locs, cells, slots⟩ argsL.toArray q B ∧
      Steps p.tables e below (T.setTop g) ((B.U.setTop { g with stack := rest }).pushFrame (.throwing q))) := by
  obtain ⟨mk, methM, cM, hnamed, hmethM, -, -, -, -, -, -, hsigM⟩ := Cond.codeWith_spec hcode
  have hstatic : methM.isStatic = true := Cond.static_spec hnamed hmethM hstat
  obtain ⟨kP, hkP, -⟩ := className_of_methodNamed hnamed
  have hinitP : kP.init = .initialized := Cond.initialized_spec (findClass_of_methodNamed hnamed) hkP hinit
  obtain ⟨vm₁, X₁, hstep₁⟩ := X.invokestatic hexec hown hlink hnamed hmethM hstatic hkP hinitP hy (g := g) hg (argsL := argsL) (rest := rest) (hlen _ hsigM) hstack hdg
  rcases hK m meth c ⟨T.setVm vm₁, locs, cells, slots⟩ { g with stack := rest } (.invokestatic index) mk argsL.toArray X₁ hg hsize hdg hW (X₁.named hnamed) (hpre vm₁ X₁.warmed) with ⟨v, B, X', hpost, hsteps⟩ | ⟨q, B, X', hpost, hsteps⟩
  · exact Or.inl ⟨v, vm₁, B, X₁.warmed, X', hpost, fun target h => hstep₁ _ fun acts => by rw [doInvoke_state]; exact hsteps.trans h⟩
  · exact Or.inr ⟨q, vm₁, B, X₁.warmed, X', hpost, hstep₁ _ fun acts => by rw [doInvoke_state]; exact hsteps⟩
theorem vx_callVW (X : Stand p l e R s m args below meth c T locs cells slots) (hexec : p.tables.exec = Jvm.exec) {own C : String} {index : Nat} {y : MethodName} {bytes : ByteArray} {maxL : Nat} {ret : Option FieldType} {hh : List (Nat × Nat × Nat × Nat)}
    (hown : s.vm.findClass own = some m.cls) (hlink : (Cond.methodLink own index y).before args s = true) (hinst : (Cond.instanceMethod y).before args s = true) (hsel : (Cond.selects C y y).before args s = true)
    (hcode : (Cond.codeWith y bytes maxL ret hh).before args s = true) (hy : y.cls ≠ "java/lang/invoke/MethodHandle" ∧ y.cls ≠ "java/lang/invoke/VarHandle")
    {W9 : Nat} {Pre : Pt → Array Value → Prop} {Post : Pt → Array Value → Option Value → Pt → Prop} (hK : Back l R p e below s args y 3 W9 Pre Post)
    {b : Addr} {cellB : Cell} (hcell : T.heap[b]? = some cellB) (hobj : cellB.vm.isStatics = false) (hcls : s.vm.findClass C = some cellB.cls)
    {g : JFrame} (hg : g.method = m) (hsize : g.locals.size = c.maxLocals) {argsL rest : List Value} (hlen : ∀ sig, parseMethodDescriptor y.desc = some sig → argsL.length = sig.parameters.length)
    (hstack : g.stack = argsL.reverse ++ .ref b :: rest) (hW : 2 * g.monitorRoom + (rest.map fun v => v.category).sum ≤ W9) (hdg : decode c.code g.pc = .ok (.invokevirtual index, 3))
    (hpre : ∀ vm₁, s.WarmedH vm₁ → Pre ⟨T.setVm vm₁, locs, cells, slots⟩ (Value.ref b :: argsL).toArray) :
    ∃ (v : Option Value) (vm₁ : Vm) (B : Pt), s.WarmedH vm₁ ∧ Stand p l e R s m args below meth c B.U B.locs B.cells B.slots ∧ Post ⟨T.setVm vm₁, locs, cells, slots⟩ (Value.ref b :: argsL).toArray v B ∧
      ∀ target, Steps p.tables e below (B.U.setTop { g with pc := g.pc + 3, stack := v.toList ++ rest }) target → Steps p.tables e below (T.setTop g) target := by
  obtain ⟨mk, methM, hnamed, hmethM, hstM, habM⟩ := Cond.instanceMethod_spec hinst
  obtain ⟨m8, methM', cM, hn8, hmethM', -, -, -, -, -, -, hsigM⟩ := Cond.codeWith_spec hcode
  cases Option.some.inj (hn8.symm.trans hnamed)
  cases hmethM.symm.trans hmethM'
  obtain ⟨c2, r2, m2, q1, q2, q3, q4, kP, hkP, hkPi⟩ := Cond.selects_spec hsel
  cases hcls.symm.trans q1
  cases (State.methodFound?_of_named hnamed hy).symm.trans q2
  cases hnamed.symm.trans q3
  have hselP : selectMethod e.platform s.vm cellB.cls mk = .method mk := by rw [Launch.admits_selectMethod X.admits]; exact q4
  obtain ⟨vm₁, X₁, hstep₁⟩ := X.invokevirtual hexec hown hlink hnamed hmethM hstM hkP hkPi hy (a := b) (cell := cellB) hcell
    (fun z h => by rw [h] at hobj; cases hobj) hselP hmethM habM hkP hkPi (g := g) hg (argsL := argsL) (rest := rest) (hlen _ hsigM) hstack hdg
  obtain ⟨v, B, X', hpost, hsteps⟩ := hK m meth c ⟨T.setVm vm₁, locs, cells, slots⟩ { g with stack := rest } (.invokevirtual index) mk (Value.ref b :: argsL).toArray X₁ hg hsize hdg hW (X₁.named hnamed) (hpre vm₁ X₁.warmed)
  exact ⟨v, vm₁, B, X₁.warmed, X', hpost, fun target h => hstep₁ _ fun acts => by rw [doInvoke_state]; exact hsteps.trans h⟩
abbrev vx_CVW (R : Room) (s : State) (args : Array Value) (own C : String) (index : Nat) (y : MethodName) (bytes : ByteArray) (maxL : Nat) (ret : Option FieldType) (hh : List (Nat × Nat × Nat × Nat)) (ws : List Cond) (rm : Room) (mc ms n : Nat) : Prop :=
  (rm.cells = mc ∧ rm.slots = ms ∧ rm.frames + 1 ≤ R.frames ∧ 8 + (maxL + 11) + rm.locals ≤ R.locals ∧ (∀ w ∈ ws, ∀ (a' : Array Value) (U : State), s.WarmedH U.vm → w.before a' U = true) ∧ Cond.codeWith y bytes maxL ret hh ∈ ws) ∧
  (Cond.codeWith y bytes maxL ret hh).before args s = true ∧ (Cond.initialized y.cls).before args s = true ∧ (y.cls ≠ "java/lang/invoke/MethodHandle" ∧ y.cls ≠ "java/lang/invoke/VarHandle") ∧
  (∀ sig, parseMethodDescriptor y.desc = some sig → n = sig.parameters.length) ∧ (Cond.methodLink own index y).before args s = true ∧ (Cond.instanceMethod y).before args s = true ∧ (Cond.selects C y y).before args s = true
theorem vx_cwVW {own C : String} {index maxL mc ms : Nat} {y : MethodName} {bytes : ByteArray} {ret : Option FieldType} {hh : List (Nat × Nat × Nat × Nat)} {Ts ws ws' : List Cond} {rm : Room} (n : Nat) (ht : ∀ w ∈ Ts, w.before args s = true) (hT : GoodIn Ts (wsV own index C y ws)) (hw : ws = Cond.codeWith y bytes maxL ret hh :: ws') (hrc : rm.cells = mc) (hrs : rm.slots = ms)
    (hd : y.cls = C ∧ y.cls ≠ "java/lang/invoke/MethodHandle" ∧ y.cls ≠ "java/lang/invoke/VarHandle" ∧ (parseMethodDescriptor y.desc).map (fun d => d.parameters.length) = some n) (hR : rm.frames + 1 ≤ R.frames ∧ 8 + (maxL + 11) + rm.locals ≤ R.locals) :
    vx_CVW R s args own C index y bytes maxL ret hh ws rm mc ms n := by
  obtain ⟨hC, hd⟩ := hd
  subst hC
  have ok : ∀ w ∈ wsV own index y.cls y ws, w.before args s = true := fun w h => ht w (hT w h).1
  have hG : GoodIn Ts ws := fun w h => hT w (by unfold wsV; exact List.mem_append_right _ h)
  have hc : Cond.codeWith y bytes maxL ret hh ∈ ws := by rw [hw]; exact List.mem_cons_self
  refine ⟨⟨hrc, hrs, hR.1, hR.2, pay_in ht hG, hc⟩, ht _ (hG _ hc).1, ok _ (by simp [wsV]), ⟨hd.1, hd.2.1⟩, fun sig h => ?_, ok _ (by simp [wsV]), ok _ (by simp [wsV]), ok _ (by simp [wsV])⟩
  have h2 := hd.2.2
  rw [h] at h2
  exact (Option.some.inj h2).symm
theorem vx_runVW {y : MethodName} {bytes cc : ByteArray} {maxL nL mc ms n index : Nat} {ret : Option FieldType} {hh : List (Nat × Nat × Nat × Nat)} {ws : List Cond} {rm : Room} {Pc : Array Value → State → Prop} {Qc : Array Value → State → Outcome → State → Prop} {free : Addr → Prop} {Ts : List Cond} {own C : String} {b : Addr} {As rest : List Value} {g : JFrame}
    (S : CallFix p m c cc nL s args Ts own) (hM : Met l y ws rm Pc Qc mc ms free) (cw : vx_CVW R s args own C index y bytes maxL ret hh ws rm mc ms n) (hp : PreV s H C b Pc As)
    (hg : g.method = m) (hn : As.length = n) (hsize : g.locals.size = nL) (hstack : g.stack = As.reverse ++ .ref b :: rest) (hW : 2 * g.monitorRoom + (rest.map fun v => v.category).sum ≤ 8) (hdg : decode cc g.pc = .ok (.invokevirtual index, 3)) (hf : cells + mc ≤ R.cells ∧ slots + ms ≤ R.slots) :
    va_Run p l e R s m args below meth c H locs cells slots mc ms g rest (Qc (Value.ref b :: As).toArray) free := by
  obtain ⟨⟨hrc, hrs, hfr, hlo, hws, hcw⟩, hcode, hini, hy, hlen, hl, hin, hse⟩ := cw
  have hK : Back l R p e below s args y 3 8 (PreOf R mc ms Pc) (PostOf Qc mc ms free) := va_backW (hh := hh) (bytes := bytes) (maxL := maxL) (ret := ret) hM hp.1 hrc hrs hfr hlo hws hcw (fun a' U hW => word_at hW (Or.inl (by first | rfl | simp [Cond.onTables, Cond.keeps, Cond.steady])) hini)
  obtain ⟨hx, hb, hml, ho, -⟩ := S
  obtain ⟨-, ⟨cellB, hcB, hoB, hclB⟩, hPc⟩ := hp
  intro T hT X
  obtain ⟨v, vm₁, ⟨U', l2, c2, s2⟩, hW₁, X', ⟨g', mk, t, L, e1, e2, hq, h1, hL, h2, h3⟩, st⟩ := vx_callVW X hx (C := C) (hh := hh) (bytes := bytes) (maxL := maxL) (ret := ret) ho hl hin hse hcode hy hK (by rw [hT]; exact hcB) hoB hclB hg (hsize.trans hml.symm) (argsL := As) (rest := rest) (fun sig h => hn.trans (hlen sig h)) hstack hW (by rw [hb]; exact hdg)
    (fun vm₁ hW₁ => ⟨hf.1, hf.2, hPc (T.setVm vm₁) hT hW₁⟩)
  dsimp only [Pt.U, Pt.locs, Pt.cells, Pt.slots] at X' e1 e2 h1 h2 h3 st
  subst h1; subst h2; subst h3
  exact ⟨v, (T.setVm vm₁).calling g' mk (Value.ref b :: As).toArray, t, U', L, hT, X', hL, e1, e2, hq, st⟩
section
variable {y : MethodName} {bytes cc : ByteArray} {maxL nL mc ms n index : Nat} {ret : Option FieldType} {ws : List Cond} {rm : Room} {Pc : Array Value → State → Prop} {Qc : Array Value → State → Outcome → State → Prop} {XC : String → State → State → Prop} {free : Addr → Prop} {Ts : List Cond} {own C : String} {b : Addr} {As rest : List Value} {g : JFrame}
theorem vx_runVX {hh : List (Nat × Nat × Nat × Nat)} (S : CallFix p m c cc nL s args Ts own) (hM : vx_Met l y ws rm Pc Qc XC mc ms free) (cw : vx_CVW R s args own C index y bytes maxL ret hh ws rm mc ms n) (hp : PreV s H C b Pc As)
    (hg : g.method = m) (hn : As.length = n) (hsize : g.locals.size = nL) (hstack : g.stack = As.reverse ++ .ref b :: rest) (hW : 2 * g.monitorRoom + (rest.map fun v => v.category).sum ≤ 8) (hdg : decode cc g.pc = .ok (.invokevirtual index, 3)) (hf : cells + mc ≤ R.cells ∧ slots + ms ≤ R.slots) :
    vx_Run p l e R s m args below meth c H locs cells slots mc ms g rest (Qc (Value.ref b :: As).toArray) XC free := by
  obtain ⟨⟨hrc, hrs, hfr, hlo, hws, hcw⟩, hcode, hini, hy, hlen, hl, hin, hse⟩ := cw
  have hK : vx_Back l R p e below s args y 3 8 (PreOf R mc ms Pc) (PostOf Qc mc ms free) (vx_Post XC mc ms free) := vx_backW (hh := hh) (bytes := bytes) (maxL := maxL) (ret := ret) hM hp.1 hrc hrs hfr hlo hws hcw (fun a' U hW => word_at hW (Or.inl (by first | rfl | simp [Cond.onTables, Cond.keeps, Cond.steady])) hini)
  obtain ⟨hx, hb, hml, ho, -⟩ := S
  obtain ⟨-, ⟨cellB, hcB, hoB, hclB⟩, hPc⟩ := hp
  intro T hT X
  rcases vx_callVX X hx (C := C) (hh := hh) (bytes := bytes) (maxL := maxL) (ret := ret) ho hl hin hse hcode hy hK (by rw [hT]; exact hcB) hoB hclB hg (hsize.trans hml.symm) (argsL := As) (rest := rest) (fun sig h => hn.trans (hlen sig h)) hstack hW (by rw [hb]; exact hdg)
    (fun vm₁ hW₁ => ⟨hf.1, hf.2, hPc (T.setVm vm₁) hT hW₁⟩) with ⟨v, vm₁, ⟨U', l2, c2, s2⟩, hW₁, X', ⟨g', mk, t, L, e1, e2, hq, h1, hL, h2, h3⟩, st⟩ | ⟨q, vm₁, ⟨U', l2, c2, s2⟩, hW₁, X', ⟨g', mk, t, L, E, ce, e1, e2, hq, hce, hcv, hcl, h1, hL, h2, h3⟩, st⟩
  · dsimp only [Pt.U, Pt.locs, Pt.cells, Pt.slots] at X' e1 e2 h1 h2 h3 st
    subst h1; subst h2; subst h3
    exact Or.inl ⟨v, (T.setVm vm₁).calling g' mk (Value.ref b :: As).toArray, t, U', L, hT, X', hL, e1, e2, hq, st⟩
  · dsimp only [Pt.U, Pt.locs, Pt.cells, Pt.slots] at X' e1 e2 h1 h2 h3 st hcl
    subst h1; subst h2; subst h3
    exact Or.inr ⟨q, (T.setVm vm₁).calling g' mk (Value.ref b :: As).toArray, t, U', L, E, ce, hT, X', hL, e1, e2, hq, hce, hcv, vx_cls hW₁ hcl, st⟩
theorem vx_runSX {hh : List (Nat × Nat × Nat × Nat)} (S : CallFix p m c cc nL s args Ts own) (hM : vx_Met l y ws rm Pc Qc XC mc ms free) (cw : vx_CSW R s args own index y bytes maxL ret hh ws rm mc ms n) (hp : PreS s H Pc As)
    (hg : g.method = m) (hn : As.length = n) (hsize : g.locals.size = nL) (hstack : g.stack = As.reverse ++ rest) (hW : 2 * g.monitorRoom + (rest.map fun v => v.category).sum ≤ 8) (hdg : decode cc g.pc = .ok (.invokestatic index, 3)) (hf : cells + mc ≤ R.cells ∧ slots + ms ≤ R.slots) :
    vx_Run p l e R s m args below meth c H locs cells slots mc ms g rest (Qc As.toArray) XC free := by
  obtain ⟨⟨hrc, hrs, hfr, hlo, hws, hcw⟩, hcode, hini, hy, hlen, hl, hstt⟩ := cw
  have hK : vx_Back l R p e below s args y 3 8 (PreOf R mc ms Pc) (PostOf Qc mc ms free) (vx_Post XC mc ms free) := vx_backW (hh := hh) (bytes := bytes) (maxL := maxL) (ret := ret) hM hp.1 hrc hrs hfr hlo hws hcw (fun a' U hW => word_at hW (Or.inl (by first | rfl | simp [Cond.onTables, Cond.keeps, Cond.steady])) hini)
  obtain ⟨hx, hb, hml, ho, -⟩ := S
  intro T hT X
  rcases vx_callSX X hx (hh := hh) (bytes := bytes) (maxL := maxL) (ret := ret) ho hl hstt hini hcode hy hK hg (hsize.trans hml.symm) (argsL := As) (rest := rest) (fun sig h => hn.trans (hlen sig h)) hstack hW (by rw [hb]; exact hdg)
    (fun vm₁ hW₁ => ⟨hf.1, hf.2, hp.2 (T.setVm vm₁) hT hW₁⟩) with ⟨v, vm₁, ⟨U', l2, c2, s2⟩, hW₁, X', ⟨g', mk, t, L, e1, e2, hq, h1, hL, h2, h3⟩, st⟩ | ⟨q, vm₁, ⟨U', l2, c2, s2⟩, hW₁, X', ⟨g', mk, t, L, E, ce, e1, e2, hq, hce, hcv, hcl, h1, hL, h2, h3⟩, st⟩
  · dsimp only [Pt.U, Pt.locs, Pt.cells, Pt.slots] at X' e1 e2 h1 h2 h3 st
    subst h1; subst h2; subst h3
    exact Or.inl ⟨v, (T.setVm vm₁).calling g' mk As.toArray, t, U', L, hT, X', hL, e1, e2, hq, st⟩
  · dsimp only [Pt.U, Pt.locs, Pt.cells, Pt.slots] at X' e1 e2 h1 h2 h3 st hcl
    subst h1; subst h2; subst h3
    exact Or.inr ⟨q, (T.setVm vm₁).calling g' mk As.toArray, t, U', L, E, ce, hT, X', hL, e1, e2, hq, hce, hcv, vx_cls hW₁ hcl, st⟩
end
end VXH
theorem vx_ofWH {l : Launch} {y : MethodName} {ws ws' : List Cond} {rm : Room} {Pc : Array Value → State → Prop} {Qc : Array Value → State → Outcome → State → Prop} {XC : String → State → State → Prop} {mc ms : Nat} {free : Addr → Prop} {cc : ByteArray} {maxL : Nat} {ret : Option FieldType} {hh : List (Nat × Nat × Nat × Nat)}
    (hy : plainName y.cls = true) (hw : ws = Cond.codeWith y cc maxL ret hh :: ws')
    (body : ∀ p e s m args below meth c s₁, BodyLoose p l y (headSpec ws rm) cc maxL ret e s m args below meth c s₁ → c.maxLocals = maxL → Pc args s →
      W p l e (headSpec ws rm).room s m args below meth c s.heap [] 0 0 (vx_MQ below Qc XC args s mc ms free) (entryFrame m args maxL)) : vx_Met l y ws rm Pc Qc XC mc ms free := by
  refine MetFree.of_bodyS (code := cc) (maxLocals := maxL) (ret := ret) hy ?_ ?_
  · intro args s m h hn
    obtain ⟨m9, meth, c, hn9, h1, h2, h3, h4, -, h5, h6, -⟩ := Cond.codeWith_spec (atoms_spec (ws := ws) h _ (by rw [hw]; exact List.mem_cons_self))
    cases hn.symm.trans hn9
    exact ⟨meth, c, h1, h2, h3, h4, h5, h6⟩
  · intro p e s m args below meth c s₁ B hml hP _
    have hh0 : s₁.heap = s.heap := by rw [B.state]; rfl
    obtain ⟨t, a1, o, b1, b2, b3⟩ := body p e s m args below meth c s₁ B hml hP s₁ hh0 (Stand.of_body B)
    exact ⟨t, o, a1, b1, b2, b3⟩
/-! ===== END ===== -/
end
section
/-! ===== BEGIN printed: names, fields, word lists, decode rows ===== -/
def RX0 : String := "PacketScheduler$History"
def TX0 : u_T := fun k => match k with
  | 0 => ("PacketScheduler$History", "links", "[LPacketScheduler$Link;", true)
  | 1 => ("PacketScheduler$History", "count", "I", false)
  | _ => ("PacketScheduler$History", "latest", "I", false)
def tyX0 : Nat → FieldType := fun k => match k with
  | 0 => .array (.object "PacketScheduler$Link")
  | 1 => .int
  | _ => .int
abbrev wsX00 : List Cond := u_ws RX0 TX0 3
theorem nmX0 : ∀ a, a < 3 → ∀ b, b < 3 → a ≠ b → (TX0 a).2.1 ≠ (TX0 b).2.1 := by decide +kernel
theorem tyX0_ok : ∀ k, k < 3 → parseFieldDescriptor (TX0 k).2.2.1 = some (tyX0 k) := by decide +kernel
abbrev cX0_init : ByteArray := prog_2_method_1_code
def yX0_init : MethodName := ⟨RX0, "<init>", "()V"⟩
abbrev cX0_forget : ByteArray := prog_2_method_2_code
def yX0_forget : MethodName := ⟨RX0, "forget", "()V"⟩
abbrev cX0_keep : ByteArray := prog_2_method_3_code
def yX0_keep : MethodName := ⟨RX0, "keep", "(LPacketScheduler$Link;)V"⟩
abbrev cX0_giveBack : ByteArray := prog_2_method_4_code
def yX0_giveBack : MethodName := ⟨RX0, "giveBack", "(LPacketScheduler$Link;)V"⟩
def RX1 : String := "PacketScheduler$Link"
def TX1 : u_T := fun k => match k with
  | 0 => ("PacketScheduler$Link", "flows", "LPacketScheduler$Table;", true)
  | 1 => ("PacketScheduler$Link", "virtualTimes", "[J", true)
  | 2 => ("PacketScheduler$Link", "packets", "LPacketScheduler$Table;", true)
  | 3 => ("PacketScheduler$Link", "transmissions", "LPacketScheduler$Table;", true)
  | 4 => ("PacketScheduler$Link", "records", "LPacketScheduler$Records;", true)
  | 5 => ("PacketScheduler$Link", "flowCount", "I", false)
  | 6 => ("PacketScheduler$Link", "rate", "I", false)
  | 7 => ("PacketScheduler$Link", "delay", "I", false)
  | 8 => ("PacketScheduler$Link", "timeout", "I", false)
  | 9 => ("PacketScheduler$Link", "packetCount", "I", false)
  | 10 => ("PacketScheduler$Link", "transmissionCount", "I", false)
  | 11 => ("PacketScheduler$Link", "clock", "I", false)
  | 12 => ("PacketScheduler$Link", "credit", "I", false)
  | 13 => ("PacketScheduler$Link", "queuedCount", "I", false)
  | 14 => ("PacketScheduler$Link", "deliveredCount", "I", false)
  | 15 => ("PacketScheduler$Link", "firstOpen", "I", false)
  | _ => ("PacketScheduler$Link", "nextDue", "I", false)
def tyX1 : Nat → FieldType := fun k => match k with
  | 0 => .object "PacketScheduler$Table"
  | 1 => .array .long
  | 2 => .object "PacketScheduler$Table"
  | 3 => .object "PacketScheduler$Table"
  | 4 => .object "PacketScheduler$Records"
  | 5 => .int
  | 6 => .int
  | 7 => .int
  | 8 => .int
  | 9 => .int
  | 10 => .int
  | 11 => .int
  | 12 => .int
  | 13 => .int
  | 14 => .int
  | 15 => .int
  | _ => .int
abbrev wsX10 : List Cond := u_ws RX1 TX1 17
theorem nmX1 : ∀ a, a < 17 → ∀ b, b < 17 → a ≠ b → (TX1 a).2.1 ≠ (TX1 b).2.1 := by decide +kernel
theorem tyX1_ok : ∀ k, k < 17 → parseFieldDescriptor (TX1 k).2.2.1 = some (tyX1 k) := by decide +kernel
abbrev cX1_init : ByteArray := prog_3_method_1_code
def yX1_init : MethodName := ⟨RX1, "<init>", "()V"⟩
abbrev cX1_begin : ByteArray := prog_3_method_2_code
def yX1_begin : MethodName := ⟨RX1, "begin", "(LPacketScheduler$Setup;)V"⟩
abbrev cX1_beginFlow : ByteArray := prog_3_method_3_code
def yX1_beginFlow : MethodName := ⟨RX1, "beginFlow", "(ILPacketScheduler$Table;)V"⟩
abbrev cX1_copyFrom : ByteArray := prog_3_method_4_code
def yX1_copyFrom : MethodName := ⟨RX1, "copyFrom", "(LPacketScheduler$Link;)V"⟩
abbrev cX1_copyTraffic : ByteArray := prog_3_method_5_code
def yX1_copyTraffic : MethodName := ⟨RX1, "copyTraffic", "(LPacketScheduler$Link;)V"⟩
abbrev cX1_virtualOf : ByteArray := prog_3_method_6_code
def yX1_virtualOf : MethodName := ⟨RX1, "virtualOf", "(I)J"⟩
abbrev cX1_setVirtual : ByteArray := prog_3_method_7_code
def yX1_setVirtual : MethodName := ⟨RX1, "setVirtual", "(IJ)V"⟩
abbrev cX1_unitOf : ByteArray := prog_3_method_8_code
def yX1_unitOf : MethodName := ⟨RX1, "unitOf", "(I)I"⟩
abbrev cX1_isBusy : ByteArray := prog_3_method_9_code
def yX1_isBusy : MethodName := ⟨RX1, "isBusy", "(I)Z"⟩
abbrev cX1_isDelivered : ByteArray := prog_3_method_10_code
def yX1_isDelivered : MethodName := ⟨RX1, "isDelivered", "(I)Z"⟩
abbrev cX1_leastBusyFlow : ByteArray := prog_3_method_11_code
def yX1_leastBusyFlow : MethodName := ⟨RX1, "leastBusyFlow", "(I)I"⟩
abbrev cX1_flowToServe : ByteArray := prog_3_method_12_code
def yX1_flowToServe : MethodName := ⟨RX1, "flowToServe", "()I"⟩
abbrev cX1_packetInQueue : ByteArray := prog_3_method_13_code
def yX1_packetInQueue : MethodName := ⟨RX1, "packetInQueue", "(II)I"⟩
abbrev cX1_joinEnd : ByteArray := prog_3_method_14_code
def yX1_joinEnd : MethodName := ⟨RX1, "joinEnd", "(II)V"⟩
abbrev cX1_joinHead : ByteArray := prog_3_method_15_code
def yX1_joinHead : MethodName := ⟨RX1, "joinHead", "(II)V"⟩
abbrev cX1_leaveQueue : ByteArray := prog_3_method_16_code
def yX1_leaveQueue : MethodName := ⟨RX1, "leaveQueue", "(II)V"⟩
abbrev cX1_countQueued : ByteArray := prog_3_method_17_code
def yX1_countQueued : MethodName := ⟨RX1, "countQueued", "(III)V"⟩
abbrev cX1_addPacket : ByteArray := prog_3_method_18_code
def yX1_addPacket : MethodName := ⟨RX1, "addPacket", "(II)I"⟩
abbrev cX1_raiseVirtual : ByteArray := prog_3_method_19_code
def yX1_raiseVirtual : MethodName := ⟨RX1, "raiseVirtual", "(I)V"⟩
abbrev cX1_tick : ByteArray := prog_3_method_20_code
def yX1_tick : MethodName := ⟨RX1, "tick", "()V"⟩
abbrev cX1_settleDue : ByteArray := prog_3_method_21_code
def yX1_settleDue : MethodName := ⟨RX1, "settleDue", "()V"⟩
abbrev cX1_dueTick : ByteArray := prog_3_method_22_code
def yX1_dueTick : MethodName := ⟨RX1, "dueTick", "(I)I"⟩
abbrev cX1_acknowledge : ByteArray := prog_3_method_23_code
def yX1_acknowledge : MethodName := ⟨RX1, "acknowledge", "(I)V"⟩
abbrev cX1_deliver : ByteArray := prog_3_method_24_code
def yX1_deliver : MethodName := ⟨RX1, "deliver", "(II)V"⟩
abbrev cX1_declareLost : ByteArray := prog_3_method_25_code
def yX1_declareLost : MethodName := ⟨RX1, "declareLost", "(I)V"⟩
abbrev cX1_refund : ByteArray := prog_3_method_26_code
def yX1_refund : MethodName := ⟨RX1, "refund", "(II)V"⟩
abbrev cX1_sendQueued : ByteArray := prog_3_method_27_code
def yX1_sendQueued : MethodName := ⟨RX1, "sendQueued", "()V"⟩
abbrev cX1_send : ByteArray := prog_3_method_28_code
def yX1_send : MethodName := ⟨RX1, "send", "(III)V"⟩
abbrev cX1_acknowledgmentTick : ByteArray := prog_3_method_29_code
def yX1_acknowledgmentTick : MethodName := ⟨RX1, "acknowledgmentTick", "(I)I"⟩
abbrev cX1_ticksToDeliver : ByteArray := prog_3_method_30_code
def yX1_ticksToDeliver : MethodName := ⟨RX1, "ticksToDeliver", "(II)I"⟩
abbrev cX1_isAtRest : ByteArray := prog_3_method_31_code
def yX1_isAtRest : MethodName := ⟨RX1, "isAtRest", "()Z"⟩
abbrev cX1_addRecord : ByteArray := prog_3_method_32_code
def yX1_addRecord : MethodName := ⟨RX1, "addRecord", "()V"⟩
abbrev cX1_lead : ByteArray := prog_3_method_33_code
def yX1_lead : MethodName := ⟨RX1, "lead", "(III)J"⟩
abbrev cX1_differenceSince : ByteArray := prog_3_method_34_code
def yX1_differenceSince : MethodName := ⟨RX1, "differenceSince", "(III)J"⟩
abbrev cX1_greatestDifference : ByteArray := prog_3_method_35_code
def yX1_greatestDifference : MethodName := ⟨RX1, "greatestDifference", "(II)J"⟩
def RX2 : String := "PacketScheduler$PacketSet"
def TX2 : u_T := fun k => match k with
  | 0 => ("PacketScheduler$PacketSet", "low", "J", false)
  | _ => ("PacketScheduler$PacketSet", "high", "J", false)
def tyX2 : Nat → FieldType := fun k => match k with
  | 0 => .long
  | _ => .long
abbrev wsX20 : List Cond := u_ws RX2 TX2 2
theorem nmX2 : ∀ a, a < 2 → ∀ b, b < 2 → a ≠ b → (TX2 a).2.1 ≠ (TX2 b).2.1 := by decide +kernel
theorem tyX2_ok : ∀ k, k < 2 → parseFieldDescriptor (TX2 k).2.2.1 = some (tyX2 k) := by decide +kernel
abbrev cX2_init : ByteArray := prog_4_method_1_code
def yX2_init : MethodName := ⟨RX2, "<init>", "()V"⟩
abbrev cX2_put : ByteArray := prog_4_method_2_code
def yX2_put : MethodName := ⟨RX2, "put", "(I)V"⟩
abbrev cX2_has : ByteArray := prog_4_method_3_code
def yX2_has : MethodName := ⟨RX2, "has", "(I)Z"⟩
abbrev cX2_addAll : ByteArray := prog_4_method_4_code
def yX2_addAll : MethodName := ⟨RX2, "addAll", "(LPacketScheduler$PacketSet;)V"⟩
abbrev cX2_keepAll : ByteArray := prog_4_method_5_code
def yX2_keepAll : MethodName := ⟨RX2, "keepAll", "(LPacketScheduler$PacketSet;)V"⟩
abbrev cX2_invert : ByteArray := prog_4_method_6_code
def yX2_invert : MethodName := ⟨RX2, "invert", "()V"⟩
abbrev cX2_countBelow : ByteArray := prog_4_method_7_code
def yX2_countBelow : MethodName := ⟨RX2, "countBelow", "(I)I"⟩
abbrev cX2_firstBelow : ByteArray := prog_4_method_8_code
def yX2_firstBelow : MethodName := ⟨RX2, "firstBelow", "(I)I"⟩
def RX3 : String := "PacketScheduler$QueryReader"
def TX3 : u_T := fun k => match k with
  | 0 => ("PacketScheduler$QueryReader", "text", "LPacketScheduler$Text;", true)
  | _ => ("PacketScheduler$QueryReader", "link", "LPacketScheduler$Link;", true)
def tyX3 : Nat → FieldType := fun k => match k with
  | 0 => .object "PacketScheduler$Text"
  | _ => .object "PacketScheduler$Link"
abbrev wsX30 : List Cond := u_ws RX3 TX3 2
theorem nmX3 : ∀ a, a < 2 → ∀ b, b < 2 → a ≠ b → (TX3 a).2.1 ≠ (TX3 b).2.1 := by decide +kernel
theorem tyX3_ok : ∀ k, k < 2 → parseFieldDescriptor (TX3 k).2.2.1 = some (tyX3 k) := by decide +kernel
abbrev cX3_init : ByteArray := prog_5_method_1_code
def yX3_init : MethodName := ⟨RX3, "<init>", "(LPacketScheduler$Text;LPacketScheduler$Link;)V"⟩
abbrev cX3_readTest : ByteArray := prog_5_method_2_code
def yX3_readTest : MethodName := ⟨RX3, "readTest", "(I)LPacketScheduler$PacketSet;"⟩
abbrev cX3_readConjunction : ByteArray := prog_5_method_3_code
def yX3_readConjunction : MethodName := ⟨RX3, "readConjunction", "(I)LPacketScheduler$PacketSet;"⟩
abbrev cX3_readFactor : ByteArray := prog_5_method_4_code
def yX3_readFactor : MethodName := ⟨RX3, "readFactor", "(I)LPacketScheduler$PacketSet;"⟩
abbrev cX3_readValue : ByteArray := prog_5_method_5_code
def yX3_readValue : MethodName := ⟨RX3, "readValue", "()I"⟩
abbrev cX3_namedColumn : ByteArray := prog_5_method_6_code
def yX3_namedColumn : MethodName := ⟨RX3, "namedColumn", "()I"⟩
abbrev cX3_readComparison : ByteArray := prog_5_method_7_code
def yX3_readComparison : MethodName := ⟨RX3, "readComparison", "()I"⟩
abbrev cX3_compareAll : ByteArray := prog_5_method_8_code
def yX3_compareAll : MethodName := ⟨RX3, "compareAll", "(III)LPacketScheduler$PacketSet;"⟩
abbrev cX3_valueFor : ByteArray := prog_5_method_9_code
def yX3_valueFor : MethodName := ⟨RX3, "valueFor", "(II)I"⟩
def RX4 : String := "PacketScheduler$Records"
def TX4 : u_T := fun k => match k with
  | 0 => ("PacketScheduler$Records", "rows", "LPacketScheduler$Table;", true)
  | 1 => ("PacketScheduler$Records", "kept", "I", false)
  | _ => ("PacketScheduler$Records", "latest", "I", false)
def tyX4 : Nat → FieldType := fun k => match k with
  | 0 => .object "PacketScheduler$Table"
  | 1 => .int
  | _ => .int
abbrev wsX40 : List Cond := u_ws RX4 TX4 3
theorem nmX4 : ∀ a, a < 3 → ∀ b, b < 3 → a ≠ b → (TX4 a).2.1 ≠ (TX4 b).2.1 := by decide +kernel
theorem tyX4_ok : ∀ k, k < 3 → parseFieldDescriptor (TX4 k).2.2.1 = some (tyX4 k) := by decide +kernel
abbrev cX4_init : ByteArray := prog_6_method_1_code
def yX4_init : MethodName := ⟨RX4, "<init>", "()V"⟩
abbrev cX4_reset : ByteArray := prog_6_method_2_code
def yX4_reset : MethodName := ⟨RX4, "reset", "()V"⟩
abbrev cX4_addRow : ByteArray := prog_6_method_3_code
def yX4_addRow : MethodName := ⟨RX4, "addRow", "()I"⟩
abbrev cX4_rowOf : ByteArray := prog_6_method_4_code
def yX4_rowOf : MethodName := ⟨RX4, "rowOf", "(I)I"⟩
abbrev cX4_areBusy : ByteArray := prog_6_method_5_code
def yX4_areBusy : MethodName := ⟨RX4, "areBusy", "(III)Z"⟩
abbrev cX4_bytesOf : ByteArray := prog_6_method_6_code
def yX4_bytesOf : MethodName := ⟨RX4, "bytesOf", "(II)I"⟩
abbrev cX4_copyFrom : ByteArray := prog_6_method_7_code
def yX4_copyFrom : MethodName := ⟨RX4, "copyFrom", "(LPacketScheduler$Records;)V"⟩
def RX5 : String := "PacketScheduler$Setup"
def TX5 : u_T := fun k => match k with
  | 0 => ("PacketScheduler$Setup", "flows", "LPacketScheduler$Table;", true)
  | 1 => ("PacketScheduler$Setup", "rules", "LPacketScheduler$Table;", true)
  | 2 => ("PacketScheduler$Setup", "flowCount", "I", false)
  | 3 => ("PacketScheduler$Setup", "ruleCount", "I", false)
  | 4 => ("PacketScheduler$Setup", "rate", "I", false)
  | 5 => ("PacketScheduler$Setup", "delay", "I", false)
  | _ => ("PacketScheduler$Setup", "timeout", "I", false)
def tyX5 : Nat → FieldType := fun k => match k with
  | 0 => .object "PacketScheduler$Table"
  | 1 => .object "PacketScheduler$Table"
  | 2 => .int
  | 3 => .int
  | 4 => .int
  | 5 => .int
  | _ => .int
abbrev wsX50 : List Cond := u_ws RX5 TX5 7
theorem nmX5 : ∀ a, a < 7 → ∀ b, b < 7 → a ≠ b → (TX5 a).2.1 ≠ (TX5 b).2.1 := by decide +kernel
theorem tyX5_ok : ∀ k, k < 7 → parseFieldDescriptor (TX5 k).2.2.1 = some (tyX5 k) := by decide +kernel
abbrev cX5_init : ByteArray := prog_7_method_1_code
def yX5_init : MethodName := ⟨RX5, "<init>", "()V"⟩
abbrev cX5_reset : ByteArray := prog_7_method_2_code
def yX5_reset : MethodName := ⟨RX5, "reset", "()V"⟩
abbrev cX5_flowFor : ByteArray := prog_7_method_3_code
def yX5_flowFor : MethodName := ⟨RX5, "flowFor", "(III)I"⟩
abbrev cX5_isInRange : ByteArray := prog_7_method_4_code
def yX5_isInRange : MethodName := ⟨RX5, "isInRange", "(III)Z"⟩
abbrev cX5_readFrom : ByteArray := prog_7_method_5_code
def yX5_readFrom : MethodName := ⟨RX5, "readFrom", "(LPacketScheduler$Text;)V"⟩
abbrev cX5_readClause : ByteArray := prog_7_method_6_code
def yX5_readClause : MethodName := ⟨RX5, "readClause", "(LPacketScheduler$Text;)V"⟩
abbrev cX5_readSetting : ByteArray := prog_7_method_7_code
def yX5_readSetting : MethodName := ⟨RX5, "readSetting", "(LPacketScheduler$Text;I)I"⟩
abbrev cX5_readFlow : ByteArray := prog_7_method_8_code
def yX5_readFlow : MethodName := ⟨RX5, "readFlow", "(LPacketScheduler$Text;)V"⟩
abbrev cX5_readOption : ByteArray := prog_7_method_9_code
def yX5_readOption : MethodName := ⟨RX5, "readOption", "(LPacketScheduler$Text;)V"⟩
abbrev cX5_readRule : ByteArray := prog_7_method_10_code
def yX5_readRule : MethodName := ⟨RX5, "readRule", "(LPacketScheduler$Text;)V"⟩
abbrev cX5_readCondition : ByteArray := prog_7_method_11_code
def yX5_readCondition : MethodName := ⟨RX5, "readCondition", "(LPacketScheduler$Text;)V"⟩
def RX6 : String := "PacketScheduler$Table"
def TX6 : u_T := fun k => match k with
  | 0 => ("PacketScheduler$Table", "width", "I", true)
  | _ => ("PacketScheduler$Table", "cells", "[I", true)
def tyX6 : Nat → FieldType := fun k => match k with
  | 0 => .int
  | _ => .array .int
abbrev wsX60 : List Cond := u_ws RX6 TX6 2
theorem nmX6 : ∀ a, a < 2 → ∀ b, b < 2 → a ≠ b → (TX6 a).2.1 ≠ (TX6 b).2.1 := by decide +kernel
theorem tyX6_ok : ∀ k, k < 2 → parseFieldDescriptor (TX6 k).2.2.1 = some (tyX6 k) := by decide +kernel
abbrev cX6_init : ByteArray := prog_8_method_1_code
def yX6_init : MethodName := ⟨RX6, "<init>", "(II)V"⟩
abbrev cX6_get : ByteArray := prog_8_method_2_code
def yX6_get : MethodName := ⟨RX6, "get", "(II)I"⟩
abbrev cX6_set : ByteArray := prog_8_method_3_code
def yX6_set : MethodName := ⟨RX6, "set", "(III)V"⟩
abbrev cX6_add : ByteArray := prog_8_method_4_code
def yX6_add : MethodName := ⟨RX6, "add", "(III)V"⟩
abbrev cX6_copyRows : ByteArray := prog_8_method_5_code
def yX6_copyRows : MethodName := ⟨RX6, "copyRows", "(LPacketScheduler$Table;I)V"⟩
def RX7 : String := "PacketScheduler$Text"
def TX7 : u_T := fun k => match k with
  | 0 => ("PacketScheduler$Text", "bytes", "[B", true)
  | 1 => ("PacketScheduler$Text", "size", "I", false)
  | 2 => ("PacketScheduler$Text", "length", "I", false)
  | 3 => ("PacketScheduler$Text", "kind", "I", false)
  | 4 => ("PacketScheduler$Text", "start", "I", false)
  | 5 => ("PacketScheduler$Text", "end", "I", false)
  | 6 => ("PacketScheduler$Text", "errorCode", "I", false)
  | _ => ("PacketScheduler$Text", "errorAt", "I", false)
def tyX7 : Nat → FieldType := fun k => match k with
  | 0 => .array .byte
  | 1 => .int
  | 2 => .int
  | 3 => .int
  | 4 => .int
  | 5 => .int
  | 6 => .int
  | _ => .int
abbrev wsX70 : List Cond := u_ws RX7 TX7 8
theorem nmX7 : ∀ a, a < 8 → ∀ b, b < 8 → a ≠ b → (TX7 a).2.1 ≠ (TX7 b).2.1 := by decide +kernel
theorem tyX7_ok : ∀ k, k < 8 → parseFieldDescriptor (TX7 k).2.2.1 = some (tyX7 k) := by decide +kernel
abbrev cX7_init : ByteArray := prog_9_method_1_code
def yX7_init : MethodName := ⟨RX7, "<init>", "()V"⟩
abbrev cX7_append : ByteArray := prog_9_method_2_code
def yX7_append : MethodName := ⟨RX7, "append", "(I)V"⟩
abbrev cX7_empty : ByteArray := prog_9_method_3_code
def yX7_empty : MethodName := ⟨RX7, "empty", "()V"⟩
abbrev cX7_open : ByteArray := prog_9_method_4_code
def yX7_open : MethodName := ⟨RX7, "open", "(I)V"⟩
abbrev cX7_next : ByteArray := prog_9_method_5_code
def yX7_next : MethodName := ⟨RX7, "next", "()V"⟩
abbrev cX7_kindAt : ByteArray := prog_9_method_6_code
def yX7_kindAt : MethodName := ⟨RX7, "kindAt", "(I)I"⟩
abbrev cX7_byteAt : ByteArray := prog_9_method_7_code
def yX7_byteAt : MethodName := ⟨RX7, "byteAt", "(I)I"⟩
abbrev cX7_goesOn : ByteArray := prog_9_method_8_code
def yX7_goesOn : MethodName := ⟨RX7, "goesOn", "()Z"⟩
abbrev cX7_isWord : ByteArray := prog_9_method_9_code
def yX7_isWord : MethodName := ⟨RX7, "isWord", "(Ljava/lang/String;)Z"⟩
abbrev cX7_isSign : ByteArray := prog_9_method_10_code
def yX7_isSign : MethodName := ⟨RX7, "isSign", "(C)Z"⟩
abbrev cX7_fail : ByteArray := prog_9_method_11_code
def yX7_fail : MethodName := ⟨RX7, "fail", "(I)V"⟩
abbrev cX7_number : ByteArray := prog_9_method_12_code
def yX7_number : MethodName := ⟨RX7, "number", "()I"⟩
abbrev cX7_takeNumber : ByteArray := prog_9_method_13_code
def yX7_takeNumber : MethodName := ⟨RX7, "takeNumber", "(II)I"⟩
abbrev cX7_takeSign : ByteArray := prog_9_method_14_code
def yX7_takeSign : MethodName := ⟨RX7, "takeSign", "(C)V"⟩
abbrev cX7_takeWord : ByteArray := prog_9_method_15_code
def yX7_takeWord : MethodName := ⟨RX7, "takeWord", "(Ljava/lang/String;)V"⟩
abbrev cX7_requireEnd : ByteArray := prog_9_method_16_code
def yX7_requireEnd : MethodName := ⟨RX7, "requireEnd", "()V"⟩
def RX8 : String := "PacketScheduler"
def TX8 : u_T := fun k => match k with
  | 0 => ("PacketScheduler", "text", "LPacketScheduler$Text;", true)
  | 1 => ("PacketScheduler", "queryReader", "LPacketScheduler$QueryReader;", true)
  | 2 => ("PacketScheduler", "link", "LPacketScheduler$Link;", true)
  | 3 => ("PacketScheduler", "trial", "LPacketScheduler$Link;", true)
  | 4 => ("PacketScheduler", "snapshot", "LPacketScheduler$Link;", true)
  | 5 => ("PacketScheduler", "history", "LPacketScheduler$History;", true)
  | 6 => ("PacketScheduler", "formatted", "Ljava/lang/StringBuilder;", true)
  | 7 => ("PacketScheduler", "setup", "LPacketScheduler$Setup;", false)
  | 8 => ("PacketScheduler", "spareSetup", "LPacketScheduler$Setup;", false)
  | _ => ("PacketScheduler", "hasSnapshot", "Z", false)
def tyX8 : Nat → FieldType := fun k => match k with
  | 0 => .object "PacketScheduler$Text"
  | 1 => .object "PacketScheduler$QueryReader"
  | 2 => .object "PacketScheduler$Link"
  | 3 => .object "PacketScheduler$Link"
  | 4 => .object "PacketScheduler$Link"
  | 5 => .object "PacketScheduler$History"
  | 6 => .object "java/lang/StringBuilder"
  | 7 => .object "PacketScheduler$Setup"
  | 8 => .object "PacketScheduler$Setup"
  | _ => .boolean
abbrev wsX80 : List Cond := u_ws RX8 TX8 10
theorem nmX8 : ∀ a, a < 10 → ∀ b, b < 10 → a ≠ b → (TX8 a).2.1 ≠ (TX8 b).2.1 := by decide +kernel
theorem tyX8_ok : ∀ k, k < 10 → parseFieldDescriptor (TX8 k).2.2.1 = some (tyX8 k) := by decide +kernel
abbrev cX8_init : ByteArray := prog_1_method_1_code
def yX8_init : MethodName := ⟨RX8, "<init>", "()V"⟩
abbrev cX8_feed : ByteArray := prog_1_method_2_code
def yX8_feed : MethodName := ⟨RX8, "feed", "(IIIII)I"⟩
abbrev cX8_load : ByteArray := prog_1_method_3_code
def yX8_load : MethodName := ⟨RX8, "load", "(I)I"⟩
abbrev cX8_errorPosition : ByteArray := prog_1_method_4_code
def yX8_errorPosition : MethodName := ⟨RX8, "errorPosition", "()I"⟩
abbrev cX8_flowCount : ByteArray := prog_1_method_5_code
def yX8_flowCount : MethodName := ⟨RX8, "flowCount", "()I"⟩
abbrev cX8_ruleCount : ByteArray := prog_1_method_6_code
def yX8_ruleCount : MethodName := ⟨RX8, "ruleCount", "()I"⟩
abbrev cX8_packetCount : ByteArray := prog_1_method_7_code
def yX8_packetCount : MethodName := ⟨RX8, "packetCount", "()I"⟩
abbrev cX8_transmissionCount : ByteArray := prog_1_method_8_code
def yX8_transmissionCount : MethodName := ⟨RX8, "transmissionCount", "()I"⟩
abbrev cX8_clock : ByteArray := prog_1_method_9_code
def yX8_clock : MethodName := ⟨RX8, "clock", "()I"⟩
abbrev cX8_credit : ByteArray := prog_1_method_10_code
def yX8_credit : MethodName := ⟨RX8, "credit", "()I"⟩
abbrev cX8_classify : ByteArray := prog_1_method_11_code
def yX8_classify : MethodName := ⟨RX8, "classify", "(III)I"⟩
abbrev cX8_flow : ByteArray := prog_1_method_12_code
def yX8_flow : MethodName := ⟨RX8, "flow", "(II)I"⟩
abbrev cX8_virtualTime : ByteArray := prog_1_method_13_code
def yX8_virtualTime : MethodName := ⟨RX8, "virtualTime", "(I)J"⟩
abbrev cX8_isIdle : ByteArray := prog_1_method_14_code
def yX8_isIdle : MethodName := ⟨RX8, "isIdle", "(I)Z"⟩
abbrev cX8_queued : ByteArray := prog_1_method_15_code
def yX8_queued : MethodName := ⟨RX8, "queued", "(II)I"⟩
abbrev cX8_nextFlow : ByteArray := prog_1_method_16_code
def yX8_nextFlow : MethodName := ⟨RX8, "nextFlow", "()I"⟩
abbrev cX8_packet : ByteArray := prog_1_method_17_code
def yX8_packet : MethodName := ⟨RX8, "packet", "(II)I"⟩
abbrev cX8_transmission : ByteArray := prog_1_method_18_code
def yX8_transmission : MethodName := ⟨RX8, "transmission", "(II)I"⟩
abbrev cX8_charge : ByteArray := prog_1_method_19_code
def yX8_charge : MethodName := ⟨RX8, "charge", "(I)J"⟩
abbrev cX8_outstanding : ByteArray := prog_1_method_20_code
def yX8_outstanding : MethodName := ⟨RX8, "outstanding", "(I)I"⟩
abbrev cX8_arrive : ByteArray := prog_1_method_21_code
def yX8_arrive : MethodName := ⟨RX8, "arrive", "(IIII)I"⟩
abbrev cX8_run : ByteArray := prog_1_method_22_code
def yX8_run : MethodName := ⟨RX8, "run", "(I)I"⟩
abbrev cX8_setWeight : ByteArray := prog_1_method_23_code
def yX8_setWeight : MethodName := ⟨RX8, "setWeight", "(II)I"⟩
abbrev cX8_audit : ByteArray := prog_1_method_24_code
def yX8_audit : MethodName := ⟨RX8, "audit", "(III)J"⟩
abbrev cX8_worst : ByteArray := prog_1_method_25_code
def yX8_worst : MethodName := ⟨RX8, "worst", "()J"⟩
abbrev cX8_spread : ByteArray := prog_1_method_26_code
def yX8_spread : MethodName := ⟨RX8, "spread", "()J"⟩
abbrev cX8_share : ByteArray := prog_1_method_27_code
def yX8_share : MethodName := ⟨RX8, "share", "(I)D"⟩
abbrev cX8_meanDelay : ByteArray := prog_1_method_28_code
def yX8_meanDelay : MethodName := ⟨RX8, "meanDelay", "(I)F"⟩
abbrev cX8_forecast : ByteArray := prog_1_method_29_code
def yX8_forecast : MethodName := ⟨RX8, "forecast", "(II)I"⟩
abbrev cX8_weightFor : ByteArray := prog_1_method_30_code
def yX8_weightFor : MethodName := ⟨RX8, "weightFor", "(II)I"⟩
abbrev cX8_format : ByteArray := prog_1_method_31_code
def yX8_format : MethodName := ⟨RX8, "format", "(I)I"⟩
abbrev cX8_formattedByte : ByteArray := prog_1_method_32_code
def yX8_formattedByte : MethodName := ⟨RX8, "formattedByte", "(I)I"⟩
abbrev cX8_undoCount : ByteArray := prog_1_method_33_code
def yX8_undoCount : MethodName := ⟨RX8, "undoCount", "()I"⟩
abbrev cX8_undo : ByteArray := prog_1_method_34_code
def yX8_undo : MethodName := ⟨RX8, "undo", "()I"⟩
abbrev cX8_saveSnapshot : ByteArray := prog_1_method_35_code
def yX8_saveSnapshot : MethodName := ⟨RX8, "saveSnapshot", "()V"⟩
abbrev cX8_restoreSnapshot : ByteArray := prog_1_method_36_code
def yX8_restoreSnapshot : MethodName := ⟨RX8, "restoreSnapshot", "()Z"⟩
abbrev cX8_query : ByteArray := prog_1_method_37_code
def yX8_query : MethodName := ⟨RX8, "query", "(I)I"⟩
abbrev cX8_requireRange : ByteArray := prog_1_method_38_code
def yX8_requireRange : MethodName := ⟨RX8, "requireRange", "(III)V"⟩
abbrev cX8_requireAddress : ByteArray := prog_1_method_39_code
def yX8_requireAddress : MethodName := ⟨RX8, "requireAddress", "(III)V"⟩
abbrev cX8_requireProperty : ByteArray := prog_1_method_40_code
def yX8_requireProperty : MethodName := ⟨RX8, "requireProperty", "(II)V"⟩
abbrev cX8_requireFlow : ByteArray := prog_1_method_41_code
def yX8_requireFlow : MethodName := ⟨RX8, "requireFlow", "(I)V"⟩
abbrev cX8_requirePacket : ByteArray := prog_1_method_42_code
def yX8_requirePacket : MethodName := ⟨RX8, "requirePacket", "(I)V"⟩
abbrev cX8_requireTransmission : ByteArray := prog_1_method_43_code
def yX8_requireTransmission : MethodName := ⟨RX8, "requireTransmission", "(I)V"⟩
def RX9 : String := "PacketSchedulerModel"
def TX9 : u_T := fun k => match k with
  | 0 => ("PacketSchedulerModel", "now", "[I", true)
  | 1 => ("PacketSchedulerModel", "draft", "[I", true)
  | 2 => ("PacketSchedulerModel", "kept", "[I", true)
  | 3 => ("PacketSchedulerModel", "snapshot", "[I", true)
  | 4 => ("PacketSchedulerModel", "history", "[I", true)
  | 5 => ("PacketSchedulerModel", "times", "[J", true)
  | 6 => ("PacketSchedulerModel", "keptTimes", "[J", true)
  | 7 => ("PacketSchedulerModel", "snapshotTimes", "[J", true)
  | 8 => ("PacketSchedulerModel", "historyTimes", "[J", true)
  | 9 => ("PacketSchedulerModel", "undoCount", "I", false)
  | 10 => ("PacketSchedulerModel", "thrown", "I", false)
  | 11 => ("PacketSchedulerModel", "hasSnapshot", "Z", false)
  | 12 => ("PacketSchedulerModel", "formatted", "[I", true)
  | 13 => ("PacketSchedulerModel", "formattedLength", "I", false)
  | 14 => ("PacketSchedulerModel", "buffer", "[I", true)
  | 15 => ("PacketSchedulerModel", "bufferLength", "I", false)
  | 16 => ("PacketSchedulerModel", "limit", "I", false)
  | 17 => ("PacketSchedulerModel", "next", "I", false)
  | 18 => ("PacketSchedulerModel", "beginsAt", "I", false)
  | 19 => ("PacketSchedulerModel", "token", "I", false)
  | 20 => ("PacketSchedulerModel", "error", "I", false)
  | 21 => ("PacketSchedulerModel", "errorAt", "I", false)
  | 22 => ("PacketSchedulerModel", "errorPosition", "I", false)
  | 23 => ("PacketSchedulerModel", "nested", "I", false)
  | 24 => ("PacketSchedulerModel", "names", "[Ljava/lang/String;", true)
  | 25 => ("PacketSchedulerModel", "fields", "[I", true)
  | 26 => ("PacketSchedulerModel", "codes", "[I", true)
  | 27 => ("PacketSchedulerModel", "stack", "[I", true)
  | _ => ("PacketSchedulerModel", "codeCount", "I", false)
def tyX9 : Nat → FieldType := fun k => match k with
  | 0 => .array .int
  | 1 => .array .int
  | 2 => .array .int
  | 3 => .array .int
  | 4 => .array .int
  | 5 => .array .long
  | 6 => .array .long
  | 7 => .array .long
  | 8 => .array .long
  | 9 => .int
  | 10 => .int
  | 11 => .boolean
  | 12 => .array .int
  | 13 => .int
  | 14 => .array .int
  | 15 => .int
  | 16 => .int
  | 17 => .int
  | 18 => .int
  | 19 => .int
  | 20 => .int
  | 21 => .int
  | 22 => .int
  | 23 => .int
  | 24 => .array (.object "java/lang/String")
  | 25 => .array .int
  | 26 => .array .int
  | 27 => .array .int
  | _ => .int
abbrev wsX90 : List Cond := u_ws RX9 TX9 29
theorem nmX9 : ∀ a, a < 29 → ∀ b, b < 29 → a ≠ b → (TX9 a).2.1 ≠ (TX9 b).2.1 := by decide +kernel
theorem tyX9_ok : ∀ k, k < 29 → parseFieldDescriptor (TX9 k).2.2.1 = some (tyX9 k) := by decide +kernel
abbrev cX9_init : ByteArray := prog_11_method_1_code
def yX9_init : MethodName := ⟨RX9, "<init>", "()V"⟩
abbrev cX9_thrown : ByteArray := prog_11_method_2_code
def yX9_thrown : MethodName := ⟨RX9, "thrown", "()I"⟩
abbrev cX9_raise : ByteArray := prog_11_method_3_code
def yX9_raise : MethodName := ⟨RX9, "raise", "(I)I"⟩
abbrev cX9_inRange : ByteArray := prog_11_method_4_code
def yX9_inRange : MethodName := ⟨RX9, "inRange", "(III)Z"⟩
abbrev cX9_clear : ByteArray := prog_11_method_5_code
def yX9_clear : MethodName := ⟨RX9, "clear", "([I)V"⟩
abbrev cX9_ofFlow : ByteArray := prog_11_method_6_code
def yX9_ofFlow : MethodName := ⟨RX9, "ofFlow", "(II)I"⟩
abbrev cX9_addToFlow : ByteArray := prog_11_method_7_code
def yX9_addToFlow : MethodName := ⟨RX9, "addToFlow", "(III)V"⟩
abbrev cX9_ofPacket : ByteArray := prog_11_method_8_code
def yX9_ofPacket : MethodName := ⟨RX9, "ofPacket", "(II)I"⟩
abbrev cX9_putPacket : ByteArray := prog_11_method_9_code
def yX9_putPacket : MethodName := ⟨RX9, "putPacket", "(III)V"⟩
abbrev cX9_ofSending : ByteArray := prog_11_method_10_code
def yX9_ofSending : MethodName := ⟨RX9, "ofSending", "(II)I"⟩
abbrev cX9_putSending : ByteArray := prog_11_method_11_code
def yX9_putSending : MethodName := ⟨RX9, "putSending", "(III)V"⟩
abbrev cX9_flowOfSending : ByteArray := prog_11_method_12_code
def yX9_flowOfSending : MethodName := ⟨RX9, "flowOfSending", "(I)I"⟩
abbrev cX9_isFlow : ByteArray := prog_11_method_13_code
def yX9_isFlow : MethodName := ⟨RX9, "isFlow", "(I)Z"⟩
abbrev cX9_isPacket : ByteArray := prog_11_method_14_code
def yX9_isPacket : MethodName := ⟨RX9, "isPacket", "(I)Z"⟩
abbrev cX9_isByte : ByteArray := prog_11_method_15_code
def yX9_isByte : MethodName := ⟨RX9, "isByte", "(I)Z"⟩
abbrev cX9_tell : ByteArray := prog_11_method_16_code
def yX9_tell : MethodName := ⟨RX9, "tell", "(I)I"⟩
abbrev cX9_flowCount : ByteArray := prog_11_method_17_code
def yX9_flowCount : MethodName := ⟨RX9, "flowCount", "()I"⟩
abbrev cX9_ruleCount : ByteArray := prog_11_method_18_code
def yX9_ruleCount : MethodName := ⟨RX9, "ruleCount", "()I"⟩
abbrev cX9_packetCount : ByteArray := prog_11_method_19_code
def yX9_packetCount : MethodName := ⟨RX9, "packetCount", "()I"⟩
abbrev cX9_transmissionCount : ByteArray := prog_11_method_20_code
def yX9_transmissionCount : MethodName := ⟨RX9, "transmissionCount", "()I"⟩
abbrev cX9_clock : ByteArray := prog_11_method_21_code
def yX9_clock : MethodName := ⟨RX9, "clock", "()I"⟩
abbrev cX9_credit : ByteArray := prog_11_method_22_code
def yX9_credit : MethodName := ⟨RX9, "credit", "()I"⟩
abbrev cX9_matches : ByteArray := prog_11_method_23_code
def yX9_matches : MethodName := ⟨RX9, "matches", "(III)Z"⟩
abbrev cX9_flowFor : ByteArray := prog_11_method_24_code
def yX9_flowFor : MethodName := ⟨RX9, "flowFor", "(III)I"⟩
abbrev cX9_classify : ByteArray := prog_11_method_25_code
def yX9_classify : MethodName := ⟨RX9, "classify", "(III)I"⟩
abbrev cX9_inQueue : ByteArray := prog_11_method_26_code
def yX9_inQueue : MethodName := ⟨RX9, "inQueue", "(II)I"⟩
abbrev cX9_bytesQueued : ByteArray := prog_11_method_27_code
def yX9_bytesQueued : MethodName := ⟨RX9, "bytesQueued", "(I)I"⟩
abbrev cX9_droppedOf : ByteArray := prog_11_method_28_code
def yX9_droppedOf : MethodName := ⟨RX9, "droppedOf", "(I)I"⟩
abbrev cX9_flow : ByteArray := prog_11_method_29_code
def yX9_flow : MethodName := ⟨RX9, "flow", "(II)I"⟩
abbrev cX9_virtualTime : ByteArray := prog_11_method_30_code
def yX9_virtualTime : MethodName := ⟨RX9, "virtualTime", "(I)J"⟩
abbrev cX9_outstandingOf : ByteArray := prog_11_method_31_code
def yX9_outstandingOf : MethodName := ⟨RX9, "outstandingOf", "(I)I"⟩
abbrev cX9_isUnused : ByteArray := prog_11_method_32_code
def yX9_isUnused : MethodName := ⟨RX9, "isUnused", "(I)Z"⟩
abbrev cX9_isIdle : ByteArray := prog_11_method_33_code
def yX9_isIdle : MethodName := ⟨RX9, "isIdle", "(I)Z"⟩
abbrev cX9_queued : ByteArray := prog_11_method_34_code
def yX9_queued : MethodName := ⟨RX9, "queued", "(II)I"⟩
abbrev cX9_next : ByteArray := prog_11_method_35_code
def yX9_next : MethodName := ⟨RX9, "next", "()I"⟩
abbrev cX9_nextFlow : ByteArray := prog_11_method_36_code
def yX9_nextFlow : MethodName := ⟨RX9, "nextFlow", "()I"⟩
abbrev cX9_packet : ByteArray := prog_11_method_37_code
def yX9_packet : MethodName := ⟨RX9, "packet", "(II)I"⟩
abbrev cX9_isSending : ByteArray := prog_11_method_38_code
def yX9_isSending : MethodName := ⟨RX9, "isSending", "(I)Z"⟩
abbrev cX9_transmission : ByteArray := prog_11_method_39_code
def yX9_transmission : MethodName := ⟨RX9, "transmission", "(II)I"⟩
abbrev cX9_charge : ByteArray := prog_11_method_40_code
def yX9_charge : MethodName := ⟨RX9, "charge", "(I)J"⟩
abbrev cX9_outstanding : ByteArray := prog_11_method_41_code
def yX9_outstanding : MethodName := ⟨RX9, "outstanding", "(I)I"⟩
abbrev cX9_putInto : ByteArray := prog_11_method_42_code
def yX9_putInto : MethodName := ⟨RX9, "putInto", "(IIZ)V"⟩
abbrev cX9_takeFrom : ByteArray := prog_11_method_43_code
def yX9_takeFrom : MethodName := ⟨RX9, "takeFrom", "(II)V"⟩
abbrev cX9_putCharge : ByteArray := prog_11_method_44_code
def yX9_putCharge : MethodName := ⟨RX9, "putCharge", "(IZ)V"⟩
abbrev cX9_refund : ByteArray := prog_11_method_45_code
def yX9_refund : MethodName := ⟨RX9, "refund", "(I)V"⟩
abbrev cX9_deliver : ByteArray := prog_11_method_46_code
def yX9_deliver : MethodName := ⟨RX9, "deliver", "(III)V"⟩
abbrev cX9_acknowledge : ByteArray := prog_11_method_47_code
def yX9_acknowledge : MethodName := ⟨RX9, "acknowledge", "(I)V"⟩
abbrev cX9_isLatest : ByteArray := prog_11_method_48_code
def yX9_isLatest : MethodName := ⟨RX9, "isLatest", "(I)Z"⟩
abbrev cX9_declareLost : ByteArray := prog_11_method_49_code
def yX9_declareLost : MethodName := ⟨RX9, "declareLost", "(I)V"⟩
abbrev cX9_divides : ByteArray := prog_11_method_50_code
def yX9_divides : MethodName := ⟨RX9, "divides", "(II)Z"⟩
abbrev cX9_acknowledgmentTick : ByteArray := prog_11_method_51_code
def yX9_acknowledgmentTick : MethodName := ⟨RX9, "acknowledgmentTick", "(I)I"⟩
abbrev cX9_send : ByteArray := prog_11_method_52_code
def yX9_send : MethodName := ⟨RX9, "send", "(II)V"⟩
abbrev cX9_sendNext : ByteArray := prog_11_method_53_code
def yX9_sendNext : MethodName := ⟨RX9, "sendNext", "()Z"⟩
abbrev cX9_record : ByteArray := prog_11_method_54_code
def yX9_record : MethodName := ⟨RX9, "record", "()V"⟩
abbrev cX9_tick : ByteArray := prog_11_method_55_code
def yX9_tick : MethodName := ⟨RX9, "tick", "()V"⟩
abbrev cX9_forgive : ByteArray := prog_11_method_56_code
def yX9_forgive : MethodName := ⟨RX9, "forgive", "(I)V"⟩
abbrev cX9_arrive : ByteArray := prog_11_method_57_code
def yX9_arrive : MethodName := ⟨RX9, "arrive", "(IIII)I"⟩
abbrev cX9_deliveredCount : ByteArray := prog_11_method_58_code
def yX9_deliveredCount : MethodName := ⟨RX9, "deliveredCount", "()I"⟩
abbrev cX9_run : ByteArray := prog_11_method_59_code
def yX9_run : MethodName := ⟨RX9, "run", "(I)I"⟩
abbrev cX9_setWeight : ByteArray := prog_11_method_60_code
def yX9_setWeight : MethodName := ⟨RX9, "setWeight", "(II)I"⟩
abbrev cX9_oldestTick : ByteArray := prog_11_method_61_code
def yX9_oldestTick : MethodName := ⟨RX9, "oldestTick", "()I"⟩
abbrev cX9_recorded : ByteArray := prog_11_method_62_code
def yX9_recorded : MethodName := ⟨RX9, "recorded", "(II)I"⟩
abbrev cX9_areActive : ByteArray := prog_11_method_63_code
def yX9_areActive : MethodName := ⟨RX9, "areActive", "(III)Z"⟩
abbrev cX9_normalized : ByteArray := prog_11_method_64_code
def yX9_normalized : MethodName := ⟨RX9, "normalized", "(III)J"⟩
abbrev cX9_difference : ByteArray := prog_11_method_65_code
def yX9_difference : MethodName := ⟨RX9, "difference", "(IIII)J"⟩
abbrev cX9_audit : ByteArray := prog_11_method_66_code
def yX9_audit : MethodName := ⟨RX9, "audit", "(III)J"⟩
abbrev cX9_worstOf : ByteArray := prog_11_method_67_code
def yX9_worstOf : MethodName := ⟨RX9, "worstOf", "(II)J"⟩
abbrev cX9_worst : ByteArray := prog_11_method_68_code
def yX9_worst : MethodName := ⟨RX9, "worst", "()J"⟩
abbrev cX9_spread : ByteArray := prog_11_method_69_code
def yX9_spread : MethodName := ⟨RX9, "spread", "()J"⟩
abbrev cX9_share : ByteArray := prog_11_method_70_code
def yX9_share : MethodName := ⟨RX9, "share", "(I)D"⟩
abbrev cX9_meanDelay : ByteArray := prog_11_method_71_code
def yX9_meanDelay : MethodName := ⟨RX9, "meanDelay", "(I)F"⟩
abbrev cX9_layAside : ByteArray := prog_11_method_72_code
def yX9_layAside : MethodName := ⟨RX9, "layAside", "()V"⟩
abbrev cX9_layBack : ByteArray := prog_11_method_73_code
def yX9_layBack : MethodName := ⟨RX9, "layBack", "()V"⟩
abbrev cX9_ticksUntilDelivered : ByteArray := prog_11_method_74_code
def yX9_ticksUntilDelivered : MethodName := ⟨RX9, "ticksUntilDelivered", "(II)I"⟩
abbrev cX9_mayForecast : ByteArray := prog_11_method_75_code
def yX9_mayForecast : MethodName := ⟨RX9, "mayForecast", "(III)Z"⟩
abbrev cX9_forecast : ByteArray := prog_11_method_76_code
def yX9_forecast : MethodName := ⟨RX9, "forecast", "(II)I"⟩
abbrev cX9_weightFor : ByteArray := prog_11_method_77_code
def yX9_weightFor : MethodName := ⟨RX9, "weightFor", "(II)I"⟩
abbrev cX9_copy : ByteArray := prog_11_method_78_code
def yX9_copy : MethodName := ⟨RX9, "copy", "([II[II)V"⟩
abbrev cX9_copyTimes : ByteArray := prog_11_method_79_code
def yX9_copyTimes : MethodName := ⟨RX9, "copyTimes", "([JI[JI)V"⟩
abbrev cX9_remember : ByteArray := prog_11_method_80_code
def yX9_remember : MethodName := ⟨RX9, "remember", "()V"⟩
abbrev cX9_undoCount : ByteArray := prog_11_method_81_code
def yX9_undoCount : MethodName := ⟨RX9, "undoCount", "()I"⟩
abbrev cX9_undo : ByteArray := prog_11_method_82_code
def yX9_undo : MethodName := ⟨RX9, "undo", "()I"⟩
abbrev cX9_saveSnapshot : ByteArray := prog_11_method_83_code
def yX9_saveSnapshot : MethodName := ⟨RX9, "saveSnapshot", "()V"⟩
abbrev cX9_restoreSnapshot : ByteArray := prog_11_method_84_code
def yX9_restoreSnapshot : MethodName := ⟨RX9, "restoreSnapshot", "()Z"⟩
abbrev cX9_write : ByteArray := prog_11_method_85_code
def yX9_write : MethodName := ⟨RX9, "write", "(Ljava/lang/String;)V"⟩
abbrev cX9_writeNumber : ByteArray := prog_11_method_86_code
def yX9_writeNumber : MethodName := ⟨RX9, "writeNumber", "(I)V"⟩
abbrev cX9_format : ByteArray := prog_11_method_87_code
def yX9_format : MethodName := ⟨RX9, "format", "(I)I"⟩
abbrev cX9_formattedByte : ByteArray := prog_11_method_88_code
def yX9_formattedByte : MethodName := ⟨RX9, "formattedByte", "(I)I"⟩
abbrev cX9_feed : ByteArray := prog_11_method_89_code
def yX9_feed : MethodName := ⟨RX9, "feed", "(IIIII)I"⟩
abbrev cX9_errorPosition : ByteArray := prog_11_method_90_code
def yX9_errorPosition : MethodName := ⟨RX9, "errorPosition", "()I"⟩
abbrev cX9_byteAt : ByteArray := prog_11_method_91_code
def yX9_byteAt : MethodName := ⟨RX9, "byteAt", "(I)I"⟩
abbrev cX9_isLetter : ByteArray := prog_11_method_92_code
def yX9_isLetter : MethodName := ⟨RX9, "isLetter", "(I)Z"⟩
abbrev cX9_isDigit : ByteArray := prog_11_method_93_code
def yX9_isDigit : MethodName := ⟨RX9, "isDigit", "(I)Z"⟩
abbrev cX9_scan : ByteArray := prog_11_method_94_code
def yX9_scan : MethodName := ⟨RX9, "scan", "()V"⟩
abbrev cX9_startText : ByteArray := prog_11_method_95_code
def yX9_startText : MethodName := ⟨RX9, "startText", "(I)V"⟩
abbrev cX9_finish : ByteArray := prog_11_method_96_code
def yX9_finish : MethodName := ⟨RX9, "finish", "()I"⟩
abbrev cX9_fail : ByteArray := prog_11_method_97_code
def yX9_fail : MethodName := ⟨RX9, "fail", "(I)V"⟩
abbrev cX9_check : ByteArray := prog_11_method_98_code
def yX9_check : MethodName := ⟨RX9, "check", "(ZI)V"⟩
abbrev cX9_advance : ByteArray := prog_11_method_99_code
def yX9_advance : MethodName := ⟨RX9, "advance", "()V"⟩
abbrev cX9_isSymbol : ByteArray := prog_11_method_100_code
def yX9_isSymbol : MethodName := ⟨RX9, "isSymbol", "(I)Z"⟩
abbrev cX9_isWord : ByteArray := prog_11_method_101_code
def yX9_isWord : MethodName := ⟨RX9, "isWord", "(Ljava/lang/String;)Z"⟩
abbrev cX9_accept : ByteArray := prog_11_method_102_code
def yX9_accept : MethodName := ⟨RX9, "accept", "(Ljava/lang/String;)Z"⟩
abbrev cX9_expectWord : ByteArray := prog_11_method_103_code
def yX9_expectWord : MethodName := ⟨RX9, "expectWord", "(Ljava/lang/String;)V"⟩
abbrev cX9_expect : ByteArray := prog_11_method_104_code
def yX9_expect : MethodName := ⟨RX9, "expect", "(I)V"⟩
abbrev cX9_value : ByteArray := prog_11_method_105_code
def yX9_value : MethodName := ⟨RX9, "value", "()I"⟩
abbrev cX9_number : ByteArray := prog_11_method_106_code
def yX9_number : MethodName := ⟨RX9, "number", "(II)I"⟩
abbrev cX9_putNumber : ByteArray := prog_11_method_107_code
def yX9_putNumber : MethodName := ⟨RX9, "putNumber", "(III)V"⟩
abbrev cX9_readOption : ByteArray := prog_11_method_108_code
def yX9_readOption : MethodName := ⟨RX9, "readOption", "(I)Z"⟩
abbrev cX9_readFlow : ByteArray := prog_11_method_109_code
def yX9_readFlow : MethodName := ⟨RX9, "readFlow", "()V"⟩
abbrev cX9_readCondition : ByteArray := prog_11_method_110_code
def yX9_readCondition : MethodName := ⟨RX9, "readCondition", "(I)Z"⟩
abbrev cX9_readRule : ByteArray := prog_11_method_111_code
def yX9_readRule : MethodName := ⟨RX9, "readRule", "()V"⟩
abbrev cX9_readClause : ByteArray := prog_11_method_112_code
def yX9_readClause : MethodName := ⟨RX9, "readClause", "()V"⟩
abbrev cX9_load : ByteArray := prog_11_method_113_code
def yX9_load : MethodName := ⟨RX9, "load", "(I)I"⟩
abbrev cX9_emit : ByteArray := prog_11_method_114_code
def yX9_emit : MethodName := ⟨RX9, "emit", "(I)V"⟩
abbrev cX9_enter : ByteArray := prog_11_method_115_code
def yX9_enter : MethodName := ⟨RX9, "enter", "()V"⟩
abbrev cX9_compileValue : ByteArray := prog_11_method_116_code
def yX9_compileValue : MethodName := ⟨RX9, "compileValue", "()V"⟩
abbrev cX9_compileFactor : ByteArray := prog_11_method_117_code
def yX9_compileFactor : MethodName := ⟨RX9, "compileFactor", "()V"⟩
abbrev cX9_compileConjunction : ByteArray := prog_11_method_118_code
def yX9_compileConjunction : MethodName := ⟨RX9, "compileConjunction", "()V"⟩
abbrev cX9_compileTest : ByteArray := prog_11_method_119_code
def yX9_compileTest : MethodName := ⟨RX9, "compileTest", "()V"⟩
abbrev cX9_operate : ByteArray := prog_11_method_120_code
def yX9_operate : MethodName := ⟨RX9, "operate", "(III)I"⟩
abbrev cX9_property : ByteArray := prog_11_method_121_code
def yX9_property : MethodName := ⟨RX9, "property", "(II)I"⟩
abbrev cX9_holdsFor : ByteArray := prog_11_method_122_code
def yX9_holdsFor : MethodName := ⟨RX9, "holdsFor", "(I)Z"⟩
abbrev cX9_query : ByteArray := prog_11_method_123_code
def yX9_query : MethodName := ⟨RX9, "query", "(I)I"⟩
def RJx145de : String := "java/io/Serializable"
def TJx145de : u_T := fun k => match k with
  | _ => ("", "", "", false)
def tyJx145de : Nat → FieldType := fun k => match k with
  | _ => .int
abbrev wsJx145de0 : List Cond := u_ws RJx145de TJx145de 0
theorem nmJx145de : ∀ a, a < 0 → ∀ b, b < 0 → a ≠ b → (TJx145de a).2.1 ≠ (TJx145de b).2.1 := by decide +kernel
theorem tyJx145de_ok : ∀ k, k < 0 → parseFieldDescriptor (TJx145de k).2.2.1 = some (tyJx145de k) := by decide +kernel
def RJ5 : String := "java/lang/AbstractStringBuilder"
def TJ5 : u_T := fun k => match k with
  | _ => ("", "", "", false)
def tyJ5 : Nat → FieldType := fun k => match k with
  | _ => .int
abbrev wsJ50 : List Cond := u_ws RJ5 TJ5 0
theorem nmJ5 : ∀ a, a < 0 → ∀ b, b < 0 → a ≠ b → (TJ5 a).2.1 ≠ (TJ5 b).2.1 := by decide +kernel
theorem tyJ5_ok : ∀ k, k < 0 → parseFieldDescriptor (TJ5 k).2.2.1 = some (tyJ5 k) := by decide +kernel
abbrev cJ5_init_d00df : ByteArray := prog_13_method_2_code
def yJ5_init_d00df : MethodName := ⟨RJ5, "<init>", "(I)V"⟩
abbrev cJ5_length_8abf5 : ByteArray := prog_13_method_6_code
def yJ5_length_8abf5 : MethodName := ⟨RJ5, "length", "()I"⟩
abbrev cJ5_ensureCapacityInternal_d00df : ByteArray := prog_13_method_9_code
def yJ5_ensureCapacityInternal_d00df : MethodName := ⟨RJ5, "ensureCapacityInternal", "(I)V"⟩
abbrev cJ5_newCapacity_0f7a4 : ByteArray := prog_13_method_10_code
def yJ5_newCapacity_0f7a4 : MethodName := ⟨RJ5, "newCapacity", "(I)I"⟩
abbrev cJ5_inflate_da8c8 : ByteArray := prog_13_method_11_code
def yJ5_inflate_da8c8 : MethodName := ⟨RJ5, "inflate", "()V"⟩
abbrev cJ5_setLength_d00df : ByteArray := prog_13_method_13_code
def yJ5_setLength_d00df : MethodName := ⟨RJ5, "setLength", "(I)V"⟩
abbrev cJ5_charAt_5068e : ByteArray := prog_13_method_14_code
def yJ5_charAt_5068e : MethodName := ⟨RJ5, "charAt", "(I)C"⟩
abbrev cJ5_append_cf1ce : ByteArray := prog_13_method_22_code
def yJ5_append_cf1ce : MethodName := ⟨RJ5, "append", "(Ljava/lang/String;)Ljava/lang/AbstractStringBuilder;"⟩
abbrev cJ5_appendNull_278bc : ByteArray := prog_13_method_26_code
def yJ5_appendNull_278bc : MethodName := ⟨RJ5, "appendNull", "()Ljava/lang/AbstractStringBuilder;"⟩
abbrev cJ5_append_3fe6f : ByteArray := prog_13_method_31_code
def yJ5_append_3fe6f : MethodName := ⟨RJ5, "append", "(C)Ljava/lang/AbstractStringBuilder;"⟩
abbrev cJ5_append_c97b9 : ByteArray := prog_13_method_32_code
def yJ5_append_c97b9 : MethodName := ⟨RJ5, "append", "(I)Ljava/lang/AbstractStringBuilder;"⟩
abbrev cJ5_getValue_6d5f1 : ByteArray := prog_13_method_64_code
def yJ5_getValue_6d5f1 : MethodName := ⟨RJ5, "getValue", "()[B"⟩
abbrev cJ5_isLatin1_aae02 : ByteArray := prog_13_method_68_code
def yJ5_isLatin1_aae02 : MethodName := ⟨RJ5, "isLatin1", "()Z"⟩
abbrev cJ5_inflateIfNeededFor_a7421 : ByteArray := prog_13_method_71_code
def yJ5_inflateIfNeededFor_a7421 : MethodName := ⟨RJ5, "inflateIfNeededFor", "(Ljava/lang/String;)V"⟩
abbrev cJ5_putStringAt_47b60 : ByteArray := prog_13_method_73_code
def yJ5_putStringAt_47b60 : MethodName := ⟨RJ5, "putStringAt", "(ILjava/lang/String;)V"⟩
def RJx2cfe8 : String := "java/lang/Appendable"
def TJx2cfe8 : u_T := fun k => match k with
  | _ => ("", "", "", false)
def tyJx2cfe8 : Nat → FieldType := fun k => match k with
  | _ => .int
abbrev wsJx2cfe80 : List Cond := u_ws RJx2cfe8 TJx2cfe8 0
theorem nmJx2cfe8 : ∀ a, a < 0 → ∀ b, b < 0 → a ≠ b → (TJx2cfe8 a).2.1 ≠ (TJx2cfe8 b).2.1 := by decide +kernel
theorem tyJx2cfe8_ok : ∀ k, k < 0 → parseFieldDescriptor (TJx2cfe8 k).2.2.1 = some (tyJx2cfe8 k) := by decide +kernel
def RJx9f9b0 : String := "java/lang/CharSequence"
def TJx9f9b0 : u_T := fun k => match k with
  | _ => ("", "", "", false)
def tyJx9f9b0 : Nat → FieldType := fun k => match k with
  | _ => .int
abbrev wsJx9f9b00 : List Cond := u_ws RJx9f9b0 TJx9f9b0 0
theorem nmJx9f9b0 : ∀ a, a < 0 → ∀ b, b < 0 → a ≠ b → (TJx9f9b0 a).2.1 ≠ (TJx9f9b0 b).2.1 := by decide +kernel
theorem tyJx9f9b0_ok : ∀ k, k < 0 → parseFieldDescriptor (TJx9f9b0 k).2.2.1 = some (tyJx9f9b0 k) := by decide +kernel
def RJx8e188 : String := "java/lang/Cloneable"
def TJx8e188 : u_T := fun k => match k with
  | _ => ("", "", "", false)
def tyJx8e188 : Nat → FieldType := fun k => match k with
  | _ => .int
abbrev wsJx8e1880 : List Cond := u_ws RJx8e188 TJx8e188 0
theorem nmJx8e188 : ∀ a, a < 0 → ∀ b, b < 0 → a ≠ b → (TJx8e188 a).2.1 ≠ (TJx8e188 b).2.1 := by decide +kernel
theorem tyJx8e188_ok : ∀ k, k < 0 → parseFieldDescriptor (TJx8e188 k).2.2.1 = some (tyJx8e188 k) := by decide +kernel
def RJxb160c : String := "java/lang/Comparable"
def TJxb160c : u_T := fun k => match k with
  | _ => ("", "", "", false)
def tyJxb160c : Nat → FieldType := fun k => match k with
  | _ => .int
abbrev wsJxb160c0 : List Cond := u_ws RJxb160c TJxb160c 0
theorem nmJxb160c : ∀ a, a < 0 → ∀ b, b < 0 → a ≠ b → (TJxb160c a).2.1 ≠ (TJxb160c b).2.1 := by decide +kernel
theorem tyJxb160c_ok : ∀ k, k < 0 → parseFieldDescriptor (TJxb160c k).2.2.1 = some (tyJxb160c k) := by decide +kernel
def RJ6 : String := "java/lang/Integer"
def TJ6 : u_T := fun k => match k with
  | _ => ("", "", "", false)
def tyJ6 : Nat → FieldType := fun k => match k with
  | _ => .int
abbrev wsJ60 : List Cond := u_ws RJ6 TJ6 0
theorem nmJ6 : ∀ a, a < 0 → ∀ b, b < 0 → a ≠ b → (TJ6 a).2.1 ≠ (TJ6 b).2.1 := by decide +kernel
theorem tyJ6_ok : ∀ k, k < 0 → parseFieldDescriptor (TJ6 k).2.2.1 = some (tyJ6 k) := by decide +kernel
abbrev cJ6_getChars_ba4f3 : ByteArray := prog_20_method_12_code
def yJ6_getChars_ba4f3 : MethodName := ⟨RJ6, "getChars", "(II[B)I"⟩
abbrev cJ6_stringSize_0f7a4 : ByteArray := prog_20_method_13_code
def yJ6_stringSize_0f7a4 : MethodName := ⟨RJ6, "stringSize", "(I)I"⟩
abbrev cJ6_compare_7cf53 : ByteArray := prog_20_method_40_code
def yJ6_compare_7cf53 : MethodName := ⟨RJ6, "compare", "(II)I"⟩
def RJ9 : String := "java/lang/Math"
def TJ9 : u_T := fun k => match k with
  | _ => ("", "", "", false)
def tyJ9 : Nat → FieldType := fun k => match k with
  | _ => .int
abbrev wsJ90 : List Cond := u_ws RJ9 TJ9 0
theorem nmJ9 : ∀ a, a < 0 → ∀ b, b < 0 → a ≠ b → (TJ9 a).2.1 ≠ (TJ9 b).2.1 := by decide +kernel
theorem tyJ9_ok : ∀ k, k < 0 → parseFieldDescriptor (TJ9 k).2.2.1 = some (tyJ9 k) := by decide +kernel
abbrev cJ9_floorMod_7cf53 : ByteArray := prog_21_method_50_code
def yJ9_floorMod_7cf53 : MethodName := ⟨RJ9, "floorMod", "(II)I"⟩
abbrev cJ9_abs_067f4 : ByteArray := prog_21_method_61_code
def yJ9_abs_067f4 : MethodName := ⟨RJ9, "abs", "(J)J"⟩
abbrev cJ9_max_7cf53 : ByteArray := prog_21_method_65_code
def yJ9_max_7cf53 : MethodName := ⟨RJ9, "max", "(II)I"⟩
abbrev cJ9_max_f86c9 : ByteArray := prog_21_method_66_code
def yJ9_max_f86c9 : MethodName := ⟨RJ9, "max", "(JJ)J"⟩
abbrev cJ9_min_7cf53 : ByteArray := prog_21_method_69_code
def yJ9_min_7cf53 : MethodName := ⟨RJ9, "min", "(II)I"⟩
abbrev cJ9_min_f86c9 : ByteArray := prog_21_method_70_code
def yJ9_min_f86c9 : MethodName := ⟨RJ9, "min", "(JJ)J"⟩
def RJxd2413 : String := "java/lang/Number"
def TJxd2413 : u_T := fun k => match k with
  | _ => ("", "", "", false)
def tyJxd2413 : Nat → FieldType := fun k => match k with
  | _ => .int
abbrev wsJxd24130 : List Cond := u_ws RJxd2413 TJxd2413 0
theorem nmJxd2413 : ∀ a, a < 0 → ∀ b, b < 0 → a ≠ b → (TJxd2413 a).2.1 ≠ (TJxd2413 b).2.1 := by decide +kernel
theorem tyJxd2413_ok : ∀ k, k < 0 → parseFieldDescriptor (TJxd2413 k).2.2.1 = some (tyJxd2413 k) := by decide +kernel
def RJ0 : String := "java/lang/String"
def TJ0 : u_T := fun k => match k with
  | 0 => ("java/lang/String", "value", "[B", true)
  | 1 => ("java/lang/String", "coder", "B", true)
  | 2 => ("java/lang/String", "hash", "I", false)
  | _ => ("java/lang/String", "hashIsZero", "Z", false)
def tyJ0 : Nat → FieldType := fun k => match k with
  | 0 => .array .byte
  | 1 => .byte
  | 2 => .int
  | _ => .boolean
abbrev wsJ00 : List Cond := u_ws RJ0 TJ0 4
theorem nmJ0 : ∀ a, a < 4 → ∀ b, b < 4 → a ≠ b → (TJ0 a).2.1 ≠ (TJ0 b).2.1 := by decide +kernel
theorem tyJ0_ok : ∀ k, k < 4 → parseFieldDescriptor (TJ0 k).2.2.1 = some (tyJ0 k) := by decide +kernel
abbrev cJ0_init_81219 : ByteArray := prog_24_method_53_code
def yJ0_init_81219 : MethodName := ⟨RJ0, "<init>", "(Ljava/lang/StringBuilder;)V"⟩
abbrev cJ0_length_8abf5 : ByteArray := prog_24_method_54_code
def yJ0_length_8abf5 : MethodName := ⟨RJ0, "length", "()I"⟩
abbrev cJ0_charAt_5068e : ByteArray := prog_24_method_56_code
def yJ0_charAt_5068e : MethodName := ⟨RJ0, "charAt", "(I)C"⟩
abbrev cJ0_getBytes_840e7 : ByteArray := prog_24_method_147_code
def yJ0_getBytes_840e7 : MethodName := ⟨RJ0, "getBytes", "([BIB)V"⟩
abbrev cJ0_init_db425 : ByteArray := prog_24_method_150_code
def yJ0_init_db425 : MethodName := ⟨RJ0, "<init>", "(Ljava/lang/AbstractStringBuilder;Ljava/lang/Void;)V"⟩
abbrev cJ0_coder_7d493 : ByteArray := prog_24_method_152_code
def yJ0_coder_7d493 : MethodName := ⟨RJ0, "coder", "()B"⟩
abbrev cJ0_isLatin1_aae02 : ByteArray := prog_24_method_154_code
def yJ0_isLatin1_aae02 : MethodName := ⟨RJ0, "isLatin1", "()Z"⟩
abbrev cJ0_checkIndex_df160 : ByteArray := prog_24_method_155_code
def yJ0_checkIndex_df160 : MethodName := ⟨RJ0, "checkIndex", "(II)V"⟩
abbrev cJ0_checkBoundsOffCount_cabcc : ByteArray := prog_24_method_157_code
def yJ0_checkBoundsOffCount_cabcc : MethodName := ⟨RJ0, "checkBoundsOffCount", "(III)I"⟩
abbrev cJ0_checkBoundsBeginEnd_23922 : ByteArray := prog_24_method_158_code
def yJ0_checkBoundsBeginEnd_23922 : MethodName := ⟨RJ0, "checkBoundsBeginEnd", "(III)V"⟩
def RJ4 : String := "java/lang/StringBuilder"
def TJ4 : u_T := fun k => match k with
  | 0 => ("java/lang/AbstractStringBuilder", "value", "[B", false)
  | 1 => ("java/lang/AbstractStringBuilder", "coder", "B", false)
  | 2 => ("java/lang/AbstractStringBuilder", "maybeLatin1", "Z", false)
  | _ => ("java/lang/AbstractStringBuilder", "count", "I", false)
def tyJ4 : Nat → FieldType := fun k => match k with
  | 0 => .array .byte
  | 1 => .byte
  | 2 => .boolean
  | _ => .int
abbrev wsJ40 : List Cond := u_ws RJ4 TJ4 4
theorem nmJ4 : ∀ a, a < 4 → ∀ b, b < 4 → a ≠ b → (TJ4 a).2.1 ≠ (TJ4 b).2.1 := by decide +kernel
theorem tyJ4_ok : ∀ k, k < 4 → parseFieldDescriptor (TJ4 k).2.2.1 = some (tyJ4 k) := by decide +kernel
abbrev cJ4_init_da8c8 : ByteArray := prog_25_method_1_code
def yJ4_init_da8c8 : MethodName := ⟨RJ4, "<init>", "()V"⟩
abbrev cJ4_append_15ec4 : ByteArray := prog_25_method_7_code
def yJ4_append_15ec4 : MethodName := ⟨RJ4, "append", "(Ljava/lang/String;)Ljava/lang/StringBuilder;"⟩
abbrev cJ4_append_cf468 : ByteArray := prog_25_method_14_code
def yJ4_append_cf468 : MethodName := ⟨RJ4, "append", "(C)Ljava/lang/StringBuilder;"⟩
abbrev cJ4_append_bf812 : ByteArray := prog_25_method_15_code
def yJ4_append_bf812 : MethodName := ⟨RJ4, "append", "(I)Ljava/lang/StringBuilder;"⟩
abbrev cJ4_toString_0e30d : ByteArray := prog_25_method_42_code
def yJ4_toString_0e30d : MethodName := ⟨RJ4, "toString", "()Ljava/lang/String;"⟩
abbrev cJ4_charAt_5068e : ByteArray := prog_25_method_88_code
def yJ4_charAt_5068e : MethodName := ⟨RJ4, "charAt", "(I)C"⟩
abbrev cJ4_setLength_d00df : ByteArray := prog_25_method_89_code
def yJ4_setLength_d00df : MethodName := ⟨RJ4, "setLength", "(I)V"⟩
abbrev cJ4_length_8abf5 : ByteArray := prog_25_method_93_code
def yJ4_length_8abf5 : MethodName := ⟨RJ4, "length", "()I"⟩
def RJ1 : String := "java/lang/StringLatin1"
def TJ1 : u_T := fun k => match k with
  | _ => ("", "", "", false)
def tyJ1 : Nat → FieldType := fun k => match k with
  | _ => .int
abbrev wsJ10 : List Cond := u_ws RJ1 TJ1 0
theorem nmJ1 : ∀ a, a < 0 → ∀ b, b < 0 → a ≠ b → (TJ1 a).2.1 ≠ (TJ1 b).2.1 := by decide +kernel
theorem tyJ1_ok : ∀ k, k < 0 → parseFieldDescriptor (TJ1 k).2.2.1 = some (tyJ1 k) := by decide +kernel
abbrev cJ1_charAt_3b067 : ByteArray := prog_26_method_2_code
def yJ1_charAt_3b067 : MethodName := ⟨RJ1, "charAt", "([BI)C"⟩
abbrev cJ1_canEncode_fc78d : ByteArray := prog_26_method_3_code
def yJ1_canEncode_fc78d : MethodName := ⟨RJ1, "canEncode", "(C)Z"⟩
abbrev cJ1_fillNull_b72d1 : ByteArray := prog_26_method_48_code
def yJ1_fillNull_b72d1 : MethodName := ⟨RJ1, "fillNull", "([BII)V"⟩
abbrev cJ1_inflate_0e8fd : ByteArray := prog_26_method_50_code
def yJ1_inflate_0e8fd : MethodName := ⟨RJ1, "inflate", "([BI[BII)V"⟩
def RJ2 : String := "java/lang/StringUTF16"
def TJ2 : u_T := fun k => match k with
  | _ => ("", "", "", false)
def tyJ2 : Nat → FieldType := fun k => match k with
  | _ => .int
abbrev wsJ20 : List Cond := u_ws RJ2 TJ2 0
theorem nmJ2 : ∀ a, a < 0 → ∀ b, b < 0 → a ≠ b → (TJ2 a).2.1 ≠ (TJ2 b).2.1 := by decide +kernel
theorem tyJ2_ok : ∀ k, k < 0 → parseFieldDescriptor (TJ2 k).2.2.1 = some (tyJ2 k) := by decide +kernel
abbrev cJ2_newBytesFor_77867 : ByteArray := prog_27_method_2_code
def yJ2_newBytesFor_77867 : MethodName := ⟨RJ2, "newBytesFor", "(I)[B"⟩
abbrev cJ2_newBytesLength_0f7a4 : ByteArray := prog_27_method_3_code
def yJ2_newBytesLength_0f7a4 : MethodName := ⟨RJ2, "newBytesLength", "(I)I"⟩
abbrev cJ2_putChar_b72d1 : ByteArray := prog_27_method_4_code
def yJ2_putChar_b72d1 : MethodName := ⟨RJ2, "putChar", "([BII)V"⟩
abbrev cJ2_getChar_3b067 : ByteArray := prog_27_method_5_code
def yJ2_getChar_3b067 : MethodName := ⟨RJ2, "getChar", "([BI)C"⟩
abbrev cJ2_length_9d52b : ByteArray := prog_27_method_6_code
def yJ2_length_9d52b : MethodName := ⟨RJ2, "length", "([B)I"⟩
abbrev cJ2_coderFromArrayLen_85cad : ByteArray := prog_27_method_15_code
def yJ2_coderFromArrayLen_85cad : MethodName := ⟨RJ2, "coderFromArrayLen", "([BI)B"⟩
abbrev cJ2_compress_39247 : ByteArray := prog_27_method_17_code
def yJ2_compress_39247 : MethodName := ⟨RJ2, "compress", "([BII)[B"⟩
abbrev cJ2_compress_5af95 : ByteArray := prog_27_method_22_code
def yJ2_compress_5af95 : MethodName := ⟨RJ2, "compress", "([BI[BII)I"⟩
abbrev cJ2_fillNull_b72d1 : ByteArray := prog_27_method_70_code
def yJ2_fillNull_b72d1 : MethodName := ⟨RJ2, "fillNull", "([BII)V"⟩
abbrev cJ2_putCharSB_b72d1 : ByteArray := prog_27_method_71_code
def yJ2_putCharSB_b72d1 : MethodName := ⟨RJ2, "putCharSB", "([BII)V"⟩
abbrev cJ2_getChars_46870 : ByteArray := prog_27_method_77_code
def yJ2_getChars_46870 : MethodName := ⟨RJ2, "getChars", "(III[B)I"⟩
abbrev cJ2_putCharsAt_cd4e5 : ByteArray := prog_27_method_81_code
def yJ2_putCharsAt_cd4e5 : MethodName := ⟨RJ2, "putCharsAt", "([BICCCC)I"⟩
abbrev cJ2_charAt_3b067 : ByteArray := prog_27_method_83_code
def yJ2_charAt_3b067 : MethodName := ⟨RJ2, "charAt", "([BI)C"⟩
abbrev cJ2_inflate_0e8fd : ByteArray := prog_27_method_86_code
def yJ2_inflate_0e8fd : MethodName := ⟨RJ2, "inflate", "([BI[BII)V"⟩
abbrev cJ2_getChars_ba4f3 : ByteArray := prog_27_method_89_code
def yJ2_getChars_ba4f3 : MethodName := ⟨RJ2, "getChars", "(II[B)I"⟩
abbrev cJ2_checkIndex_2214a : ByteArray := prog_27_method_91_code
def yJ2_checkIndex_2214a : MethodName := ⟨RJ2, "checkIndex", "(I[B)V"⟩
abbrev cJ2_checkBoundsBeginEnd_d044e : ByteArray := prog_27_method_93_code
def yJ2_checkBoundsBeginEnd_d044e : MethodName := ⟨RJ2, "checkBoundsBeginEnd", "(II[B)V"⟩
abbrev cJ2_checkBoundsOffCount_d044e : ByteArray := prog_27_method_94_code
def yJ2_checkBoundsOffCount_d044e : MethodName := ⟨RJ2, "checkBoundsOffCount", "(II[B)V"⟩
def RJ10 : String := "java/lang/System"
def TJ10 : u_T := fun k => match k with
  | _ => ("", "", "", false)
def tyJ10 : Nat → FieldType := fun k => match k with
  | _ => .int
abbrev wsJ100 : List Cond := u_ws RJ10 TJ10 0
theorem nmJ10 : ∀ a, a < 0 → ∀ b, b < 0 → a ≠ b → (TJ10 a).2.1 ≠ (TJ10 b).2.1 := by decide +kernel
theorem tyJ10_ok : ∀ k, k < 0 → parseFieldDescriptor (TJ10 k).2.2.1 = some (tyJ10 k) := by decide +kernel
def RJxfd54e : String := "java/lang/constant/Constable"
def TJxfd54e : u_T := fun k => match k with
  | _ => ("", "", "", false)
def tyJxfd54e : Nat → FieldType := fun k => match k with
  | _ => .int
abbrev wsJxfd54e0 : List Cond := u_ws RJxfd54e TJxfd54e 0
theorem nmJxfd54e : ∀ a, a < 0 → ∀ b, b < 0 → a ≠ b → (TJxfd54e a).2.1 ≠ (TJxfd54e b).2.1 := by decide +kernel
theorem tyJxfd54e_ok : ∀ k, k < 0 → parseFieldDescriptor (TJxfd54e k).2.2.1 = some (tyJxfd54e k) := by decide +kernel
def RJx3cf43 : String := "java/lang/constant/ConstantDesc"
def TJx3cf43 : u_T := fun k => match k with
  | _ => ("", "", "", false)
def tyJx3cf43 : Nat → FieldType := fun k => match k with
  | _ => .int
abbrev wsJx3cf430 : List Cond := u_ws RJx3cf43 TJx3cf43 0
theorem nmJx3cf43 : ∀ a, a < 0 → ∀ b, b < 0 → a ≠ b → (TJx3cf43 a).2.1 ≠ (TJx3cf43 b).2.1 := by decide +kernel
theorem tyJx3cf43_ok : ∀ k, k < 0 → parseFieldDescriptor (TJx3cf43 k).2.2.1 = some (tyJx3cf43 k) := by decide +kernel
def RJ7 : String := "java/util/Arrays"
def TJ7 : u_T := fun k => match k with
  | _ => ("", "", "", false)
def tyJ7 : Nat → FieldType := fun k => match k with
  | _ => .int
abbrev wsJ70 : List Cond := u_ws RJ7 TJ7 0
theorem nmJ7 : ∀ a, a < 0 → ∀ b, b < 0 → a ≠ b → (TJ7 a).2.1 ≠ (TJ7 b).2.1 := by decide +kernel
theorem tyJ7_ok : ∀ k, k < 0 → parseFieldDescriptor (TJ7 k).2.2.1 = some (tyJ7 k) := by decide +kernel
abbrev cJ7_rangeCheck_23922 : ByteArray := prog_32_method_30_code
def yJ7_rangeCheck_23922 : MethodName := ⟨RJ7, "rangeCheck", "(III)V"⟩
abbrev cJ7_fill_eb02e : ByteArray := prog_32_method_110_code
def yJ7_fill_eb02e : MethodName := ⟨RJ7, "fill", "([BIIB)V"⟩
abbrev cJ7_copyOf_9075b : ByteArray := prog_32_method_121_code
def yJ7_copyOf_9075b : MethodName := ⟨RJ7, "copyOf", "([BI)[B"⟩
abbrev cJ7_checkLength_df160 : ByteArray := prog_32_method_131_code
def yJ7_checkLength_df160 : MethodName := ⟨RJ7, "checkLength", "(II)V"⟩
abbrev cJ7_copyOfRange_39247 : ByteArray := prog_32_method_132_code
def yJ7_copyOfRange_39247 : MethodName := ⟨RJ7, "copyOfRange", "([BII)[B"⟩
abbrev cJ7_copyOfRangeByte_39247 : ByteArray := prog_32_method_133_code
def yJ7_copyOfRangeByte_39247 : MethodName := ⟨RJ7, "copyOfRangeByte", "([BII)[B"⟩
def RJ8 : String := "jdk/internal/util/ArraysSupport"
def TJ8 : u_T := fun k => match k with
  | _ => ("", "", "", false)
def tyJ8 : Nat → FieldType := fun k => match k with
  | _ => .int
abbrev wsJ80 : List Cond := u_ws RJ8 TJ8 0
theorem nmJ8 : ∀ a, a < 0 → ∀ b, b < 0 → a ≠ b → (TJ8 a).2.1 ≠ (TJ8 b).2.1 := by decide +kernel
theorem tyJ8_ok : ∀ k, k < 0 → parseFieldDescriptor (TJ8 k).2.2.1 = some (tyJ8 k) := by decide +kernel
abbrev cJ8_newLength_cabcc : ByteArray := prog_34_method_27_code
def yJ8_newLength_cabcc : MethodName := ⟨RJ8, "newLength", "(III)I"⟩
abbrev cJ8_hugeLength_7cf53 : ByteArray := prog_34_method_28_code
def yJ8_hugeLength_7cf53 : MethodName := ⟨RJ8, "hugeLength", "(II)I"⟩
def RJ3 : String := "jdk/internal/util/Preconditions"
def TJ3 : u_T := fun k => match k with
  | _ => ("", "", "", false)
def tyJ3 : Nat → FieldType := fun k => match k with
  | _ => .int
abbrev wsJ30 : List Cond := u_ws RJ3 TJ3 0
theorem nmJ3 : ∀ a, a < 0 → ∀ b, b < 0 → a ≠ b → (TJ3 a).2.1 ≠ (TJ3 b).2.1 := by decide +kernel
theorem tyJ3_ok : ∀ k, k < 0 → parseFieldDescriptor (TJ3 k).2.2.1 = some (tyJ3 k) := by decide +kernel
abbrev cJ3_checkIndex_8e157 : ByteArray := prog_35_method_11_code
def yJ3_checkIndex_8e157 : MethodName := ⟨RJ3, "checkIndex", "(IILjava/util/function/BiFunction;)I"⟩
abbrev cJ3_checkFromToIndex_8c36e : ByteArray := prog_35_method_12_code
def yJ3_checkFromToIndex_8c36e : MethodName := ⟨RJ3, "checkFromToIndex", "(IIILjava/util/function/BiFunction;)I"⟩
abbrev cJ3_checkFromIndexSize_8c36e : ByteArray := prog_35_method_13_code
def yJ3_checkFromIndexSize_8c36e : MethodName := ⟨RJ3, "checkFromIndexSize", "(IIILjava/util/function/BiFunction;)I"⟩
def RL : String := "PacketSchedulerLaw"
abbrev cL_load : ByteArray := method_3_code
def yL_load : MethodName := ⟨RL, "load", "(LPacketScheduler;I[J)I"⟩
abbrev cL_classify : ByteArray := method_4_code
def yL_classify : MethodName := ⟨RL, "classify", "(LPacketScheduler;III[J)I"⟩
abbrev cL_flow : ByteArray := method_5_code
def yL_flow : MethodName := ⟨RL, "flow", "(LPacketScheduler;II[J)I"⟩
abbrev cL_virtualTime : ByteArray := method_6_code
def yL_virtualTime : MethodName := ⟨RL, "virtualTime", "(LPacketScheduler;I[J)I"⟩
abbrev cL_isIdle : ByteArray := method_7_code
def yL_isIdle : MethodName := ⟨RL, "isIdle", "(LPacketScheduler;I[J)I"⟩
abbrev cL_queued : ByteArray := method_8_code
def yL_queued : MethodName := ⟨RL, "queued", "(LPacketScheduler;II[J)I"⟩
abbrev cL_packet : ByteArray := method_9_code
def yL_packet : MethodName := ⟨RL, "packet", "(LPacketScheduler;II[J)I"⟩
abbrev cL_transmission : ByteArray := method_10_code
def yL_transmission : MethodName := ⟨RL, "transmission", "(LPacketScheduler;II[J)I"⟩
abbrev cL_charge : ByteArray := method_11_code
def yL_charge : MethodName := ⟨RL, "charge", "(LPacketScheduler;I[J)I"⟩
abbrev cL_outstanding : ByteArray := method_12_code
def yL_outstanding : MethodName := ⟨RL, "outstanding", "(LPacketScheduler;I[J)I"⟩
abbrev cL_arrive : ByteArray := method_13_code
def yL_arrive : MethodName := ⟨RL, "arrive", "(LPacketScheduler;IIII[J)I"⟩
abbrev cL_run : ByteArray := method_14_code
def yL_run : MethodName := ⟨RL, "run", "(LPacketScheduler;I[J)I"⟩
abbrev cL_setWeight : ByteArray := method_15_code
def yL_setWeight : MethodName := ⟨RL, "setWeight", "(LPacketScheduler;II[J)I"⟩
abbrev cL_audit : ByteArray := method_16_code
def yL_audit : MethodName := ⟨RL, "audit", "(LPacketScheduler;III[J)I"⟩
abbrev cL_share : ByteArray := method_17_code
def yL_share : MethodName := ⟨RL, "share", "(LPacketScheduler;I[D)I"⟩
abbrev cL_meanDelay : ByteArray := method_18_code
def yL_meanDelay : MethodName := ⟨RL, "meanDelay", "(LPacketScheduler;I[D)I"⟩
abbrev cL_forecast : ByteArray := method_19_code
def yL_forecast : MethodName := ⟨RL, "forecast", "(LPacketScheduler;II[J)I"⟩
abbrev cL_weightFor : ByteArray := method_20_code
def yL_weightFor : MethodName := ⟨RL, "weightFor", "(LPacketScheduler;II[J)I"⟩
abbrev cL_format : ByteArray := method_21_code
def yL_format : MethodName := ⟨RL, "format", "(LPacketScheduler;I[J)I"⟩
abbrev cL_query : ByteArray := method_22_code
def yL_query : MethodName := ⟨RL, "query", "(LPacketScheduler;I[J)I"⟩
abbrev cL_law : ByteArray := code
def yL_law : MethodName := ⟨RL, "law", "([I)Z"⟩
end
section
/-! ===== OWN SEMANTICS (j_): a small machine over an own heap; part 06 shows that the given machine follows it =====
The heap: shapes (array of type no. t and length n, or object of class no. c), ints, longs, references, doubles (each by address and index), the next address, cells and slots used. -/
abbrev j_S : Type := (Nat × Nat) ⊕ Nat
abbrev j_H : Type := (Nat → Option j_S) × (Nat → Nat → Int32) × (Nat → Nat → Int64) × (Nat → Nat → Option Nat) × (Nat → Nat → UInt64) × Nat × Nat × Nat
def j_sh (h : j_H) : Nat → Option j_S := h.1
def j_I (h : j_H) : Nat → Nat → Int32 := h.2.1
def j_L (h : j_H) : Nat → Nat → Int64 := h.2.2.1
def j_R (h : j_H) : Nat → Nat → Option Nat := h.2.2.2.1
def j_D (h : j_H) : Nat → Nat → UInt64 := h.2.2.2.2.1
def j_z (h : j_H) : Nat := h.2.2.2.2.2.1
def j_c (h : j_H) : Nat := h.2.2.2.2.2.2.1
def j_k (h : j_H) : Nat := h.2.2.2.2.2.2.2
def j_up {α : Type} (f : Nat → Nat → α) (a k : Nat) (v : α) : Nat → Nat → α := fun b j => if b = a ∧ j = k then v else f b j
def j_row {α : Type} (f : Nat → Nat → α) (a : Nat) (g : Nat → α) : Nat → Nat → α := fun b j => if b = a then g j else f b j
def j_setI (h : j_H) (a k : Nat) (v : Int32) : j_H := (h.1, j_up h.2.1 a k v, h.2.2)
def j_setL (h : j_H) (a k : Nat) (v : Int64) : j_H := (h.1, h.2.1, j_up h.2.2.1 a k v, h.2.2.2)
def j_setR (h : j_H) (a k : Nat) (v : Option Nat) : j_H := (h.1, h.2.1, h.2.2.1, j_up h.2.2.2.1 a k v, h.2.2.2.2)
def j_setD (h : j_H) (a k : Nat) (v : UInt64) : j_H := (h.1, h.2.1, h.2.2.1, h.2.2.2.1, j_up h.2.2.2.2.1 a k v, h.2.2.2.2.2)
/-- a row of ints anew (System.arraycopy) -/
def j_rowI (h : j_H) (a : Nat) (g : Nat → Int32) : j_H := (h.1, j_row h.2.1 a g, h.2.2)
/-- a new cell of n slots -/
def j_new (h : j_H) (s : j_S) (n : Nat) : j_H :=
  (fun b => if b = j_z h then some s else h.1 b, j_row h.2.1 (j_z h) (fun _ => 0), j_row h.2.2.1 (j_z h) (fun _ => 0), j_row h.2.2.2.1 (j_z h) (fun _ => none), j_row h.2.2.2.2.1 (j_z h) (fun _ => 0), j_z h + 1, j_c h + 1, j_k h + n)
/-- behind a throw: a cell of 6 slots more, the size is z -/
def j_thr (h : j_H) (z : Nat) : j_H := (h.1, h.2.1, h.2.2.1, h.2.2.2.1, h.2.2.2.2.1, z, j_c h + 1, j_k h + 6)
/-- how a method ends: it returns, or throws an exception of the class no. -/
abbrev j_O : Type := Option Value ⊕ Nat
/-- nothing is known of this local -/
def j_u : Value := .retAddr 0
/-- an instruction, its length, and what its operands mean -/
abbrev j_N : Type := Instr × Nat × Nat × Nat × Value
def j_kl : Value → Value
  | .long _ => j_u
  | .double _ => j_u
  | v => v
def j_st1 : List Value → Nat → Value → List Value
  | [], _, _ => []
  | _ :: vs, 0, v => v :: vs
  | w :: [], 1, _ => [j_kl w]
  | w :: _ :: vs, 1, v => j_kl w :: v :: vs
  | w :: vs, i + 2, v => w :: j_st1 vs (i + 1) v
def j_stu : List Value → Nat → List Value
  | [], _ => []
  | _ :: vs, 0 => j_u :: vs
  | w :: vs, i + 1 => w :: j_stu vs i
def j_st2 (vs : List Value) (i : Nat) (v : Value) : List Value := j_stu (j_st1 vs i v) (i + 1)
def j_nth : List Value → Nat → Value
  | [], _ => j_u
  | v :: _, 0 => v
  | _ :: vs, i + 1 => j_nth vs i
def j_i1 : List Value → (Int32 → List Value → Prop) → Prop
  | .int a :: r, k => k a r
  | _, _ => False
def j_i2 : List Value → (Int32 → Int32 → List Value → Prop) → Prop
  | .int b :: .int a :: r, k => k a b r
  | _, _ => False
def j_l1 : List Value → (Int64 → List Value → Prop) → Prop
  | .long a :: r, k => k a r
  | _, _ => False
def j_l2 : List Value → (Int64 → Int64 → List Value → Prop) → Prop
  | .long b :: .long a :: r, k => k a b r
  | _, _ => False
def j_li : List Value → (Int64 → Int32 → List Value → Prop) → Prop
  | .int b :: .long a :: r, k => k a b r
  | _, _ => False
def j_f1 : List Value → (UInt32 → List Value → Prop) → Prop
  | .float a :: r, k => k a r
  | _, _ => False
def j_f2 : List Value → (UInt32 → UInt32 → List Value → Prop) → Prop
  | .float b :: .float a :: r, k => k a b r
  | _, _ => False
def j_d1 : List Value → (UInt64 → List Value → Prop) → Prop
  | .double a :: r, k => k a r
  | _, _ => False
def j_d2 : List Value → (UInt64 → UInt64 → List Value → Prop) → Prop
  | .double b :: .double a :: r, k => k a b r
  | _, _ => False
def j_r1 : List Value → (Nat → List Value → Prop) → Prop
  | .ref a :: r, k => k a r
  | _, _ => False
/-- an array and an index -/
def j_ai : List Value → (Nat → Int32 → List Value → Prop) → Prop
  | .int i :: .ref a :: r, k => k a i r
  | _, _ => False
def j_aii : List Value → (Nat → Int32 → Int32 → List Value → Prop) → Prop
  | .int v :: .int i :: .ref a :: r, k => k a i v r
  | _, _ => False
def j_ail : List Value → (Nat → Int32 → Int64 → List Value → Prop) → Prop
  | .long v :: .int i :: .ref a :: r, k => k a i v r
  | _, _ => False
def j_aid : List Value → (Nat → Int32 → UInt64 → List Value → Prop) → Prop
  | .double v :: .int i :: .ref a :: r, k => k a i v r
  | _, _ => False
def j_air : List Value → (Nat → Int32 → Nat → List Value → Prop) → Prop
  | .ref v :: .int i :: .ref a :: r, k => k a i v r
  | _, _ => False
def j_ref : Option Nat → (Nat → Prop) → Prop
  | some b, k => k b
  | none, _ => False
/-- an array of ints: 0 ours, 7 the script -/
def j_ari : Option j_S → (Nat → Prop) → Prop
  | some (.inl (0, n)), k => k n
  | some (.inl (7, n)), k => k n
  | _, _ => False
/-- an array of bytes: 3 ours, 8 a constant's -/
def j_arb : Option j_S → (Nat → Prop) → Prop
  | some (.inl (3, n)), k => k n
  | some (.inl (8, n)), k => k n
  | _, _ => False
def j_arr (t : Nat) : Option j_S → (Nat → Prop) → Prop
  | some (.inl (u, n)), k => u = t ∧ k n
  | _, _ => False
def j_len : Option j_S → (Nat → Prop) → Prop
  | some (.inl (_, n)), k => k n
  | _, _ => False
/-- a field's kind, or an answer's: 0 int, 1 boolean, 2 byte, 3 char -/
def j_nar (k : Nat) (n : Int32) : Prop := match k with
  | 0 => True
  | 1 => n = 0 ∨ n = 1
  | 2 => n.toInt8.toInt32 = n
  | _ => (n.toUInt32 % 65536).toInt32 = n
def j_args : Nat → List Value → List Value → (List Value → List Value → Prop) → Prop
  | 0, st, as, k => k as st
  | n + 1, v :: st, as, k => j_args n st (v :: as) k
  | _ + 1, [], _, _ => False
def j_sw : Int → List Int → Int32 → Nat → (Nat → Prop) → Prop → Prop
  | _, [], _, _, _, D => D
  | lo, o :: ts, a, pc, K, D => if a = Int32.ofInt lo then K ((pc : Int) + o).toNat else j_sw (lo + 1) ts a pc K D
def j_cond (c : ClassFile.Cond) (a b : Int32) (P Q : Prop) : Prop := match c with
  | .eq => if a = b then P else Q
  | .ne => if a = b then Q else P
  | .lt => if a < b then P else Q
  | .ge => if a < b then Q else P
  | .gt => if b < a then P else Q
  | .le => if b < a then Q else P
end
section
/-! ===== one instruction, and a list of them =====
C: what a call of the method no. k with these arguments at this heap comes to; K: the method's own code at another pc; Q: the method's end. sA: where a String constant lies; CM, SM: how many cells and slots there are. -/
abbrev j_E : Type := (Nat → Nat) × Nat × Nat
abbrev j_Cal : Type := Nat → List Value → j_H → (j_O → j_H → Prop) → Prop
abbrev j_G : Type := Nat → List Value → List Value → j_H → Prop
/-- a call's outcome, by the kind of the answer: the code goes on, or the method ends by the throw -/
def j_ov (Q : j_O → j_H → Prop) (nx : j_H → Prop) : j_O → j_H → Prop
  | .inl none, h => nx h
  | .inr e, h => Q (.inr e) h
  | _, _ => False
def j_oi (Q : j_O → j_H → Prop) (nx : Int32 → j_H → Prop) : j_O → j_H → Prop
  | .inl (some (.int a)), h => nx a h
  | .inr e, h => Q (.inr e) h
  | _, _ => False
def j_ol (Q : j_O → j_H → Prop) (nx : Int64 → j_H → Prop) : j_O → j_H → Prop
  | .inl (some (.long a)), h => nx a h
  | .inr e, h => Q (.inr e) h
  | _, _ => False
def j_of (Q : j_O → j_H → Prop) (nx : UInt32 → j_H → Prop) : j_O → j_H → Prop
  | .inl (some (.float a)), h => nx a h
  | .inr e, h => Q (.inr e) h
  | _, _ => False
def j_od (Q : j_O → j_H → Prop) (nx : UInt64 → j_H → Prop) : j_O → j_H → Prop
  | .inl (some (.double a)), h => nx a h
  | .inr e, h => Q (.inr e) h
  | _, _ => False
def j_or (Q : j_O → j_H → Prop) (nx : Nat → j_H → Prop) : j_O → j_H → Prop
  | .inl (some (.ref a)), h => nx a h
  | .inr e, h => Q (.inr e) h
  | _, _ => False
def j_out (v : Value) (Q : j_O → j_H → Prop) (r : List Value) (nx : List Value → j_H → Prop) : j_O → j_H → Prop := match v with
  | .int _ => j_oi Q (fun a h => nx (.int a :: r) h)
  | .long _ => j_ol Q (fun a h => nx (.long a :: r) h)
  | .float _ => j_of Q (fun a h => nx (.float a :: r) h)
  | .double _ => j_od Q (fun a h => nx (.double a :: r) h)
  | .null => j_or Q (fun a h => nx (.ref a :: r) h)
  | _ => j_ov Q (fun h => nx r h)
/-- few enough entries lie below a call's arguments -/
def j_cw : List Value → Bool
  | [] => true
  | [_] => true
  | [_, _] => true
  | [_, _, _] => true
  | [_, _, _, _] => true
  | _ => false
def j_few (r : List Value) (P : Prop) : Prop := match j_cw r with
  | true => P
  | false => False
/-- members that the machine itself has, by number -/
def j_nat (i : Nat) (st : List Value) (h : j_H) (nx : List Value → j_H → Prop) : Prop := match i with
  | 0 => j_i2 st (fun a b r => j_few r (nx (.int (if b < a then b else a) :: r) h))
  | 1 => j_i2 st (fun a b r => j_few r (nx (.int (if a < b then b else a) :: r) h))
  | 2 => j_l2 st (fun a b r => j_few r (nx (.long (if b < a then b else a) :: r) h))
  | 3 => j_l2 st (fun a b r => j_few r (nx (.long (if b < a then a else b) :: r) h))
  | 4 => j_l1 st (fun a r => j_few r (nx (.long (if 0 < a then a else -a) :: r) h))
  | 5 => match st with
    | .int n :: .int dp :: .ref d :: .int sp :: .ref s :: r => j_arr 0 (j_sh h s) (fun ns => j_arr 0 (j_sh h d) (fun nd => ¬ sp < 0 ∧ ¬ dp < 0 ∧ ¬ n < 0 ∧ sp.toNatClampNeg + n.toNatClampNeg ≤ ns ∧ dp.toNatClampNeg + n.toNatClampNeg ≤ nd ∧ s ≠ d ∧ j_few r (nx r (j_rowI h d (va_cpy (j_I h s) (j_I h d) sp.toNatClampNeg dp.toNatClampNeg n.toNatClampNeg)))))
    | _ => False
  | _ => j_r1 st (fun _ r => j_few r (nx r h))
def j_opA (i : Instr) (x y : Nat) (v : Value) (lv st : List Value) (h : j_H) (E : j_E) (nx : List Value → List Value → j_H → Prop) : Prop := match i with
  | .iconst _ => nx lv (v :: st) h
  | .bipush _ => nx lv (v :: st) h
  | .sipush _ => nx lv (v :: st) h
  | .lconst _ => nx lv (v :: st) h
  | .dconst _ => nx lv (.double FP.dconst0 :: st) h
  | .fconst _ => nx lv (.float FP.fconst0 :: st) h
  | .ldc _ => (match y with | 0 => nx lv (v :: st) h | _ => nx lv (.ref (E.1 x) :: st) h)
  | .ldc_w _ => (match y with | 0 => nx lv (v :: st) h | _ => nx lv (.ref (E.1 x) :: st) h)
  | .ldc2_w _ => nx lv (v :: st) h
  | .iload _ => (match j_nth lv x with | .int a => nx lv (.int a :: st) h | _ => False)
  | .iload_n _ => (match j_nth lv x with | .int a => nx lv (.int a :: st) h | _ => False)
  | .lload _ => (match j_nth lv x with | .long a => nx lv (.long a :: st) h | _ => False)
  | .lload_n _ => (match j_nth lv x with | .long a => nx lv (.long a :: st) h | _ => False)
  | .fload _ => (match j_nth lv x with | .float a => nx lv (.float a :: st) h | _ => False)
  | .fload_n _ => (match j_nth lv x with | .float a => nx lv (.float a :: st) h | _ => False)
  | .dload _ => (match j_nth lv x with | .double a => nx lv (.double a :: st) h | _ => False)
  | .dload_n _ => (match j_nth lv x with | .double a => nx lv (.double a :: st) h | _ => False)
  | .aload _ => (match j_nth lv x with | .ref a => nx lv (.ref a :: st) h | _ => False)
  | .aload_n _ => (match j_nth lv x with | .ref a => nx lv (.ref a :: st) h | _ => False)
  | .istore _ => j_i1 st (fun a r => nx (j_st1 lv x (.int a)) r h)
  | .istore_n _ => j_i1 st (fun a r => nx (j_st1 lv x (.int a)) r h)
  | .astore _ => j_r1 st (fun a r => nx (j_st1 lv x (.ref a)) r h)
  | .astore_n _ => j_r1 st (fun a r => nx (j_st1 lv x (.ref a)) r h)
  | .fstore _ => j_f1 st (fun a r => nx (j_st1 lv x (.float a)) r h)
  | .fstore_n _ => j_f1 st (fun a r => nx (j_st1 lv x (.float a)) r h)
  | .lstore _ => j_l1 st (fun a r => nx (j_st2 lv x (.long a)) r h)
  | .lstore_n _ => j_l1 st (fun a r => nx (j_st2 lv x (.long a)) r h)
  | .dstore _ => j_d1 st (fun a r => nx (j_st2 lv x (.double a)) r h)
  | .dstore_n _ => j_d1 st (fun a r => nx (j_st2 lv x (.double a)) r h)
  | .iinc _ _ => (match j_nth lv x, v with | .int a, .int b => nx (j_st1 lv x (.int (a + b))) st h | _, _ => False)
  | .iadd => j_i2 st (fun a b r => nx lv (.int (a + b) :: r) h)
  | .isub => j_i2 st (fun a b r => nx lv (.int (a - b) :: r) h)
  | .imul => j_i2 st (fun a b r => nx lv (.int (a * b) :: r) h)
  | .idiv => j_i2 st (fun a b r => ¬ b = 0 ∧ nx lv (.int (a / b) :: r) h)
  | .irem => j_i2 st (fun a b r => ¬ b = 0 ∧ nx lv (.int (a - a / b * b) :: r) h)
  | .ineg => j_i1 st (fun a r => nx lv (.int (-a) :: r) h)
  | .iand => j_i2 st (fun a b r => nx lv (.int (a &&& b) :: r) h)
  | .ior => j_i2 st (fun a b r => nx lv (.int (a ||| b) :: r) h)
  | .ixor => j_i2 st (fun a b r => nx lv (.int (a ^^^ b) :: r) h)
  | .ishl => j_i2 st (fun a b r => nx lv (.int (a <<< (b &&& 31)) :: r) h)
  | .ishr => j_i2 st (fun a b r => nx lv (.int (a >>> (b &&& 31)) :: r) h)
  | .ladd => j_l2 st (fun a b r => nx lv (.long (a + b) :: r) h)
  | .lsub => j_l2 st (fun a b r => nx lv (.long (a - b) :: r) h)
  | .lmul => j_l2 st (fun a b r => nx lv (.long (a * b) :: r) h)
  | .ldiv => j_l2 st (fun a b r => ¬ b = 0 ∧ nx lv (.long (a / b) :: r) h)
  | .land => j_l2 st (fun a b r => nx lv (.long (a &&& b) :: r) h)
  | .lor => j_l2 st (fun a b r => nx lv (.long (a ||| b) :: r) h)
  | .lxor => j_l2 st (fun a b r => nx lv (.long (a ^^^ b) :: r) h)
  | .lneg => j_l1 st (fun a r => nx lv (.long (-a) :: r) h)
  | .lshl => j_li st (fun a b r => nx lv (.long (a <<< (b.toInt64 &&& 63)) :: r) h)
  | .lushr => j_li st (fun a b r => nx lv (.long (a.toUInt64 >>> (b.toInt64.toUInt64 &&& Int64.toUInt64 63)).toInt64 :: r) h)
  | .lcmp => j_l2 st (fun a b r => nx lv (.int (lg_cmp a b) :: r) h)
  | .i2l => j_i1 st (fun a r => nx lv (.long a.toInt64 :: r) h)
  | .l2i => j_l1 st (fun a r => nx lv (.int a.toInt32 :: r) h)
  | .i2b => j_i1 st (fun a r => nx lv (.int a.toInt8.toInt32 :: r) h)
  | .i2c => j_i1 st (fun a r => nx lv (.int (a.toUInt32 % 65536).toInt32 :: r) h)
  | .i2f => j_i1 st (fun a r => nx lv (.float (FP.i2f a) :: r) h)
  | .i2d => j_i1 st (fun a r => nx lv (.double (FP.i2d a) :: r) h)
  | .fdiv => j_f2 st (fun a b r => vf_n32 (FP.fdiv a b) ∧ nx lv (.float (FP.fdiv a b) :: r) h)
  | .ddiv => j_d2 st (fun a b r => vf_n64 (FP.ddiv a b) ∧ nx lv (.double (FP.ddiv a b) :: r) h)
  | .f2d => j_f1 st (fun a r => vf_n64 (FP.f2d a) ∧ nx lv (.double (FP.f2d a) :: r) h)
  | .fcmp o => j_f2 st (fun a b r => nx lv (.int (Op.cmpValue (FP.fcmp a b) o) :: r) h)
  | .dcmp o => j_d2 st (fun a b r => nx lv (.int (Op.cmpValue (FP.dcmp a b) o) :: r) h)
  | .pop => (match st with | .int _ :: r => nx lv r h | .ref _ :: r => nx lv r h | _ => False)
  | .dup => (match st with | .int a :: r => nx lv (.int a :: .int a :: r) h | .ref a :: r => nx lv (.ref a :: .ref a :: r) h | _ => False)
  | .dup_x1 => (match st with | .int a :: .ref b :: r => nx lv (.int a :: .ref b :: .int a :: r) h | _ => False)
  | .dup2 => (match st with | .int a :: .ref b :: r => nx lv (.int a :: .ref b :: .int a :: .ref b :: r) h | _ => False)
  | _ => False
def j_opB (C : j_Cal) (K : j_G) (Q : j_O → j_H → Prop) (i : Instr) (pc x y : Nat) (v : Value) (lv st : List Value) (h : j_H) (E : j_E) (nx : List Value → List Value → j_H → Prop) : Prop := match i with
  | .ifCond c _ => j_i1 st (fun a r => j_cond c a 0 (K x lv r h) (nx lv r h))
  | .if_icmp c _ => j_i2 st (fun a b r => j_cond c a b (K x lv r h) (nx lv r h))
  | .goto _ => K x lv st h
  | .ifnull _ => (match st with | .null :: r => K x lv r h | .ref _ :: r => nx lv r h | _ => False)
  | .ifnonnull _ => (match st with | .null :: r => nx lv r h | .ref _ :: r => K x lv r h | _ => False)
  | .tableswitch d lo _ ts => j_i1 st (fun a r => j_sw lo ts.toList a pc (fun t => K t lv r h) (K ((pc : Int) + d).toNat lv r h))
  | .getfield _ => j_r1 st (fun a r => j_sh h a = some (.inr x) ∧ (match v with
      | .int _ => nx lv (.int (j_I h a y) :: r) h
      | .long _ => nx lv (.long (j_L h a y) :: r) h
      | _ => j_ref (j_R h a y) (fun b => nx lv (.ref b :: r) h)))
  | .putfield _ => (match v, st with
      | .ref k, .int n :: .ref a :: r => j_sh h a = some (.inr x) ∧ j_nar k n ∧ nx lv r (j_setI h a y n)
      | .long _, .long n :: .ref a :: r => j_sh h a = some (.inr x) ∧ nx lv r (j_setL h a y n)
      | .null, .ref n :: .ref a :: r => j_sh h a = some (.inr x) ∧ nx lv r (j_setR h a y (some n))
      | _, _ => False)
  | .iaload => j_ai st (fun a i r => j_ari (j_sh h a) (fun n => vp_in i n ∧ nx lv (.int (j_I h a i.toNatClampNeg) :: r) h))
  | .baload => j_ai st (fun a i r => j_arb (j_sh h a) (fun n => vp_in i n ∧ nx lv (.int (j_I h a i.toNatClampNeg) :: r) h))
  | .laload => j_ai st (fun a i r => j_arr 1 (j_sh h a) (fun n => vp_in i n ∧ nx lv (.long (j_L h a i.toNatClampNeg) :: r) h))
  | .daload => j_ai st (fun a i r => j_arr 2 (j_sh h a) (fun n => vp_in i n ∧ nx lv (.double (j_D h a i.toNatClampNeg) :: r) h))
  | .aaload => j_ai st (fun a i r => j_arr x (j_sh h a) (fun n => vp_in i n ∧ (match j_R h a i.toNatClampNeg with | some b => nx lv (.ref b :: r) h | none => nx lv (.null :: r) h)))
  | .iastore => j_aii st (fun a i w r => j_arr 0 (j_sh h a) (fun n => vp_in i n ∧ nx lv r (j_setI h a i.toNatClampNeg w)))
  | .bastore => j_aii st (fun a i w r => j_arr 3 (j_sh h a) (fun n => vp_in i n ∧ nx lv r (j_setI h a i.toNatClampNeg w.toInt8.toInt32)))
  | .lastore => j_ail st (fun a i w r => j_arr 1 (j_sh h a) (fun n => vp_in i n ∧ nx lv r (j_setL h a i.toNatClampNeg w)))
  | .dastore => j_aid st (fun a i w r => j_arr 2 (j_sh h a) (fun n => vp_in i n ∧ nx lv r (j_setD h a i.toNatClampNeg w)))
  | .aastore => j_air st (fun a i w r => j_arr x (j_sh h a) (fun n => vp_in i n ∧ j_sh h w = some (.inr y) ∧ nx lv r (j_setR h a i.toNatClampNeg (some w))))
  | .arraylength => j_r1 st (fun a r => j_len (j_sh h a) (fun n => nx lv (.int (nI n) :: r) h))
  | .newarray _ => j_i1 st (fun n r => ¬ n < 0 ∧ n.toNatClampNeg ≤ 1000000 ∧ j_c h + 1 ≤ E.2.1 ∧ j_k h + n.toNatClampNeg ≤ E.2.2 ∧ nx lv (.ref (j_z h) :: r) (j_new h (.inl (x, n.toNatClampNeg)) n.toNatClampNeg))
  | .anewarray _ => j_i1 st (fun n r => ¬ n < 0 ∧ n.toNatClampNeg ≤ 1000000 ∧ j_c h + 1 ≤ E.2.1 ∧ j_k h + n.toNatClampNeg ≤ E.2.2 ∧ nx lv (.ref (j_z h) :: r) (j_new h (.inl (x, n.toNatClampNeg)) n.toNatClampNeg))
  | .new _ => (match v with
      | .ref n => j_c h + 1 ≤ E.2.1 ∧ j_k h + n ≤ E.2.2 ∧ nx lv (.ref (j_z h) :: st) (j_new h (.inr x) n)
      | _ => j_few st (j_c h + 1 ≤ E.2.1 ∧ j_k h + 6 ≤ E.2.2 ∧ ∀ z, j_z h ≤ z → Q (.inr x) (j_thr h z)))
  | .invokevirtual _ => j_args y st [] (fun as r => j_few r (C x as h (j_out v Q r (fun st h => nx lv st h))))
  | .invokestatic _ => (match v with
      | .ref k => j_nat k st h (fun st h => nx lv st h)
      | _ => j_args y st [] (fun as r => j_few r (C x as h (j_out v Q r (fun st h => nx lv st h)))))
  | .invokespecial _ => (match v with
      | .ref k => j_nat k st h (fun st h => nx lv st h)
      | _ => j_args y st [] (fun as r => j_few r (C x as h (j_out v Q r (fun st h => nx lv st h)))))
  | .ireturn => (match st with | [.int a] => j_nar x a ∧ Q (.inl (some (.int a))) h | _ => False)
  | .lreturn => (match st with | [.long a] => Q (.inl (some (.long a))) h | _ => False)
  | .freturn => (match st with | [.float a] => Q (.inl (some (.float a))) h | _ => False)
  | .dreturn => (match st with | [.double a] => Q (.inl (some (.double a))) h | _ => False)
  | .areturn => (match st with | [.ref a] => Q (.inl (some (.ref a))) h | _ => False)
  | .return_ => (match st with | [] => Q (.inl none) h | _ => False)
  | i => j_opA i x y v lv st h E nx
/-- the code from pc on, as a list; beyond its end K -/
def j_wp (C : j_Cal) (K : j_G) (Q : j_O → j_H → Prop) (E : j_E) : List j_N → j_G
  | [], pc, lv, st, h => K pc lv st h
  | (i, n, x, y, v) :: is, pc, lv, st, h => j_opB C K Q i pc x y v lv st h E (fun lv st h => j_wp C K Q E is (pc + n) lv st h)
end
section
/-! ===== the own heap and the machine's ===== -/
/-- the classes, by number -/
abbrev j_cl : List vw_C := [(RJ0, TJ0, 4), (RJ4, TJ4, 4), (RX0, TX0, 3), (RX1, TX1, 17), (RX2, TX2, 2), (RX3, TX3, 2), (RX4, TX4, 3), (RX5, TX5, 7), (RX6, TX6, 2), (RX7, TX7, 8), (RX8, TX8, 10), (RX9, TX9, 29)]
def j_ty : Nat → Nat → FieldType
  | 0 => tyJ0
  | 1 => tyJ4
  | 2 => tyX0
  | 3 => tyX1
  | 4 => tyX2
  | 5 => tyX3
  | 6 => tyX4
  | 7 => tyX5
  | 8 => tyX6
  | 9 => tyX7
  | 10 => tyX8
  | _ => tyX9
def j_aty : Nat → FieldType
  | 0 => .int
  | 1 => .long
  | 2 => .double
  | 3 => .byte
  | 4 => .object "PacketScheduler$Link"
  | 5 => .object "java/lang/String"
  | 7 => .int
  | _ => .byte
/-- what a field or a place of type ty holds -/
def j_fv (h : j_H) (a : Nat) (ty : FieldType) (k : Nat) : Value := match ty with
  | .long => .long (j_L h a k)
  | .double => .double (j_D h a k)
  | .object _ => va_rf (j_R h a k)
  | .array _ => va_rf (j_R h a k)
  | _ => .int (j_I h a k)
def j_ra (U : State) (cell : Cell) : FieldType → Prop
  | .object C => ∃ (kA : Class) (comp : ClassId), U.vm.classes[cell.cls]? = some kA ∧ kA.kind = .array comp (.object C) ∧ U.vm.findClass C = some comp
  | _ => True
/-- a plain cell -/
def j_pl (ce : Cell) : Prop := ce.vm = .none ∧ ce.monitor = {} ∧ ce.hash = none
def j_at (D : va_G) (bs : Nat) (U : State) (h : j_H) (H : Heap) (a : Nat) : j_S → Prop
  | .inr c => (c ≠ 0 → bs ≤ a) ∧ ∃ r : vw_C, j_cl[c]? = some r ∧ t_OB a (D.1 c) r.2.2 (D.2 c) H (fun k => j_fv h a (j_ty c k) k)
  | .inl (t, n) => (t < 7 → bs ≤ a) ∧ n < 2 ^ 31 ∧ ∃ cell : Cell, H[a]? = some cell ∧ U.isArrayOf cell (j_aty t) ∧ j_ra U cell (j_aty t) ∧ (cell.vm ≠ .unknown ∧ (t < 7 → j_pl cell)) ∧ cell.slots.size = n ∧ ∀ j, j < n → cell.slots[j]? = some (j_fv h a (j_aty t) j)
def j_rep (D : va_G) (bs : Nat) (U : State) (h : j_H) (H : Heap) : Prop := H.size = j_z h ∧ bs ≤ j_z h ∧ ∀ (a : Nat) (s : j_S), j_sh h a = some s → j_at D bs U h H a s
theorem j_ra_moved {u U : State} (hvm : u.vm.Alike U.vm) {cell : Cell} {ty : FieldType} (h : j_ra u cell ty) : j_ra U cell ty := by
  cases ty with
  | object C =>
    obtain ⟨kA, comp, h1, h2, h3⟩ := h
    obtain ⟨k', hk', he⟩ := hvm.2.2 _ _ h1
    exact ⟨k', comp, hk', by rw [he]; exact h2, by rw [hvm.findClass]; exact h3⟩
  | _ => exact trivial
theorem j_at_moved {D : va_G} {bs : Nat} {u U : State} {h : j_H} {H : Heap} {a : Nat} {s : j_S} (hvm : u.vm.Alike U.vm) (h1 : j_at D bs u h H a s) : j_at D bs U h H a s := by
  match s, h1 with
  | .inr c, h1 => exact h1
  | .inl (t, n), h1 =>
    obtain ⟨g0, g1, cell, g2, g3, g4, g5⟩ := h1
    exact ⟨g0, g1, cell, g2, State.isArrayOf_alike hvm g3, j_ra_moved hvm g4, g5⟩
theorem j_rep_moved {D : va_G} {bs : Nat} {u U : State} {h : j_H} {H : Heap} (hvm : u.vm.Alike U.vm) (h1 : j_rep D bs u h H) : j_rep D bs U h H := ⟨h1.1, h1.2.1, fun a s q => j_at_moved hvm (h1.2.2 a s q)⟩
theorem j_at_lt {D : va_G} {bs : Nat} {u : State} {h : j_H} {H : Heap} {a : Nat} {s : j_S} (h1 : j_at D bs u h H a s) : a < H.size := by
  match s, h1 with
  | .inr c, ⟨_, r, _, ce, q, _⟩ => exact (Array.getElem?_eq_some_iff.mp q).1
  | .inl (t, n), ⟨_, _, ce, q, _⟩ => exact (Array.getElem?_eq_some_iff.mp q).1
theorem j_at_kept {D : va_G} {bs : Nat} {U : State} {h h' : j_H} {H H' : Heap} {a : Nat} {s : j_S} (hq : H'[a]? = H[a]?) (hv : ∀ ty k, j_fv h' a ty k = j_fv h a ty k) (h1 : j_at D bs U h H a s) : j_at D bs U h' H' a s := by
  match s, h1 with
  | .inr c, ⟨g0, r, g1, g2⟩ => exact ⟨g0, r, g1, (g2.kept hq).to (fun k _ => (hv _ _).symm)⟩
  | .inl (t, n), ⟨g0, g1, ce, g2, g3, g4, g5, g6, g7⟩ => exact ⟨g0, g1, ce, by rw [hq]; exact g2, g3, g4, g5, g6, fun j hj => by rw [hv]; exact g7 j hj⟩
/-- one cell has changed -/
theorem j_rep_upd {D : va_G} {bs : Nat} {U : State} {h h' : j_H} {H H' : Heap} {a : Nat} {s : j_S} (hR : j_rep D bs U h H) (hs : j_sh h' = j_sh h) (hz : j_z h' = j_z h) (hsa : j_sh h a = some s)
    (hv : ∀ b, b ≠ a → ∀ ty k, j_fv h' b ty k = j_fv h b ty k) (hn : H'.size = H.size) (hq : ∀ q, q ≠ a → H'[q]? = H[q]?) (ha : j_at D bs U h' H' a s) : j_rep D bs U h' H' := by
  refine ⟨by rw [hn, hz]; exact hR.1, by rw [hz]; exact hR.2.1, fun b t hb => ?_⟩
  rw [hs] at hb
  by_cases e : b = a
  · subst e
    cases Option.some.inj (hb.symm.trans hsa)
    exact ha
  · exact j_at_kept (hq b e) (hv b e) (hR.2.2 b t hb)
theorem j_fv_I {h : j_H} {a k b j : Nat} {v : Int32} {ty : FieldType} (e : b ≠ a) : j_fv (j_setI h a k v) b ty j = j_fv h b ty j := by
  cases ty <;> simp [j_fv, j_setI, j_L, j_D, j_R, j_I, j_up, e]
theorem j_fv_L {h : j_H} {a k b j : Nat} {v : Int64} {ty : FieldType} (e : b ≠ a) : j_fv (j_setL h a k v) b ty j = j_fv h b ty j := by
  cases ty <;> simp [j_fv, j_setL, j_L, j_D, j_R, j_I, j_up, e]
theorem j_fv_R {h : j_H} {a k b j : Nat} {v : Option Nat} {ty : FieldType} (e : b ≠ a) : j_fv (j_setR h a k v) b ty j = j_fv h b ty j := by
  cases ty <;> simp [j_fv, j_setR, j_L, j_D, j_R, j_I, j_up, e]
theorem j_fv_D {h : j_H} {a k b j : Nat} {v : UInt64} {ty : FieldType} (e : b ≠ a) : j_fv (j_setD h a k v) b ty j = j_fv h b ty j := by
  cases ty <;> simp [j_fv, j_setD, j_L, j_D, j_R, j_I, j_up, e]
theorem j_fv_row {h : j_H} {a b j : Nat} {g : Nat → Int32} {ty : FieldType} (e : b ≠ a) : j_fv (j_rowI h a g) b ty j = j_fv h b ty j := by
  cases ty <;> simp [j_fv, j_rowI, j_L, j_D, j_R, j_I, j_row, e]
theorem j_fv_new {h : j_H} {b j n : Nat} {s : j_S} {ty : FieldType} (e : b ≠ j_z h) : j_fv (j_new h s n) b ty j = j_fv h b ty j := by
  cases ty <;> simp [j_fv, j_new, j_L, j_D, j_R, j_I, j_row, e]
theorem j_fv_new0 {h : j_H} {j n : Nat} {s : j_S} {ty : FieldType} (hf : ty ≠ .float) : j_fv (j_new h s n) (j_z h) ty j = defaultValue ty := by
  cases ty <;> first | rfl | (simp [j_fv, j_new, j_L, j_D, j_R, j_I, j_row, defaultValue, va_rf]; done) | exact absurd rfl hf
/-! the objects: a field's value, a field written -/
theorem j_rep_obj {D : va_G} {bs : Nat} {U : State} {h : j_H} {H : Heap} {a c : Nat} (hR : j_rep D bs U h H) (hs : j_sh h a = some (.inr c)) : ∃ r : vw_C, j_cl[c]? = some r ∧ t_OB a (D.1 c) r.2.2 (D.2 c) H (fun k => j_fv h a (j_ty c k) k) := (hR.2.2 a _ hs).2
theorem j_rep_arr {D : va_G} {bs : Nat} {U : State} {h : j_H} {H : Heap} {a t n : Nat} (hR : j_rep D bs U h H) (hs : j_sh h a = some (.inl (t, n))) : (t < 7 → bs ≤ a) ∧ n < 2 ^ 31 ∧ ∃ ce : Cell, H[a]? = some ce ∧ U.isArrayOf ce (j_aty t) ∧ j_ra U ce (j_aty t) ∧ (ce.vm ≠ .unknown ∧ (t < 7 → j_pl ce)) ∧ ce.slots.size = n ∧ ∀ j, j < n → ce.slots[j]? = some (j_fv h a (j_aty t) j) := hR.2.2 a _ hs
/-- a field of an object has been written: the new value is w -/
theorem j_rep_put {D : va_G} {bs : Nat} {U : State} {h h' : j_H} {H H' : Heap} {a c k : Nat} {r : vw_C} {ce : Cell} {w : Value} (hR : j_rep D bs U h H) (hs : j_sh h a = some (.inr c)) (hr : j_cl[c]? = some r) (hk : k < r.2.2) (hap : ∀ x y, x < r.2.2 → y < r.2.2 → x ≠ y → D.2 c x ≠ D.2 c y)
    (q1 : H[a]? = some ce) (q2 : ce.cls = D.1 c) (q3 : ce.vm = .none) (q4 : ∀ j, j < r.2.2 → ce.slots[D.2 c j]? = some (j_fv h a (j_ty c j) j))
    (e1 : H'[a]? = some (ce.setSlot (D.2 c k) w)) (e2 : H'.size = H.size) (e3 : ∀ q, q ≠ a → H'[q]? = H[q]?)
    (hs' : j_sh h' = j_sh h) (hz' : j_z h' = j_z h) (hv : ∀ b, b ≠ a → ∀ ty j, j_fv h' b ty j = j_fv h b ty j) (hvk : j_fv h' a (j_ty c k) k = w) (hvj : ∀ j, j ≠ k → j_fv h' a (j_ty c j) j = j_fv h a (j_ty c j) j) : j_rep D bs U h' H' := by
  refine j_rep_upd hR hs' hz' hs hv e2 e3 ⟨(hR.2.2 a _ hs).1, r, hr, t_OB.to (V := updV (fun j => j_fv h a (j_ty c j) j) k w) ⟨_, e1, q2, q3, t_set q4 hap hk w⟩ (fun j _ => ?_)⟩
  by_cases e : j = k
  · subst e
    simp [updV, hvk]
  · simp [updV, e, hvj j e]
/-- a place of an array has been written -/
theorem j_rep_ast {D : va_G} {bs : Nat} {U : State} {h h' : j_H} {H H' : Heap} {a t n i : Nat} {ce : Cell} {w : Value} (hR : j_rep D bs U h H) (hs : j_sh h a = some (.inl (t, n))) (hi : i < n)
    (q2 : U.isArrayOf ce (j_aty t)) (q3 : j_ra U ce (j_aty t)) (q4 : ce.vm ≠ .unknown ∧ (t < 7 → j_pl ce)) (q5 : ce.slots.size = n) (q6 : ∀ j, j < n → ce.slots[j]? = some (j_fv h a (j_aty t) j))
    (e1 : H'[a]? = some (ce.setSlot i w)) (e2 : H'.size = H.size) (e3 : ∀ q, q ≠ a → H'[q]? = H[q]?)
    (hs' : j_sh h' = j_sh h) (hz' : j_z h' = j_z h) (hv : ∀ b, b ≠ a → ∀ ty j, j_fv h' b ty j = j_fv h b ty j) (hvk : j_fv h' a (j_aty t) i = w) (hvj : ∀ j, j ≠ i → j_fv h' a (j_aty t) j = j_fv h a (j_aty t) j) : j_rep D bs U h' H' := by
  have g := j_rep_arr hR hs
  refine j_rep_upd hR hs' hz' hs hv e2 e3 ⟨g.1, g.2.1, ce.setSlot i w, e1, q2, q3, q4, by simp [Cell.setSlot, q5], fun j hj => ?_⟩
  by_cases e : j = i
  · subst e
    simp [Cell.setSlot, Array.getElem?_setIfInBounds, q5, hj, hvk]
  · simp only [Cell.setSlot, Array.getElem?_setIfInBounds]
    rw [if_neg (Ne.symm e), hvj j e]
    exact q6 j hj
/-- a new cell -/
theorem j_rep_new {D : va_G} {bs : Nat} {U : State} {h : j_H} {H H' : Heap} {s : j_S} {n : Nat} (hR : j_rep D bs U h H) (e2 : H'.size = j_z h + 1) (e3 : ∀ q, q < j_z h → H'[q]? = H[q]?) (ha : j_at D bs U (j_new h s n) H' (j_z h) s) : j_rep D bs U (j_new h s n) H' := by
  refine ⟨e2, Nat.le_succ_of_le hR.2.1, fun b t hb => ?_⟩
  by_cases e : b = j_z h
  · subst e
    have : s = t := by simpa [j_sh, j_new] using hb
    subst this
    exact ha
  · have hb' : j_sh h b = some t := by simpa [j_sh, j_new, e] using hb
    have h1 := hR.2.2 b t hb'
    have hl : b < j_z h := by rw [← hR.1]; exact j_at_lt h1
    exact j_at_kept (e3 b hl) (fun ty k => j_fv_new e) h1
end
section
/-! ===== locals ===== -/
def j_as : Nat → List Value → List (Nat × Value)
  | _, [] => []
  | i, .retAddr _ :: vs => j_as (i + 1) vs
  | i, .int a :: vs => (i, .int a) :: j_as (i + 1) vs
  | i, .long a :: vs => (i, .long a) :: j_as (i + 1) vs
  | i, .float a :: vs => (i, .float a) :: j_as (i + 1) vs
  | i, .double a :: vs => (i, .double a) :: j_as (i + 1) vs
  | i, .null :: vs => (i, .null) :: j_as (i + 1) vs
  | i, .ref a :: vs => (i, .ref a) :: j_as (i + 1) vs
def j_ks : Value → Bool
  | .retAddr _ => false
  | _ => true
theorem j_as_cons {i : Nat} {v : Value} {vs : List Value} (hv : j_ks v = true) : j_as i (v :: vs) = (i, v) :: j_as (i + 1) vs := by
  cases v <;> first | rfl | cases hv
theorem j_as_u {i : Nat} {v : Value} {vs : List Value} (hv : j_ks v = false) : j_as i (v :: vs) = j_as (i + 1) vs := by
  cases v <;> first | rfl | cases hv
theorem j_as_mem {vs : List Value} : ∀ {k : Nat} {q : Nat × Value}, q ∈ j_as k vs ↔ ∃ j, q.1 = k + j ∧ vs[j]? = some q.2 ∧ j_ks q.2 = true := by
  induction vs with
  | nil => intro k q; simp [j_as]
  | cons v vs ih =>
    intro k q
    by_cases hv : j_ks v = true
    · rw [j_as_cons hv, List.mem_cons, ih]
      constructor
      · rintro (rfl | ⟨j, h1, h2, h3⟩)
        · exact ⟨0, rfl, rfl, hv⟩
        · exact ⟨j + 1, by omega, h2, h3⟩
      · rintro ⟨j, h1, h2, h3⟩
        cases j with
        | zero =>
          left
          have e : v = q.2 := by simpa using h2
          exact Prod.ext (by simpa using h1) e.symm
        | succ j => exact Or.inr ⟨j, by omega, by simpa using h2, h3⟩
    · have hv' : j_ks v = false := by cases h : j_ks v <;> simp_all
      rw [j_as_u hv', ih]
      constructor
      · rintro ⟨j, h1, h2, h3⟩
        exact ⟨j + 1, by omega, h2, h3⟩
      · rintro ⟨j, h1, h2, h3⟩
        cases j with
        | zero =>
          have e : v = q.2 := by simpa using h2
          rw [← e, hv'] at h3
          cases h3
        | succ j => exact ⟨j, by omega, by simpa using h2, h3⟩
theorem j_has_sub {ls : Array Slot} {n : Nat} {l l' : List (Nat × Value)} (h : lv_has ls n l) (hs : ∀ q ∈ l', q ∈ l) : lv_has ls n l' := ⟨h.1, h.2.1, fun q hq => h.2.2 q (hs q hq)⟩
theorem j_nth_get {vs : List Value} : ∀ {i : Nat}, j_ks (j_nth vs i) = true → vs[i]? = some (j_nth vs i) := by
  induction vs with
  | nil => intro i h; cases h
  | cons v vs ih =>
    intro i h
    cases i with
    | zero => rfl
    | succ i => exact ih h
/-- a local read -/
theorem j_has_at {ls : Array Slot} {n : Nat} {vs : List Value} (h : lv_has ls n (j_as 0 vs)) {i : Nat} {v : Value} (hv : j_nth vs i = v) (hk : j_ks v = true) : ls[i]? = some (.val v) := by
  subst hv
  exact h.2.2 (i, j_nth vs i) (j_as_mem.mpr ⟨i, by simp, j_nth_get hk, hk⟩)
theorem j_kl_ks {w : Value} (h : j_ks (j_kl w) = true) : j_kl w = w ∧ w.category ≠ 2 := by
  cases w <;> simp_all [j_kl, j_ks, j_u, Value.category]
theorem j_st1_get {vs : List Value} : ∀ {i j : Nat} {v w : Value}, (j_st1 vs i v)[j]? = some w → j_ks w = true → (j = i ∧ w = v) ∨ (j ≠ i ∧ vs[j]? = some w ∧ ¬ (j + 1 = i ∧ w.category = 2)) := by
  induction vs with
  | nil => intro i j v w h; simp [j_st1] at h
  | cons u vs ih =>
    intro i j v w h hw
    match i, vs, j, h with
    | 0, vs, 0, h => exact Or.inl ⟨rfl, by simpa [j_st1] using h.symm⟩
    | 0, vs, j + 1, h => exact Or.inr ⟨by omega, by simpa [j_st1] using h, by omega⟩
    | 1, [], 0, h =>
      have e : j_kl u = w := by simpa [j_st1] using h
      have g := j_kl_ks (w := u) (by rw [e]; exact hw)
      rw [g.1] at e
      subst e
      exact Or.inr ⟨by omega, rfl, fun q => g.2 q.2⟩
    | 1, [], j + 1, h => simp [j_st1] at h
    | 1, _ :: vs, 0, h =>
      have e : j_kl u = w := by simpa [j_st1] using h
      have g := j_kl_ks (w := u) (by rw [e]; exact hw)
      rw [g.1] at e
      subst e
      exact Or.inr ⟨by omega, rfl, fun q => g.2 q.2⟩
    | 1, _ :: vs, 1, h => exact Or.inl ⟨rfl, by simpa [j_st1] using h.symm⟩
    | 1, _ :: vs, j + 2, h => exact Or.inr ⟨by omega, by simpa [j_st1] using h, by omega⟩
    | i + 2, vs, 0, h => exact Or.inr ⟨by omega, by simpa [j_st1] using h, by omega⟩
    | i + 2, vs, j + 1, h =>
      have h2 : (j_st1 vs (i + 1) v)[j]? = some w := by simpa [j_st1] using h
      rcases ih h2 hw with ⟨e1, e2⟩ | ⟨e1, e2, e3⟩
      · exact Or.inl ⟨by omega, e2⟩
      · exact Or.inr ⟨by omega, by simpa using e2, fun q => e3 ⟨by omega, q.2⟩⟩
theorem j_stu_get {vs : List Value} : ∀ {i j : Nat} {w : Value}, (j_stu vs i)[j]? = some w → j_ks w = true → j ≠ i ∧ vs[j]? = some w := by
  induction vs with
  | nil => intro i j w h; simp [j_stu] at h
  | cons u vs ih =>
    intro i j w h hw
    match i, j, h with
    | 0, 0, h =>
      have e : j_u = w := by simpa [j_stu] using h
      subst e
      cases hw
    | 0, j + 1, h => exact ⟨by omega, by simpa [j_stu] using h⟩
    | i + 1, 0, h => exact ⟨by omega, by simpa [j_stu] using h⟩
    | i + 1, j + 1, h =>
      have g := ih (i := i) (j := j) (by simpa [j_stu] using h) hw
      exact ⟨by omega, by simpa using g.2⟩
/-- a local written, of one word -/
theorem j_has_st1 {ls : Array Slot} {n i : Nat} {vs : List Value} {v : Value} (h : lv_has ls n ((i, v) :: (j_as 0 vs).filter (fun q => !(q.1 == i) && !(q.1 + 1 == i && q.2.category == 2)))) : lv_has ls n (j_as 0 (j_st1 vs i v)) := by
  refine j_has_sub h (fun q hq => ?_)
  obtain ⟨j, h1, h2, h3⟩ := j_as_mem.mp hq
  rcases j_st1_get h2 h3 with ⟨e1, e2⟩ | ⟨e1, e2, e3⟩
  · have : q = (i, v) := Prod.ext (by omega) e2
    rw [this]
    exact List.mem_cons_self
  · refine List.mem_cons_of_mem _ (List.mem_filter.mpr ⟨j_as_mem.mpr ⟨j, h1, e2, h3⟩, ?_⟩)
    have a1 : (q.1 == i) = false := by simp; omega
    have a2 : (q.1 + 1 == i && q.2.category == 2) = false := by
      by_cases z : q.1 + 1 = i
      · have : ¬ q.2.category = 2 := fun t => e3 ⟨by omega, t⟩
        simp [this]
      · simp [z]
    simp [a1, a2]
theorem j_has_st2 {ls : Array Slot} {n i : Nat} {vs : List Value} {v : Value} (h : lv_has ls n ((i, v) :: (j_as 0 vs).filter (fun q => !(q.1 == i) && (!(q.1 == i + 1) && !(q.1 + 1 == i && q.2.category == 2))))) : lv_has ls n (j_as 0 (j_st2 vs i v)) := by
  refine j_has_sub h (fun q hq => ?_)
  obtain ⟨j, h1, h2, h3⟩ := j_as_mem.mp hq
  obtain ⟨e0, h2⟩ := j_stu_get h2 h3
  rcases j_st1_get h2 h3 with ⟨e1, e2⟩ | ⟨e1, e2, e3⟩
  · have : q = (i, v) := Prod.ext (by omega) e2
    rw [this]
    exact List.mem_cons_self
  · refine List.mem_cons_of_mem _ (List.mem_filter.mpr ⟨j_as_mem.mpr ⟨j, h1, e2, h3⟩, ?_⟩)
    have a1 : (q.1 == i) = false := by simp; omega
    have a3 : (q.1 == i + 1) = false := by simp; omega
    have a2 : (q.1 + 1 == i && q.2.category == 2) = false := by
      by_cases z : q.1 + 1 = i
      · have : ¬ q.2.category = 2 := fun t => e3 ⟨by omega, t⟩
        simp [this]
      · simp [z]
    simp [a1, a2, a3]
/-- less is known of the locals -/
def j_le : List Value → List Value → Prop
  | [], [] => True
  | v :: vs, w :: ws => (w = v ∨ j_ks w = false) ∧ j_le vs ws
  | _, _ => False
theorem j_le_get {vs : List Value} : ∀ {ws : List Value} {j : Nat} {w : Value}, j_le vs ws → ws[j]? = some w → j_ks w = true → vs[j]? = some w := by
  induction vs with
  | nil =>
    intro ws j w h hw
    cases ws with
    | nil => simp at hw
    | cons a b => exact absurd h (by simp [j_le])
  | cons v vs ih =>
    intro ws j w h hw hk
    cases ws with
    | nil => simp at hw
    | cons a b =>
      cases j with
      | zero =>
        have e : a = w := by simpa using hw
        subst e
        rcases h.1 with q | q
        · rw [q]; rfl
        · rw [q] at hk; cases hk
      | succ j => exact ih h.2 (by simpa using hw) hk
theorem j_has_le {ls : Array Slot} {n : Nat} {vs ws : List Value} (h : lv_has ls n (j_as 0 vs)) (hl : j_le vs ws) : lv_has ls n (j_as 0 ws) := by
  refine j_has_sub h (fun q hq => ?_)
  obtain ⟨j, h1, h2, h3⟩ := j_as_mem.mp hq
  exact j_as_mem.mpr ⟨j, h1, j_le_get hl h2 h3, h3⟩
end
section
/-! printed by wip/whole/gen.py: the String constants (class, entry, text), the methods (name, code, locals, answer, class no. of the receiver or 99) -/
def j_strs : List (String × Nat × String) := [("PacketScheduler$QueryReader", 23, "or"), ("PacketScheduler$QueryReader", 43, "and"), ("PacketScheduler$QueryReader", 48, "not"), ("PacketScheduler$QueryReader", 92, "packet"), ("PacketScheduler$QueryReader", 94, "flow"), ("PacketScheduler$QueryReader", 96, "size"), ("PacketScheduler$QueryReader", 98, "state"), ("PacketScheduler$QueryReader", 100, "tries"), ("PacketScheduler$QueryReader", 102, "arrival"), ("PacketScheduler$QueryReader", 104, "source"), ("PacketScheduler$QueryReader", 106, "target"), ("PacketScheduler$QueryReader", 108, "port"), ("PacketScheduler$Setup", 60, "flow"), ("PacketScheduler$Setup", 69, "rule"), ("PacketScheduler$Setup", 74, "link"), ("PacketScheduler$Setup", 80, "delay"), ("PacketScheduler$Setup", 81, "timeout"), ("PacketScheduler$Setup", 107, "burst"), ("PacketScheduler$Setup", 109, "retries"), ("PacketScheduler$Setup", 111, "loss"), ("PacketScheduler$Setup", 113, "late"), ("PacketScheduler$Setup", 115, "to"), ("PacketScheduler$Setup", 124, "target"), ("PacketScheduler$Setup", 126, "port"), ("PacketScheduler$Setup", 128, "source"), ("PacketScheduler", 153, "the index is negative"), ("PacketScheduler", 199, "the flows are the same or the age is negative"), ("PacketScheduler", 238, " f"), ("PacketScheduler", 243, "queued"), ("PacketScheduler", 245, "flying"), ("PacketScheduler", 247, "dropped"), ("PacketScheduler", 249, "at "), ("PacketScheduler", 270, "many"), ("PacketScheduler", 276, "first"), ("PacketScheduler", 300, "a parameter is out of range"), ("PacketScheduler", 302, "there is no such property"), ("PacketScheduler", 304, "there is no such flow"), ("PacketScheduler", 306, "there is no such packet"), ("PacketScheduler", 308, "there is no such transmission"), ("PacketSchedulerModel", 51, "packet"), ("PacketSchedulerModel", 53, "flow"), ("PacketSchedulerModel", 55, "size"), ("PacketSchedulerModel", 57, "state"), ("PacketSchedulerModel", 59, "tries"), ("PacketSchedulerModel", 61, "arrival"), ("PacketSchedulerModel", 63, "source"), ("PacketSchedulerModel", 65, "target"), ("PacketSchedulerModel", 67, "port"), ("PacketSchedulerModel", 303, "p"), ("PacketSchedulerModel", 309, " f"), ("PacketSchedulerModel", 311, " "), ("PacketSchedulerModel", 313, " queued"), ("PacketSchedulerModel", 315, " flying"), ("PacketSchedulerModel", 317, " dropped"), ("PacketSchedulerModel", 319, " at "), ("PacketSchedulerModel", 379, "burst"), ("PacketSchedulerModel", 387, "retries"), ("PacketSchedulerModel", 389, "loss"), ("PacketSchedulerModel", 391, "late"), ("PacketSchedulerModel", 400, "to"), ("PacketSchedulerModel", 408, "rule"), ("PacketSchedulerModel", 413, "link"), ("PacketSchedulerModel", 415, "delay"), ("PacketSchedulerModel", 417, "timeout"), ("PacketSchedulerModel", 438, "not"), ("PacketSchedulerModel", 452, "and"), ("PacketSchedulerModel", 457, "or"), ("PacketSchedulerModel", 465, "first"), ("PacketSchedulerModel", 467, "many"), ("java/lang/AbstractStringBuilder", 122, "?"), ("java/lang/StringUTF16", 26, "?"), ("java/lang/StringUTF16", 35, "?"), ("java/lang/StringUTF16", 54, "?"), ("java/util/Arrays", 45, "?"), ("java/util/Arrays", 48, "fromIndex("), ("java/util/Arrays", 57, ") > toIndex("), ("java/util/Arrays", 59, ")"), ("java/util/Arrays", 337, " > "), ("jdk/internal/util/ArraysSupport", 206, "?"), ("jdk/internal/util/ArraysSupport", 208, "?"), ("jdk/internal/util/ArraysSupport", 210, "?")]
def j_mt : List (MethodName × ByteArray × Nat × Option FieldType × Nat) := [(yX0_init, cX0_init, 1, none, 2),
  (yX0_forget, cX0_forget, 1, none, 2),
  (yX0_keep, cX0_keep, 2, none, 2),
  (yX0_giveBack, cX0_giveBack, 2, none, 2),
  (yX1_init, cX1_init, 1, none, 3),
  (yX1_begin, cX1_begin, 3, none, 3),
  (yX1_beginFlow, cX1_beginFlow, 4, none, 3),
  (yX1_copyFrom, cX1_copyFrom, 2, none, 3),
  (yX1_copyTraffic, cX1_copyTraffic, 3, none, 3),
  (yX1_virtualOf, cX1_virtualOf, 2, (some .long), 3),
  (yX1_setVirtual, cX1_setVirtual, 4, none, 3),
  (yX1_unitOf, cX1_unitOf, 3, (some .int), 3),
  (yX1_isBusy, cX1_isBusy, 2, (some .boolean), 3),
  (yX1_isDelivered, cX1_isDelivered, 2, (some .boolean), 3),
  (yX1_leastBusyFlow, cX1_leastBusyFlow, 4, (some .int), 3),
  (yX1_flowToServe, cX1_flowToServe, 3, (some .int), 3),
  (yX1_packetInQueue, cX1_packetInQueue, 5, (some .int), 3),
  (yX1_joinEnd, cX1_joinEnd, 4, none, 3),
  (yX1_joinHead, cX1_joinHead, 3, none, 3),
  (yX1_leaveQueue, cX1_leaveQueue, 6, none, 3),
  (yX1_countQueued, cX1_countQueued, 4, none, 3),
  (yX1_addPacket, cX1_addPacket, 4, (some .int), 3),
  (yX1_raiseVirtual, cX1_raiseVirtual, 7, none, 3),
  (yX1_tick, cX1_tick, 1, none, 3),
  (yX1_settleDue, cX1_settleDue, 2, none, 3),
  (yX1_dueTick, cX1_dueTick, 5, (some .int), 3),
  (yX1_acknowledge, cX1_acknowledge, 5, none, 3),
  (yX1_deliver, cX1_deliver, 3, none, 3),
  (yX1_declareLost, cX1_declareLost, 4, none, 3),
  (yX1_refund, cX1_refund, 3, none, 3),
  (yX1_sendQueued, cX1_sendQueued, 5, none, 3),
  (yX1_send, cX1_send, 5, none, 3),
  (yX1_acknowledgmentTick, cX1_acknowledgmentTick, 6, (some .int), 3),
  (yX1_ticksToDeliver, cX1_ticksToDeliver, 4, (some .int), 3),
  (yX1_isAtRest, cX1_isAtRest, 1, (some .boolean), 3),
  (yX1_addRecord, cX1_addRecord, 4, none, 3),
  (yX1_lead, cX1_lead, 4, (some .long), 3),
  (yX1_differenceSince, cX1_differenceSince, 5, (some .long), 3),
  (yX1_greatestDifference, cX1_greatestDifference, 13, (some .long), 3),
  (yX2_init, cX2_init, 1, none, 4),
  (yX2_put, cX2_put, 2, none, 4),
  (yX2_has, cX2_has, 4, (some .boolean), 4),
  (yX2_addAll, cX2_addAll, 2, none, 4),
  (yX2_keepAll, cX2_keepAll, 2, none, 4),
  (yX2_invert, cX2_invert, 1, none, 4),
  (yX2_countBelow, cX2_countBelow, 4, (some .int), 4),
  (yX2_firstBelow, cX2_firstBelow, 3, (some .int), 4),
  (yX3_init, cX3_init, 3, none, 5),
  (yX3_readTest, cX3_readTest, 4, (some (.object "PacketScheduler$PacketSet")), 5),
  (yX3_readConjunction, cX3_readConjunction, 4, (some (.object "PacketScheduler$PacketSet")), 5),
  (yX3_readFactor, cX3_readFactor, 5, (some (.object "PacketScheduler$PacketSet")), 5),
  (yX3_readValue, cX3_readValue, 2, (some .int), 5),
  (yX3_namedColumn, cX3_namedColumn, 1, (some .int), 5),
  (yX3_readComparison, cX3_readComparison, 2, (some .int), 5),
  (yX3_compareAll, cX3_compareAll, 6, (some (.object "PacketScheduler$PacketSet")), 5),
  (yX3_valueFor, cX3_valueFor, 4, (some .int), 5),
  (yX4_init, cX4_init, 1, none, 6),
  (yX4_reset, cX4_reset, 1, none, 6),
  (yX4_addRow, cX4_addRow, 1, (some .int), 6),
  (yX4_rowOf, cX4_rowOf, 2, (some .int), 6),
  (yX4_areBusy, cX4_areBusy, 5, (some .boolean), 6),
  (yX4_bytesOf, cX4_bytesOf, 3, (some .int), 6),
  (yX4_copyFrom, cX4_copyFrom, 2, none, 6),
  (yX5_init, cX5_init, 1, none, 7),
  (yX5_reset, cX5_reset, 1, none, 7),
  (yX5_flowFor, cX5_flowFor, 5, (some .int), 7),
  (yX5_isInRange, cX5_isInRange, 4, (some .boolean), 7),
  (yX5_readFrom, cX5_readFrom, 3, none, 7),
  (yX5_readClause, cX5_readClause, 2, none, 7),
  (yX5_readSetting, cX5_readSetting, 4, (some .int), 7),
  (yX5_readFlow, cX5_readFlow, 3, none, 7),
  (yX5_readOption, cX5_readOption, 2, none, 7),
  (yX5_readRule, cX5_readRule, 3, none, 7),
  (yX5_readCondition, cX5_readCondition, 4, none, 7),
  (yX6_init, cX6_init, 3, none, 8),
  (yX6_get, cX6_get, 4, (some .int), 8),
  (yX6_set, cX6_set, 5, none, 8),
  (yX6_add, cX6_add, 5, none, 8),
  (yX6_copyRows, cX6_copyRows, 4, none, 8),
  (yX7_init, cX7_init, 1, none, 9),
  (yX7_append, cX7_append, 3, none, 9),
  (yX7_empty, cX7_empty, 1, none, 9),
  (yX7_open, cX7_open, 2, none, 9),
  (yX7_next, cX7_next, 2, none, 9),
  (yX7_kindAt, cX7_kindAt, 3, (some .int), 9),
  (yX7_byteAt, cX7_byteAt, 2, (some .int), 9),
  (yX7_goesOn, cX7_goesOn, 1, (some .boolean), 9),
  (yX7_isWord, cX7_isWord, 3, (some .boolean), 9),
  (yX7_isSign, cX7_isSign, 2, (some .boolean), 9),
  (yX7_fail, cX7_fail, 2, none, 9),
  (yX7_number, cX7_number, 3, (some .int), 9),
  (yX7_takeNumber, cX7_takeNumber, 4, (some .int), 9),
  (yX7_takeSign, cX7_takeSign, 2, none, 9),
  (yX7_takeWord, cX7_takeWord, 2, none, 9),
  (yX7_requireEnd, cX7_requireEnd, 1, none, 9),
  (yX8_init, cX8_init, 4, none, 10),
  (yX8_feed, cX8_feed, 6, (some .int), 10),
  (yX8_load, cX8_load, 3, (some .int), 10),
  (yX8_errorPosition, cX8_errorPosition, 1, (some .int), 10),
  (yX8_flowCount, cX8_flowCount, 1, (some .int), 10),
  (yX8_ruleCount, cX8_ruleCount, 1, (some .int), 10),
  (yX8_packetCount, cX8_packetCount, 1, (some .int), 10),
  (yX8_transmissionCount, cX8_transmissionCount, 1, (some .int), 10),
  (yX8_clock, cX8_clock, 1, (some .int), 10),
  (yX8_credit, cX8_credit, 1, (some .int), 10),
  (yX8_classify, cX8_classify, 4, (some .int), 10),
  (yX8_flow, cX8_flow, 3, (some .int), 10),
  (yX8_virtualTime, cX8_virtualTime, 2, (some .long), 10),
  (yX8_isIdle, cX8_isIdle, 2, (some .boolean), 10),
  (yX8_queued, cX8_queued, 3, (some .int), 10),
  (yX8_nextFlow, cX8_nextFlow, 1, (some .int), 10),
  (yX8_packet, cX8_packet, 3, (some .int), 10),
  (yX8_transmission, cX8_transmission, 3, (some .int), 10),
  (yX8_charge, cX8_charge, 2, (some .long), 10),
  (yX8_outstanding, cX8_outstanding, 2, (some .int), 10),
  (yX8_arrive, cX8_arrive, 7, (some .int), 10),
  (yX8_run, cX8_run, 4, (some .int), 10),
  (yX8_setWeight, cX8_setWeight, 4, (some .int), 10),
  (yX8_audit, cX8_audit, 4, (some .long), 10),
  (yX8_worst, cX8_worst, 5, (some .long), 10),
  (yX8_spread, cX8_spread, 5, (some .long), 10),
  (yX8_share, cX8_share, 4, (some .double), 10),
  (yX8_meanDelay, cX8_meanDelay, 5, (some .float), 10),
  (yX8_forecast, cX8_forecast, 3, (some .int), 10),
  (yX8_weightFor, cX8_weightFor, 5, (some .int), 10),
  (yX8_format, cX8_format, 3, (some .int), 10),
  (yX8_formattedByte, cX8_formattedByte, 2, (some .int), 10),
  (yX8_undoCount, cX8_undoCount, 1, (some .int), 10),
  (yX8_undo, cX8_undo, 1, (some .int), 10),
  (yX8_saveSnapshot, cX8_saveSnapshot, 1, none, 10),
  (yX8_restoreSnapshot, cX8_restoreSnapshot, 1, (some .boolean), 10),
  (yX8_query, cX8_query, 4, (some .int), 10),
  (yX8_requireRange, cX8_requireRange, 3, none, 99),
  (yX8_requireAddress, cX8_requireAddress, 3, none, 99),
  (yX8_requireProperty, cX8_requireProperty, 2, none, 99),
  (yX8_requireFlow, cX8_requireFlow, 2, none, 10),
  (yX8_requirePacket, cX8_requirePacket, 2, none, 10),
  (yX8_requireTransmission, cX8_requireTransmission, 2, none, 10),
  (yX9_init, cX9_init, 1, none, 11),
  (yX9_thrown, cX9_thrown, 1, (some .int), 11),
  (yX9_raise, cX9_raise, 2, (some .int), 11),
  (yX9_inRange, cX9_inRange, 3, (some .boolean), 99),
  (yX9_clear, cX9_clear, 2, none, 99),
  (yX9_ofFlow, cX9_ofFlow, 3, (some .int), 11),
  (yX9_addToFlow, cX9_addToFlow, 4, none, 11),
  (yX9_ofPacket, cX9_ofPacket, 3, (some .int), 11),
  (yX9_putPacket, cX9_putPacket, 4, none, 11),
  (yX9_ofSending, cX9_ofSending, 3, (some .int), 11),
  (yX9_putSending, cX9_putSending, 4, none, 11),
  (yX9_flowOfSending, cX9_flowOfSending, 2, (some .int), 11),
  (yX9_isFlow, cX9_isFlow, 2, (some .boolean), 11),
  (yX9_isPacket, cX9_isPacket, 2, (some .boolean), 11),
  (yX9_isByte, cX9_isByte, 1, (some .boolean), 99),
  (yX9_tell, cX9_tell, 2, (some .int), 11),
  (yX9_flowCount, cX9_flowCount, 1, (some .int), 11),
  (yX9_ruleCount, cX9_ruleCount, 1, (some .int), 11),
  (yX9_packetCount, cX9_packetCount, 1, (some .int), 11),
  (yX9_transmissionCount, cX9_transmissionCount, 1, (some .int), 11),
  (yX9_clock, cX9_clock, 1, (some .int), 11),
  (yX9_credit, cX9_credit, 1, (some .int), 11),
  (yX9_matches, cX9_matches, 5, (some .boolean), 11),
  (yX9_flowFor, cX9_flowFor, 5, (some .int), 11),
  (yX9_classify, cX9_classify, 4, (some .int), 11),
  (yX9_inQueue, cX9_inQueue, 3, (some .int), 11),
  (yX9_bytesQueued, cX9_bytesQueued, 4, (some .int), 11),
  (yX9_droppedOf, cX9_droppedOf, 4, (some .int), 11),
  (yX9_flow, cX9_flow, 3, (some .int), 11),
  (yX9_virtualTime, cX9_virtualTime, 2, (some .long), 11),
  (yX9_outstandingOf, cX9_outstandingOf, 4, (some .int), 11),
  (yX9_isUnused, cX9_isUnused, 2, (some .boolean), 11),
  (yX9_isIdle, cX9_isIdle, 2, (some .boolean), 11),
  (yX9_queued, cX9_queued, 3, (some .int), 11),
  (yX9_next, cX9_next, 3, (some .int), 11),
  (yX9_nextFlow, cX9_nextFlow, 1, (some .int), 11),
  (yX9_packet, cX9_packet, 3, (some .int), 11),
  (yX9_isSending, cX9_isSending, 2, (some .boolean), 11),
  (yX9_transmission, cX9_transmission, 3, (some .int), 11),
  (yX9_charge, cX9_charge, 2, (some .long), 11),
  (yX9_outstanding, cX9_outstanding, 2, (some .int), 11),
  (yX9_putInto, cX9_putInto, 7, none, 11),
  (yX9_takeFrom, cX9_takeFrom, 7, none, 11),
  (yX9_putCharge, cX9_putCharge, 3, none, 11),
  (yX9_refund, cX9_refund, 2, none, 11),
  (yX9_deliver, cX9_deliver, 4, none, 11),
  (yX9_acknowledge, cX9_acknowledge, 4, none, 11),
  (yX9_isLatest, cX9_isLatest, 3, (some .boolean), 11),
  (yX9_declareLost, cX9_declareLost, 4, none, 11),
  (yX9_divides, cX9_divides, 2, (some .boolean), 99),
  (yX9_acknowledgmentTick, cX9_acknowledgmentTick, 3, (some .int), 11),
  (yX9_send, cX9_send, 4, none, 11),
  (yX9_sendNext, cX9_sendNext, 2, (some .boolean), 11),
  (yX9_record, cX9_record, 4, none, 11),
  (yX9_tick, cX9_tick, 3, none, 11),
  (yX9_forgive, cX9_forgive, 7, none, 11),
  (yX9_arrive, cX9_arrive, 7, (some .int), 11),
  (yX9_deliveredCount, cX9_deliveredCount, 3, (some .int), 11),
  (yX9_run, cX9_run, 4, (some .int), 11),
  (yX9_setWeight, cX9_setWeight, 4, (some .int), 11),
  (yX9_oldestTick, cX9_oldestTick, 1, (some .int), 11),
  (yX9_recorded, cX9_recorded, 3, (some .int), 11),
  (yX9_areActive, cX9_areActive, 5, (some .boolean), 11),
  (yX9_normalized, cX9_normalized, 4, (some .long), 11),
  (yX9_difference, cX9_difference, 5, (some .long), 11),
  (yX9_audit, cX9_audit, 6, (some .long), 11),
  (yX9_worstOf, cX9_worstOf, 8, (some .long), 11),
  (yX9_worst, cX9_worst, 5, (some .long), 11),
  (yX9_spread, cX9_spread, 4, (some .long), 11),
  (yX9_share, cX9_share, 4, (some .double), 11),
  (yX9_meanDelay, cX9_meanDelay, 5, (some .float), 11),
  (yX9_layAside, cX9_layAside, 1, none, 11),
  (yX9_layBack, cX9_layBack, 1, none, 11),
  (yX9_ticksUntilDelivered, cX9_ticksUntilDelivered, 4, (some .int), 11),
  (yX9_mayForecast, cX9_mayForecast, 4, (some .boolean), 11),
  (yX9_forecast, cX9_forecast, 4, (some .int), 11),
  (yX9_weightFor, cX9_weightFor, 5, (some .int), 11),
  (yX9_copy, cX9_copy, 5, none, 99),
  (yX9_copyTimes, cX9_copyTimes, 5, none, 99),
  (yX9_remember, cX9_remember, 2, none, 11),
  (yX9_undoCount, cX9_undoCount, 1, (some .int), 11),
  (yX9_undo, cX9_undo, 1, (some .int), 11),
  (yX9_saveSnapshot, cX9_saveSnapshot, 1, none, 11),
  (yX9_restoreSnapshot, cX9_restoreSnapshot, 1, (some .boolean), 11),
  (yX9_write, cX9_write, 3, none, 11),
  (yX9_writeNumber, cX9_writeNumber, 2, none, 11),
  (yX9_format, cX9_format, 3, (some .int), 11),
  (yX9_formattedByte, cX9_formattedByte, 2, (some .int), 11),
  (yX9_feed, cX9_feed, 8, (some .int), 11),
  (yX9_errorPosition, cX9_errorPosition, 1, (some .int), 11),
  (yX9_byteAt, cX9_byteAt, 2, (some .int), 11),
  (yX9_isLetter, cX9_isLetter, 2, (some .boolean), 11),
  (yX9_isDigit, cX9_isDigit, 2, (some .boolean), 11),
  (yX9_scan, cX9_scan, 1, none, 11),
  (yX9_startText, cX9_startText, 2, none, 11),
  (yX9_finish, cX9_finish, 1, (some .int), 11),
  (yX9_fail, cX9_fail, 2, none, 11),
  (yX9_check, cX9_check, 3, none, 11),
  (yX9_advance, cX9_advance, 1, none, 11),
  (yX9_isSymbol, cX9_isSymbol, 2, (some .boolean), 11),
  (yX9_isWord, cX9_isWord, 4, (some .boolean), 11),
  (yX9_accept, cX9_accept, 3, (some .boolean), 11),
  (yX9_expectWord, cX9_expectWord, 2, none, 11),
  (yX9_expect, cX9_expect, 2, none, 11),
  (yX9_value, cX9_value, 3, (some .int), 11),
  (yX9_number, cX9_number, 4, (some .int), 11),
  (yX9_putNumber, cX9_putNumber, 5, none, 11),
  (yX9_readOption, cX9_readOption, 2, (some .boolean), 11),
  (yX9_readFlow, cX9_readFlow, 3, none, 11),
  (yX9_readCondition, cX9_readCondition, 5, (some .boolean), 11),
  (yX9_readRule, cX9_readRule, 3, none, 11),
  (yX9_readClause, cX9_readClause, 1, none, 11),
  (yX9_load, cX9_load, 3, (some .int), 11),
  (yX9_emit, cX9_emit, 2, none, 11),
  (yX9_enter, cX9_enter, 1, none, 11),
  (yX9_compileValue, cX9_compileValue, 2, none, 11),
  (yX9_compileFactor, cX9_compileFactor, 2, none, 11),
  (yX9_compileConjunction, cX9_compileConjunction, 1, none, 11),
  (yX9_compileTest, cX9_compileTest, 1, none, 11),
  (yX9_operate, cX9_operate, 3, (some .int), 99),
  (yX9_property, cX9_property, 3, (some .int), 11),
  (yX9_holdsFor, cX9_holdsFor, 5, (some .boolean), 11),
  (yX9_query, cX9_query, 5, (some .int), 11),
  (yJ5_init_d00df, cJ5_init_d00df, 2, none, 1),
  (yJ5_length_8abf5, cJ5_length_8abf5, 1, (some .int), 1),
  (yJ5_ensureCapacityInternal_d00df, cJ5_ensureCapacityInternal_d00df, 3, none, 1),
  (yJ5_newCapacity_0f7a4, cJ5_newCapacity_0f7a4, 6, (some .int), 1),
  (yJ5_inflate_da8c8, cJ5_inflate_da8c8, 2, none, 1),
  (yJ5_setLength_d00df, cJ5_setLength_d00df, 2, none, 1),
  (yJ5_charAt_5068e, cJ5_charAt_5068e, 5, (some .char), 1),
  (yJ5_append_cf1ce, cJ5_append_cf1ce, 3, (some (.object "java/lang/AbstractStringBuilder")), 1),
  (yJ5_appendNull_278bc, cJ5_appendNull_278bc, 3, (some (.object "java/lang/AbstractStringBuilder")), 1),
  (yJ5_append_3fe6f, cJ5_append_3fe6f, 2, (some (.object "java/lang/AbstractStringBuilder")), 1),
  (yJ5_append_c97b9, cJ5_append_c97b9, 4, (some (.object "java/lang/AbstractStringBuilder")), 1),
  (yJ5_getValue_6d5f1, cJ5_getValue_6d5f1, 1, (some (.array .byte)), 1),
  (yJ5_isLatin1_aae02, cJ5_isLatin1_aae02, 1, (some .boolean), 1),
  (yJ5_inflateIfNeededFor_a7421, cJ5_inflateIfNeededFor_a7421, 2, none, 1),
  (yJ5_putStringAt_47b60, cJ5_putStringAt_47b60, 3, none, 1),
  (yJ6_getChars_ba4f3, cJ6_getChars_ba4f3, 7, (some .int), 99),
  (yJ6_stringSize_0f7a4, cJ6_stringSize_0f7a4, 4, (some .int), 99),
  (yJ6_compare_7cf53, cJ6_compare_7cf53, 2, (some .int), 99),
  (yJ9_floorMod_7cf53, cJ9_floorMod_7cf53, 3, (some .int), 99),
  (yJ9_abs_067f4, cJ9_abs_067f4, 2, (some .long), 99),
  (yJ9_max_7cf53, cJ9_max_7cf53, 2, (some .int), 99),
  (yJ9_max_f86c9, cJ9_max_f86c9, 4, (some .long), 99),
  (yJ9_min_7cf53, cJ9_min_7cf53, 2, (some .int), 99),
  (yJ9_min_f86c9, cJ9_min_f86c9, 4, (some .long), 99),
  (yJ0_init_81219, cJ0_init_81219, 2, none, 0),
  (yJ0_length_8abf5, cJ0_length_8abf5, 1, (some .int), 0),
  (yJ0_charAt_5068e, cJ0_charAt_5068e, 2, (some .char), 0),
  (yJ0_getBytes_840e7, cJ0_getBytes_840e7, 4, none, 0),
  (yJ0_init_db425, cJ0_init_db425, 5, none, 0),
  (yJ0_coder_7d493, cJ0_coder_7d493, 1, (some .byte), 0),
  (yJ0_isLatin1_aae02, cJ0_isLatin1_aae02, 1, (some .boolean), 0),
  (yJ0_checkIndex_df160, cJ0_checkIndex_df160, 2, none, 99),
  (yJ0_checkBoundsOffCount_cabcc, cJ0_checkBoundsOffCount_cabcc, 3, (some .int), 99),
  (yJ0_checkBoundsBeginEnd_23922, cJ0_checkBoundsBeginEnd_23922, 3, none, 99),
  (yJ4_init_da8c8, cJ4_init_da8c8, 1, none, 1),
  (yJ4_append_15ec4, cJ4_append_15ec4, 2, (some (.object "java/lang/StringBuilder")), 1),
  (yJ4_append_cf468, cJ4_append_cf468, 2, (some (.object "java/lang/StringBuilder")), 1),
  (yJ4_append_bf812, cJ4_append_bf812, 2, (some (.object "java/lang/StringBuilder")), 1),
  (yJ4_toString_0e30d, cJ4_toString_0e30d, 1, (some (.object "java/lang/String")), 1),
  (yJ4_charAt_5068e, cJ4_charAt_5068e, 2, (some .char), 1),
  (yJ4_setLength_d00df, cJ4_setLength_d00df, 2, none, 1),
  (yJ4_length_8abf5, cJ4_length_8abf5, 1, (some .int), 1),
  (yJ1_charAt_3b067, cJ1_charAt_3b067, 2, (some .char), 99),
  (yJ1_canEncode_fc78d, cJ1_canEncode_fc78d, 1, (some .boolean), 99),
  (yJ1_fillNull_b72d1, cJ1_fillNull_b72d1, 3, none, 99),
  (yJ1_inflate_0e8fd, cJ1_inflate_0e8fd, 5, none, 99),
  (yJ2_newBytesFor_77867, cJ2_newBytesFor_77867, 1, (some (.array .byte)), 99),
  (yJ2_newBytesLength_0f7a4, cJ2_newBytesLength_0f7a4, 1, (some .int), 99),
  (yJ2_putChar_b72d1, cJ2_putChar_b72d1, 3, none, 99),
  (yJ2_getChar_3b067, cJ2_getChar_3b067, 2, (some .char), 99),
  (yJ2_length_9d52b, cJ2_length_9d52b, 1, (some .int), 99),
  (yJ2_coderFromArrayLen_85cad, cJ2_coderFromArrayLen_85cad, 2, (some .byte), 99),
  (yJ2_compress_39247, cJ2_compress_39247, 6, (some (.array .byte)), 99),
  (yJ2_compress_5af95, cJ2_compress_5af95, 7, (some .int), 99),
  (yJ2_fillNull_b72d1, cJ2_fillNull_b72d1, 3, none, 99),
  (yJ2_putCharSB_b72d1, cJ2_putCharSB_b72d1, 3, none, 99),
  (yJ2_getChars_46870, cJ2_getChars_46870, 5, (some .int), 99),
  (yJ2_putCharsAt_cd4e5, cJ2_putCharsAt_cd4e5, 7, (some .int), 99),
  (yJ2_charAt_3b067, cJ2_charAt_3b067, 2, (some .char), 99),
  (yJ2_inflate_0e8fd, cJ2_inflate_0e8fd, 6, none, 99),
  (yJ2_getChars_ba4f3, cJ2_getChars_ba4f3, 7, (some .int), 99),
  (yJ2_checkIndex_2214a, cJ2_checkIndex_2214a, 2, none, 99),
  (yJ2_checkBoundsBeginEnd_d044e, cJ2_checkBoundsBeginEnd_d044e, 3, none, 99),
  (yJ2_checkBoundsOffCount_d044e, cJ2_checkBoundsOffCount_d044e, 3, none, 99),
  (yJ7_rangeCheck_23922, cJ7_rangeCheck_23922, 3, none, 99),
  (yJ7_fill_eb02e, cJ7_fill_eb02e, 5, none, 99),
  (yJ7_copyOf_9075b, cJ7_copyOf_9075b, 3, (some (.array .byte)), 99),
  (yJ7_checkLength_df160, cJ7_checkLength_df160, 2, none, 99),
  (yJ7_copyOfRange_39247, cJ7_copyOfRange_39247, 3, (some (.array .byte)), 99),
  (yJ7_copyOfRangeByte_39247, cJ7_copyOfRangeByte_39247, 5, (some (.array .byte)), 99),
  (yJ8_newLength_cabcc, cJ8_newLength_cabcc, 4, (some .int), 99),
  (yJ8_hugeLength_7cf53, cJ8_hugeLength_7cf53, 3, (some .int), 99),
  (yJ3_checkIndex_8e157, cJ3_checkIndex_8e157, 3, (some .int), 97),
  (yJ3_checkFromToIndex_8c36e, cJ3_checkFromToIndex_8c36e, 4, (some .int), 97),
  (yJ3_checkFromIndexSize_8c36e, cJ3_checkFromIndexSize_8c36e, 4, (some .int), 97),
  (yL_load, cL_load, 4, (some .int), 99),
  (yL_classify, cL_classify, 6, (some .int), 99),
  (yL_flow, cL_flow, 5, (some .int), 99),
  (yL_virtualTime, cL_virtualTime, 4, (some .int), 99),
  (yL_isIdle, cL_isIdle, 4, (some .int), 99),
  (yL_queued, cL_queued, 5, (some .int), 99),
  (yL_packet, cL_packet, 5, (some .int), 99),
  (yL_transmission, cL_transmission, 5, (some .int), 99),
  (yL_charge, cL_charge, 4, (some .int), 99),
  (yL_outstanding, cL_outstanding, 4, (some .int), 99),
  (yL_arrive, cL_arrive, 7, (some .int), 99),
  (yL_run, cL_run, 4, (some .int), 99),
  (yL_setWeight, cL_setWeight, 5, (some .int), 99),
  (yL_audit, cL_audit, 6, (some .int), 99),
  (yL_share, cL_share, 4, (some .int), 99),
  (yL_meanDelay, cL_meanDelay, 4, (some .int), 99),
  (yL_forecast, cL_forecast, 5, (some .int), 99),
  (yL_weightFor, cL_weightFor, 5, (some .int), 99),
  (yL_format, cL_format, 4, (some .int), 99),
  (yL_query, cL_query, 4, (some .int), 99),
  (yL_law, cL_law, 0, none, 98)]
end
section
/-! ===== a contract: a call returns or throws; how many cells it made comes with its end ===== -/
def j_QQ (QR : Array Value → State → Option Value → State → Nat → Nat → Prop) (XC : String → State → State → Nat → Nat → Prop) (free : Addr → Prop) : Array Value → State → Outcome → State → Prop := fun a st o t =>
  (∃ (v : Option Value) (mc ms : Nat) (L : List Loc), o = .returned v ∧ QR a st v t mc ms ∧ FrameEnd st o t L mc ms ∧ ∀ q ∈ L, free q.base) ∨
  ∃ (q : Addr) (mc ms : Nat) (E : String) (ce : Cell) (L : List Loc), o = .threw q ∧ XC E st t mc ms ∧ t.heap[q]? = some ce ∧ ce.vm = .none ∧ st.vm.findClass E = some ce.cls ∧ st.WarmedH t.vm ∧ st.sameButNew ({ t with vm := st.vm } : State) L mc ms ∧ ∀ z ∈ L, free z.base
def j_Pre (R rm : Room) (Pc : Array Value → State → Prop) : Pt → Array Value → Prop := fun A a => A.cells + rm.cells ≤ R.cells ∧ A.slots + rm.slots ≤ R.slots ∧ Pc a A.U
def j_Pst (QR : Array Value → State → Option Value → State → Nat → Nat → Prop) (free : Addr → Prop) : Pt → Array Value → Option Value → Pt → Prop := fun A a v B =>
  ∃ (g : JFrame) (mk : MethodId) (t : State) (L : List Loc) (mc ms : Nat), B.U.heap = t.heap ∧ B.U.vm = t.vm ∧ QR a (A.U.calling g mk a) v t mc ms ∧ B.locs = A.locs ++ L ∧ (∀ q ∈ L, free q.base) ∧ B.cells = A.cells + mc ∧ B.slots = A.slots + ms
def j_PsX (XC : String → State → State → Nat → Nat → Prop) (free : Addr → Prop) : Pt → Array Value → Addr → Pt → Prop := fun A a q B =>
  ∃ (g : JFrame) (mk : MethodId) (t : State) (L : List Loc) (E : String) (ce : Cell) (mc ms : Nat), B.U.heap = t.heap ∧ B.U.vm = t.vm ∧ XC E (A.U.calling g mk a) t mc ms ∧ t.heap[q]? = some ce ∧ ce.vm = .none ∧ A.U.vm.findClass E = some ce.cls ∧ B.locs = A.locs ++ L ∧ (∀ z ∈ L, free z.base) ∧ B.cells = A.cells + mc ∧ B.slots = A.slots + ms
section JPayer
variable {l : Launch} {R : Room} {p : Program} {e : Env} {below : List Frame} {s : State} {sargs : Array Value} {y : MethodName} {len W9 : Nat}
/-- follows vx_back, the number of cells being the end's -/
theorem j_back {ws : List Cond} {rm : Room} {Pc : Array Value → State → Prop} {QR : Array Value → State → Option Value → State → Nat → Nat → Prop} {XC : String → State → State → Nat → Nat → Prop} {free : Addr → Prop} {bytes : ByteArray} {maxL : Nat} {ret : Option FieldType}
    (hM : MetFree l y (headSpec ws rm) Pc (fun _ _ _ _ _ => True) (j_QQ QR XC free)) (hblind : FrameBlind Pc)
    (hframes : rm.frames + 1 ≤ R.frames) (hlocals : W9 + (maxL + 11) + rm.locals ≤ R.locals)
    (hws : ∀ w ∈ ws, ∀ a' U, s.WarmedH U.vm → w.before a' U = true) (hcode : Cond.code y bytes maxL ret ∈ ws) (hinit : ∀ a' U, s.WarmedH U.vm → (Cond.initialized y.cls).before a' U = true) :
    vx_Back l R p e below s sargs y len W9 (j_Pre R rm Pc) (j_Pst QR free) (j_PsX XC free) := by
  intro m meth c A g ig mk a X hg hsize hdg hW hn hp
  have h1 : (headSpec ws rm).pre.before a A.U = true := atoms_intro fun w hw => hws w hw _ _ X.warmed
  have h2 : (Cond.code y bytes maxL ret).before a A.U = true := hws _ hcode _ _ X.warmed
  have h3 : (Cond.initialized y.cls).before a A.U = true := hinit _ _ X.warmed
  have h4 : A.cells + (headSpec ws rm).room.cells ≤ R.cells := hp.1
  have h5 : A.slots + (headSpec ws rm).room.slots ≤ R.slots := hp.2.1
  have hPc : Pc a (A.U.calling g mk a) := hblind _ _ _ _ hp.2.2
  obtain ⟨U, Ls, c0, s0⟩ := A
  dsimp only [Pt.U, Pt.locs, Pt.cells, Pt.slots] at h1 h2 h3 h4 h5 X hn hPc ⊢
  obtain ⟨methY, cY, hmY, hcY, -, hlY, -, -, -, -⟩ := Cond.code_spec hn h2
  obtain ⟨kY, hkY, -⟩ := className_of_methodNamed hn
  have hinitY : kY.init = .initialized := Cond.initialized_spec (findClass_of_methodNamed hn) hkY h3
  have h : At U g.method c below := by rw [hg]; exact X.here
  have hlocals9 : W9 + (maxL + 11) + (headSpec ws rm).room.locals ≤ R.locals := hlocals
  have happ : (headSpec ws rm).appliesLoose y e.platform (U.calling g mk a) = true :=
    Spec.appliesLoose_calling (g := g) h hdg hn hkY hinitY
      (X.room_calling (g := g) (R' := (headSpec ws rm).room) hsize hmY hcY hframes (by rw [hlY]; omega) h4 h5) h1
  obtain ⟨mid, hmid⟩ := h.above
  have hfr : (U.setTop g).frames = (.java g :: mid) ++ below := by rw [State.frames_setTop' g h.top, hmid]; rfl
  obtain ⟨o, s₂, hsteps, -, hend, hq⟩ := Steps.callFree hM p X.admits X.cas X.clock (acts := []) hfr happ hPc trivial
  have hq' : j_QQ QR XC free a (U.calling g mk a) o s₂ := hq
  rw [State.frames_setTop' g h.top] at hend
  obtain ⟨g₀, hg0⟩ := Option.isSome_iff_exists.mp h.top
  obtain ⟨r, hr⟩ := State.topJava?_eq_some.mp hg0
  have hr' : (({ U with heap := s₂.heap, slotsUsed := s₂.slotsUsed } : State).setVm s₂.vm).frames = .java g₀ :: r := hr
  rcases hq' with ⟨v, mc, ms, L, rfl, hqc, hfe, hL⟩ | ⟨q, mc, ms, E, ce, L, rfl, hx, hce, hcv, hcl, hW₂, hsm, hL⟩
  · obtain ⟨-, hW₂, e2, q2, q3, q4, q5, q6⟩ := id hfe
    have e3 : s₂ = ({ (U.calling g mk a).setFrames s₂.frames with heap := s₂.heap, slotsUsed := s₂.slotsUsed } : State).setVm s₂.vm := by
      have : s₂ = ({ s₂ with vm := (U.calling g mk a).vm } : State).setVm s₂.vm := rfl
      rw [e2] at this
      exact this
    obtain ⟨c₂, i₂, len₂, hc₂, hd₂, hf₂⟩ := hend
    have hW' : U.WarmedH s₂.vm := hW₂
    have hcc : c₂ = c := by
      have h1 : s₂.code? g.method = U.code? g.method := by
        rw [State.code?_eq, State.code?_eq, hW'.alike.method?]
      exact Option.some.inj (hc₂.symm.trans (h1.trans h.code))
    subst hcc
    have hlen : len₂ = len := by rw [hdg] at hd₂; cases hd₂; rfl
    subst hlen
    have hs₂ : s₂ = (({ U with heap := s₂.heap, slotsUsed := s₂.slotsUsed } : State).setVm s₂.vm).setTop { g with pc := g.pc + len₂, stack := v.toList ++ g.stack } := by
      refine e3.trans ?_
      rw [hf₂, State.calling_eq h.top, State.setFrames_setFrames, State.setTop_of_frames _ hr', hr]
      rfl
    have hsame : U.sameButNew ({ U with heap := s₂.heap, slotsUsed := s₂.slotsUsed } : State) L mc ms := by
      refine ⟨?_, q2, q3, q4, q5, q6⟩
      obtain ⟨t, ht, -⟩ := State.frames_cons hr
      show ({ U with heap := s₂.heap, slotsUsed := s₂.slotsUsed } : State) = { U.setFrames U.frames with heap := s₂.heap, slotsUsed := s₂.slotsUsed }
      rw [State.setFrames_self ht]
    subst hg
    refine Or.inl ⟨v, ⟨(({ U with heap := s₂.heap, slotsUsed := s₂.slotsUsed } : State).setVm s₂.vm), Ls ++ L, c0 + mc, s0 + ms⟩,
      ⟨X.admits, X.cas, X.clock, X.frames, X.room, X.hears, X.method, X.code, (X.here.setHeapUsed s₂.heap s₂.slotsUsed).setVm hW'.alike, X.tail, State.WarmedH.trans X.warmed hW', X.limits, X.bytes, X.same.trans (hsame.setVm s.vm)⟩,
      ⟨g, mk, s₂, L, mc, ms, rfl, rfl, hqc, rfl, hL, rfl, rfl⟩, ?_⟩
    show Steps p.tables e below _ ((({ U with heap := s₂.heap, slotsUsed := s₂.slotsUsed } : State).setVm s₂.vm).setTop { g with pc := g.pc + len₂, stack := v.toList ++ g.stack })
    rw [← hs₂]
    exact hsteps
  · obtain ⟨e2, q2, q3, q4, q5, q6⟩ := id hsm
    have e3 : s₂ = ({ (U.calling g mk a).setFrames s₂.frames with heap := s₂.heap, slotsUsed := s₂.slotsUsed } : State).setVm s₂.vm := by
      have : s₂ = ({ s₂ with vm := (U.calling g mk a).vm } : State).setVm s₂.vm := rfl
      rw [e2] at this
      exact this
    have hf₂ : s₂.frames = .throwing q :: .java g :: U.frames.tail := hend
    have hW' : U.WarmedH s₂.vm := hW₂
    have hs₂ : s₂ = ((({ U with heap := s₂.heap, slotsUsed := s₂.slotsUsed } : State).setVm s₂.vm).setTop g).pushFrame (.throwing q) := by
      refine e3.trans ?_
      rw [hf₂, State.calling_eq h.top, State.setFrames_setFrames, State.pushFrame, State.frames_setTop _ hr', State.setTop_of_frames _ hr', State.setFrames_setFrames, hr]
      rfl
    have hsame : U.sameButNew ({ U with heap := s₂.heap, slotsUsed := s₂.slotsUsed } : State) L mc ms := by
      refine ⟨?_, q2, q3, q4, q5, q6⟩
      obtain ⟨t, ht, -⟩ := State.frames_cons hr
      show ({ U with heap := s₂.heap, slotsUsed := s₂.slotsUsed } : State) = { U.setFrames U.frames with heap := s₂.heap, slotsUsed := s₂.slotsUsed }
      rw [State.setFrames_self ht]
    subst hg
    refine Or.inr ⟨q, ⟨(({ U with heap := s₂.heap, slotsUsed := s₂.slotsUsed } : State).setVm s₂.vm), Ls ++ L, c0 + mc, s0 + ms⟩,
      ⟨X.admits, X.cas, X.clock, X.frames, X.room, X.hears, X.method, X.code, (X.here.setHeapUsed s₂.heap s₂.slotsUsed).setVm hW'.alike, X.tail, State.WarmedH.trans X.warmed hW', X.limits, X.bytes, X.same.trans (hsame.setVm s.vm)⟩,
      ⟨g, mk, s₂, L, E, ce, mc, ms, rfl, rfl, hx, hce, hcv, hcl, rfl, hL, rfl, rfl⟩, ?_⟩
    show Steps p.tables e below _ (((({ U with heap := s₂.heap, slotsUsed := s₂.slotsUsed } : State).setVm s₂.vm).setTop g).pushFrame (.throwing q))
    rw [← hs₂]
    exact hsteps
end JPayer
end
section
section VXIA
variable {p : Program} {l : Launch} {e : Env} {R : Room} {s : State} {m : MethodId} {args : Array Value} {below : List Frame} {meth : Method} {c : Code} {T : State} {locs : List Loc} {cells slots : Nat}
theorem vx_callI (X : Stand p l e R s m args below meth c T locs cells slots) (hexec : p.tables.exec = Jvm.exec) {own : String} {index : Nat} {y : MethodName} {bytes : ByteArray} {maxL : Nat}
    (hown : s.vm.findClass own = some m.cls) (hy1 : y.name = "<init>") (hlink : (Cond.methodLink own index y).before args s = true) (hinst : (Cond.instanceMethod y).before args s = true)
    (hcode : (Cond.code y bytes maxL none).before args s = true) (hy : y.cls ≠ "java/lang/invoke/MethodHandle" ∧ y.cls ≠ "java/lang/invoke/VarHandle")
    {W9 : Nat} {Pre : Pt → Array Value → Prop} {Post : Pt → Array Value → Option Value → Pt → Prop} {PostX : Pt → Array Value → Addr → Pt → Prop} (hK : vx_Back l R p e below s args y 3 W9 Pre Post PostX)
    {g : JFrame} (hg : g.method = m) (hsize : g.locals.size = c.maxLocals) {a : Addr} {argsL rest : List Value} (hlen : ∀ sig, parseMethodDescriptor y.desc = some sig → argsL.length = sig.parameters.length)
    (hstack : g.stack = argsL.reverse ++ .ref a :: rest) (hW : 2 * g.monitorRoom + (rest.map fun v => v.category).sum ≤ W9) (hdg : decode c.code g.pc = .ok (.invokespecial index, 3))
    (hpre : ∀ vm₁, s.WarmedH vm₁ → Pre ⟨T.setVm vm₁, locs, cells, slots⟩ (Value.ref a :: argsL).toArray) :
    (∃ (v : Option Value) (vm₁ : Vm) (B : Pt), s.WarmedH vm₁ ∧ Stand p l e R s m args below meth c B.U B.locs B.cells B.slots ∧ Post ⟨T.setVm vm₁, locs, cells, slots⟩ (Value.ref a :: argsL).toArray v B ∧
      ∀ target, Steps p.tables e below (B.U.setTop { g with pc := g.pc + 3, stack := v.toList ++ rest }) target → Steps p.tables e below (T.setTop g) target) ∨
    (∃ (q : Addr) (vm₁ : Vm) (B : Pt), s.WarmedH vm₁ ∧ Stand p l e R s m args below meth c B.U B.locs B.cells B.slots ∧ PostX ⟨T.setVm vm₁, locs, cells, slots⟩ (Value.ref a :: argsL).toArray q B ∧
      Steps p.tables e below (T.setTop g) ((B.U.setTop { g with stack := rest }).pushFrame (.throwing q))) := by
  subst hg
  have hpl : e.platform.magicAccessors = ({} : Platform).magicAccessors := by rw [X.admits.platform]
  obtain ⟨mk, methM, cM, kP, vm₁, hnamed, hmethM, hcodeM, -, hlocalsM, -, hkP, -, hW₁, hstep₁⟩ := Steps.initColdArgs (e := e) X.here hexec X.warmed hpl hown hy1 hy hlink hinst hcode (f := g) rfl hlen hstack hdg
  have X₁ := X.noted hW₁
  rcases hK g.method meth c ⟨T.setVm vm₁, locs, cells, slots⟩ { g with stack := rest } (.invokespecial index) mk (Value.ref a :: argsL).toArray X₁ rfl hsize hdg hW (X₁.named hnamed) (hpre vm₁ X₁.warmed) with ⟨v, B, X', hpost, hsteps⟩ | ⟨q, B, X', hpost, hsteps⟩
  · exact Or.inl ⟨v, vm₁, B, X₁.warmed, X', hpost, fun target h => hstep₁ _ fun acts => by rw [doInvoke_state]; exact hsteps.trans h⟩
  · exact Or.inr ⟨q, vm₁, B, X₁.warmed, X', hpost, hstep₁ _ fun acts => by rw [doInvoke_state]; exact hsteps⟩
end VXIA
/-! ===== the contract of a method no. k, at a heap ===== -/
/-- the words that last -/
def j_tbl : List Cond := lw_tbl.filter goodWord
theorem j_tbl_good {w : Cond} (h : w ∈ j_tbl) : (w.onTables && w.keeps) = true ∨ ∃ ty, w = .arrayClass ty := good_of_word (List.mem_filter.mp h).2
def j_A (bs : Nat) : Nat → Prop := fun q => bs ≤ q
def j_exn : Nat → String
  | 0 => "java/util/NoSuchElementException"
  | _ => "java/lang/IllegalArgumentException"
def j_room (d : Nat) (E : j_E) (h : j_H) : Room := { frames := d + 8, cells := E.2.1 - j_c h, slots := E.2.2 - j_k h, locals := 64 * d + 120 }
def j_env (D : va_G) (bs : Nat) (E : j_E) (U : State) : Prop := va_K D j_cl [] U ∧ (∀ (i : Nat) (z : String × Nat × String), j_strs[i]? = some z → vk_R z.1 z.2.1 z.2.2 (E.1 i) U) ∧ vx_Zq Bundle.tN "UNASSIGNED_STACK" Bundle.steD (j_A bs) U U.heap ∧ vx_Zq Bundle.tN "SUPPRESSED_SENTINEL" Bundle.listD (j_A bs) U U.heap ∧ va_AO "PacketScheduler$Link" U ∧ va_AO "java/lang/String" U
theorem j_env_moved {D : va_G} {bs : Nat} {E : j_E} {u U : State} (h : j_env D bs E u) (hW : u.WarmedH U.vm) (hk : ∀ a : Nat, a < u.heap.size → ¬ j_A bs a → U.heap[a]? = u.heap[a]?) : j_env D bs E U :=
  ⟨va_K.moved hW.alike h.1, fun i z hz => vk_R.warm hW (h.2.1 i z hz), (h.2.2.1.moved hW.alike).kept hk, (h.2.2.2.1.moved hW.alike).kept hk, h.2.2.2.2.1.moved hW.alike, h.2.2.2.2.2.moved hW.alike⟩
def j_cn (E : j_E) (h0 h : j_H) : Prop := j_c h0 ≤ j_c h ∧ j_c h ≤ E.2.1 ∧ j_k h0 ≤ j_k h ∧ j_k h ≤ E.2.2
def j_Pc (D : va_G) (bs : Nat) (E : j_E) (as : List Value) (h : j_H) : Array Value → State → Prop := fun v U => v = as.toArray ∧ j_env D bs E U ∧ j_rep D bs U h U.heap
def j_QR (D : va_G) (bs : Nat) (E : j_E) (h : j_H) (post : j_O → j_H → Prop) : Array Value → State → Option Value → State → Nat → Nat → Prop := fun _ st v t mc ms => ∃ h' : j_H, post (.inl v) h' ∧ j_rep D bs t h' t.heap ∧ va_F (j_A bs) st t ∧ j_cn E h h' ∧ mc = j_c h' - j_c h ∧ ms = j_k h' - j_k h
def j_XC (D : va_G) (bs : Nat) (E : j_E) (h : j_H) (post : j_O → j_H → Prop) : String → State → State → Nat → Nat → Prop := fun X st t mc ms => ∃ (x : Nat) (h' : j_H), X = j_exn x ∧ post (.inr x) h' ∧ j_rep D bs t h' t.heap ∧ va_F (j_A bs) st t ∧ j_cn E h h' ∧ mc = j_c h' - j_c h ∧ ms = j_k h' - j_k h
abbrev j_Mi : Type := MethodName × ByteArray × Nat × Option FieldType × Nat
def j_Met (l : Launch) (D : va_G) (bs : Nat) (E : j_E) (d : Nat) : j_Cal := fun k as h post => ∃ mi : j_Mi, j_mt[k]? = some mi ∧ (mi.2.2.2.2 < 90 → ∃ (a : Nat) (r : List Value), as = .ref a :: r ∧ j_sh h a = some (.inr mi.2.2.2.2)) ∧ j_c h ≤ E.2.1 ∧ j_k h ≤ E.2.2 ∧
  MetFree l mi.1 (headSpec (Cond.code mi.1 mi.2.1 mi.2.2.1 mi.2.2.2.1 :: j_tbl) (j_room d E h)) (j_Pc D bs E as h) (fun _ _ _ _ _ => True) (j_QQ (j_QR D bs E h post) (j_XC D bs E h post) (j_A bs))
theorem j_Pc_blind {D : va_G} {bs : Nat} {E : j_E} {as : List Value} {h : j_H} : FrameBlind (j_Pc D bs E as h) := by
  intro a U g mk q
  obtain ⟨q1, ⟨q2, q3, q4, q5, q7, q8⟩, q6⟩ := q
  exact ⟨q1, ⟨va_K.moved (u := U) (U := U.calling g mk a) (Vm.Alike.refl U.vm) q2, fun i z hz => vk_R.same (u := U) rfl (q3 i z hz), vx_Zq.moved (u := U) (U := U.calling g mk a) (Vm.Alike.refl U.vm) q4, vx_Zq.moved (u := U) (U := U.calling g mk a) (Vm.Alike.refl U.vm) q5, va_AO.moved (u := U) (U := U.calling g mk a) (Vm.Alike.refl U.vm) q7, va_AO.moved (u := U) (U := U.calling g mk a) (Vm.Alike.refl U.vm) q8⟩, j_rep_moved (u := U) (Vm.Alike.refl U.vm) q6⟩
theorem j_QQ_mono {D : va_G} {bs : Nat} {E : j_E} {h : j_H} {P Q : j_O → j_H → Prop} (hPQ : ∀ o h', P o h' → Q o h') {a : Array Value} {st t : State} {o : Outcome} (q : j_QQ (j_QR D bs E h P) (j_XC D bs E h P) (j_A bs) a st o t) : j_QQ (j_QR D bs E h Q) (j_XC D bs E h Q) (j_A bs) a st o t := by
  rcases q with ⟨v, mc, ms, L, q1, ⟨h', g1, g2⟩, q2⟩ | ⟨q, mc, ms, X, ce, L, q1, ⟨x, h', g0, g1, g2⟩, q2⟩
  · exact Or.inl ⟨v, mc, ms, L, q1, ⟨h', hPQ _ _ g1, g2⟩, q2⟩
  · exact Or.inr ⟨q, mc, ms, X, ce, L, q1, ⟨x, h', g0, hPQ _ _ g1, g2⟩, q2⟩
/-! ===== a method's body ===== -/
section JBody
variable {p : Program} {l : Launch} {e : Env} {R : Room} {s : State} {m : MethodId} {args : Array Value} {below : List Frame} {meth : Method} {c : Code}
variable {D : va_G} {bs : Nat} {E : j_E} {h0 : j_H} {d : Nat} {own : String} {cc : ByteArray} {nL : Nat} {ret : Option FieldType}
/-- what holds in the body: nothing of it changes -/
def j_Ctx (p : Program) (l : Launch) (R : Room) (s : State) (m : MethodId) (args : Array Value) (meth : Method) (c : Code) (D : va_G) (bs : Nat) (E : j_E) (h0 : j_H) (d : Nat) (own : String) (cc : ByteArray) (nL : Nat) (ret : Option FieldType) : Prop :=
  p.tables.exec = Jvm.exec ∧ c.code = cc ∧ c.maxLocals = nL ∧ meth.sig.returnType = ret ∧ s.vm.findClass own = some m.cls ∧ (∀ w ∈ j_tbl, w.before args s = true) ∧ j_env D bs E s ∧ R = j_room (d + 1) E h0 ∧ meth.locks = false ∧ (∀ x ∈ c.exceptionTable.toList, False) ∧ l.stackTraces = false ∧ bs ≤ s.heap.size
def j_W (p : Program) (l : Launch) (e : Env) (R : Room) (s : State) (m : MethodId) (args : Array Value) (below : List Frame) (meth : Method) (c : Code) (D : va_G) (bs : Nat) (E : j_E) (h0 : j_H) (nL : Nat) (QQ : State → Prop) : j_G := fun pc lv st h =>
  ∀ (ls : Array Slot) (H : Heap) (locs : List Loc), lv_has ls nL (j_as 0 lv) → j_rep D bs s h H → va_S (j_A bs) s.heap H locs → j_cn E h0 h → W p l e R s m args below meth c H locs (j_c h - j_c h0) (j_k h - j_k h0) QQ (F0 m pc ls st)
/-- what the body owes at its end -/
def j_MQ (below : List Frame) (D : va_G) (bs : Nat) (E : j_E) (h0 : j_H) (post : j_O → j_H → Prop) (args : Array Value) (s : State) : State → Prop := fun t => ∃ o, t.status = .running ∧ Ended t below o ∧ j_QQ (j_QR D bs E h0 post) (j_XC D bs E h0 post) (j_A bs) args s o t
theorem j_Wimp {H : Heap} {locs : List Loc} {cells slots : Nat} {Q Q' : State → Prop} {g : JFrame} (h : ∀ t, Q t → Q' t) (k : W p l e R s m args below meth c H locs cells slots Q g) : W p l e R s m args below meth c H locs cells slots Q' g := by
  intro T hT X
  obtain ⟨t, a, b⟩ := k T hT X
  exact ⟨t, a, h t b⟩
/-- the end by a return: what the row gives is what the body owes -/
theorem j_fin {post : j_O → j_H → Prop} {h : j_H} {H : Heap} {locs : List Loc} {v : Option Value} (hR : j_rep D bs s h H) (hS : va_S (j_A bs) s.heap H locs) (hc : j_cn E h0 h) (hp : post (.inl v) h) (t : State)
    (q : MQ below (fun _ _ o t => o = .returned v ∧ t.heap = H ∧ s.WarmedH t.vm) args s (j_c h - j_c h0) (j_k h - j_k h0) (j_A bs) t) : j_MQ below D bs E h0 post args s t := by
  obtain ⟨o, q1, q2, ⟨rfl, q3, q4⟩, L, q5, q6⟩ := q
  exact ⟨_, q1, q2, Or.inl ⟨v, _, _, L, rfl, ⟨h, hp, by rw [q3]; exact j_rep_moved q4.alike hR, hS.F q3, hc, rfl, rfl⟩, q5, q6⟩⟩
end JBody
end
section
/-! ===== calls in a body ===== -/
section JCall
variable {p : Program} {l : Launch} {e : Env} {R : Room} {s : State} {m : MethodId} {args : Array Value} {below : List Frame} {meth : Method} {c : Code}
variable {D : va_G} {bs : Nat} {E : j_E} {h0 : j_H} {d : Nat} {own : String} {cc : ByteArray} {nL : Nat} {ret : Option FieldType}
theorem j_after (X : j_Ctx p l R s m args meth c D bs E h0 d own cc nL ret) {Q PP : j_O → j_H → Prop} {h : j_H} {H : Heap} {locs : List Loc} {ls : Array Slot} {lv st0 rest : List Value} {pc : Nat} {a : Array Value} (hl : lv_has ls nL (j_as 0 lv)) (hS : va_S (j_A bs) s.heap H locs) (hcn : j_cn E h0 h)
    (hk : ∀ v h', PP (.inl v) h' → j_W p l e R s m args below meth c D bs E h0 nL (j_MQ below D bs E h0 Q args s) (pc + 3) lv (v.toList ++ rest) h') (hx : ∀ x h', PP (.inr x) h' → Q (.inr x) h')
    {T : State} (hT : T.heap = H)
    (hd : (∃ (v : Option Value) (vm₁ : Vm) (B : Pt), s.WarmedH vm₁ ∧ Stand p l e R s m args below meth c B.U B.locs B.cells B.slots ∧ j_Pst (j_QR D bs E h PP) (j_A bs) ⟨T.setVm vm₁, locs, j_c h - j_c h0, j_k h - j_k h0⟩ a v B ∧
        ∀ target, Steps p.tables e below (B.U.setTop { F0 m pc ls st0 with pc := (F0 m pc ls st0).pc + 3, stack := v.toList ++ rest }) target → Steps p.tables e below (T.setTop (F0 m pc ls st0)) target) ∨
      (∃ (q : Addr) (vm₁ : Vm) (B : Pt), s.WarmedH vm₁ ∧ Stand p l e R s m args below meth c B.U B.locs B.cells B.slots ∧ j_PsX (j_XC D bs E h PP) (j_A bs) ⟨T.setVm vm₁, locs, j_c h - j_c h0, j_k h - j_k h0⟩ a q B ∧
        Steps p.tables e below (T.setTop (F0 m pc ls st0)) ((B.U.setTop { F0 m pc ls st0 with stack := rest }).pushFrame (.throwing q)))) :
    ∃ t, Steps p.tables e below (T.setTop (F0 m pc ls st0)) t ∧ j_MQ below D bs E h0 Q args s t := by
  obtain ⟨hex, hb, hml, hr, hown, hts, henv, hRm, hlocks, htab, hst, hbs⟩ := X
  rcases hd with ⟨v, vm₁, ⟨U', l2, c2, s2⟩, hW₁, X', ⟨g', mk, t, L, mc, ms, e1, e2, ⟨h', hp, hrp, hF, hcn', hm1, hm2⟩, h1, hL, h2, h3⟩, st⟩ | ⟨q, vm₁, ⟨U', l2, c2, s2⟩, hW₁, X', ⟨g', mk, t, L, Z, ce, mc, ms, e1, e2, ⟨x, h', hZ, hp, hrp, hF, hcn', hm1, hm2⟩, hce, hcv, hcl, h1, hL, h2, h3⟩, st⟩
  · dsimp only [Pt.U, Pt.locs, Pt.cells, Pt.slots] at X' e1 e2 h1 h2 h3 st
    subst h1
    have k3 := (vx_keep (st₀ := (T.setVm vm₁).calling g' mk a) (t := t) (T' := U') (H := H) (A0 := j_A bs) (A1 := j_A bs) (free := j_A bs) hT e1 hS (fun _ _ z => z) (fun _ z => z) hL hF).2.2
    have hc2 : c2 = j_c h' - j_c h0 := by obtain ⟨a1, a2, a3, a4⟩ := hcn; obtain ⟨b1, b2, b3, b4⟩ := hcn'; omega
    have hs2 : s2 = j_k h' - j_k h0 := by obtain ⟨a1, a2, a3, a4⟩ := hcn; obtain ⟨b1, b2, b3, b4⟩ := hcn'; omega
    subst hc2; subst hs2
    have hal : t.vm.Alike s.vm := by rw [← e2]; exact X'.warmed.alike.symm
    obtain ⟨t2, a1, b1⟩ := hk v h' hp ls U'.heap (locs ++ L) hl (by rw [e1]; exact j_rep_moved hal hrp) k3 ⟨Nat.le_trans hcn.1 hcn'.1, hcn'.2.1, Nat.le_trans hcn.2.2.1 hcn'.2.2.1, hcn'.2.2.2⟩ U' rfl X'
    exact ⟨t2, st t2 a1, b1⟩
  · dsimp only [Pt.U, Pt.locs, Pt.cells, Pt.slots] at X' e1 e2 h1 h2 h3 st hcl
    subst h1
    have k3 := (vx_keep (st₀ := (T.setVm vm₁).calling g' mk a) (t := t) (T' := U') (H := H) (A0 := j_A bs) (A1 := j_A bs) (free := j_A bs) hT e1 hS (fun _ _ z => z) (fun _ z => z) hL hF).2.2
    have hc2 : c2 = j_c h' - j_c h0 := by obtain ⟨a1, a2, a3, a4⟩ := hcn; obtain ⟨b1, b2, b3, b4⟩ := hcn'; omega
    have hs2 : s2 = j_k h' - j_k h0 := by obtain ⟨a1, a2, a3, a4⟩ := hcn; obtain ⟨b1, b2, b3, b4⟩ := hcn'; omega
    subst hc2; subst hs2
    have hal : t.vm.Alike s.vm := by rw [← e2]; exact X'.warmed.alike.symm
    have hrp' : j_rep D bs s h' U'.heap := by rw [e1]; exact j_rep_moved hal hrp
    have hcn2 : j_cn E h0 h' := ⟨Nat.le_trans hcn.1 hcn'.1, hcn'.2.1, Nat.le_trans hcn.2.2.1 hcn'.2.2.1, hcn'.2.2.2⟩
    have ko := vx_out (p := p) (l := l) (e := e) (R := R) (s := s) (m := m) (args := args) (below := below) (meth := meth) (c := c) (H := U'.heap) (locs := locs ++ L) (cells := j_c h' - j_c h0) (slots := j_k h' - j_k h0) (free := j_A bs) (ls := ls) (rest := rest) (pc := pc) (E := Z) (ce := ce) (q := q) (mc := j_c h' - j_c h0) (ms := j_k h' - j_k h0)
      (Qc := fun _ _ _ _ => False) (XC := fun Z' _ t' => Z' = Z ∧ t'.heap = U'.heap ∧ s.vm.Alike t'.vm) (fun z hz => absurd hz (htab z)) hlocks (by rw [e1]; exact hce) hcv (vx_cls hW₁ hcl) (fun t' g1 g2 => ⟨rfl, g1, g2⟩) (fun z hz => k3.2.2 z hz) (Nat.le_refl _) (Nat.le_refl _)
    obtain ⟨t2, a1, o, b1, b2, b3⟩ := ko U' rfl X'
    refine ⟨t2, st.trans a1, o, b1, b2, Or.inr ?_⟩
    rcases b3 with ⟨ff, -⟩ | ⟨q2, rfl, E2, ce2, L2, ⟨rfl, g1, g2⟩, g3, g4, g5, g6, g7, g8⟩
    · exact ff.elim
    · exact ⟨q2, _, _, E2, ce2, L2, rfl, ⟨x, h', hZ, hx _ _ hp, by rw [g1]; exact j_rep_moved g2 hrp', ⟨by rw [g1]; exact k3.1, fun z z1 z2 => by rw [g1]; exact k3.2.1 z z1 z2⟩, hcn2, rfl, rfl⟩, g3, g4, g5, g6, g7, g8⟩
/-- what a call in the body needs, by the words -/
theorem j_bk (X : j_Ctx p l R s m args meth c D bs E h0 d own cc nL ret) {PP : j_O → j_H → Prop} {h : j_H} {as : List Value} {mi : j_Mi} (hM : MetFree l mi.1 (headSpec (Cond.code mi.1 mi.2.1 mi.2.2.1 mi.2.2.2.1 :: j_tbl) (j_room d E h)) (j_Pc D bs E as h) (fun _ _ _ _ _ => True) (j_QQ (j_QR D bs E h PP) (j_XC D bs E h PP) (j_A bs)))
    (hmx : mi.2.2.1 ≤ 45) (hc : Cond.code mi.1 mi.2.1 mi.2.2.1 mi.2.2.2.1 ∈ j_tbl) (hi : Cond.initialized mi.1.cls ∈ j_tbl) :
    vx_Back l R p e below s args mi.1 3 8 (j_Pre R (j_room d E h) (j_Pc D bs E as h)) (j_Pst (j_QR D bs E h PP) (j_A bs)) (j_PsX (j_XC D bs E h PP) (j_A bs)) := by
  obtain ⟨hex, hb, hml, hr, hown, hts, henv, hRm, hlocks, htab, hst, hbs⟩ := X
  refine j_back (bytes := mi.2.1) (maxL := mi.2.2.1) (ret := mi.2.2.2.1) hM j_Pc_blind ?_ ?_ ?_ List.mem_cons_self ?_
  · rw [hRm]; simp only [j_room]; omega
  · rw [hRm]; simp only [j_room]; omega
  · intro w hw a' U hW
    rcases List.mem_cons.mp hw with rfl | hw
    · exact word_at hW (j_tbl_good hc) (hts _ hc)
    · exact word_at hW (j_tbl_good hw) (hts _ hw)
  · intro a' U hW
    exact word_at hW (j_tbl_good hi) (hts _ hi)
theorem j_pre (X : j_Ctx p l R s m args meth c D bs E h0 d own cc nL ret) {h : j_H} {as : List Value} {H : Heap} {locs : List Loc} (hR : j_rep D bs s h H) (hS : va_S (j_A bs) s.heap H locs) (hcn : j_cn E h0 h) {T : State} (hT : T.heap = H) (vm₁ : Vm) (hW : s.WarmedH vm₁) :
    j_Pre R (j_room d E h) (j_Pc D bs E as h) ⟨T.setVm vm₁, locs, j_c h - j_c h0, j_k h - j_k h0⟩ as.toArray := by
  obtain ⟨hex, hb, hml, hr, hown, hts, henv, hRm, hlocks, htab, hst, hbs⟩ := X
  obtain ⟨a1, a2, a3, a4⟩ := hcn
  refine ⟨?_, ?_, rfl, ?_, ?_⟩
  · rw [hRm]
    show (j_c h - j_c h0) + (E.2.1 - j_c h) ≤ E.2.1 - j_c h0
    omega
  · rw [hRm]
    show (j_k h - j_k h0) + (E.2.2 - j_k h) ≤ E.2.2 - j_k h0
    omega
  · refine j_env_moved (U := T.setVm vm₁) henv hW (fun a ha hn => ?_)
    show T.heap[a]? = _
    rw [hT]
    exact hS.2.1 a ha hn
  · show j_rep D bs (T.setVm vm₁) h T.heap
    rw [hT]
    exact j_rep_moved hW.alike hR
theorem j_cat {r : List Value} (h : j_cw r = true) : (r.map fun v => v.category).sum ≤ 8 := by
  have hc : ∀ v : Value, v.category ≤ 2 := fun v => by cases v <;> simp [Value.category]
  match r, h with
  | [], _ => simp
  | [a], _ => have := hc a; simp; omega
  | [a, b], _ => have := hc a; have := hc b; simp; omega
  | [a, b, x], _ => have := hc a; have := hc b; have := hc x; simp; omega
  | [a, b, x, y], _ => have := hc a; have := hc b; have := hc x; have := hc y; simp; omega
  | _ :: _ :: _ :: _ :: _ :: _, h => cases h
theorem j_few_iff {r : List Value} {P : Prop} : j_few r P ↔ j_cw r = true ∧ P := by
  unfold j_few
  cases j_cw r <;> simp
/-- the words of a virtual call hold, the receiver is of the method's class -/
theorem j_callV (X : j_Ctx p l R s m args meth c D bs E h0 d own cc nL ret) {Q PP : j_O → j_H → Prop} {h : j_H} {lv As rest : List Value} {pc k idx a : Nat} {mi : j_Mi} {r : vw_C} (hC : j_Met l D bs E d k (.ref a :: As) h PP) (hmi : j_mt[k]? = some mi) (hcl : j_cl[mi.2.2.2.2]? = some r)
    (hmx : mi.2.2.1 ≤ 45) (hc : Cond.code mi.1 mi.2.1 mi.2.2.1 mi.2.2.2.1 ∈ j_tbl) (hi : Cond.initialized mi.1.cls ∈ j_tbl) (hlk : Cond.methodLink own idx mi.1 ∈ j_tbl) (hin : Cond.instanceMethod mi.1 ∈ j_tbl) (hse : Cond.selects r.1 mi.1 mi.1 ∈ j_tbl) (hy : mi.1.cls ≠ "java/lang/invoke/MethodHandle" ∧ mi.1.cls ≠ "java/lang/invoke/VarHandle")
    (hn : ∀ sig, parseMethodDescriptor mi.1.desc = some sig → As.length = sig.parameters.length) (hw : j_cw rest = true) (hdg : decode cc pc = .ok (.invokevirtual idx, 3))
    (hk : ∀ v h', PP (.inl v) h' → j_W p l e R s m args below meth c D bs E h0 nL (j_MQ below D bs E h0 Q args s) (pc + 3) lv (v.toList ++ rest) h') (hx : ∀ x h', PP (.inr x) h' → Q (.inr x) h') :
    j_W p l e R s m args below meth c D bs E h0 nL (j_MQ below D bs E h0 Q args s) pc lv (As.reverse ++ .ref a :: rest) h := by
  intro ls H locs hl hR hS hcn T hT XX
  obtain ⟨mi', hmi', hrc, -, -, hM⟩ := hC
  cases Option.some.inj (hmi.symm.trans hmi')
  have hlt : mi.2.2.2.2 < 90 := by
    have := (List.getElem?_eq_some_iff.mp hcl).1
    simp at this
    omega
  obtain ⟨a', r', e1, hsh⟩ := hrc hlt
  have ea : a = a' := by cases e1; rfl
  subst ea
  have hb' := j_bk (e := e) (below := below) X hM hmx hc hi
  obtain ⟨r2, hr2, ce, q1, q2, q3, q4⟩ := j_rep_obj hR hsh
  cases Option.some.inj (hcl.symm.trans hr2)
  have X' := X
  obtain ⟨hex, hb, hml, hr, hown, hts, henv, hRm, hlocks, htab, hst, hbs⟩ := X'
  obtain ⟨-, hfc, -⟩ := henv.1.1 _ _ hcl
  refine j_after X hl hS hcn hk hx hT (vx_callV XX hex (C := r.1) (bytes := mi.2.1) (maxL := mi.2.2.1) (ret := mi.2.2.2.1) hown (hts _ hlk) (hts _ hin) (hts _ hse) (hts _ hc) hy hb' (b := a) (cellB := ce) (by rw [hT]; exact q1) (by rw [q3]; rfl) (by rw [q2]; exact hfc) rfl (hl.1.trans hml.symm) (argsL := As) (rest := rest) hn rfl ?_ (by rw [hb]; exact hdg) (fun vm₁ hW => j_pre X hR hS hcn hT vm₁ hW))
  show 2 * 0 + _ ≤ 8
  have := j_cat hw
  omega
theorem j_callS (X : j_Ctx p l R s m args meth c D bs E h0 d own cc nL ret) {Q PP : j_O → j_H → Prop} {h : j_H} {lv As rest : List Value} {pc k idx : Nat} {mi : j_Mi} (hC : j_Met l D bs E d k As h PP) (hmi : j_mt[k]? = some mi)
    (hmx : mi.2.2.1 ≤ 45) (hc : Cond.code mi.1 mi.2.1 mi.2.2.1 mi.2.2.2.1 ∈ j_tbl) (hi : Cond.initialized mi.1.cls ∈ j_tbl) (hlk : Cond.methodLink own idx mi.1 ∈ j_tbl) (hin : Cond.static mi.1 ∈ j_tbl) (hy : mi.1.cls ≠ "java/lang/invoke/MethodHandle" ∧ mi.1.cls ≠ "java/lang/invoke/VarHandle")
    (hn : ∀ sig, parseMethodDescriptor mi.1.desc = some sig → As.length = sig.parameters.length) (hw : j_cw rest = true) (hdg : decode cc pc = .ok (.invokestatic idx, 3))
    (hk : ∀ v h', PP (.inl v) h' → j_W p l e R s m args below meth c D bs E h0 nL (j_MQ below D bs E h0 Q args s) (pc + 3) lv (v.toList ++ rest) h') (hx : ∀ x h', PP (.inr x) h' → Q (.inr x) h') :
    j_W p l e R s m args below meth c D bs E h0 nL (j_MQ below D bs E h0 Q args s) pc lv (As.reverse ++ rest) h := by
  intro ls H locs hl hR hS hcn T hT XX
  obtain ⟨mi', hmi', -, -, -, hM⟩ := hC
  cases Option.some.inj (hmi.symm.trans hmi')
  have hb' := j_bk (e := e) (below := below) X hM hmx hc hi
  have X' := X
  obtain ⟨hex, hb, hml, hr, hown, hts, henv, hRm, hlocks, htab, hst, hbs⟩ := X'
  refine j_after X hl hS hcn hk hx hT (vx_callS XX hex (bytes := mi.2.1) (maxL := mi.2.2.1) (ret := mi.2.2.2.1) hown (hts _ hlk) (hts _ hin) (hts _ hi) (hts _ hc) hy hb' rfl (hl.1.trans hml.symm) (argsL := As) (rest := rest) hn rfl ?_ (by rw [hb]; exact hdg) (fun vm₁ hW => j_pre X hR hS hcn hT vm₁ hW))
  show 2 * 0 + _ ≤ 8
  have := j_cat hw
  omega
theorem j_callI (X : j_Ctx p l R s m args meth c D bs E h0 d own cc nL ret) {Q PP : j_O → j_H → Prop} {h : j_H} {lv As rest : List Value} {pc k idx a : Nat} {mi : j_Mi} (hC : j_Met l D bs E d k (.ref a :: As) h PP) (hmi : j_mt[k]? = some mi) (hret : mi.2.2.2.1 = none) (hy1 : mi.1.name = "<init>")
    (hmx : mi.2.2.1 ≤ 45) (hc : Cond.code mi.1 mi.2.1 mi.2.2.1 mi.2.2.2.1 ∈ j_tbl) (hi : Cond.initialized mi.1.cls ∈ j_tbl) (hlk : Cond.methodLink own idx mi.1 ∈ j_tbl) (hin : Cond.instanceMethod mi.1 ∈ j_tbl) (hy : mi.1.cls ≠ "java/lang/invoke/MethodHandle" ∧ mi.1.cls ≠ "java/lang/invoke/VarHandle")
    (hn : ∀ sig, parseMethodDescriptor mi.1.desc = some sig → As.length = sig.parameters.length) (hw : j_cw rest = true) (hdg : decode cc pc = .ok (.invokespecial idx, 3))
    (hk : ∀ v h', PP (.inl v) h' → j_W p l e R s m args below meth c D bs E h0 nL (j_MQ below D bs E h0 Q args s) (pc + 3) lv (v.toList ++ rest) h') (hx : ∀ x h', PP (.inr x) h' → Q (.inr x) h') :
    j_W p l e R s m args below meth c D bs E h0 nL (j_MQ below D bs E h0 Q args s) pc lv (As.reverse ++ .ref a :: rest) h := by
  intro ls H locs hl hR hS hcn T hT XX
  obtain ⟨mi', hmi', -, -, -, hM⟩ := hC
  cases Option.some.inj (hmi.symm.trans hmi')
  have hb' := j_bk (e := e) (below := below) X hM hmx hc hi
  have X' := X
  obtain ⟨hex, hb, hml, hr, hown, hts, henv, hRm, hlocks, htab, hst, hbs⟩ := X'
  refine j_after X hl hS hcn hk hx hT (vx_callI XX hex (bytes := mi.2.1) (maxL := mi.2.2.1) hown hy1 (hts _ hlk) (hts _ hin) (by rw [← hret]; exact hts _ hc) hy hb' rfl (hl.1.trans hml.symm) (a := a) (argsL := As) (rest := rest) hn rfl ?_ (by rw [hb]; exact hdg) (fun vm₁ hW => j_pre X hR hS hcn hT vm₁ hW))
  show 2 * 0 + _ ≤ 8
  have := j_cat hw
  omega
end JCall
end
section
/-! ===== the machine follows: instructions that touch no heap ===== -/
section JInv
theorem j_i1_inv {st : List Value} {k : Int32 → List Value → Prop} (h : j_i1 st k) : ∃ (a : Int32) (r : List Value), st = .int a :: r ∧ k a r := by
  unfold j_i1 at h
  split at h
  · exact ⟨_, _, rfl, h⟩
  · exact h.elim
theorem j_i2_inv {st : List Value} {k : Int32 → Int32 → List Value → Prop} (h : j_i2 st k) : ∃ (a b : Int32) (r : List Value), st = .int b :: .int a :: r ∧ k a b r := by
  unfold j_i2 at h
  split at h
  · exact ⟨_, _, _, rfl, h⟩
  · exact h.elim
theorem j_l1_inv {st : List Value} {k : Int64 → List Value → Prop} (h : j_l1 st k) : ∃ (a : Int64) (r : List Value), st = .long a :: r ∧ k a r := by
  unfold j_l1 at h
  split at h
  · exact ⟨_, _, rfl, h⟩
  · exact h.elim
theorem j_l2_inv {st : List Value} {k : Int64 → Int64 → List Value → Prop} (h : j_l2 st k) : ∃ (a b : Int64) (r : List Value), st = .long b :: .long a :: r ∧ k a b r := by
  unfold j_l2 at h
  split at h
  · exact ⟨_, _, _, rfl, h⟩
  · exact h.elim
theorem j_li_inv {st : List Value} {k : Int64 → Int32 → List Value → Prop} (h : j_li st k) : ∃ (a : Int64) (b : Int32) (r : List Value), st = .int b :: .long a :: r ∧ k a b r := by
  unfold j_li at h
  split at h
  · exact ⟨_, _, _, rfl, h⟩
  · exact h.elim
theorem j_f1_inv {st : List Value} {k : UInt32 → List Value → Prop} (h : j_f1 st k) : ∃ (a : UInt32) (r : List Value), st = .float a :: r ∧ k a r := by
  unfold j_f1 at h
  split at h
  · exact ⟨_, _, rfl, h⟩
  · exact h.elim
theorem j_f2_inv {st : List Value} {k : UInt32 → UInt32 → List Value → Prop} (h : j_f2 st k) : ∃ (a b : UInt32) (r : List Value), st = .float b :: .float a :: r ∧ k a b r := by
  unfold j_f2 at h
  split at h
  · exact ⟨_, _, _, rfl, h⟩
  · exact h.elim
theorem j_d1_inv {st : List Value} {k : UInt64 → List Value → Prop} (h : j_d1 st k) : ∃ (a : UInt64) (r : List Value), st = .double a :: r ∧ k a r := by
  unfold j_d1 at h
  split at h
  · exact ⟨_, _, rfl, h⟩
  · exact h.elim
theorem j_d2_inv {st : List Value} {k : UInt64 → UInt64 → List Value → Prop} (h : j_d2 st k) : ∃ (a b : UInt64) (r : List Value), st = .double b :: .double a :: r ∧ k a b r := by
  unfold j_d2 at h
  split at h
  · exact ⟨_, _, _, rfl, h⟩
  · exact h.elim
theorem j_r1_inv {st : List Value} {k : Nat → List Value → Prop} (h : j_r1 st k) : ∃ (a : Nat) (r : List Value), st = .ref a :: r ∧ k a r := by
  unfold j_r1 at h
  split at h
  · exact ⟨_, _, rfl, h⟩
  · exact h.elim
theorem j_ai_inv {st : List Value} {k : Nat → Int32 → List Value → Prop} (h : j_ai st k) : ∃ (a : Nat) (i : Int32) (r : List Value), st = .int i :: .ref a :: r ∧ k a i r := by
  unfold j_ai at h
  split at h
  · exact ⟨_, _, _, rfl, h⟩
  · exact h.elim
theorem j_aii_inv {st : List Value} {k : Nat → Int32 → Int32 → List Value → Prop} (h : j_aii st k) : ∃ (a : Nat) (i v : Int32) (r : List Value), st = .int v :: .int i :: .ref a :: r ∧ k a i v r := by
  unfold j_aii at h
  split at h
  · exact ⟨_, _, _, _, rfl, h⟩
  · exact h.elim
theorem j_ail_inv {st : List Value} {k : Nat → Int32 → Int64 → List Value → Prop} (h : j_ail st k) : ∃ (a : Nat) (i : Int32) (v : Int64) (r : List Value), st = .long v :: .int i :: .ref a :: r ∧ k a i v r := by
  unfold j_ail at h
  split at h
  · exact ⟨_, _, _, _, rfl, h⟩
  · exact h.elim
theorem j_aid_inv {st : List Value} {k : Nat → Int32 → UInt64 → List Value → Prop} (h : j_aid st k) : ∃ (a : Nat) (i : Int32) (v : UInt64) (r : List Value), st = .double v :: .int i :: .ref a :: r ∧ k a i v r := by
  unfold j_aid at h
  split at h
  · exact ⟨_, _, _, _, rfl, h⟩
  · exact h.elim
theorem j_air_inv {st : List Value} {k : Nat → Int32 → Nat → List Value → Prop} (h : j_air st k) : ∃ (a : Nat) (i : Int32) (v : Nat) (r : List Value), st = .ref v :: .int i :: .ref a :: r ∧ k a i v r := by
  unfold j_air at h
  split at h
  · exact ⟨_, _, _, _, rfl, h⟩
  · exact h.elim
theorem j_ref_inv {o : Option Nat} {k : Nat → Prop} (h : j_ref o k) : ∃ b, o = some b ∧ k b := by
  cases o with
  | none => exact h.elim
  | some b => exact ⟨b, rfl, h⟩
theorem j_ari_inv {o : Option j_S} {k : Nat → Prop} (h : j_ari o k) : ∃ n, (o = some (.inl (0, n)) ∨ o = some (.inl (7, n))) ∧ k n := by
  unfold j_ari at h
  split at h
  · exact ⟨_, Or.inl rfl, h⟩
  · exact ⟨_, Or.inr rfl, h⟩
  · exact h.elim
theorem j_arb_inv {o : Option j_S} {k : Nat → Prop} (h : j_arb o k) : ∃ n, (o = some (.inl (3, n)) ∨ o = some (.inl (8, n))) ∧ k n := by
  unfold j_arb at h
  split at h
  · exact ⟨_, Or.inl rfl, h⟩
  · exact ⟨_, Or.inr rfl, h⟩
  · exact h.elim
theorem j_arr_inv {t : Nat} {o : Option j_S} {k : Nat → Prop} (h : j_arr t o k) : ∃ n, o = some (.inl (t, n)) ∧ k n := by
  unfold j_arr at h
  split at h
  · exact ⟨_, by rw [h.1], h.2⟩
  · exact h.elim
theorem j_len_inv {o : Option j_S} {k : Nat → Prop} (h : j_len o k) : ∃ t n, o = some (.inl (t, n)) ∧ k n := by
  unfold j_len at h
  split at h
  · exact ⟨_, _, rfl, h⟩
  · exact h.elim
theorem j_args_inv : ∀ {n : Nat} {st as : List Value} {k : List Value → List Value → Prop}, j_args n st as k → ∃ us r, st = us.reverse ++ r ∧ us.length = n ∧ k (us ++ as) r := by
  intro n
  induction n with
  | zero => intro st as k h; exact ⟨[], st, rfl, rfl, h⟩
  | succ n ih =>
    intro st as k h
    cases st with
    | nil => exact h.elim
    | cons v st =>
      obtain ⟨us, r, h1, h2, h3⟩ := ih (show j_args n st (v :: as) k from h)
      refine ⟨us ++ [v], r, by rw [h1]; simp, by simp [h2], by simpa using h3⟩
end JInv
/-- what stands beside an instruction is what it means -/
def j_ckA (i : Instr) (n x : Nat) (v : Value) (nL : Nat) : Bool := match i with
  | .iconst k => n == 1 && decide (v = .int (Int32.ofInt k))
  | .bipush k => n == 2 && decide (v = .int (Int8.ofInt k).toInt32)
  | .sipush k => n == 3 && decide (v = .int (Int16.ofInt k).toInt32)
  | .lconst k => n == 1 && decide (v = .long (Int64.ofNat (k : Nat)))
  | .dconst k => n == 1 && decide (k = 0)
  | .fconst k => n == 1 && decide (k = 0)
  | .ldc _ => n == 2
  | .ldc_w _ => n == 3
  | .ldc2_w _ => n == 3
  | .iload k => n == 2 && x == k
  | .iload_n k => n == 1 && x == (k : Nat)
  | .istore k => n == 2 && x == k && decide (x < nL)
  | .istore_n k => n == 1 && x == (k : Nat) && decide (x < nL)
  | .lload k => n == 2 && x == k
  | .lload_n k => n == 1 && x == (k : Nat)
  | .lstore k => n == 2 && x == k && decide (x + 1 < nL)
  | .lstore_n k => n == 1 && x == (k : Nat) && decide (x + 1 < nL)
  | .fload k => n == 2 && x == k
  | .fload_n k => n == 1 && x == (k : Nat)
  | .fstore k => n == 2 && x == k && decide (x < nL)
  | .fstore_n k => n == 1 && x == (k : Nat) && decide (x < nL)
  | .dload k => n == 2 && x == k
  | .dload_n k => n == 1 && x == (k : Nat)
  | .dstore k => n == 2 && x == k && decide (x + 1 < nL)
  | .dstore_n k => n == 1 && x == (k : Nat) && decide (x + 1 < nL)
  | .aload k => n == 2 && x == k
  | .aload_n k => n == 1 && x == (k : Nat)
  | .astore k => n == 2 && x == k && decide (x < nL)
  | .astore_n k => n == 1 && x == (k : Nat) && decide (x < nL)
  | .iinc k z => n == 3 && x == k && decide (x < nL) && decide (v = .int (Int32.ofInt z))
  | _ => n == 1
/-- the words that an instruction without heap needs -/
def j_wdA (own : String) (i : Instr) (y : Nat) (v : Value) : List Cond := match i with
  | .ldc k => (match y, v with
    | 0, .int z => [.constant own k z]
    | _, _ => [])
  | .ldc_w k => (match y, v with
    | 0, .int z => [.constant own k z]
    | _, _ => [])
  | .ldc2_w k => (match v with
    | .long z => [.constantLong own k z]
    | _ => [])
  | _ => []
/-- a String constant's entry is the one that is told; a number's value is told -/
def j_ckS (own : String) (i : Instr) (x y : Nat) (v : Value) : Bool := match i with
  | .ldc k => (match y, v with
    | 0, .int _ => true
    | 0, _ => false
    | _, _ => (match j_strs[x]? with
      | some z => decide (z.1 = own) && z.2.1 == k
      | none => false))
  | .ldc_w k => (match y, v with
    | 0, .int _ => true
    | 0, _ => false
    | _, _ => (match j_strs[x]? with
      | some z => decide (z.1 = own) && z.2.1 == k
      | none => false))
  | .ldc2_w _ => (match v with
    | .long _ => true
    | _ => false)
  | _ => true
section JRowsA
variable {p : Program} {l : Launch} {e : Env} {R : Room} {s : State} {m : MethodId} {args : Array Value} {below : List Frame} {meth : Method} {c : Code}
variable {D : va_G} {bs : Nat} {E : j_E} {h0 : j_H} {d : Nat} {own : String} {cc : ByteArray} {nL : Nat} {ret : Option FieldType} {QQ : State → Prop}
set_option maxHeartbeats 4000000 in
theorem j_okA (X : j_Ctx p l R s m args meth c D bs E h0 d own cc nL ret) {i : Instr} {n x y pc : Nat} {v : Value} {lv st : List Value} {h : j_H} {nx : List Value → List Value → j_H → Prop} (hd : decode cc pc = .ok (i, n)) (hck : j_ckA i n x v nL = true) (hcs : j_ckS own i x y v = true) (hwd : ∀ w ∈ j_wdA own i y v, w ∈ j_tbl)
    (hnx : ∀ lv st h, nx lv st h → j_W p l e R s m args below meth c D bs E h0 nL QQ (pc + n) lv st h) (G : j_opA i x y v lv st h E nx) : j_W p l e R s m args below meth c D bs E h0 nL QQ pc lv st h := by
  obtain ⟨hex, hb, hml, hr, hown, hts, henv, hRm, hlocks, htab, hst, hbs⟩ := X
  cases i
  all_goals try exact False.elim G
  case iconst k =>
    simp only [j_ckA, Bool.and_eq_true, beq_iff_eq, decide_eq_true_eq] at hck
    obtain ⟨rfl, rfl⟩ := hck
    intro ls H locs hl hR hS hc
    exact lv_iconst hex hb hd rfl (hnx _ _ _ G ls H locs hl hR hS hc)
  case bipush k =>
    simp only [j_ckA, Bool.and_eq_true, beq_iff_eq, decide_eq_true_eq] at hck
    obtain ⟨rfl, rfl⟩ := hck
    intro ls H locs hl hR hS hc
    exact lv_bipush hex hb hd rfl (hnx _ _ _ G ls H locs hl hR hS hc)
  case sipush k =>
    simp only [j_ckA, Bool.and_eq_true, beq_iff_eq, decide_eq_true_eq] at hck
    obtain ⟨rfl, rfl⟩ := hck
    intro ls H locs hl hR hS hc
    exact lv_sipush hex hb hd rfl (hnx _ _ _ G ls H locs hl hR hS hc)
  case lconst k =>
    simp only [j_ckA, Bool.and_eq_true, beq_iff_eq, decide_eq_true_eq] at hck
    obtain ⟨rfl, rfl⟩ := hck
    intro ls H locs hl hR hS hc
    exact lv_lconst hex hb hd rfl (hnx _ _ _ G ls H locs hl hR hS hc)
  case dconst k =>
    simp only [j_ckA, Bool.and_eq_true, beq_iff_eq, decide_eq_true_eq] at hck
    obtain ⟨rfl, rfl⟩ := hck
    intro ls H locs hl hR hS hc
    exact lv_dconst0 hex hb hd (hnx _ _ _ G ls H locs hl hR hS hc)
  case fconst k =>
    simp only [j_ckA, Bool.and_eq_true, beq_iff_eq, decide_eq_true_eq] at hck
    obtain ⟨rfl, rfl⟩ := hck
    intro ls H locs hl hR hS hc
    exact lv_fconst0 hex hb hd (hnx _ _ _ G ls H locs hl hR hS hc)
  case ldc k =>
    simp only [j_ckA, beq_iff_eq] at hck
    subst hck
    intro ls H locs hl hR hS hc
    match y, v, hcs, hwd, G with
    | 0, .int z, hcs, hwd, G => exact lv_ldc hex hb hown (hts _ (hwd _ List.mem_cons_self)) hd (hnx _ _ _ G ls H locs hl hR hS hc)
    | y + 1, v, hcs, hwd, G =>
      have hz : ∃ z, j_strs[x]? = some z ∧ z.1 = own ∧ z.2.1 = k := by
        simp only [j_ckS] at hcs
        split at hcs
        · rename_i z hz
          simp only [Bool.and_eq_true, decide_eq_true_eq, beq_iff_eq] at hcs
          exact ⟨z, hz, hcs.1, hcs.2⟩
        · cases hcs
      obtain ⟨z, hz, rfl, rfl⟩ := hz
      have hv := henv.2.1 x z hz
      exact va_ldcS hex hb hown hv hd (hnx _ _ _ G ls H locs hl hR hS hc)
  case ldc_w k =>
    simp only [j_ckA, beq_iff_eq] at hck
    subst hck
    intro ls H locs hl hR hS hc
    match y, v, hcs, hwd, G with
    | 0, .int z, hcs, hwd, G => exact lv_ldcw hex hb hown (hts _ (hwd _ List.mem_cons_self)) hd (hnx _ _ _ G ls H locs hl hR hS hc)
    | y + 1, v, hcs, hwd, G =>
      have hz : ∃ z, j_strs[x]? = some z ∧ z.1 = own ∧ z.2.1 = k := by
        simp only [j_ckS] at hcs
        split at hcs
        · rename_i z hz
          simp only [Bool.and_eq_true, decide_eq_true_eq, beq_iff_eq] at hcs
          exact ⟨z, hz, hcs.1, hcs.2⟩
        · cases hcs
      obtain ⟨z, hz, rfl, rfl⟩ := hz
      have hv := henv.2.1 x z hz
      intro T hT XX
      obtain ⟨t, a1, b1⟩ := hnx _ _ _ G ls H locs hl hR hS hc T hT XX
      exact ⟨t, Stand.ldcStringW XX hex hown (text := z.2.2) (a := E.1 x) hv.1 hv.2 (g := F0 m pc ls st) rfl (by rw [hb]; exact hd) t a1, b1⟩
  case ldc2_w k =>
    simp only [j_ckA, beq_iff_eq] at hck
    subst hck
    intro ls H locs hl hR hS hc
    match v, hcs, hwd, G with
    | .long z, hcs, hwd, G => exact lv_ldc2 hex hb hown (hts _ (hwd _ List.mem_cons_self)) hd (hnx _ _ _ G ls H locs hl hR hS hc)
  case iload k =>
    simp only [j_ckA, Bool.and_eq_true, beq_iff_eq] at hck
    obtain ⟨rfl, rfl⟩ := hck
    intro ls H locs hl hR hS hc
    simp only [j_opA] at G
    split at G
    · rename_i a ha
      exact lv_iload hex hb hd (j_has_at hl ha rfl) (hnx _ _ _ G ls H locs hl hR hS hc)
    · exact G.elim
  case iload_n k =>
    simp only [j_ckA, Bool.and_eq_true, beq_iff_eq] at hck
    obtain ⟨rfl, rfl⟩ := hck
    intro ls H locs hl hR hS hc
    simp only [j_opA] at G
    split at G
    · rename_i a ha
      exact lv_iload_n hex hb hd rfl (j_has_at hl ha rfl) (hnx _ _ _ G ls H locs hl hR hS hc)
    · exact G.elim
  case lload k =>
    simp only [j_ckA, Bool.and_eq_true, beq_iff_eq] at hck
    obtain ⟨rfl, rfl⟩ := hck
    intro ls H locs hl hR hS hc
    simp only [j_opA] at G
    split at G
    · rename_i a ha
      exact lv_lload hex hb hd (j_has_at hl ha rfl) (hnx _ _ _ G ls H locs hl hR hS hc)
    · exact G.elim
  case lload_n k =>
    simp only [j_ckA, Bool.and_eq_true, beq_iff_eq] at hck
    obtain ⟨rfl, rfl⟩ := hck
    intro ls H locs hl hR hS hc
    simp only [j_opA] at G
    split at G
    · rename_i a ha
      exact lv_lload_n hex hb hd rfl (j_has_at hl ha rfl) (hnx _ _ _ G ls H locs hl hR hS hc)
    · exact G.elim
  case fload k =>
    simp only [j_ckA, Bool.and_eq_true, beq_iff_eq] at hck
    obtain ⟨rfl, rfl⟩ := hck
    intro ls H locs hl hR hS hc
    simp only [j_opA] at G
    split at G
    · rename_i a ha
      exact lv_fload hex hb hd (j_has_at hl ha rfl) (hnx _ _ _ G ls H locs hl hR hS hc)
    · exact G.elim
  case fload_n k =>
    simp only [j_ckA, Bool.and_eq_true, beq_iff_eq] at hck
    obtain ⟨rfl, rfl⟩ := hck
    intro ls H locs hl hR hS hc
    simp only [j_opA] at G
    split at G
    · rename_i a ha
      exact lv_fload_n hex hb hd rfl (j_has_at hl ha rfl) (hnx _ _ _ G ls H locs hl hR hS hc)
    · exact G.elim
  case dload k =>
    simp only [j_ckA, Bool.and_eq_true, beq_iff_eq] at hck
    obtain ⟨rfl, rfl⟩ := hck
    intro ls H locs hl hR hS hc
    simp only [j_opA] at G
    split at G
    · rename_i a ha
      exact lv_dload hex hb hd (j_has_at hl ha rfl) (hnx _ _ _ G ls H locs hl hR hS hc)
    · exact G.elim
  case dload_n k =>
    simp only [j_ckA, Bool.and_eq_true, beq_iff_eq] at hck
    obtain ⟨rfl, rfl⟩ := hck
    intro ls H locs hl hR hS hc
    simp only [j_opA] at G
    split at G
    · rename_i a ha
      exact lv_dload_n hex hb hd rfl (j_has_at hl ha rfl) (hnx _ _ _ G ls H locs hl hR hS hc)
    · exact G.elim
  case aload k =>
    simp only [j_ckA, Bool.and_eq_true, beq_iff_eq] at hck
    obtain ⟨rfl, rfl⟩ := hck
    intro ls H locs hl hR hS hc
    simp only [j_opA] at G
    split at G
    · rename_i a ha
      exact lv_aload hex hb hd (j_has_at hl ha rfl) (hnx _ _ _ G ls H locs hl hR hS hc)
    · exact G.elim
  case aload_n k =>
    simp only [j_ckA, Bool.and_eq_true, beq_iff_eq] at hck
    obtain ⟨rfl, rfl⟩ := hck
    intro ls H locs hl hR hS hc
    simp only [j_opA] at G
    split at G
    · rename_i a ha
      exact lv_aload_n hex hb hd rfl (j_has_at hl ha rfl) (hnx _ _ _ G ls H locs hl hR hS hc)
    · exact G.elim
  case istore k =>
    simp only [j_ckA, Bool.and_eq_true, beq_iff_eq, decide_eq_true_eq] at hck
    obtain ⟨⟨rfl, rfl⟩, hn⟩ := hck
    obtain ⟨a, r, rfl, g⟩ := j_i1_inv G
    intro ls H locs hl hR hS hc
    exact lv_istore hex hb hd hl hn rfl (fun ls hl => hnx _ _ _ g ls H locs (j_has_st1 hl) hR hS hc)
  case istore_n k =>
    simp only [j_ckA, Bool.and_eq_true, beq_iff_eq, decide_eq_true_eq] at hck
    obtain ⟨⟨rfl, rfl⟩, hn⟩ := hck
    obtain ⟨a, r, rfl, g⟩ := j_i1_inv G
    intro ls H locs hl hR hS hc
    exact lv_istore_n hex hb hd rfl hl hn rfl (fun ls hl => hnx _ _ _ g ls H locs (j_has_st1 hl) hR hS hc)
  case lstore k =>
    simp only [j_ckA, Bool.and_eq_true, beq_iff_eq, decide_eq_true_eq] at hck
    obtain ⟨⟨rfl, rfl⟩, hn⟩ := hck
    obtain ⟨a, r, rfl, g⟩ := j_l1_inv G
    intro ls H locs hl hR hS hc
    exact lv_lstore hex hb hd hl hn rfl (fun ls hl => hnx _ _ _ g ls H locs (j_has_st2 hl) hR hS hc)
  case lstore_n k =>
    simp only [j_ckA, Bool.and_eq_true, beq_iff_eq, decide_eq_true_eq] at hck
    obtain ⟨⟨rfl, rfl⟩, hn⟩ := hck
    obtain ⟨a, r, rfl, g⟩ := j_l1_inv G
    intro ls H locs hl hR hS hc
    exact lv_lstore_n hex hb hd rfl hl hn rfl (fun ls hl => hnx _ _ _ g ls H locs (j_has_st2 hl) hR hS hc)
  case fstore k =>
    simp only [j_ckA, Bool.and_eq_true, beq_iff_eq, decide_eq_true_eq] at hck
    obtain ⟨⟨rfl, rfl⟩, hn⟩ := hck
    obtain ⟨a, r, rfl, g⟩ := j_f1_inv G
    intro ls H locs hl hR hS hc
    exact lv_fstore hex hb hd hl hn rfl (fun ls hl => hnx _ _ _ g ls H locs (j_has_st1 hl) hR hS hc)
  case fstore_n k =>
    simp only [j_ckA, Bool.and_eq_true, beq_iff_eq, decide_eq_true_eq] at hck
    obtain ⟨⟨rfl, rfl⟩, hn⟩ := hck
    obtain ⟨a, r, rfl, g⟩ := j_f1_inv G
    intro ls H locs hl hR hS hc
    exact lv_fstore_n hex hb hd rfl hl hn rfl (fun ls hl => hnx _ _ _ g ls H locs (j_has_st1 hl) hR hS hc)
  case dstore k =>
    simp only [j_ckA, Bool.and_eq_true, beq_iff_eq, decide_eq_true_eq] at hck
    obtain ⟨⟨rfl, rfl⟩, hn⟩ := hck
    obtain ⟨a, r, rfl, g⟩ := j_d1_inv G
    intro ls H locs hl hR hS hc
    exact lv_dstore hex hb hd hl hn rfl (fun ls hl => hnx _ _ _ g ls H locs (j_has_st2 hl) hR hS hc)
  case dstore_n k =>
    simp only [j_ckA, Bool.and_eq_true, beq_iff_eq, decide_eq_true_eq] at hck
    obtain ⟨⟨rfl, rfl⟩, hn⟩ := hck
    obtain ⟨a, r, rfl, g⟩ := j_d1_inv G
    intro ls H locs hl hR hS hc
    exact lv_dstore_n hex hb hd rfl hl hn rfl (fun ls hl => hnx _ _ _ g ls H locs (j_has_st2 hl) hR hS hc)
  case astore k =>
    simp only [j_ckA, Bool.and_eq_true, beq_iff_eq, decide_eq_true_eq] at hck
    obtain ⟨⟨rfl, rfl⟩, hn⟩ := hck
    obtain ⟨a, r, rfl, g⟩ := j_r1_inv G
    intro ls H locs hl hR hS hc
    exact lv_astore hex hb hd hl hn rfl (fun ls hl => hnx _ _ _ g ls H locs (j_has_st1 hl) hR hS hc)
  case astore_n k =>
    simp only [j_ckA, Bool.and_eq_true, beq_iff_eq, decide_eq_true_eq] at hck
    obtain ⟨⟨rfl, rfl⟩, hn⟩ := hck
    obtain ⟨a, r, rfl, g⟩ := j_r1_inv G
    intro ls H locs hl hR hS hc
    exact lv_astore_n hex hb hd rfl hl hn rfl (fun ls hl => hnx _ _ _ g ls H locs (j_has_st1 hl) hR hS hc)
  case iinc k z =>
    simp only [j_ckA, Bool.and_eq_true, beq_iff_eq, decide_eq_true_eq] at hck
    obtain ⟨⟨⟨rfl, rfl⟩, hn⟩, rfl⟩ := hck
    intro ls H locs hl hR hS hc
    simp only [j_opA] at G
    split at G
    · rename_i a b ha hb9
      cases hb9
      have hm : (x, Value.int a) ∈ j_as 0 lv := j_as_mem.mpr ⟨x, by simp, by rw [← ha]; exact j_nth_get (by rw [ha]; rfl), rfl⟩
      obtain ⟨q, hq⟩ := List.getElem?_of_mem hm
      exact lv_iinc hex hb hd hl hq rfl hn rfl (fun ls hl => hnx _ _ _ G ls H locs (j_has_st1 hl) hR hS hc)
    · exact G.elim
  case iadd =>
    simp only [j_ckA, beq_iff_eq] at hck
    subst hck
    obtain ⟨a, b, r, rfl, g⟩ := j_i2_inv G
    intro ls H locs hl hR hS hc
    exact lv_iadd hex hb hd (hnx _ _ _ g ls H locs hl hR hS hc)
  case isub =>
    simp only [j_ckA, beq_iff_eq] at hck
    subst hck
    obtain ⟨a, b, r, rfl, g⟩ := j_i2_inv G
    intro ls H locs hl hR hS hc
    exact lv_isub hex hb hd (hnx _ _ _ g ls H locs hl hR hS hc)
  case imul =>
    simp only [j_ckA, beq_iff_eq] at hck
    subst hck
    obtain ⟨a, b, r, rfl, g⟩ := j_i2_inv G
    intro ls H locs hl hR hS hc
    exact lv_imul hex hb hd (hnx _ _ _ g ls H locs hl hR hS hc)
  case iand =>
    simp only [j_ckA, beq_iff_eq] at hck
    subst hck
    obtain ⟨a, b, r, rfl, g⟩ := j_i2_inv G
    intro ls H locs hl hR hS hc
    exact lv_iand hex hb hd (hnx _ _ _ g ls H locs hl hR hS hc)
  case ior =>
    simp only [j_ckA, beq_iff_eq] at hck
    subst hck
    obtain ⟨a, b, r, rfl, g⟩ := j_i2_inv G
    intro ls H locs hl hR hS hc
    exact lv_ior hex hb hd (hnx _ _ _ g ls H locs hl hR hS hc)
  case ixor =>
    simp only [j_ckA, beq_iff_eq] at hck
    subst hck
    obtain ⟨a, b, r, rfl, g⟩ := j_i2_inv G
    intro ls H locs hl hR hS hc
    exact lv_ixor hex hb hd (hnx _ _ _ g ls H locs hl hR hS hc)
  case ishl =>
    simp only [j_ckA, beq_iff_eq] at hck
    subst hck
    obtain ⟨a, b, r, rfl, g⟩ := j_i2_inv G
    intro ls H locs hl hR hS hc
    exact lv_ishl hex hb hd (hnx _ _ _ g ls H locs hl hR hS hc)
  case ishr =>
    simp only [j_ckA, beq_iff_eq] at hck
    subst hck
    obtain ⟨a, b, r, rfl, g⟩ := j_i2_inv G
    intro ls H locs hl hR hS hc
    exact lv_ishr hex hb hd (hnx _ _ _ g ls H locs hl hR hS hc)
  case idiv =>
    simp only [j_ckA, beq_iff_eq] at hck
    subst hck
    obtain ⟨a, b, r, rfl, g0, g⟩ := j_i2_inv G
    intro ls H locs hl hR hS hc
    exact lv_idiv hex hb hd g0 (hnx _ _ _ g ls H locs hl hR hS hc)
  case irem =>
    simp only [j_ckA, beq_iff_eq] at hck
    subst hck
    obtain ⟨a, b, r, rfl, g0, g⟩ := j_i2_inv G
    intro ls H locs hl hR hS hc
    exact lv_irem hex hb hd g0 (hnx _ _ _ g ls H locs hl hR hS hc)
  case ineg =>
    simp only [j_ckA, beq_iff_eq] at hck
    subst hck
    obtain ⟨a, r, rfl, g⟩ := j_i1_inv G
    intro ls H locs hl hR hS hc
    exact lv_ineg hex hb hd (hnx _ _ _ g ls H locs hl hR hS hc)
  case ladd =>
    simp only [j_ckA, beq_iff_eq] at hck
    subst hck
    obtain ⟨a, b, r, rfl, g⟩ := j_l2_inv G
    intro ls H locs hl hR hS hc
    exact lv_ladd hex hb hd (hnx _ _ _ g ls H locs hl hR hS hc)
  case lsub =>
    simp only [j_ckA, beq_iff_eq] at hck
    subst hck
    obtain ⟨a, b, r, rfl, g⟩ := j_l2_inv G
    intro ls H locs hl hR hS hc
    exact lv_lsub hex hb hd (hnx _ _ _ g ls H locs hl hR hS hc)
  case lmul =>
    simp only [j_ckA, beq_iff_eq] at hck
    subst hck
    obtain ⟨a, b, r, rfl, g⟩ := j_l2_inv G
    intro ls H locs hl hR hS hc
    exact lv_lmul hex hb hd (hnx _ _ _ g ls H locs hl hR hS hc)
  case land =>
    simp only [j_ckA, beq_iff_eq] at hck
    subst hck
    obtain ⟨a, b, r, rfl, g⟩ := j_l2_inv G
    intro ls H locs hl hR hS hc
    exact lv_land hex hb hd (hnx _ _ _ g ls H locs hl hR hS hc)
  case lor =>
    simp only [j_ckA, beq_iff_eq] at hck
    subst hck
    obtain ⟨a, b, r, rfl, g⟩ := j_l2_inv G
    intro ls H locs hl hR hS hc
    exact lv_lor hex hb hd (hnx _ _ _ g ls H locs hl hR hS hc)
  case lxor =>
    simp only [j_ckA, beq_iff_eq] at hck
    subst hck
    obtain ⟨a, b, r, rfl, g⟩ := j_l2_inv G
    intro ls H locs hl hR hS hc
    exact lv_lxor hex hb hd (hnx _ _ _ g ls H locs hl hR hS hc)
  case ldiv =>
    simp only [j_ckA, beq_iff_eq] at hck
    subst hck
    obtain ⟨a, b, r, rfl, g0, g⟩ := j_l2_inv G
    intro ls H locs hl hR hS hc
    exact lv_ldiv hex hb hd g0 (hnx _ _ _ g ls H locs hl hR hS hc)
  case lneg =>
    simp only [j_ckA, beq_iff_eq] at hck
    subst hck
    obtain ⟨a, r, rfl, g⟩ := j_l1_inv G
    intro ls H locs hl hR hS hc
    exact lv_lneg hex hb hd (hnx _ _ _ g ls H locs hl hR hS hc)
  case lshl =>
    simp only [j_ckA, beq_iff_eq] at hck
    subst hck
    obtain ⟨a, b, r, rfl, g⟩ := j_li_inv G
    intro ls H locs hl hR hS hc
    exact lv_lshl hex hb hd rfl (hnx _ _ _ g ls H locs hl hR hS hc)
  case lushr =>
    simp only [j_ckA, beq_iff_eq] at hck
    subst hck
    obtain ⟨a, b, r, rfl, g⟩ := j_li_inv G
    intro ls H locs hl hR hS hc
    exact lv_lushr hex hb hd rfl (hnx _ _ _ g ls H locs hl hR hS hc)
  case lcmp =>
    simp only [j_ckA, beq_iff_eq] at hck
    subst hck
    obtain ⟨a, b, r, rfl, g⟩ := j_l2_inv G
    intro ls H locs hl hR hS hc
    exact W.lcmp hex hb hd (hnx _ _ _ g ls H locs hl hR hS hc)
  case i2l =>
    simp only [j_ckA, beq_iff_eq] at hck
    subst hck
    obtain ⟨a, r, rfl, g⟩ := j_i1_inv G
    intro ls H locs hl hR hS hc
    exact lv_i2l hex hb hd rfl (hnx _ _ _ g ls H locs hl hR hS hc)
  case l2i =>
    simp only [j_ckA, beq_iff_eq] at hck
    subst hck
    obtain ⟨a, r, rfl, g⟩ := j_l1_inv G
    intro ls H locs hl hR hS hc
    exact lv_l2i hex hb hd rfl (hnx _ _ _ g ls H locs hl hR hS hc)
  case i2b =>
    simp only [j_ckA, beq_iff_eq] at hck
    subst hck
    obtain ⟨a, r, rfl, g⟩ := j_i1_inv G
    intro ls H locs hl hR hS hc
    exact lv_i2b hex hb hd rfl (hnx _ _ _ g ls H locs hl hR hS hc)
  case i2c =>
    simp only [j_ckA, beq_iff_eq] at hck
    subst hck
    obtain ⟨a, r, rfl, g⟩ := j_i1_inv G
    intro ls H locs hl hR hS hc
    exact lv_i2c hex hb hd rfl (hnx _ _ _ g ls H locs hl hR hS hc)
  case i2f =>
    simp only [j_ckA, beq_iff_eq] at hck
    subst hck
    obtain ⟨a, r, rfl, g⟩ := j_i1_inv G
    intro ls H locs hl hR hS hc
    exact lv_i2f hex hb hd (hnx _ _ _ g ls H locs hl hR hS hc)
  case i2d =>
    simp only [j_ckA, beq_iff_eq] at hck
    subst hck
    obtain ⟨a, r, rfl, g⟩ := j_i1_inv G
    intro ls H locs hl hR hS hc
    exact lv_i2d hex hb hd (hnx _ _ _ g ls H locs hl hR hS hc)
  case fdiv =>
    simp only [j_ckA, beq_iff_eq] at hck
    subst hck
    obtain ⟨a, b, r, rfl, g0, g⟩ := j_f2_inv G
    intro ls H locs hl hR hS hc
    exact lv_fdiv hex hb hd g0 (hnx _ _ _ g ls H locs hl hR hS hc)
  case ddiv =>
    simp only [j_ckA, beq_iff_eq] at hck
    subst hck
    obtain ⟨a, b, r, rfl, g0, g⟩ := j_d2_inv G
    intro ls H locs hl hR hS hc
    exact lv_ddiv hex hb hd g0 (hnx _ _ _ g ls H locs hl hR hS hc)
  case f2d =>
    simp only [j_ckA, beq_iff_eq] at hck
    subst hck
    obtain ⟨a, r, rfl, g0, g⟩ := j_f1_inv G
    intro ls H locs hl hR hS hc
    exact lv_f2d hex hb hd g0 (hnx _ _ _ g ls H locs hl hR hS hc)
  case fcmp o =>
    simp only [j_ckA, beq_iff_eq] at hck
    subst hck
    obtain ⟨a, b, r, rfl, g⟩ := j_f2_inv G
    intro ls H locs hl hR hS hc
    exact lv_fcmp hex hb hd (hnx _ _ _ g ls H locs hl hR hS hc)
  case dcmp o =>
    simp only [j_ckA, beq_iff_eq] at hck
    subst hck
    obtain ⟨a, b, r, rfl, g⟩ := j_d2_inv G
    intro ls H locs hl hR hS hc
    exact lv_dcmp hex hb hd (hnx _ _ _ g ls H locs hl hR hS hc)
  case pop =>
    simp only [j_ckA, beq_iff_eq] at hck
    subst hck
    intro ls H locs hl hR hS hc
    simp only [j_opA] at G
    split at G
    · exact lv_pop hex hb hd rfl (hnx _ _ _ G ls H locs hl hR hS hc)
    · exact lv_pop hex hb hd rfl (hnx _ _ _ G ls H locs hl hR hS hc)
    · exact G.elim
  case dup =>
    simp only [j_ckA, beq_iff_eq] at hck
    subst hck
    intro ls H locs hl hR hS hc
    simp only [j_opA] at G
    split at G
    · exact lv_dup hex hb hd rfl (hnx _ _ _ G ls H locs hl hR hS hc)
    · exact lv_dup hex hb hd rfl (hnx _ _ _ G ls H locs hl hR hS hc)
    · exact G.elim
  case dup_x1 =>
    simp only [j_ckA, beq_iff_eq] at hck
    subst hck
    intro ls H locs hl hR hS hc
    simp only [j_opA] at G
    split at G
    · exact lv_dup_x1 hex hb hd rfl rfl (hnx _ _ _ G ls H locs hl hR hS hc)
    · exact G.elim
  case dup2 =>
    simp only [j_ckA, beq_iff_eq] at hck
    subst hck
    intro ls H locs hl hR hS hc
    simp only [j_opA] at G
    split at G
    · exact lv_dup2_11 hex hb hd rfl rfl (hnx _ _ _ G ls H locs hl hR hS hc)
    · exact G.elim
end JRowsA
end
section
/-! ===== the machine follows: fields ===== -/
/-- the classes' tables: words, types, names -/
def j_clok (c : Nat) (r : vw_C) : Prop := (∀ w ∈ u_ws r.1 r.2.1 r.2.2, w ∈ j_tbl) ∧ (∀ k, k < r.2.2 → parseFieldDescriptor (r.2.1 k).2.2.1 = some (j_ty c k)) ∧ ∀ a, a < r.2.2 → ∀ b, b < r.2.2 → a ≠ b → (r.2.1 a).2.1 ≠ (r.2.1 b).2.1
theorem j_narrow {ty : FieldType} {k : Nat} {n : Int32} (hk : (ty = .int ∧ k = 0) ∨ (ty = .boolean ∧ k = 1) ∨ (ty = .byte ∧ k = 2) ∨ (ty = .char ∧ k = 3)) (h : j_nar k n) : narrow ty (.int n) = .int n ∧ fits ty (.int n) = true := by
  rcases hk with ⟨rfl, rfl⟩ | ⟨rfl, rfl⟩ | ⟨rfl, rfl⟩ | ⟨rfl, rfl⟩
  · exact ⟨rfl, rfl⟩
  · rcases h with rfl | rfl <;> exact ⟨rfl, rfl⟩
  · have h : n.toInt8.toInt32 = n := h
    constructor
    · rw [← h]; exact pk_nb n
    · rw [← h]; exact pk_fb n
  · have h : (n.toUInt32 % 65536).toInt32 = n := h
    constructor
    · rw [← h]; exact pk_nc n
    · rw [← h]; exact pk_fc n
section JRowsB
variable {p : Program} {l : Launch} {e : Env} {R : Room} {s : State} {m : MethodId} {args : Array Value} {below : List Frame} {meth : Method} {c : Code}
variable {D : va_G} {bs : Nat} {E : j_E} {h0 : j_H} {d : Nat} {own : String} {cc : ByteArray} {nL : Nat} {ret : Option FieldType} {QQ : State → Prop}
/-- a field is read: the value is what the own heap says -/
theorem j_getf (X : j_Ctx p l R s m args meth c D bs E h0 d own cc nL ret) {pc x y idx a : Nat} {lv r : List Value} {h : j_H} {cr : vw_C} {v : Value} (hcr : j_cl[x]? = some cr) (hok : j_clok x cr) (hy : y < cr.2.2) (hlk : Cond.fieldLink own idx (cr.2.1 y).1 (cr.2.1 y).2.1 (cr.2.1 y).2.2.1 ∈ j_tbl) (hsh : j_sh h a = some (.inr x)) (hv : j_fv h a (j_ty x y) y = v)
    (hd : decode cc pc = .ok (.getfield idx, 3)) (k : j_W p l e R s m args below meth c D bs E h0 nL QQ (pc + 3) lv (v :: r) h) : j_W p l e R s m args below meth c D bs E h0 nL QQ pc lv (.ref a :: r) h := by
  obtain ⟨hex, hb, hml, hr, hown, hts, henv, hRm, hlocks, htab, hst, hbs⟩ := X
  intro ls H locs hl hR hS hc
  obtain ⟨r2, hr2, ce, q1, q2, q3, q4⟩ := j_rep_obj hR hsh
  cases Option.some.inj (hcr.symm.trans hr2)
  obtain ⟨hSl, hfc, kC, hkC, hkind⟩ := henv.1.1 x _ hcr
  obtain ⟨cf, kf, fi, f, hi, hsl⟩ := hSl y hy
  have hstt := (u_facts hfc hkC (u_lays hts hok.1 hy) hi).1
  exact W.getf hex hb hown (hts _ hlk) hi hstt q1 (by rw [q3]; exact fun z => by cases z) (by rw [hsl, q4 y hy]; show some (j_fv h a (j_ty x y) y) = some v; rw [hv]) (g := F0 m pc ls (.ref a :: r)) rfl rfl hd (k ls H locs hl hR hS hc)
/-- a field is written -/
theorem j_putf (X : j_Ctx p l R s m args meth c D bs E h0 d own cc nL ret) {ini : Bool} (hini : ini = true → meth.name = "<init>") {pc x y idx a : Nat} {lv r : List Value} {h h' : j_H} {cr : vw_C} {v : Value} (hx0 : x ≠ 0) (hcr : j_cl[x]? = some cr) (hok : j_clok x cr) (hy : y < cr.2.2) (hlk : Cond.fieldLink own idx (cr.2.1 y).1 (cr.2.1 y).2.1 (cr.2.1 y).2.2.1 ∈ j_tbl) (hfin : (cr.2.1 y).2.2.2 = false ∨ (ini = true ∧ (cr.2.1 y).1 = own))
    (hsh : j_sh h a = some (.inr x)) (hn : narrow (j_ty x y) v = v) (hf : fits (j_ty x y) v = true) (hd : decode cc pc = .ok (.putfield idx, 3))
    (hs' : j_sh h' = j_sh h) (hz' : j_z h' = j_z h) (hc' : j_c h' = j_c h) (hk' : j_k h' = j_k h) (hv : ∀ b, b ≠ a → ∀ ty j, j_fv h' b ty j = j_fv h b ty j) (hvk : j_fv h' a (j_ty x y) y = v) (hvj : ∀ j, j ≠ y → j_fv h' a (j_ty x j) j = j_fv h a (j_ty x j) j)
    (k : j_W p l e R s m args below meth c D bs E h0 nL QQ (pc + 3) lv r h') : j_W p l e R s m args below meth c D bs E h0 nL QQ pc lv (v :: .ref a :: r) h := by
  obtain ⟨hex, hb, hml, hr, hown, hts, henv, hRm, hlocks, htab, hst, hbs⟩ := X
  intro ls H locs hl hR hS hc
  obtain ⟨r2, hr2, ce, q1, q2, q3, q4⟩ := j_rep_obj hR hsh
  cases Option.some.inj (hcr.symm.trans hr2)
  have hap := va_apart (own := own) hts hok.1 (j_ty x) hok.2.1 hok.2.2 henv.1 hcr
  obtain ⟨hSl, hfc, kC, hkC, hkind⟩ := henv.1.1 x _ hcr
  obtain ⟨cf, kf, fi, f, hi, hsl⟩ := hSl y hy
  have hlay := hts _ (hok.1 _ (u_in_lay hy))
  have hstt := (u_facts hfc hkC (u_lays hts hok.1 hy) hi).1
  have hA : j_A bs a := (hR.2.2 a _ hsh).1 hx0
  have cont : ∀ H' : Heap, H'[a]? = some (ce.setSlot f.slot v) → H'.size = H.size → (∀ q, q ≠ a → H'[q]? = H[q]?) → W p l e R s m args below meth c H' (locs ++ [⟨a, f.slot⟩]) (j_c h - j_c h0) (j_k h - j_k h0) QQ (F0 m (pc + 3) ls r) := by
    intro H' e1 e2 e3
    rw [hsl] at e1
    have hR' := j_rep_put hR hsh hcr hy hap q1 q2 q3 q4 e1 e2 e3 hs' hz' hv hvk hvj
    have kk := k ls H' (locs ++ [⟨a, f.slot⟩]) hl hR' (hS.put e2 e3 hA) (by unfold j_cn at hc ⊢; rw [hc', hk']; exact hc)
    rw [hc', hk'] at kk
    exact kk
  unfold u_lay at hlay
  by_cases hfl : (cr.2.1 y).2.2.2 = true
  · rw [if_pos hfl] at hlay
    obtain ⟨hi1, hdecl⟩ : ini = true ∧ (cr.2.1 y).1 = own := hfin.resolve_left (by rw [hfl]; decide)
    have hcf : m.cls = cf := by
      obtain ⟨_, _, c', _, _, _, -, -, hf', -, -, -, hown2, -⟩ := Cond.laysFinal_spec hlay
      have e1 : c' = cf := by have := hi.symm.trans hf'; simp at this; exact this.1.symm
      rw [hdecl] at hown2
      rw [← e1]; exact Option.some.inj (hown.symm.trans hown2)
    have h6 := u_fits hfc hkC hkind (Or.inr hlay) hi (hok.2.1 y hy) hn hf
    exact W.putFinK hex hb hown (hts _ hlk) hi hstt hcf (hini hi1) (by rw [q2]; exact h6) q1 q3 (by rw [hsl]; exact k2_hasslot (q4 y hy)) (g := F0 m pc ls (v :: .ref a :: r)) rfl rfl hd cont
  · rw [if_neg hfl] at hlay
    have h6 := u_store hfc hkC hkind hlay hi (hok.2.1 y hy) hn hf
    exact W.putK hex hb (f := f) ⟨hown, hts _ hlk, ⟨_, _, _, hi⟩, hstt⟩ (by rw [q2]; exact h6) q1 q3 (by rw [hsl]; exact k2_hasslot (q4 y hy)) (g := F0 m pc ls (v :: .ref a :: r)) rfl rfl hd cont
theorem j_lt {i : Int32} {n : Nat} (h : vp_in i n) : i.toNatClampNeg < n := Nat.not_le.mp fun q => h (Or.inr q)
/-- arrays: a place is read -/
theorem j_iald (X : j_Ctx p l R s m args meth c D bs E h0 d own cc nL ret) {pc a n t : Nat} {i : Int32} {lv r : List Value} {h : j_H} (ht : t = 0 ∨ t = 7) (hsh : j_sh h a = some (.inl (t, n))) (hin : vp_in i n) (hd : decode cc pc = .ok (.iaload, 1))
    (k : j_W p l e R s m args below meth c D bs E h0 nL QQ (pc + 1) lv (.int (j_I h a i.toNatClampNeg) :: r) h) : j_W p l e R s m args below meth c D bs E h0 nL QQ pc lv (.int i :: .ref a :: r) h := by
  obtain ⟨hex, hb, -⟩ := X
  intro ls H locs hl hR hS hc
  obtain ⟨-, -, ce, c1, c2, -, c4, c5, c6⟩ := j_rep_arr hR hsh
  have ha : j_aty t = .int := by rcases ht with rfl | rfl <;> rfl
  rw [ha] at c2 c6
  exact W.iald (v := .int (j_I h a i.toNatClampNeg)) hex hb c1 c2 c4.1 (by rw [c5]; exact hin) (c6 _ (j_lt hin)) (g := F0 m pc ls (.int i :: .ref a :: r)) rfl rfl hd (k ls H locs hl hR hS hc)
theorem j_bald (X : j_Ctx p l R s m args meth c D bs E h0 d own cc nL ret) {pc a n t : Nat} {i : Int32} {lv r : List Value} {h : j_H} (ht : t = 3 ∨ t = 8) (hsh : j_sh h a = some (.inl (t, n))) (hin : vp_in i n) (hd : decode cc pc = .ok (.baload, 1))
    (k : j_W p l e R s m args below meth c D bs E h0 nL QQ (pc + 1) lv (.int (j_I h a i.toNatClampNeg) :: r) h) : j_W p l e R s m args below meth c D bs E h0 nL QQ pc lv (.int i :: .ref a :: r) h := by
  obtain ⟨hex, hb, -⟩ := X
  intro ls H locs hl hR hS hc
  obtain ⟨-, -, ce, c1, c2, -, c4, c5, c6⟩ := j_rep_arr hR hsh
  have ha : j_aty t = .byte := by rcases ht with rfl | rfl <;> rfl
  rw [ha] at c2 c6
  exact W.bald (v := .int (j_I h a i.toNatClampNeg)) hex hb c1 c2 c4.1 (by rw [c5]; exact hin) (c6 _ (j_lt hin)) (g := F0 m pc ls (.int i :: .ref a :: r)) rfl rfl hd (k ls H locs hl hR hS hc)
theorem j_lald (X : j_Ctx p l R s m args meth c D bs E h0 d own cc nL ret) {pc a n : Nat} {i : Int32} {lv r : List Value} {h : j_H} (hsh : j_sh h a = some (.inl (1, n))) (hin : vp_in i n) (hd : decode cc pc = .ok (.laload, 1))
    (k : j_W p l e R s m args below meth c D bs E h0 nL QQ (pc + 1) lv (.long (j_L h a i.toNatClampNeg) :: r) h) : j_W p l e R s m args below meth c D bs E h0 nL QQ pc lv (.int i :: .ref a :: r) h := by
  obtain ⟨hex, hb, -⟩ := X
  intro ls H locs hl hR hS hc
  obtain ⟨-, -, ce, c1, c2, -, c4, c5, c6⟩ := j_rep_arr hR hsh
  exact W.lald (v := .long (j_L h a i.toNatClampNeg)) hex hb c1 c2 c4.1 (by rw [c5]; exact hin) (c6 _ (j_lt hin)) (g := F0 m pc ls (.int i :: .ref a :: r)) rfl rfl hd (k ls H locs hl hR hS hc)
theorem j_dald (X : j_Ctx p l R s m args meth c D bs E h0 d own cc nL ret) {pc a n : Nat} {i : Int32} {lv r : List Value} {h : j_H} (hsh : j_sh h a = some (.inl (2, n))) (hin : vp_in i n) (hd : decode cc pc = .ok (.daload, 1))
    (k : j_W p l e R s m args below meth c D bs E h0 nL QQ (pc + 1) lv (.double (j_D h a i.toNatClampNeg) :: r) h) : j_W p l e R s m args below meth c D bs E h0 nL QQ pc lv (.int i :: .ref a :: r) h := by
  obtain ⟨hex, hb, -⟩ := X
  intro ls H locs hl hR hS hc
  obtain ⟨-, -, ce, c1, c2, -, c4, c5, c6⟩ := j_rep_arr hR hsh
  exact W.dald (v := .double (j_D h a i.toNatClampNeg)) hex hb c1 c2 c4.1 (by rw [c5]; exact hin) (c6 _ (j_lt hin)) (g := F0 m pc ls (.int i :: .ref a :: r)) rfl rfl hd (k ls H locs hl hR hS hc)
theorem j_aald (X : j_Ctx p l R s m args meth c D bs E h0 d own cc nL ret) {pc a n t : Nat} {i : Int32} {lv r : List Value} {h : j_H} {C : String} (ht : j_aty t = .object C) (hsh : j_sh h a = some (.inl (t, n))) (hin : vp_in i n) (hd : decode cc pc = .ok (.aaload, 1))
    (k : j_W p l e R s m args below meth c D bs E h0 nL QQ (pc + 1) lv (va_rf (j_R h a i.toNatClampNeg) :: r) h) : j_W p l e R s m args below meth c D bs E h0 nL QQ pc lv (.int i :: .ref a :: r) h := by
  obtain ⟨hex, hb, -⟩ := X
  intro ls H locs hl hR hS hc
  obtain ⟨-, -, ce, c1, c2, -, c4, c5, c6⟩ := j_rep_arr hR hsh
  rw [ht] at c2 c6
  exact W.aald (v := va_rf (j_R h a i.toNatClampNeg)) hex hb c1 c2 rfl c4.1 (by rw [c5]; exact hin) (c6 _ (j_lt hin)) (g := F0 m pc ls (.int i :: .ref a :: r)) rfl rfl hd (k ls H locs hl hR hS hc)
theorem j_alen (X : j_Ctx p l R s m args meth c D bs E h0 d own cc nL ret) {pc a n t : Nat} {lv r : List Value} {h : j_H} (hsh : j_sh h a = some (.inl (t, n))) (hd : decode cc pc = .ok (.arraylength, 1))
    (k : j_W p l e R s m args below meth c D bs E h0 nL QQ (pc + 1) lv (.int (nI n) :: r) h) : j_W p l e R s m args below meth c D bs E h0 nL QQ pc lv (.ref a :: r) h := by
  obtain ⟨hex, hb, -⟩ := X
  intro ls H locs hl hR hS hc
  obtain ⟨-, -, ce, c1, c2, -, c4, c5, c6⟩ := j_rep_arr hR hsh
  exact W.alen (n := nI n) hex hb c1 c2 (by rw [c5]; rfl) (g := F0 m pc ls (.ref a :: r)) rfl rfl hd (k ls H locs hl hR hS hc)
/-- a place has been written: what goes on -/
theorem j_goes {pc a n t i : Nat} {ls : Array Slot} {lv r : List Value} {h h' : j_H} {H : Heap} {locs : List Loc} {ce : Cell} {w : Value} (ht : t < 7) (hl : lv_has ls nL (j_as 0 lv)) (hR : j_rep D bs s h H) (hS : va_S (j_A bs) s.heap H locs) (hc : j_cn E h0 h) (hsh : j_sh h a = some (.inl (t, n))) (hi : i < n)
    (q2 : s.isArrayOf ce (j_aty t)) (q3 : j_ra s ce (j_aty t)) (q4 : ce.vm ≠ .unknown ∧ (t < 7 → j_pl ce)) (q5 : ce.slots.size = n) (q6 : ∀ j, j < n → ce.slots[j]? = some (j_fv h a (j_aty t) j))
    (hs' : j_sh h' = j_sh h) (hz' : j_z h' = j_z h) (hc' : j_c h' = j_c h) (hk' : j_k h' = j_k h) (hv : ∀ b, b ≠ a → ∀ ty j, j_fv h' b ty j = j_fv h b ty j) (hvk : j_fv h' a (j_aty t) i = w) (hvj : ∀ j, j ≠ i → j_fv h' a (j_aty t) j = j_fv h a (j_aty t) j)
    (k : j_W p l e R s m args below meth c D bs E h0 nL QQ pc lv r h') : ∀ H' : Heap, H'[a]? = some (ce.setSlot i w) → H'.size = H.size → (∀ q, q ≠ a → H'[q]? = H[q]?) → W p l e R s m args below meth c H' (locs ++ [⟨a, i⟩]) (j_c h - j_c h0) (j_k h - j_k h0) QQ (F0 m pc ls r) := by
  intro H' e1 e2 e3
  have hR' := j_rep_ast hR hsh hi q2 q3 q4 q5 q6 e1 e2 e3 hs' hz' hv hvk hvj
  have kk := k ls H' (locs ++ [⟨a, i⟩]) hl hR' (hS.put e2 e3 ((j_rep_arr hR hsh).1 ht)) (by unfold j_cn at hc ⊢; rw [hc', hk']; exact hc)
  rw [hc', hk'] at kk
  exact kk
theorem j_iast (X : j_Ctx p l R s m args meth c D bs E h0 d own cc nL ret) {pc a n : Nat} {i w : Int32} {lv r : List Value} {h : j_H} (hsh : j_sh h a = some (.inl (0, n))) (hin : vp_in i n) (hd : decode cc pc = .ok (.iastore, 1))
    (k : j_W p l e R s m args below meth c D bs E h0 nL QQ (pc + 1) lv r (j_setI h a i.toNatClampNeg w)) : j_W p l e R s m args below meth c D bs E h0 nL QQ pc lv (.int w :: .int i :: .ref a :: r) h := by
  obtain ⟨hex, hb, -⟩ := X
  intro ls H locs hl hR hS hc
  obtain ⟨-, -, ce, c1, c2, c3, c4, c5, c6⟩ := j_rep_arr hR hsh
  exact W.iast hex hb c1 c2 c4.1 (by rw [c5]; exact hin) (g := F0 m pc ls (.int w :: .int i :: .ref a :: r)) rfl rfl hd (j_goes (h' := j_setI h a i.toNatClampNeg w) (by decide) hl hR hS hc hsh (j_lt hin) c2 c3 c4 c5 c6 rfl rfl rfl rfl (fun b hb ty j => j_fv_I hb) (by simp [j_fv, j_aty, j_setI, j_I, j_up]) (fun j hj => by simp [j_fv, j_aty, j_setI, j_I, j_up, hj]) k)
theorem j_bast (X : j_Ctx p l R s m args meth c D bs E h0 d own cc nL ret) {pc a n : Nat} {i w : Int32} {lv r : List Value} {h : j_H} (hsh : j_sh h a = some (.inl (3, n))) (hin : vp_in i n) (hd : decode cc pc = .ok (.bastore, 1))
    (k : j_W p l e R s m args below meth c D bs E h0 nL QQ (pc + 1) lv r (j_setI h a i.toNatClampNeg w.toInt8.toInt32)) : j_W p l e R s m args below meth c D bs E h0 nL QQ pc lv (.int w :: .int i :: .ref a :: r) h := by
  obtain ⟨hex, hb, -⟩ := X
  intro ls H locs hl hR hS hc
  obtain ⟨-, -, ce, c1, c2, c3, c4, c5, c6⟩ := j_rep_arr hR hsh
  exact W.bast hex hb c1 c2 c4.1 (by rw [c5]; exact hin) (g := F0 m pc ls (.int w :: .int i :: .ref a :: r)) rfl rfl hd (j_goes (h' := j_setI h a i.toNatClampNeg w.toInt8.toInt32) (by decide) hl hR hS hc hsh (j_lt hin) c2 c3 c4 c5 c6 rfl rfl rfl rfl (fun b hb ty j => j_fv_I hb) (by rw [narrow_byte]; simp [j_fv, j_aty, j_setI, j_I, j_up]) (fun j hj => by simp [j_fv, j_aty, j_setI, j_I, j_up, hj]) k)
theorem j_last (X : j_Ctx p l R s m args meth c D bs E h0 d own cc nL ret) {pc a n : Nat} {i : Int32} {w : Int64} {lv r : List Value} {h : j_H} (hsh : j_sh h a = some (.inl (1, n))) (hin : vp_in i n) (hd : decode cc pc = .ok (.lastore, 1))
    (k : j_W p l e R s m args below meth c D bs E h0 nL QQ (pc + 1) lv r (j_setL h a i.toNatClampNeg w)) : j_W p l e R s m args below meth c D bs E h0 nL QQ pc lv (.long w :: .int i :: .ref a :: r) h := by
  obtain ⟨hex, hb, -⟩ := X
  intro ls H locs hl hR hS hc
  obtain ⟨-, -, ce, c1, c2, c3, c4, c5, c6⟩ := j_rep_arr hR hsh
  exact W.last hex hb c1 c2 c4.1 (by rw [c5]; exact hin) (g := F0 m pc ls (.long w :: .int i :: .ref a :: r)) rfl rfl hd (j_goes (h' := j_setL h a i.toNatClampNeg w) (by decide) hl hR hS hc hsh (j_lt hin) c2 c3 c4 c5 c6 rfl rfl rfl rfl (fun b hb ty j => j_fv_L hb) (by simp [j_fv, j_aty, j_setL, j_L, j_up]) (fun j hj => by simp [j_fv, j_aty, j_setL, j_L, j_up, hj]) k)
theorem j_dast (X : j_Ctx p l R s m args meth c D bs E h0 d own cc nL ret) {pc a n : Nat} {i : Int32} {w : UInt64} {lv r : List Value} {h : j_H} (hsh : j_sh h a = some (.inl (2, n))) (hin : vp_in i n) (hd : decode cc pc = .ok (.dastore, 1))
    (k : j_W p l e R s m args below meth c D bs E h0 nL QQ (pc + 1) lv r (j_setD h a i.toNatClampNeg w)) : j_W p l e R s m args below meth c D bs E h0 nL QQ pc lv (.double w :: .int i :: .ref a :: r) h := by
  obtain ⟨hex, hb, -⟩ := X
  intro ls H locs hl hR hS hc
  obtain ⟨-, -, ce, c1, c2, c3, c4, c5, c6⟩ := j_rep_arr hR hsh
  exact W.dast hex hb c1 c2 c4.1 (by rw [c5]; exact hin) (g := F0 m pc ls (.double w :: .int i :: .ref a :: r)) rfl rfl hd (j_goes (h' := j_setD h a i.toNatClampNeg w) (by decide) hl hR hS hc hsh (j_lt hin) c2 c3 c4 c5 c6 rfl rfl rfl rfl (fun b hb ty j => j_fv_D hb) (by simp [j_fv, j_aty, j_setD, j_D, j_up]) (fun j hj => by simp [j_fv, j_aty, j_setD, j_D, j_up, hj]) k)
theorem j_aast (X : j_Ctx p l R s m args meth c D bs E h0 d own cc nL ret) {pc a n t w y : Nat} {i : Int32} {lv r : List Value} {h : j_H} {cr : vw_C} (ht7 : t < 7) (hcr : j_cl[y]? = some cr) (ht : j_aty t = .object cr.1) (hsh : j_sh h a = some (.inl (t, n))) (hin : vp_in i n) (hw : j_sh h w = some (.inr y)) (hd : decode cc pc = .ok (.aastore, 1))
    (k : j_W p l e R s m args below meth c D bs E h0 nL QQ (pc + 1) lv r (j_setR h a i.toNatClampNeg (some w))) : j_W p l e R s m args below meth c D bs E h0 nL QQ pc lv (.ref w :: .int i :: .ref a :: r) h := by
  obtain ⟨hex, hb, hml, hr, hown, hts, henv, hRm, hlocks, htab, hst, hbs⟩ := X
  intro ls H locs hl hR hS hc
  obtain ⟨-, -, ce, c1, c2, c3, c4, c5, c6⟩ := j_rep_arr hR hsh
  obtain ⟨r2, hr2, cw, w1, w2, w3, w4⟩ := j_rep_obj hR hw
  cases Option.some.inj (hcr.symm.trans hr2)
  obtain ⟨-, hfc, kC, hkC, hkind⟩ := henv.1.1 y _ hcr
  have c3' := c3
  rw [ht] at c3'
  obtain ⟨kA, comp, k1, k2, k3⟩ := c3'
  have hcomp : comp = D.1 y := Option.some.inj (k3.symm.trans hfc)
  subst hcomp
  exact W.aast hex hb c1 (fun q => c2.1 q) c4.1 k1 k2 rfl hkC ⟨fun z => hin (Or.inl z), by rw [c5]; exact j_lt hin⟩ w1 (fun q => by rw [w3]; exact fun z => by cases z) (by rw [w2]; exact hkC) (by rw [w2]; exact va_asg _ _) (g := F0 m pc ls (.ref w :: .int i :: .ref a :: r)) rfl rfl hd (j_goes (h' := j_setR h a i.toNatClampNeg (some w)) ht7 hl hR hS hc hsh (j_lt hin) c2 c3 c4 c5 c6 rfl rfl rfl rfl (fun b hb ty j => j_fv_R hb) (by simp [ht, j_fv, j_setR, j_R, j_up, va_rf]) (fun j hj => by simp [ht, j_fv, j_setR, j_R, j_up, hj]) k)
end JRowsB
end
section
/-! ===== the machine follows: new cells, ends, members of the machine's own, throws ===== -/
section JRowsC
variable {p : Program} {l : Launch} {e : Env} {R : Room} {s : State} {m : MethodId} {args : Array Value} {below : List Frame} {meth : Method} {c : Code}
variable {D : va_G} {bs : Nat} {E : j_E} {h0 : j_H} {d : Nat} {own : String} {cc : ByteArray} {nL : Nat} {ret : Option FieldType} {QQ : State → Prop}
theorem j_newgo {pc n : Nat} {ls : Array Slot} {lv st : List Value} {h : j_H} {sp : j_S} {H H' : Heap} {locs : List Loc} (hl : lv_has ls nL (j_as 0 lv)) (hR : j_rep D bs s h H) (hS : va_S (j_A bs) s.heap H locs) (hc : j_cn E h0 h) (hc1 : j_c h + 1 ≤ E.2.1) (hc2 : j_k h + n ≤ E.2.2)
    (z1 : H'.size = j_z h + 1) (o1 : ∀ q, q < j_z h → H'[q]? = H[q]?) (ha : j_at D bs s (j_new h sp n) H' (j_z h) sp) (k : j_W p l e R s m args below meth c D bs E h0 nL QQ pc lv st (j_new h sp n)) : W p l e R s m args below meth c H' locs (j_c h - j_c h0 + 1) (j_k h - j_k h0 + n) QQ (F0 m pc ls st) := by
  obtain ⟨a1, a2, a3, a4⟩ := hc
  have hS' : va_S (j_A bs) s.heap H' locs := ⟨Nat.le_trans hS.1 (by rw [z1, hR.1]; omega), fun q g1 g2 => (o1 q (by rw [← hR.1]; exact Nat.lt_of_lt_of_le g1 hS.1)).trans (hS.2.1 q g1 g2), hS.2.2⟩
  have kk := k ls H' locs hl (j_rep_new hR z1 o1 ha) hS' ⟨Nat.le_succ_of_le a1, hc1, Nat.le_trans a3 (Nat.le_add_right _ _), hc2⟩
  have e1 : j_c (j_new h sp n) - j_c h0 = j_c h - j_c h0 + 1 := by show j_c h + 1 - j_c h0 = _; omega
  have e2 : j_k (j_new h sp n) - j_k h0 = j_k h - j_k h0 + n := by show j_k h + n - j_k h0 = _; omega
  rw [e1, e2] at kk
  exact kk
theorem j_newc (X : j_Ctx p l R s m args meth c D bs E h0 d own cc nL ret) {pc x idx n : Nat} {lv st : List Value} {h : j_H} {cr : vw_C} (hcr : j_cl[x]? = some cr) (hok : j_clok x cr) (hn : cr.2.2 = n) (hnf : ∀ j, j < n → j_ty x j ≠ .float)
    (w1 : Cond.classLink own idx cr.1 ∈ j_tbl) (w2 : Cond.instantiable cr.1 n ∈ j_tbl) (w3 : Cond.initialized cr.1 ∈ j_tbl) (hc1 : j_c h + 1 ≤ E.2.1) (hc2 : j_k h + n ≤ E.2.2) (hd : decode cc pc = .ok (.new idx, 3))
    (k : j_W p l e R s m args below meth c D bs E h0 nL QQ (pc + 3) lv (.ref (j_z h) :: st) (j_new h (.inr x) n)) : j_W p l e R s m args below meth c D bs E h0 nL QQ pc lv st h := by
  obtain ⟨hex, hb, hml, hr, hown, hts, henv, hRm, hlocks, htab, hst, hbs⟩ := X
  intro ls H locs hl hR hS hc
  subst hn
  have hKn := henv.1.1 x _ hcr
  have hc' := hc
  obtain ⟨a1, a2, a3, a4⟩ := hc'
  refine W.newcK hex hb hown (hts _ w1) (hts _ w2) (hts _ w3) (g := F0 m pc ls st) rfl hd (by rw [hRm]; simp only [j_room]; omega) (by rw [hRm]; simp only [j_room]; omega) hKn.2.1 hR.1 fun H1 kC hkC e1 z1 o1 => ?_
  exact j_newgo (sp := .inr x) hl hR hS hc hc1 hc2 z1 o1 ⟨fun _ => hR.2.1, cr, hcr, (u_born (j_ty x) hts hok.1 hKn hkC e1 hok.2.1).to (fun j hj => (j_fv_new0 (hnf j hj)).symm)⟩ k
theorem j_newa (X : j_Ctx p l R s m args meth c D bs E h0 d own cc nL ret) {pc t : Nat} {aty : ArrayType} {n : Int32} {lv r : List Value} {h : j_H} (ht : j_aty t = newarray.typeOf aty) (hnf : newarray.typeOf aty ≠ .float) (w1 : Cond.arrayClass (newarray.typeOf aty) ∈ j_tbl)
    (hn : ¬ n < 0) (hn2 : n.toNatClampNeg ≤ 1000000) (hc1 : j_c h + 1 ≤ E.2.1) (hc2 : j_k h + n.toNatClampNeg ≤ E.2.2) (hd : decode cc pc = .ok (.newarray aty, 2))
    (k : j_W p l e R s m args below meth c D bs E h0 nL QQ (pc + 2) lv (.ref (j_z h) :: r) (j_new h (.inl (t, n.toNatClampNeg)) n.toNatClampNeg)) : j_W p l e R s m args below meth c D bs E h0 nL QQ pc lv (.int n :: r) h := by
  obtain ⟨hex, hb, hml, hr, hown, hts, henv, hRm, hlocks, htab, hst, hbs⟩ := X
  intro ls H locs hl hR hS hc
  have hc' := hc
  obtain ⟨a1, a2, a3, a4⟩ := hc'
  have hby : componentBytes (newarray.typeOf aty) ≤ 8 := by cases aty <;> decide
  refine W.newaK hex hb (hts _ w1) (g := F0 m pc ls (.int n :: r)) rfl hd rfl hn rfl (Nat.le_trans (Nat.mul_le_mul hn2 hby) (by decide)) (by rw [hRm]; simp only [j_room]; omega) (by rw [hRm]; simp only [j_room]; omega) hR.1 fun H1 cA e1 z1 o1 hArr => ?_
  refine j_newgo (sp := .inl (t, n.toNatClampNeg)) hl hR hS hc hc1 hc2 z1 o1 ⟨fun _ => hR.2.1, by omega, _, e1, by rw [ht]; exact hArr _ _, ?_, ⟨fun z => (by cases z), fun _ => ⟨rfl, rfl, rfl⟩⟩, arrV_size _ _ _, fun j hj => by rw [arrV_read _ _ hj, ht, j_fv_new0 hnf]⟩ k
  rw [ht]
  cases aty <;> exact trivial
theorem j_anew (X : j_Ctx p l R s m args meth c D bs E h0 d own cc nL ret) {pc t idx : Nat} {C : String} {n : Int32} {lv r : List Value} {h : j_H} (ht : j_aty t = .object C) (w1 : Cond.classLink own idx C ∈ j_tbl) (w2 : va_AO C s)
    (hn : ¬ n < 0) (hn2 : n.toNatClampNeg ≤ 1000000) (hc1 : j_c h + 1 ≤ E.2.1) (hc2 : j_k h + n.toNatClampNeg ≤ E.2.2) (hd : decode cc pc = .ok (.anewarray idx, 3))
    (k : j_W p l e R s m args below meth c D bs E h0 nL QQ (pc + 3) lv (.ref (j_z h) :: r) (j_new h (.inl (t, n.toNatClampNeg)) n.toNatClampNeg)) : j_W p l e R s m args below meth c D bs E h0 nL QQ pc lv (.int n :: r) h := by
  obtain ⟨hex, hb, hml, hr, hown, hts, henv, hRm, hlocks, htab, hst, hbs⟩ := X
  intro ls H locs hl hR hS hc
  have hc' := hc
  obtain ⟨a1, a2, a3, a4⟩ := hc'
  refine W.anew hex hb hown (hts _ w1) (va_AO.use w2) (g := F0 m pc ls (.int n :: r)) rfl hd rfl hn (by omega) (by rw [hRm]; simp only [j_room]; omega) (by rw [hRm]; simp only [j_room]; omega) fun cA kA comp f1 f2 f3 f4 => ?_
  have hz := hR.1
  show W p l e R s m args below meth c _ locs _ _ QQ (F0 m (pc + 3) ls (.ref H.size :: r))
  rw [hz]
  refine j_newgo (sp := .inl (t, n.toNatClampNeg)) hl hR hS hc hc1 hc2 (by simp [hz]) (fun q hq => by rw [Array.getElem?_push]; rw [if_neg (by omega)]) ⟨fun _ => hR.2.1, by omega, _, by rw [← hz, Array.getElem?_push_size], ?_, ?_, ⟨fun z => (by cases z), fun _ => ⟨rfl, rfl, rfl⟩⟩, by simp, fun j hj => ?_⟩ k
  · rw [ht]
    exact ⟨fun q z => (by cases z), kA, f2, comp, f3⟩
  · rw [ht]
    exact ⟨kA, comp, f2, f3, f4⟩
  · rw [ht, j_fv_new0 (by intro z; cases z)]
    simp [hj, defaultValue]
/-! the ends -/
theorem j_iret (X : j_Ctx p l R s m args meth c D bs E h0 d own cc nL ret) {pc k : Nat} {lv : List Value} {h : j_H} {v : Int32} {ty : FieldType} {post : j_O → j_H → Prop} (hret : ret = some ty) (hk : (ty = .int ∧ k = 0) ∨ (ty = .boolean ∧ k = 1) ∨ (ty = .byte ∧ k = 2) ∨ (ty = .char ∧ k = 3)) (hn : j_nar k v) (hp : post (.inl (some (.int v))) h) (hd : decode cc pc = .ok (.ireturn, 1)) :
    j_W p l e R s m args below meth c D bs E h0 nL (j_MQ below D bs E h0 post args s) pc lv [.int v] h := by
  obtain ⟨hex, hb, hml, hr, hown, hts, henv, hRm, hlocks, htab, hst, hbs⟩ := X
  intro ls H locs hl hR hS hc
  refine j_Wimp (j_fin hR hS hc hp) (W.zret hex hb (hr.trans hret) (j_narrow hk hn).1 (fun t g1 g2 => ⟨rfl, g1, g2⟩) (fun q hq => hS.2.2 q hq) hd hlocks)
theorem j_lret (X : j_Ctx p l R s m args meth c D bs E h0 d own cc nL ret) {pc : Nat} {lv : List Value} {h : j_H} {v : Int64} {post : j_O → j_H → Prop} (hret : ret = some .long) (hp : post (.inl (some (.long v))) h) (hd : decode cc pc = .ok (.lreturn, 1)) :
    j_W p l e R s m args below meth c D bs E h0 nL (j_MQ below D bs E h0 post args s) pc lv [.long v] h := by
  obtain ⟨hex, hb, hml, hr, hown, hts, henv, hRm, hlocks, htab, hst, hbs⟩ := X
  intro ls H locs hl hR hS hc
  refine j_Wimp (j_fin hR hS hc hp) (W.lret hex hb (hr.trans hret) (fun t g1 g2 => ⟨rfl, g1, g2⟩) (fun q hq => hS.2.2 q hq) hd hlocks)
theorem j_fret (X : j_Ctx p l R s m args meth c D bs E h0 d own cc nL ret) {pc : Nat} {lv : List Value} {h : j_H} {v : UInt32} {post : j_O → j_H → Prop} (hret : ret = some .float) (hp : post (.inl (some (.float v))) h) (hd : decode cc pc = .ok (.freturn, 1)) :
    j_W p l e R s m args below meth c D bs E h0 nL (j_MQ below D bs E h0 post args s) pc lv [.float v] h := by
  obtain ⟨hex, hb, hml, hr, hown, hts, henv, hRm, hlocks, htab, hst, hbs⟩ := X
  intro ls H locs hl hR hS hc
  refine j_Wimp (j_fin hR hS hc hp) (W.fret hex hb (hr.trans hret) (fun t g1 g2 => ⟨rfl, g1, g2⟩) (fun q hq => hS.2.2 q hq) hd hlocks)
theorem j_dret (X : j_Ctx p l R s m args meth c D bs E h0 d own cc nL ret) {pc : Nat} {lv : List Value} {h : j_H} {v : UInt64} {post : j_O → j_H → Prop} (hret : ret = some .double) (hp : post (.inl (some (.double v))) h) (hd : decode cc pc = .ok (.dreturn, 1)) :
    j_W p l e R s m args below meth c D bs E h0 nL (j_MQ below D bs E h0 post args s) pc lv [.double v] h := by
  obtain ⟨hex, hb, hml, hr, hown, hts, henv, hRm, hlocks, htab, hst, hbs⟩ := X
  intro ls H locs hl hR hS hc
  refine j_Wimp (j_fin hR hS hc hp) (W.dret hex hb (hr.trans hret) (fun t g1 g2 => ⟨rfl, g1, g2⟩) (fun q hq => hS.2.2 q hq) hd hlocks)
theorem j_aret (X : j_Ctx p l R s m args meth c D bs E h0 d own cc nL ret) {pc v : Nat} {lv : List Value} {h : j_H} {rt : FieldType} {post : j_O → j_H → Prop} (hret : ret = some rt) (hrt : (∃ n, rt = .object n) ∨ ∃ t, rt = .array t) (hp : post (.inl (some (.ref v))) h) (hd : decode cc pc = .ok (.areturn, 1)) :
    j_W p l e R s m args below meth c D bs E h0 nL (j_MQ below D bs E h0 post args s) pc lv [.ref v] h := by
  obtain ⟨hex, hb, hml, hr, hown, hts, henv, hRm, hlocks, htab, hst, hbs⟩ := X
  intro ls H locs hl hR hS hc
  refine j_Wimp (j_fin hR hS hc hp) (W.aret hex hb (hr.trans hret) hrt (Or.inr ⟨v, rfl⟩) (fun t g1 g2 => ⟨rfl, g1, g2⟩) (fun q hq => hS.2.2 q hq) hd hlocks)
theorem j_vret (X : j_Ctx p l R s m args meth c D bs E h0 d own cc nL ret) {pc : Nat} {lv : List Value} {h : j_H} {post : j_O → j_H → Prop} (hret : ret = none) (hp : post (.inl none) h) (hd : decode cc pc = .ok (.return_, 1)) :
    j_W p l e R s m args below meth c D bs E h0 nL (j_MQ below D bs E h0 post args s) pc lv [] h := by
  obtain ⟨hex, hb, hml, hr, hown, hts, henv, hRm, hlocks, htab, hst, hbs⟩ := X
  intro ls H locs hl hR hS hc
  refine j_Wimp (j_fin hR hS hc hp) (W.vret hex hb (hr.trans hret) (fun t g1 g2 => ⟨rfl, g1, g2⟩) (fun q hq => hS.2.2 q hq) hd hlocks)
end JRowsC
end
section
/-! ===== members of the machine's own ===== -/
theorem j_arrV {ce : Cell} {n : Nat} {V : Nat → Value} (h1 : j_pl ce) (h2 : ce.slots.size = n) (h3 : ∀ j, j < n → ce.slots[j]? = some (V j)) : ce = arrV ce.cls n V := by
  have hs : ce.slots = (arrV ce.cls n V).slots := by
    apply Array.ext_getElem?
    intro i
    by_cases hi : i < n
    · rw [h3 i hi, arrV_read _ _ hi]
    · rw [Array.getElem?_eq_none (by rw [h2]; omega), Array.getElem?_eq_none (by rw [arrV_size]; omega)]
  obtain ⟨g1, g2, g3⟩ := h1
  cases ce
  simp only [arrV] at hs g1 g2 g3 ⊢
  simp_all
section JRowsD
variable {p : Program} {l : Launch} {e : Env} {R : Room} {s : State} {m : MethodId} {args : Array Value} {below : List Frame} {meth : Method} {c : Code}
variable {D : va_G} {bs : Nat} {E : j_E} {h0 : j_H} {d : Nat} {own : String} {cc : ByteArray} {nL : Nat} {ret : Option FieldType} {QQ : State → Prop}
def j_wdN (own : String) (k : Nat) : Nat → List Cond
  | 0 => [.methodLink own k Lib.Math.min.name, .static Lib.Math.min.name, .initialized "java/lang/Math", .code Lib.Math.min.name Lib.Math.min.code 2 (some .int)]
  | 1 => [.methodLink own k Lib.Math.max.name, .static Lib.Math.max.name, .initialized "java/lang/Math", .code Lib.Math.max.name Lib.Math.max.code 2 (some .int)]
  | 2 => [.methodLink own k Lib.MathLoose.min_long.x, .static Lib.MathLoose.min_long.x, .initialized "java/lang/Math", .code Lib.MathLoose.min_long.x Lib.MathLoose.min_long.code 4 (some .long)]
  | 3 => [.methodLink own k Lib.MathLoose.max_long.x, .static Lib.MathLoose.max_long.x, .initialized "java/lang/Math", .code Lib.MathLoose.max_long.x Lib.MathLoose.max_long.code 4 (some .long)]
  | 4 => [.methodLink own k Lib.MathLoose.abs_long.x, .static Lib.MathLoose.abs_long.x, .initialized "java/lang/Math", .code Lib.MathLoose.abs_long.x Lib.MathLoose.abs_long.code 2 (some .long)]
  | 5 => [.methodLink own k arraycopyName, .native arraycopyName, .static arraycopyName, .initialized "java/lang/System"]
  | _ => [.methodLink own k Lib.objectInit, .instanceMethod Lib.objectInit, .code Lib.objectInit ⟨#[0xb1]⟩ 1 none]
theorem j_bud (X : j_Ctx p l R s m args meth c D bs E h0 d own cc nL ret) {h : j_H} (hc : j_cn E h0 h) : 1 ≤ R.frames ∧ 180 ≤ R.locals ∧ j_c h - j_c h0 ≤ R.cells ∧ j_k h - j_k h0 ≤ R.slots := by
  obtain ⟨hex, hb, hml, hr, hown, hts, henv, hRm, hlocks, htab, hst, hbs⟩ := X
  obtain ⟨a1, a2, a3, a4⟩ := hc
  rw [hRm]
  simp only [j_room]
  refine ⟨by omega, by omega, by omega, by omega⟩
theorem j_copy (X : j_Ctx p l R s m args meth c D bs E h0 d own cc nL ret) {pc k a0 a n0 n1 : Nat} {sp dp n : Int32} {lv r : List Value} {h : j_H} (hw : ∀ w ∈ j_wdN own k 5, w ∈ j_tbl) (hcw : j_cw r = true) (hs0 : j_sh h a0 = some (.inl (0, n0))) (hs1 : j_sh h a = some (.inl (0, n1)))
    (h1 : ¬ sp < 0) (h2 : ¬ dp < 0) (h3 : ¬ n < 0) (h4 : sp.toNatClampNeg + n.toNatClampNeg ≤ n0) (h5 : dp.toNatClampNeg + n.toNatClampNeg ≤ n1) (hd : decode cc pc = .ok (.invokestatic k, 3))
    (kk : j_W p l e R s m args below meth c D bs E h0 nL QQ (pc + 3) lv r (j_rowI h a (va_cpy (j_I h a0) (j_I h a) sp.toNatClampNeg dp.toNatClampNeg n.toNatClampNeg))) : j_W p l e R s m args below meth c D bs E h0 nL QQ pc lv (.int n :: .int dp :: .ref a :: .int sp :: .ref a0 :: r) h := by
  have X9 := X
  obtain ⟨hex, hb, hml, hr, hown, hts, henv, hRm, hlocks, htab, hst, hbs⟩ := X
  have nn : ∀ z : Int32, ¬ z < 0 → z.toInt = (z.toNatClampNeg : Int) := by
    intro z hz
    have hz0 : (0 : Int) ≤ z.toInt := by
      have := Int32.not_lt.mp hz
      simpa using Int32.le_iff_toInt_le.mp this
    show z.toInt = ((z.toInt.toNat : Nat) : Int)
    omega
  intro ls H locs hl hR hS hc T hT XX
  obtain ⟨b1, b2, b3, b4⟩ := j_bud X9 hc
  obtain ⟨-, -, c0, p1, p2, -, p4, p5, p6⟩ := j_rep_arr hR hs0
  obtain ⟨gA, gn, c1, q1, q2, -, q4, q5, q6⟩ := j_rep_arr hR hs1
  have e0 := j_arrV (V := fun j => .int (j_I h a0 j)) (p4.2 (by decide)) p5 p6
  have e1 := j_arrV (V := fun j => .int (j_I h a j)) (q4.2 (by decide)) q5 q6
  generalize c0.cls = k0 at e0
  generalize c1.cls = k1 at e1
  subst e0 e1
  obtain ⟨-, kc0, hk0, cm0, hkk0⟩ := id p2
  obtain ⟨-, kc1, hk1, cm1, hkk1⟩ := id q2
  have hcat := j_cat hcw
  have hnw9 : nativeFrameWords "java/lang/System" "arraycopy" 5 ≤ 100 := by decide
  obtain ⟨vm', X', step⟩ := XX.arraycopy hex hown (hts (.methodLink own k arraycopyName) (hw _ (by simp [j_wdN]))) (hts (.native arraycopyName) (hw _ (by simp [j_wdN]))) (hts (.static arraycopyName) (hw _ (by simp [j_wdN]))) (hts (.initialized "java/lang/System") (hw _ (by simp [j_wdN]))) (src := a0) (dst := a) (cs := arrV k0 n0 (fun j => .int (j_I h a0 j))) (cd := arrV k1 n1 (fun j => .int (j_I h a j))) (srcPos := sp) (destPos := dp) (n := n) (by rw [hT]; exact p1) (by rw [hT]; exact q1)
    (fun _ h => by cases h) (fun _ h => by cases h) (fun h => by cases h) (fun h => by cases h) hk0 hk1 hkk0 hkk1 (by simp [j_aty, refKind]) h1 h2 h3
    (by rw [nn sp h1, nn n h3]; show ¬ _ > ((arrV k0 n0 (fun j => .int (j_I h a0 j))).slots.size : Int); rw [arrV_size]; omega)
    (by rw [nn dp h2, nn n h3]; show ¬ _ > ((arrV k1 n1 (fun j => .int (j_I h a j))).slots.size : Int); rw [arrV_size]; omega)
    (fun vm₁ _ i hi => by
      have e : (arrV k0 n0 (fun j => .int (j_I h a0 j))).slots.getD (sp.toNatClampNeg + i) .null = .int (j_I h a0 (sp.toNatClampNeg + i)) := by
        rw [Array.getD_eq_getD_getElem?, arrV_read _ _ (by omega)]
        rfl
      refine ⟨?_, ?_⟩
      · rw [e]
        rfl
      · rw [e]
        exact trivial)
    (g := F0 m pc ls (.int n :: .int dp :: .ref a :: .int sp :: .ref a0 :: r)) rfl (hl.1.trans hml.symm) (rest := r) rfl (by rw [hb]; exact hd) b1 (by show 2 * 0 + _ + (_ + 11) ≤ _; omega)
  have ec : copied (arrV k0 n0 (fun j => .int (j_I h a0 j))) (arrV k1 n1 (fun j => .int (j_I h a j))) sp dp n = arrV k1 n1 (fun j => .int (va_cpy (j_I h a0) (j_I h a) sp.toNatClampNeg dp.toNatClampNeg n.toNatClampNeg j)) := va_copied (fun z => .int z) k0 k1 (j_I h a0) (j_I h a) h4
  rw [ec] at X' step
  have hlt : a < H.size := (Array.getElem?_eq_some_iff.mp q1).1
  generalize hnw : arrV k1 n1 (fun j => .int (va_cpy (j_I h a0) (j_I h a) sp.toNatClampNeg dp.toNatClampNeg n.toNatClampNeg j)) = nw at X' step
  have hheap : ((T.setVm vm').setCell a nw).heap = H.setIfInBounds a nw := by rw [← hT]; rfl
  have oq : ∀ q : Nat, q ≠ a → (H.setIfInBounds a nw)[q]? = H[q]? := fun q hq => by simp [Array.getElem?_setIfInBounds, Ne.symm hq]
  have ha : j_A bs a := gA (by decide)
  have hR' : j_rep D bs s (j_rowI h a (va_cpy (j_I h a0) (j_I h a) sp.toNatClampNeg dp.toNatClampNeg n.toNatClampNeg)) (H.setIfInBounds a nw) := by
    refine j_rep_upd hR rfl rfl hs1 (fun b hb ty j => j_fv_row hb) (by simp) oq ⟨gA, gn, nw, by simp [Array.getElem?_setIfInBounds, hlt], ?_, trivial, ?_, ?_, ?_⟩
    · rw [← hnw]
      exact ⟨fun _ z => (by cases z), kc1, hk1, cm1, hkk1⟩
    · rw [← hnw]
      exact ⟨fun z => (by cases z), fun _ => ⟨rfl, rfl, rfl⟩⟩
    · rw [← hnw]
      exact arrV_size _ _ _
    · intro j hj
      rw [← hnw, arrV_read _ _ hj]
      simp [j_fv, j_aty, j_rowI, j_I, j_row]
  obtain ⟨t, a1, b1⟩ := kk ls _ _ hl hR' ⟨by simp; exact hS.1, fun q g1 g2 => by
      rw [oq q (fun e => g2 (by rw [e]; exact ha))]
      exact hS.2.1 q g1 g2, fun q hq => by
      rcases List.mem_append.mp hq with h | h
      · exact hS.2.2 q h
      · obtain ⟨z, -, hz⟩ := List.mem_map.mp h
        rw [← hz]
        exact ha⟩ hc _ hheap X'
  exact ⟨t, step t a1, b1⟩
/-- the members of the machine's own -/
theorem j_okN (X : j_Ctx p l R s m args meth c D bs E h0 d own cc nL ret) {pc k i : Nat} {lv st : List Value} {h : j_H} {nx : List Value → j_H → Prop} (hw : ∀ w ∈ j_wdN own k i, w ∈ j_tbl) (hd : (i < 6 ∧ decode cc pc = .ok (.invokestatic k, 3)) ∨ (6 ≤ i ∧ decode cc pc = .ok (.invokespecial k, 3)))
    (hnx : ∀ st h, nx st h → j_W p l e R s m args below meth c D bs E h0 nL QQ (pc + 3) lv st h) (G : j_nat i st h nx) : j_W p l e R s m args below meth c D bs E h0 nL QQ pc lv st h := by
  have X9 := X
  obtain ⟨hex, hb, hml, hr, hown, hts, henv, hRm, hlocks, htab, hst, hbs⟩ := X
  match i, hw, hd, G with
  | 0, hw, hd, G =>
    obtain ⟨a, b, r, rfl, g⟩ := j_i2_inv G
    obtain ⟨g1, g2⟩ := j_few_iff.mp g
    have hcat := j_cat g1
    intro ls H locs hl hR hS hc
    obtain ⟨b1, b2, b3, b4⟩ := j_bud X9 hc
    exact va_mmin hex hb (hml.trans hl.1.symm) hown (hts (.methodLink own k Lib.Math.min.name) (hw _ (by simp [j_wdN]))) (hts (.static Lib.Math.min.name) (hw _ (by simp [j_wdN]))) (hts (.initialized "java/lang/Math") (hw _ (by simp [j_wdN]))) (hts (.code Lib.Math.min.name Lib.Math.min.code 2 (some .int)) (hw _ (by simp [j_wdN]))) b1 (by omega) b3 b4 (hd.resolve_right (fun z => absurd z.1 (by omega))).2 (hnx _ _ g2 ls H locs hl hR hS hc)
  | 1, hw, hd, G =>
    obtain ⟨a, b, r, rfl, g⟩ := j_i2_inv G
    obtain ⟨g1, g2⟩ := j_few_iff.mp g
    have hcat := j_cat g1
    intro ls H locs hl hR hS hc
    obtain ⟨b1, b2, b3, b4⟩ := j_bud X9 hc
    exact va_mmax hex hb (hml.trans hl.1.symm) hown (hts (.methodLink own k Lib.Math.max.name) (hw _ (by simp [j_wdN]))) (hts (.static Lib.Math.max.name) (hw _ (by simp [j_wdN]))) (hts (.initialized "java/lang/Math") (hw _ (by simp [j_wdN]))) (hts (.code Lib.Math.max.name Lib.Math.max.code 2 (some .int)) (hw _ (by simp [j_wdN]))) b1 (by omega) b3 b4 (hd.resolve_right (fun z => absurd z.1 (by omega))).2 (hnx _ _ g2 ls H locs hl hR hS hc)
  | 2, hw, hd, G =>
    obtain ⟨a, b, r, rfl, g⟩ := j_l2_inv G
    obtain ⟨g1, g2⟩ := j_few_iff.mp g
    have hcat := j_cat g1
    intro ls H locs hl hR hS hc
    obtain ⟨b1, b2, b3, b4⟩ := j_bud X9 hc
    exact va_mmin_long hex hb (hml.trans hl.1.symm) hown (hts (.methodLink own k Lib.MathLoose.min_long.x) (hw _ (by simp [j_wdN]))) (hts (.static Lib.MathLoose.min_long.x) (hw _ (by simp [j_wdN]))) (hts (.initialized "java/lang/Math") (hw _ (by simp [j_wdN]))) (hts (.code Lib.MathLoose.min_long.x Lib.MathLoose.min_long.code 4 (some .long)) (hw _ (by simp [j_wdN]))) b1 (by omega) b3 b4 (hd.resolve_right (fun z => absurd z.1 (by omega))).2 (hnx _ _ g2 ls H locs hl hR hS hc)
  | 3, hw, hd, G =>
    obtain ⟨a, b, r, rfl, g⟩ := j_l2_inv G
    obtain ⟨g1, g2⟩ := j_few_iff.mp g
    have hcat := j_cat g1
    intro ls H locs hl hR hS hc
    obtain ⟨b1, b2, b3, b4⟩ := j_bud X9 hc
    exact va_mmax_long hex hb (hml.trans hl.1.symm) hown (hts (.methodLink own k Lib.MathLoose.max_long.x) (hw _ (by simp [j_wdN]))) (hts (.static Lib.MathLoose.max_long.x) (hw _ (by simp [j_wdN]))) (hts (.initialized "java/lang/Math") (hw _ (by simp [j_wdN]))) (hts (.code Lib.MathLoose.max_long.x Lib.MathLoose.max_long.code 4 (some .long)) (hw _ (by simp [j_wdN]))) b1 (by omega) b3 b4 (hd.resolve_right (fun z => absurd z.1 (by omega))).2 (hnx _ _ g2 ls H locs hl hR hS hc)
  | 4, hw, hd, G =>
    obtain ⟨a, r, rfl, g⟩ := j_l1_inv G
    obtain ⟨g1, g2⟩ := j_few_iff.mp g
    have hcat := j_cat g1
    intro ls H locs hl hR hS hc
    obtain ⟨b1, b2, b3, b4⟩ := j_bud X9 hc
    exact va_mabs_long hex hb (hml.trans hl.1.symm) hown (hts (.methodLink own k Lib.MathLoose.abs_long.x) (hw _ (by simp [j_wdN]))) (hts (.static Lib.MathLoose.abs_long.x) (hw _ (by simp [j_wdN]))) (hts (.initialized "java/lang/Math") (hw _ (by simp [j_wdN]))) (hts (.code Lib.MathLoose.abs_long.x Lib.MathLoose.abs_long.code 2 (some .long)) (hw _ (by simp [j_wdN]))) b1 (by omega) b3 b4 (hd.resolve_right (fun z => absurd z.1 (by omega))).2 (hnx _ _ g2 ls H locs hl hR hS hc)
  | 5, hw, hd, G =>
    simp only [j_nat] at G
    split at G
    · rename_i n dp dd sp ss r
      obtain ⟨n0, hs0, G⟩ := j_arr_inv G
      obtain ⟨n1, hs1, G⟩ := j_arr_inv G
      obtain ⟨g1, g2, g3, g4, g5, g6, G⟩ := G
      obtain ⟨g7, g8⟩ := j_few_iff.mp G
      exact j_copy X9 hw g7 hs0 hs1 g1 g2 g3 g4 g5 (hd.resolve_right (fun z => absurd z.1 (by omega))).2 (hnx _ _ g8)
    · exact G.elim
  | i + 6, hw, hd, G =>
    obtain ⟨a, r, rfl, g⟩ := j_r1_inv (show j_r1 st _ from G)
    obtain ⟨g1, g2⟩ := j_few_iff.mp g
    have hcat := j_cat g1
    intro ls H locs hl hR hS hc
    obtain ⟨b1, b2, b3, b4⟩ := j_bud X9 hc
    exact W.objInit hex hb hown (hts (.methodLink own k Lib.objectInit) (hw _ (by simp [j_wdN]))) (hts (.instanceMethod Lib.objectInit) (hw _ (by simp [j_wdN]))) (hts (.code Lib.objectInit ⟨#[0xb1]⟩ 1 none) (hw _ (by simp [j_wdN]))) (g := F0 m pc ls (.ref a :: r)) rfl (hl.1.trans hml.symm) rfl (hd.resolve_left (fun z => absurd z.1 (by omega))).2 b1 (by show 2 * 0 + _ + 12 ≤ _; omega) (hnx _ _ g2 ls H locs hl hR hS hc)
end JRowsD
end
section
/-! ===== the machine follows the own semantics ===== -/
def j_ki (ty : FieldType) (k : Nat) : Bool := match ty, k with
  | .int, 0 => true
  | .boolean, 1 => true
  | .byte, 2 => true
  | .char, 3 => true
  | _, _ => false
theorem j_ki_spec {ty : FieldType} {k : Nat} (h : j_ki ty k = true) : (ty = .int ∧ k = 0) ∨ (ty = .boolean ∧ k = 1) ∨ (ty = .byte ∧ k = 2) ∨ (ty = .char ∧ k = 3) := by
  unfold j_ki at h
  split at h <;> simp_all
def j_kg (ty : FieldType) (v : Value) : Bool := match v with
  | .int _ => (match ty with
    | .int => true
    | .boolean => true
    | .byte => true
    | .char => true
    | _ => false)
  | .long _ => (match ty with
    | .long => true
    | _ => false)
  | _ => (match ty with
    | .object _ => true
    | .array _ => true
    | _ => false)
def j_kp (ty : FieldType) (v : Value) : Bool := match v with
  | .ref k => j_ki ty k
  | .long _ => (match ty with
    | .long => true
    | _ => false)
  | .null => (match ty with
    | .object _ => true
    | .array _ => true
    | _ => false)
  | _ => false
def j_ok2 (mi : j_Mi) : Bool := decide (mi.2.2.1 ≤ 45) && decide (mi.1.cls ≠ "java/lang/invoke/MethodHandle") && decide (mi.1.cls ≠ "java/lang/invoke/VarHandle")
def j_np (mi : j_Mi) (n : Nat) : Bool := match parseMethodDescriptor mi.1.desc with
  | some sig => sig.parameters.length == n
  | none => true
def j_ckB (own : String) (ini : Bool) (ret : Option FieldType) (nL : Nat) (i : Instr) (n pc x y : Nat) (v : Value) : Bool := match i with
  | .ifCond _ o => n == 3 && decide ((pc : Int) + o = (x : Int))
  | .if_icmp _ o => n == 3 && decide ((pc : Int) + o = (x : Int))
  | .goto o => n == 3 && decide ((pc : Int) + o = (x : Int))
  | .ifnull o => n == 3 && decide ((pc : Int) + o = (x : Int))
  | .ifnonnull o => n == 3 && decide ((pc : Int) + o = (x : Int))
  | .tableswitch dd lo hi ts => decide (0 ≤ (pc : Int) + dd) && ts.toList.all (fun o => decide (0 ≤ (pc : Int) + o)) && decide (hi = lo + ts.toList.length - 1) && decide (-1000000 ≤ lo) && decide (hi ≤ 1000000)
  | .getfield _ => n == 3 && (match j_cl[x]? with
    | some r => decide (y < r.2.2)
    | none => false) && j_kg (j_ty x y) v
  | .putfield _ => n == 3 && decide (x ≠ 0) && (match j_cl[x]? with
    | some r => decide (y < r.2.2) && (!(r.2.1 y).2.2.2 || (ini && decide ((r.2.1 y).1 = own)))
    | none => false) && j_kp (j_ty x y) v
  | .iaload => n == 1
  | .baload => n == 1
  | .laload => n == 1
  | .daload => n == 1
  | .iastore => n == 1
  | .bastore => n == 1
  | .lastore => n == 1
  | .dastore => n == 1
  | .aaload => n == 1 && (match j_aty x with
    | .object _ => true
    | _ => false)
  | .aastore => n == 1 && decide (x < 7) && (match j_cl[y]? with
    | some r => decide (j_aty x = .object r.1)
    | none => false)
  | .arraylength => n == 1
  | .newarray t => n == 2 && decide (j_aty x = newarray.typeOf t) && decide (newarray.typeOf t ≠ .float)
  | .anewarray _ => n == 3 && (match j_aty x with
    | .object _ => true
    | _ => false)
  | .new _ => n == 3 && (match v with
    | .ref k => (match j_cl[x]? with
      | some r => r.2.2 == k && (List.range k).all (fun j => decide (j_ty x j ≠ .float))
      | none => false)
    | _ => true)
  | .invokevirtual _ => n == 3 && (match j_mt[x]? with
    | some mi => j_ok2 mi && decide (1 ≤ y) && j_np mi (y - 1) && decide (mi.2.2.2.2 < 12)
    | none => false)
  | .invokestatic _ => n == 3 && (match v with
    | .ref k => decide (k < 6)
    | _ => (match j_mt[x]? with
      | some mi => j_ok2 mi && j_np mi y
      | none => false))
  | .invokespecial _ => n == 3 && (match v with
    | .ref k => decide (6 ≤ k)
    | _ => (match j_mt[x]? with
      | some mi => j_ok2 mi && decide (1 ≤ y) && j_np mi (y - 1) && decide (mi.2.2.2.1 = none) && decide (mi.1.name = "<init>") && decide (mi.2.2.2.2 < 90)
      | none => false))
  | .ireturn => n == 1 && (match ret with
    | some ty => j_ki ty x
    | none => false)
  | .lreturn => n == 1 && decide (ret = some .long)
  | .freturn => n == 1 && decide (ret = some .float)
  | .dreturn => n == 1 && decide (ret = some .double)
  | .areturn => n == 1 && (match ret with
    | some (.object _) => true
    | some (.array _) => true
    | _ => false)
  | .return_ => n == 1 && decide (ret = none)
  | i => j_ckA i n x v nL && j_ckS own i x y v
def j_wdB (own : String) (i : Instr) (x y : Nat) (v : Value) : List Cond := match i with
  | .getfield k => (match j_cl[x]? with
    | some r => [.fieldLink own k (r.2.1 y).1 (r.2.1 y).2.1 (r.2.1 y).2.2.1]
    | none => [])
  | .putfield k => (match j_cl[x]? with
    | some r => [.fieldLink own k (r.2.1 y).1 (r.2.1 y).2.1 (r.2.1 y).2.2.1]
    | none => [])
  | .newarray t => [.arrayClass (newarray.typeOf t)]
  | .anewarray k => (match j_aty x with
    | .object C => [.classLink own k C]
    | _ => [])
  | .new k => (match v with
    | .ref n => (match j_cl[x]? with
      | some r => [.classLink own k r.1, .instantiable r.1 n, .initialized r.1]
      | none => [])
    | _ => [])
  | .invokevirtual k => (match j_mt[x]? with
    | some mi => (match j_cl[mi.2.2.2.2]? with
      | some r => [.code mi.1 mi.2.1 mi.2.2.1 mi.2.2.2.1, .initialized mi.1.cls, .methodLink own k mi.1, .instanceMethod mi.1, .selects r.1 mi.1 mi.1]
      | none => [])
    | none => [])
  | .invokestatic k => (match v with
    | .ref j => j_wdN own k j
    | _ => (match j_mt[x]? with
      | some mi => [.code mi.1 mi.2.1 mi.2.2.1 mi.2.2.2.1, .initialized mi.1.cls, .methodLink own k mi.1, .static mi.1]
      | none => []))
  | .invokespecial k => (match v with
    | .ref j => j_wdN own k j
    | _ => (match j_mt[x]? with
      | some mi => [.code mi.1 mi.2.1 mi.2.2.1 mi.2.2.2.1, .initialized mi.1.cls, .methodLink own k mi.1, .instanceMethod mi.1]
      | none => []))
  | i => j_wdA own i y v
theorem j_sw_ok {JW : Nat → Prop} {P : Prop} {a : Int32} {pc : Nat} {D : Prop} : ∀ {ts : List Int} {lo : Int} {K : Nat → Prop}, (∀ t, K t → JW t) → (-1000000 ≤ lo) → (lo + ts.length ≤ 1000001) → (∀ o ∈ ts, 0 ≤ (pc : Int) + o) →
    (∀ (j : Nat) (o : Int) (tgt : Nat), ts[j]? = some o → a.toInt = lo + j → (pc : Int) + o = (tgt : Int) → JW tgt → P) → ((a.toInt < lo ∨ lo + ts.length ≤ a.toInt) → D → P) → j_sw lo ts a pc K D → P := by
  intro ts
  induction ts with
  | nil =>
    intro lo K hK h1 h2 h3 hj hd G
    refine hd ?_ G
    simp
    omega
  | cons o ts ih =>
    intro lo K hK h1 h2 h3 hj hd G
    simp only [List.length_cons] at h2
    unfold j_sw at G
    split at G
    · rename_i e
      have e2 : a.toInt = lo := by
        rw [e, Int32.toInt_ofInt_of_le (by omega) (by omega)]
      have h0 := h3 o List.mem_cons_self
      exact hj 0 o ((pc : Int) + o).toNat rfl (by simpa using e2) (by omega) (hK _ G)
    · rename_i e
      have e2 : a.toInt ≠ lo := fun z => e (by rw [← z]; exact (Int32.ofInt_toInt a).symm)
      refine ih hK (by omega) (by omega) (fun o ho => h3 o (List.mem_cons_of_mem _ ho)) (fun j o tgt g1 g2 g3 g4 => hj (j + 1) o tgt (by simpa using g1) (by rw [g2]; push_cast; omega) g3 g4) (fun g1 g2 => hd ?_ g2) G
      simp only [List.length_cons]
      push_cast
      rcases g1 with g1 | g1
      · left; omega
      · right; push_cast at g1; omega
end
section
section JOkB
variable {p : Program} {l : Launch} {e : Env} {R : Room} {s : State} {m : MethodId} {args : Array Value} {below : List Frame} {meth : Method} {c : Code}
variable {D : va_G} {bs : Nat} {E : j_E} {h0 : j_H} {d : Nat} {own : String} {cc : ByteArray} {nL : Nat} {ret : Option FieldType} {Q : j_O → j_H → Prop}
theorem j_br {pc n x : Nat} {o : Int} {cd : ClassFile.Cond} {a b : Int32} {P1 P2 JT JF : Prop} (h1 : P1 → JT) (h2 : P2 → JF) (G : j_cond cd a b P1 P2) : (match cd with
    | .eq => (a = b → JT) ∧ (¬ a = b → JF)
    | .ne => (¬ a = b → JT) ∧ (a = b → JF)
    | .lt => (a < b → JT) ∧ (¬ a < b → JF)
    | .ge => (b ≤ a → JT) ∧ (¬ b ≤ a → JF)
    | .gt => (b < a → JT) ∧ (¬ b < a → JF)
    | .le => (a ≤ b → JT) ∧ (¬ a ≤ b → JF)) := by
  cases cd <;> simp only [j_cond] at G ⊢ <;> split at G <;> rename_i hc
  · exact ⟨fun _ => h1 G, fun z => absurd hc z⟩
  · exact ⟨fun z => absurd z hc, fun _ => h2 G⟩
  · exact ⟨fun z => absurd hc z, fun _ => h2 G⟩
  · exact ⟨fun _ => h1 G, fun z => absurd z hc⟩
  · exact ⟨fun _ => h1 G, fun z => absurd hc z⟩
  · exact ⟨fun z => absurd z hc, fun _ => h2 G⟩
  · exact ⟨fun z => absurd hc (Int32.not_lt.mpr z), fun _ => h2 G⟩
  · exact ⟨fun _ => h1 G, fun z => absurd (Int32.not_lt.mp hc) z⟩
  · exact ⟨fun _ => h1 G, fun z => absurd hc z⟩
  · exact ⟨fun z => absurd z hc, fun _ => h2 G⟩
  · exact ⟨fun z => absurd hc (Int32.not_lt.mpr z), fun _ => h2 G⟩
  · exact ⟨fun _ => h1 G, fun z => absurd (Int32.not_lt.mp hc) z⟩
theorem j_out_ret {v : Value} {r : List Value} {nx : List Value → j_H → Prop} {w : Option Value} {h : j_H} (G : j_out v Q r nx (.inl w) h) : nx (w.toList ++ r) h := by
  cases v <;> simp only [j_out, j_oi, j_ol, j_of, j_od, j_or, j_ov] at G <;> split at G <;> first | exact G.elim | (rename_i e1; cases e1; exact G) | (rename_i e1 e2; cases e1; exact G) | (simp_all; done)
theorem j_out_thr {v : Value} {r : List Value} {nx : List Value → j_H → Prop} {x : Nat} {h : j_H} (G : j_out v Q r nx (.inr x) h) : Q (.inr x) h := by
  cases v <;> exact G
theorem j_ok2_spec {mi : j_Mi} (h : j_ok2 mi = true) : mi.2.2.1 ≤ 45 ∧ (mi.1.cls ≠ "java/lang/invoke/MethodHandle" ∧ mi.1.cls ≠ "java/lang/invoke/VarHandle") := by
  simp only [j_ok2, Bool.and_eq_true, decide_eq_true_eq] at h
  exact ⟨h.1.1, h.1.2, h.2⟩
theorem j_np_spec {mi : j_Mi} {n : Nat} (h : j_np mi n = true) : ∀ sig, parseMethodDescriptor mi.1.desc = some sig → n = sig.parameters.length := by
  intro sig hs
  simp only [j_np, hs, beq_iff_eq] at h
  exact h.symm
theorem j_aty_obj {x : Nat} {z : String} (h : j_aty x = .object z) : z = "PacketScheduler$Link" ∨ z = "java/lang/String" := by
  unfold j_aty at h
  split at h <;> simp_all
set_option maxHeartbeats 4000000 in
theorem j_okB (X : j_Ctx p l R s m args meth c D bs E h0 d own cc nL ret) {ini : Bool} (hini : ini = true → meth.name = "<init>") (hcl : ∀ (c : Nat) (r : vw_C), j_cl[c]? = some r → j_clok c r) {i : Instr} {n x y pc : Nat} {v : Value} {lv st : List Value} {h : j_H} {nx : List Value → List Value → j_H → Prop} (hd : decode cc pc = .ok (i, n)) (hck : j_ckB own ini ret nL i n pc x y v = true) (hwd : ∀ w ∈ j_wdB own i x y v, w ∈ j_tbl)
    (hthr : ∀ idx, i = .new idx → (∀ k, v ≠ .ref k) → j_cw st = true → j_c h + 1 ≤ E.2.1 → j_k h + 6 ≤ E.2.2 → (∀ z, j_z h ≤ z → Q (.inr x) (j_thr h z)) → j_W p l e R s m args below meth c D bs E h0 nL (j_MQ below D bs E h0 Q args s) pc lv st h)
    (hnx : ∀ lv st h, nx lv st h → j_W p l e R s m args below meth c D bs E h0 nL (j_MQ below D bs E h0 Q args s) (pc + n) lv st h)
    (G : j_opB (j_Met l D bs E d) (j_W p l e R s m args below meth c D bs E h0 nL (j_MQ below D bs E h0 Q args s)) Q i pc x y v lv st h E nx) : j_W p l e R s m args below meth c D bs E h0 nL (j_MQ below D bs E h0 Q args s) pc lv st h := by
  have X9 := X
  obtain ⟨hex, hb, hml, hr, hown, hts, henv, hRm, hlocks, htab, hst, hbs⟩ := X9
  cases i
  case ifCond cd o =>
    simp only [j_ckB, Bool.and_eq_true, beq_iff_eq, decide_eq_true_eq] at hck
    obtain ⟨rfl, ht⟩ := hck
    obtain ⟨a, r, rfl, g⟩ := j_i1_inv G
    intro ls H locs hl hR hS hc
    have g2 := j_br (pc := 0) (n := 0) (x := 0) (o := 0) (fun g => g ls H locs hl hR hS hc) (fun g => hnx _ _ _ g ls H locs hl hR hS hc) g
    cases cd
    · exact lv_if_eq hex hb hd ht g2.1 g2.2
    · exact lv_if_ne hex hb hd ht g2.1 g2.2
    · exact lv_if_lt hex hb hd ht g2.1 g2.2
    · exact lv_if_ge hex hb hd ht g2.1 g2.2
    · exact lv_if_gt hex hb hd ht g2.1 g2.2
    · exact lv_if_le hex hb hd ht g2.1 g2.2
  case if_icmp cd o =>
    simp only [j_ckB, Bool.and_eq_true, beq_iff_eq, decide_eq_true_eq] at hck
    obtain ⟨rfl, ht⟩ := hck
    obtain ⟨a, b, r, rfl, g⟩ := j_i2_inv G
    intro ls H locs hl hR hS hc
    have g2 := j_br (pc := 0) (n := 0) (x := 0) (o := 0) (fun g => g ls H locs hl hR hS hc) (fun g => hnx _ _ _ g ls H locs hl hR hS hc) g
    cases cd
    · exact lv_icmp_eq hex hb hd ht g2.1 g2.2
    · exact lv_icmp_ne hex hb hd ht g2.1 g2.2
    · exact lv_icmp_lt hex hb hd ht g2.1 g2.2
    · exact lv_icmp_ge hex hb hd ht g2.1 g2.2
    · exact lv_icmp_gt hex hb hd ht g2.1 g2.2
    · exact lv_icmp_le hex hb hd ht g2.1 g2.2
  case goto o =>
    simp only [j_ckB, Bool.and_eq_true, beq_iff_eq, decide_eq_true_eq] at hck
    obtain ⟨rfl, ht⟩ := hck
    intro ls H locs hl hR hS hc
    exact lv_goto hex hb hd ht (G ls H locs hl hR hS hc)
  case ifnull o =>
    simp only [j_ckB, Bool.and_eq_true, beq_iff_eq, decide_eq_true_eq] at hck
    obtain ⟨rfl, ht⟩ := hck
    intro ls H locs hl hR hS hc
    simp only [j_opB] at G
    split at G
    · exact lv_ifnullN hex hb hd ht (G ls H locs hl hR hS hc)
    · exact lv_ifnull hex hb hd (hnx _ _ _ G ls H locs hl hR hS hc)
    · exact G.elim
  case ifnonnull o =>
    simp only [j_ckB, Bool.and_eq_true, beq_iff_eq, decide_eq_true_eq] at hck
    obtain ⟨rfl, ht⟩ := hck
    intro ls H locs hl hR hS hc
    simp only [j_opB] at G
    split at G
    · exact lv_ifnonnullN hex hb hd (hnx _ _ _ G ls H locs hl hR hS hc)
    · exact lv_ifnonnull hex hb hd ht (G ls H locs hl hR hS hc)
    · exact G.elim
  case tableswitch dd lo hi ts =>
    simp only [j_ckB, Bool.and_eq_true, decide_eq_true_eq, List.all_eq_true] at hck
    obtain ⟨⟨⟨⟨k1, k2⟩, k3⟩, k4⟩, k5⟩ := hck
    obtain ⟨a, r, rfl, g⟩ := j_i1_inv G
    intro ls H locs hl hR hS hc
    refine j_sw_ok (JW := fun t => j_W p l e R s m args below meth c D bs E h0 nL (j_MQ below D bs E h0 Q args s) t lv r h) (fun t z => z) k4 (by omega) k2 (fun j o tgt g1 g2 g3 g4 => ?_) (fun g1 g2 => ?_) g
    · have hj : j < ts.toList.length := (List.getElem?_eq_some_iff.mp g1).1
      exact lv_tableIn hex hb hd (by omega) (by omega) (off := o) (by rw [g2, show (lo + (j : Int) - lo).toNat = j by omega, ← Array.getElem?_toList]; exact g1) g3 (g4 ls H locs hl hR hS hc)
    · exact lv_tableOut hex hb hd (by omega) (show (pc : Int) + dd = (((pc : Int) + dd).toNat : Int) by omega) (g2 ls H locs hl hR hS hc)
  case getfield k =>
    simp only [j_ckB, Bool.and_eq_true, beq_iff_eq] at hck
    obtain ⟨⟨rfl, hk⟩, hkg⟩ := hck
    obtain ⟨a, r, rfl, hsh, g⟩ := j_r1_inv G
    cases hcr : j_cl[x]? with
    | none => rw [hcr] at hk; cases hk
    | some cr =>
      rw [hcr] at hk
      have hy : y < cr.2.2 := by simpa using hk
      have hlk := hwd (Cond.fieldLink own k (cr.2.1 y).1 (cr.2.1 y).2.1 (cr.2.1 y).2.2.1) (by simp only [j_wdB, hcr]; exact List.mem_cons_self)
      split at g
      · refine j_getf X hcr (hcl _ _ hcr) hy hlk hsh ?_ hd (hnx _ _ _ g)
        revert hkg
        cases j_ty x y <;> simp [j_kg, j_fv]
      · refine j_getf X hcr (hcl _ _ hcr) hy hlk hsh ?_ hd (hnx _ _ _ g)
        revert hkg
        cases j_ty x y <;> simp [j_kg, j_fv]
      · rename_i n1 n2
        obtain ⟨b, hb9, g⟩ := j_ref_inv g
        refine j_getf X hcr (hcl _ _ hcr) hy hlk hsh ?_ hd (hnx _ _ _ g)
        cases v <;> first | exact absurd rfl (n1 _) | exact absurd rfl (n2 _) | (revert hkg; cases j_ty x y <;> simp [j_kg, j_fv, hb9, va_rf]; done)
  case putfield k =>
    simp only [j_ckB, Bool.and_eq_true, beq_iff_eq, decide_eq_true_eq] at hck
    obtain ⟨⟨⟨rfl, hx0⟩, hk⟩, hkp⟩ := hck
    cases hcr : j_cl[x]? with
    | none => rw [hcr] at hk; cases hk
    | some cr =>
      rw [hcr] at hk
      simp only [Bool.and_eq_true, decide_eq_true_eq, Bool.or_eq_true, Bool.not_eq_true'] at hk
      obtain ⟨hy, hfin⟩ := hk
      have hlk := hwd (Cond.fieldLink own k (cr.2.1 y).1 (cr.2.1 y).2.1 (cr.2.1 y).2.2.1) (by simp only [j_wdB, hcr]; exact List.mem_cons_self)
      simp only [j_opB] at G
      split at G
      · rename_i kk nn a r
        obtain ⟨hsh, hn, g⟩ := G
        have hki := j_ki_spec (show j_ki (j_ty x y) kk = true from hkp)
        have hnf := j_narrow hki hn
        refine j_putf (h' := j_setI h a y nn) X hini hx0 hcr (hcl _ _ hcr) hy hlk hfin hsh hnf.1 hnf.2 hd rfl rfl rfl rfl (fun b hb ty j => j_fv_I hb) ?_ (fun j hj => ?_) (hnx _ _ _ g)
        · rcases hki with ⟨e, -⟩ | ⟨e, -⟩ | ⟨e, -⟩ | ⟨e, -⟩ <;> rw [e] <;> simp [j_fv, j_setI, j_I, j_up]
        · cases j_ty x j <;> simp [j_fv, j_setI, j_I, j_L, j_R, j_D, j_up, hj]
      · rename_i w nn a r
        obtain ⟨hsh, g⟩ := G
        have e : j_ty x y = .long := by
          revert hkp
          cases j_ty x y <;> simp [j_kp]
        refine j_putf (h' := j_setL h a y nn) X hini hx0 hcr (hcl _ _ hcr) hy hlk hfin hsh (by rw [e]; rfl) (by rw [e]; rfl) hd rfl rfl rfl rfl (fun b hb ty j => j_fv_L hb) (by rw [e]; simp [j_fv, j_setL, j_L, j_up]) (fun j hj => ?_) (hnx _ _ _ g)
        cases j_ty x j <;> simp [j_fv, j_setL, j_I, j_L, j_R, j_D, j_up, hj]
      · rename_i nn a r
        obtain ⟨hsh, g⟩ := G
        have e : (∃ z, j_ty x y = .object z) ∨ ∃ z, j_ty x y = .array z := by
          revert hkp
          cases j_ty x y <;> simp [j_kp]
        refine j_putf (h' := j_setR h a y (some nn)) X hini hx0 hcr (hcl _ _ hcr) hy hlk hfin hsh (by rcases e with ⟨z, e⟩ | ⟨z, e⟩ <;> rw [e] <;> rfl) (by rcases e with ⟨z, e⟩ | ⟨z, e⟩ <;> rw [e] <;> rfl) hd rfl rfl rfl rfl (fun b hb ty j => j_fv_R hb) (by rcases e with ⟨z, e⟩ | ⟨z, e⟩ <;> rw [e] <;> simp [j_fv, j_setR, j_R, j_up, va_rf]) (fun j hj => ?_) (hnx _ _ _ g)
        cases j_ty x j <;> simp [j_fv, j_setR, j_I, j_L, j_R, j_D, j_up, hj]
      · exact G.elim
  case iaload =>
    simp only [j_ckB, beq_iff_eq] at hck
    subst hck
    obtain ⟨a, i, r, rfl, g⟩ := j_ai_inv G
    obtain ⟨k, h1 | h1, h2, g⟩ := j_ari_inv g
    · exact j_iald X (Or.inl rfl) h1 h2 hd (hnx _ _ _ g)
    · exact j_iald X (Or.inr rfl) h1 h2 hd (hnx _ _ _ g)
  case baload =>
    simp only [j_ckB, beq_iff_eq] at hck
    subst hck
    obtain ⟨a, i, r, rfl, g⟩ := j_ai_inv G
    obtain ⟨k, h1 | h1, h2, g⟩ := j_arb_inv g
    · exact j_bald X (Or.inl rfl) h1 h2 hd (hnx _ _ _ g)
    · exact j_bald X (Or.inr rfl) h1 h2 hd (hnx _ _ _ g)
  case laload =>
    simp only [j_ckB, beq_iff_eq] at hck
    subst hck
    obtain ⟨a, i, r, rfl, g⟩ := j_ai_inv G
    obtain ⟨k, h1, h2, g⟩ := j_arr_inv g
    exact j_lald X h1 h2 hd (hnx _ _ _ g)
  case daload =>
    simp only [j_ckB, beq_iff_eq] at hck
    subst hck
    obtain ⟨a, i, r, rfl, g⟩ := j_ai_inv G
    obtain ⟨k, h1, h2, g⟩ := j_arr_inv g
    exact j_dald X h1 h2 hd (hnx _ _ _ g)
  case aaload =>
    simp only [j_ckB, Bool.and_eq_true, beq_iff_eq] at hck
    obtain ⟨rfl, hk⟩ := hck
    obtain ⟨a, i, r, rfl, g⟩ := j_ai_inv G
    obtain ⟨k, h1, h2, g⟩ := j_arr_inv g
    have e : ∃ z, j_aty x = .object z := by
      revert hk
      cases j_aty x <;> simp
    obtain ⟨z, e⟩ := e
    refine j_aald X e h1 h2 hd ?_
    cases hq : j_R h a i.toNatClampNeg with
    | none => rw [hq] at g; exact hnx _ _ _ g
    | some b => rw [hq] at g; exact hnx _ _ _ g
  case iastore =>
    simp only [j_ckB, beq_iff_eq] at hck
    subst hck
    obtain ⟨a, i, w, r, rfl, g⟩ := j_aii_inv G
    obtain ⟨k, h1, h2, g⟩ := j_arr_inv g
    exact j_iast X h1 h2 hd (hnx _ _ _ g)
  case bastore =>
    simp only [j_ckB, beq_iff_eq] at hck
    subst hck
    obtain ⟨a, i, w, r, rfl, g⟩ := j_aii_inv G
    obtain ⟨k, h1, h2, g⟩ := j_arr_inv g
    exact j_bast X h1 h2 hd (hnx _ _ _ g)
  case lastore =>
    simp only [j_ckB, beq_iff_eq] at hck
    subst hck
    obtain ⟨a, i, w, r, rfl, g⟩ := j_ail_inv G
    obtain ⟨k, h1, h2, g⟩ := j_arr_inv g
    exact j_last X h1 h2 hd (hnx _ _ _ g)
  case dastore =>
    simp only [j_ckB, beq_iff_eq] at hck
    subst hck
    obtain ⟨a, i, w, r, rfl, g⟩ := j_aid_inv G
    obtain ⟨k, h1, h2, g⟩ := j_arr_inv g
    exact j_dast X h1 h2 hd (hnx _ _ _ g)
  case aastore =>
    simp only [j_ckB, Bool.and_eq_true, beq_iff_eq, decide_eq_true_eq] at hck
    obtain ⟨⟨rfl, hx7⟩, hk⟩ := hck
    obtain ⟨a, i, w, r, rfl, g⟩ := j_air_inv G
    obtain ⟨k, h1, h2, h3, g⟩ := j_arr_inv g
    cases hcr : j_cl[y]? with
    | none => rw [hcr] at hk; cases hk
    | some cr =>
      rw [hcr] at hk
      exact j_aast X hx7 hcr (by simpa using hk) h1 h2 h3 hd (hnx _ _ _ g)
  case arraylength =>
    simp only [j_ckB, beq_iff_eq] at hck
    subst hck
    obtain ⟨a, r, rfl, g⟩ := j_r1_inv G
    obtain ⟨t, k, h1, g⟩ := j_len_inv g
    exact j_alen X h1 hd (hnx _ _ _ g)
  case newarray t =>
    simp only [j_ckB, Bool.and_eq_true, beq_iff_eq, decide_eq_true_eq] at hck
    obtain ⟨⟨rfl, h1⟩, h2⟩ := hck
    obtain ⟨k, r, rfl, g1, g2, g3, g4, g⟩ := j_i1_inv G
    exact j_newa X h1 h2 (hwd _ (by simp [j_wdB])) g1 g2 g3 g4 hd (hnx _ _ _ g)
  case anewarray k =>
    simp only [j_ckB, Bool.and_eq_true, beq_iff_eq] at hck
    obtain ⟨rfl, hk⟩ := hck
    obtain ⟨q, r, rfl, g1, g2, g3, g4, g⟩ := j_i1_inv G
    have e : ∃ z, j_aty x = .object z := by
      revert hk
      cases j_aty x <;> simp
    obtain ⟨z, e⟩ := e
    have hz : va_AO z s := by
      rcases j_aty_obj e with rfl | rfl
      · exact henv.2.2.2.2.1
      · exact henv.2.2.2.2.2
    exact j_anew X e (hwd _ (by simp [j_wdB, e])) hz g1 g2 g3 g4 hd (hnx _ _ _ g)
  case new k =>
    simp only [j_ckB, Bool.and_eq_true, beq_iff_eq] at hck
    obtain ⟨rfl, hk⟩ := hck
    simp only [j_opB] at G
    split at G
    · rename_i q
      obtain ⟨g1, g2, g⟩ := G
      cases hcr : j_cl[x]? with
      | none => rw [hcr] at hk; cases hk
      | some cr =>
        rw [hcr] at hk
        simp only [Bool.and_eq_true, beq_iff_eq, List.all_eq_true, decide_eq_true_eq, List.mem_range] at hk
        exact j_newc X hcr (hcl _ _ hcr) hk.1 hk.2 (hwd _ (by simp [j_wdB, hcr])) (hwd _ (by simp [j_wdB, hcr])) (hwd _ (by simp [j_wdB, hcr])) g1 g2 hd (hnx _ _ _ g)
    · rename_i hv
      obtain ⟨hw, G⟩ := j_few_iff.mp G
      exact hthr k rfl (fun k z => hv k z) hw G.1 G.2.1 G.2.2
  case invokevirtual k =>
    simp only [j_ckB, Bool.and_eq_true, beq_iff_eq] at hck
    obtain ⟨rfl, hk⟩ := hck
    obtain ⟨us, r, rfl, hlen, g⟩ := j_args_inv G
    obtain ⟨hw, g⟩ := j_few_iff.mp g
    rw [List.append_nil] at g
    cases hmi : j_mt[x]? with
    | none => rw [hmi] at hk; cases hk
    | some mi =>
      rw [hmi] at hk
      simp only [Bool.and_eq_true, decide_eq_true_eq] at hk
      obtain ⟨⟨⟨k1, k2⟩, k3⟩, k4⟩ := hk
      have hlt : mi.2.2.2.2 < j_cl.length := by simp only [List.length_cons, List.length_nil]; omega
      have hcr : j_cl[mi.2.2.2.2]? = some j_cl[mi.2.2.2.2] := List.getElem?_eq_getElem hlt
      obtain ⟨mi', hmi', hrc, -⟩ := id g
      cases Option.some.inj (hmi.symm.trans hmi')
      obtain ⟨a, As, rfl, hsh⟩ := hrc (by omega)
      have e : (Value.ref a :: As).reverse ++ r = As.reverse ++ .ref a :: r := by simp
      rw [e]
      simp only [j_wdB, hmi, hcr] at hwd
      refine j_callV X g hmi hcr (j_ok2_spec k1).1 (hwd _ (by simp)) (hwd _ (by simp)) (hwd (.methodLink own k mi.1) (by simp)) (hwd _ (by simp)) (hwd _ (by simp)) (j_ok2_spec k1).2 (fun sig hs => ?_) hw hd (fun w h' g9 => ?_) (fun z h' g9 => j_out_thr g9)
      · have := j_np_spec k3 sig hs
        simp only [List.length_cons] at hlen
        omega
      · exact hnx _ _ _ (j_out_ret g9)
  case invokestatic k =>
    simp only [j_ckB, Bool.and_eq_true, beq_iff_eq] at hck
    obtain ⟨rfl, hk⟩ := hck
    simp only [j_opB] at G
    split at G
    · rename_i q
      simp only [decide_eq_true_eq] at hk
      exact j_okN X (nx := fun st h => nx lv st h) (by simpa [j_wdB] using hwd) (Or.inl ⟨hk, hd⟩) (fun st h g => hnx _ _ _ g) G
    · rename_i hv
      obtain ⟨us, r, rfl, hlen, g⟩ := j_args_inv G
      obtain ⟨hw, g⟩ := j_few_iff.mp g
      rw [List.append_nil] at g
      have hk : (match j_mt[x]? with
        | some mi => j_ok2 mi && j_np mi y
        | none => false) = true := by
        revert hk
        cases v <;> first | exact id | exact absurd rfl (hv _)
      cases hmi : j_mt[x]? with
      | none => rw [hmi] at hk; cases hk
      | some mi =>
        rw [hmi] at hk
        simp only [Bool.and_eq_true] at hk
        have hwd' : ∀ w ∈ [Cond.code mi.1 mi.2.1 mi.2.2.1 mi.2.2.2.1, .initialized mi.1.cls, .methodLink own k mi.1, .static mi.1], w ∈ j_tbl := by
          revert hwd
          cases v <;> first | exact absurd rfl (hv _) | (simp only [j_wdB, hmi]; exact id)
        refine j_callS X g hmi (j_ok2_spec hk.1).1 (hwd' _ (by simp)) (hwd' _ (by simp)) (hwd' (.methodLink own k mi.1) (by simp)) (hwd' _ (by simp)) (j_ok2_spec hk.1).2 (fun sig hs => by rw [hlen]; exact j_np_spec hk.2 sig hs) hw hd (fun w h' g9 => ?_) (fun z h' g9 => j_out_thr g9)
        exact hnx _ _ _ (j_out_ret g9)
  case invokespecial k =>
    simp only [j_ckB, Bool.and_eq_true, beq_iff_eq] at hck
    obtain ⟨rfl, hk⟩ := hck
    simp only [j_opB] at G
    split at G
    · rename_i q
      simp only [decide_eq_true_eq] at hk
      exact j_okN X (nx := fun st h => nx lv st h) (by simpa [j_wdB] using hwd) (Or.inr ⟨hk, hd⟩) (fun st h g => hnx _ _ _ g) G
    · rename_i hv
      obtain ⟨us, r, rfl, hlen, g⟩ := j_args_inv G
      obtain ⟨hw, g⟩ := j_few_iff.mp g
      rw [List.append_nil] at g
      have hk : (match j_mt[x]? with
        | some mi => j_ok2 mi && decide (1 ≤ y) && j_np mi (y - 1) && decide (mi.2.2.2.1 = none) && decide (mi.1.name = "<init>") && decide (mi.2.2.2.2 < 90)
        | none => false) = true := by
        revert hk
        cases v <;> first | exact id | exact absurd rfl (hv _)
      cases hmi : j_mt[x]? with
      | none => rw [hmi] at hk; cases hk
      | some mi =>
        rw [hmi] at hk
        simp only [Bool.and_eq_true, decide_eq_true_eq] at hk
        obtain ⟨⟨⟨⟨⟨k1, k2⟩, k3⟩, k4⟩, k5⟩, k6⟩ := hk
        have hwd' : ∀ w ∈ [Cond.code mi.1 mi.2.1 mi.2.2.1 mi.2.2.2.1, .initialized mi.1.cls, .methodLink own k mi.1, .instanceMethod mi.1], w ∈ j_tbl := by
          revert hwd
          cases v <;> first | exact absurd rfl (hv _) | (simp only [j_wdB, hmi]; exact id)
        obtain ⟨mi', hmi', hrc, -⟩ := id g
        cases Option.some.inj (hmi.symm.trans hmi')
        obtain ⟨a, As, rfl, hsh⟩ := hrc k6
        have e : (Value.ref a :: As).reverse ++ r = As.reverse ++ .ref a :: r := by simp
        rw [e]
        refine j_callI X g hmi k4 k5 (j_ok2_spec k1).1 (hwd' _ (by simp)) (hwd' _ (by simp)) (hwd' (.methodLink own k mi.1) (by simp)) (hwd' _ (by simp)) (j_ok2_spec k1).2 (fun sig hs => ?_) hw hd (fun w h' g9 => ?_) (fun z h' g9 => j_out_thr g9)
        · have := j_np_spec k3 sig hs
          simp only [List.length_cons] at hlen
          omega
        · exact hnx _ _ _ (j_out_ret g9)
  case ireturn =>
    simp only [j_ckB, Bool.and_eq_true, beq_iff_eq] at hck
    obtain ⟨rfl, hk⟩ := hck
    simp only [j_opB] at G
    split at G
    · cases hret : ret with
      | none => rw [hret] at hk; cases hk
      | some ty =>
        rw [hret] at hk
        exact j_iret X hret (j_ki_spec hk) G.1 G.2 hd
    · exact G.elim
  case lreturn =>
    simp only [j_ckB, Bool.and_eq_true, beq_iff_eq, decide_eq_true_eq] at hck
    obtain ⟨rfl, hk⟩ := hck
    simp only [j_opB] at G
    split at G
    · exact j_lret X hk G hd
    · exact G.elim
  case freturn =>
    simp only [j_ckB, Bool.and_eq_true, beq_iff_eq, decide_eq_true_eq] at hck
    obtain ⟨rfl, hk⟩ := hck
    simp only [j_opB] at G
    split at G
    · exact j_fret X hk G hd
    · exact G.elim
  case dreturn =>
    simp only [j_ckB, Bool.and_eq_true, beq_iff_eq, decide_eq_true_eq] at hck
    obtain ⟨rfl, hk⟩ := hck
    simp only [j_opB] at G
    split at G
    · exact j_dret X hk G hd
    · exact G.elim
  case areturn =>
    simp only [j_ckB, Bool.and_eq_true, beq_iff_eq] at hck
    obtain ⟨rfl, hk⟩ := hck
    simp only [j_opB] at G
    split at G
    · cases hret : ret with
      | none => rw [hret] at hk; cases hk
      | some ty =>
        rw [hret] at hk
        refine j_aret X hret ?_ G hd
        revert hk
        cases ty <;> simp
    · exact G.elim
  case return_ =>
    simp only [j_ckB, Bool.and_eq_true, beq_iff_eq, decide_eq_true_eq] at hck
    obtain ⟨rfl, hk⟩ := hck
    simp only [j_opB] at G
    split at G
    · exact j_vret X hk G hd
    · exact G.elim
  all_goals
    simp only [j_ckB, Bool.and_eq_true] at hck
    exact j_okA X hd hck.1 hck.2 hwd hnx G
end JOkB
end
section
/-! ===== a method by its blocks ===== -/
def j_exp : List Value → List Value
  | [] => []
  | .long a :: vs => .long a :: j_u :: j_exp vs
  | .double a :: vs => .double a :: j_u :: j_exp vs
  | .int a :: vs => .int a :: j_exp vs
  | .float a :: vs => .float a :: j_exp vs
  | .null :: vs => .null :: j_exp vs
  | .ref a :: vs => .ref a :: j_exp vs
  | .retAddr a :: vs => .retAddr a :: j_exp vs
def j_pad : Nat → List Value → List Value
  | 0, _ => []
  | n + 1, [] => j_u :: j_pad n []
  | n + 1, v :: vs => v :: j_pad n vs
theorem j_pad_get {n : Nat} : ∀ {vs : List Value} {j : Nat} {w : Value}, (j_pad n vs)[j]? = some w → j_ks w = true → vs[j]? = some w := by
  induction n with
  | zero => intro vs j w h; simp [j_pad] at h
  | succ n ih =>
    intro vs j w h hk
    cases vs with
    | nil =>
      cases j with
      | zero =>
        have e : j_u = w := by simpa [j_pad] using h
        subst e
        cases hk
      | succ j => exact absurd (ih (vs := []) (j := j) (by simpa [j_pad] using h) hk) (by simp)
    | cons v vs =>
      cases j with
      | zero => simpa [j_pad] using h
      | succ j => simpa using ih (vs := vs) (j := j) (by simpa [j_pad] using h) hk
theorem j_exp_args {vs : List Value} : ∀ {k j : Nat} {w : Value}, (j_exp vs)[j]? = some w → j_ks w = true → (k + j, w) ∈ lv_args k vs := by
  induction vs with
  | nil => intro k j w h; simp [j_exp] at h
  | cons v vs ih =>
    intro k j w h hk
    have two : ∀ {u : Value}, u.category = 2 → (u :: j_u :: j_exp vs)[j]? = some w → (k + j, w) ∈ lv_args k (u :: vs) := by
      intro u hu h
      simp only [lv_args, hu, if_true]
      match j, h with
      | 0, h =>
        have e : u = w := by simpa using h
        rw [e]; exact List.mem_cons_self
      | 1, h =>
        have e : j_u = w := by simpa using h
        subst e; cases hk
      | j + 2, h =>
        have := ih (k := k + 2) (j := j) (by simpa using h) hk
        rw [show k + (j + 2) = k + 2 + j by omega]
        exact List.mem_cons_of_mem _ this
    have one : ∀ {u : Value}, u.category ≠ 2 → (u :: j_exp vs)[j]? = some w → (k + j, w) ∈ lv_args k (u :: vs) := by
      intro u hu h
      simp only [lv_args, hu, if_false]
      match j, h with
      | 0, h =>
        have e : u = w := by simpa using h
        rw [e]; exact List.mem_cons_self
      | j + 1, h =>
        have := ih (k := k + 1) (j := j) (by simpa using h) hk
        rw [show k + (j + 1) = k + 1 + j by omega]
        exact List.mem_cons_of_mem _ this
    cases v <;> simp only [j_exp] at h
    · exact one (by simp [Value.category]) h
    · exact two rfl h
    · exact one (by simp [Value.category]) h
    · exact two rfl h
    · exact one (by simp [Value.category]) h
    · exact one (by simp [Value.category]) h
    · exact one (by simp [Value.category]) h
theorem j_ent {n : Nat} {vs : List Value} {ls : Array Slot} (h : lv_has ls n (lv_args 0 vs)) : lv_has ls n (j_as 0 (j_pad n (j_exp vs))) := by
  refine j_has_sub h (fun q hq => ?_)
  obtain ⟨j, h1, h2, h3⟩ := j_as_mem.mp hq
  have := j_exp_args (k := 0) (j_pad_get h2 h3) h3
  rw [show q = (0 + j, q.2) from Prod.ext h1 rfl]
  exact this
/-- a throw's five instructions -/
def j_thw (own : String) (idx ic x is : Nat) : Bool := decide (own = RX8) && ((x == 0 && idx == 151 && ic == 155) || (x == 1 && idx == 197 && ic == 201)) && j_strs.any (fun z => decide (z.1 = own) && z.2.1 == is)
def j_thL (own : String) (cc : ByteArray) (pc idx x ic is : Nat) : Prop := j_thw own idx ic x is = true ∧ decode cc (pc + 3) = .ok (.dup, 1) ∧ ((decode cc (pc + 4) = .ok (.ldc is, 2) ∧ decode cc (pc + 6) = .ok (.invokespecial ic, 3) ∧ decode cc (pc + 9) = .ok (.athrow, 1)) ∨ (decode cc (pc + 4) = .ok (.ldc_w is, 3) ∧ decode cc (pc + 7) = .ok (.invokespecial ic, 3) ∧ decode cc (pc + 10) = .ok (.athrow, 1)))
def j_ckT (own : String) (cc : ByteArray) (pc idx x : Nat) : Bool := match decode cc (pc + 4) with
  | .ok (.ldc is, 2) => (match decode cc (pc + 6) with
    | .ok (.invokespecial ic, 3) => j_thw own idx ic x is && decide (decode cc (pc + 3) = .ok (.dup, 1)) && decide (decode cc (pc + 9) = .ok (.athrow, 1))
    | _ => false)
  | .ok (.ldc_w is, 3) => (match decode cc (pc + 7) with
    | .ok (.invokespecial ic, 3) => j_thw own idx ic x is && decide (decode cc (pc + 3) = .ok (.dup, 1)) && decide (decode cc (pc + 10) = .ok (.athrow, 1))
    | _ => false)
  | _ => false
theorem j_ckT_spec {own : String} {cc : ByteArray} {pc idx x : Nat} (h : j_ckT own cc pc idx x = true) : ∃ ic is, j_thL own cc pc idx x ic is := by
  unfold j_ckT at h
  split at h
  · rename_i is e1
    split at h
    · rename_i ic e2
      simp only [Bool.and_eq_true, decide_eq_true_eq] at h
      exact ⟨ic, is, h.1.1, h.1.2, Or.inl ⟨e1, e2, h.2⟩⟩
    · cases h
  · rename_i is e1
    split at h
    · rename_i ic e2
      simp only [Bool.and_eq_true, decide_eq_true_eq] at h
      exact ⟨ic, is, h.1.1, h.1.2, Or.inr ⟨e1, e2, h.2⟩⟩
    · cases h
  · cases h
def j_ckTh (own : String) (cc : ByteArray) (i : Instr) (pc x : Nat) (v : Value) : Bool := match i, v with
  | .new _, .ref _ => true
  | .new idx, _ => j_ckT own cc pc idx x
  | _, _ => true
def j_ckL (own : String) (ini : Bool) (ret : Option FieldType) (nL : Nat) (cc : ByteArray) : List j_N → Nat → Bool
  | [], _ => true
  | (i, n, x, y, v) :: is, pc => decide (decode cc pc = .ok (i, n)) && j_ckB own ini ret nL i n pc x y v && j_ckTh own cc i pc x v && j_ckL own ini ret nL cc is (pc + n)
def j_wdL (own : String) : List j_N → List Cond
  | [] => []
  | (i, _, x, y, v) :: is => j_wdB own i x y v ++ j_wdL own is
/-- what is owed of throws -/
def j_ThrowOk (l : Launch) (D : va_G) (bs : Nat) (E : j_E) : Prop := ∀ (p : Program) (e : Env) (R : Room) (s : State) (m : MethodId) (args : Array Value) (below : List Frame) (meth : Method) (c : Code) (h0 : j_H) (d : Nat) (own : String) (cc : ByteArray) (nL : Nat) (ret : Option FieldType) (Q : j_O → j_H → Prop) (pc idx x ic is : Nat) (lv st : List Value) (h : j_H),
  j_Ctx p l R s m args meth c D bs E h0 d own cc nL ret → decode cc pc = .ok (.new idx, 3) → j_thL own cc pc idx x ic is → j_c h + 1 ≤ E.2.1 → j_k h + 6 ≤ E.2.2 → (∀ z, j_z h ≤ z → Q (.inr x) (j_thr h z)) → j_cw st = true → j_W p l e R s m args below meth c D bs E h0 nL (j_MQ below D bs E h0 Q args s) pc lv st h
section JSound
variable {p : Program} {l : Launch} {e : Env} {R : Room} {s : State} {m : MethodId} {args : Array Value} {below : List Frame} {meth : Method} {c : Code}
variable {D : va_G} {bs : Nat} {E : j_E} {h0 : j_H} {d : Nat} {own : String} {cc : ByteArray} {nL : Nat} {ret : Option FieldType} {Q : j_O → j_H → Prop}
theorem j_sound (X : j_Ctx p l R s m args meth c D bs E h0 d own cc nL ret) (HT : j_ThrowOk l D bs E) {ini : Bool} (hini : ini = true → meth.name = "<init>") (hcl : ∀ (c : Nat) (r : vw_C), j_cl[c]? = some r → j_clok c r) :
    ∀ (is : List j_N) (pc : Nat) (lv st : List Value) (h : j_H), j_ckL own ini ret nL cc is pc = true → (∀ w ∈ j_wdL own is, w ∈ j_tbl) →
      j_wp (j_Met l D bs E d) (j_W p l e R s m args below meth c D bs E h0 nL (j_MQ below D bs E h0 Q args s)) Q E is pc lv st h → j_W p l e R s m args below meth c D bs E h0 nL (j_MQ below D bs E h0 Q args s) pc lv st h := by
  intro is
  induction is with
  | nil => intro pc lv st h _ _ G; exact G
  | cons a is ih =>
    obtain ⟨i, n, x, y, v⟩ := a
    intro pc lv st h hck hwd G
    simp only [j_ckL, Bool.and_eq_true, decide_eq_true_eq] at hck
    obtain ⟨⟨⟨hd, h1⟩, h2⟩, h3⟩ := hck
    simp only [j_wdL] at hwd
    refine j_okB X hini hcl hd h1 (fun w hw => hwd w (List.mem_append_left _ hw)) (fun idx hi hv hw g1 g2 g3 => ?_) (fun lv st h g => ih _ _ _ _ h3 (fun w hw => hwd w (List.mem_append_right _ hw)) g) G
    subst hi
    have h4 : j_ckT own cc pc idx x = true := by
      revert h2
      cases v <;> first | exact absurd rfl (hv _) | exact id
    obtain ⟨ic, is', h5⟩ := j_ckT_spec h4
    have hn : n = 3 := by
      simp only [j_ckB, Bool.and_eq_true, beq_iff_eq] at h1
      exact h1.1
    subst hn
    exact HT p e R s m args below meth c h0 d own cc nL ret Q pc idx x ic is' lv st h X hd h5 g1 g2 g3 hw
end JSound
/-- the blocks of a method are in order: each decodes to what is told, and its words are among the tables' -/
def j_good (mi : j_Mi) (bl : List (Nat × List j_N)) : Prop := plainName mi.1.cls = true ∧ (∀ b ∈ bl, j_ckL mi.1.cls (mi.1.name == "<init>") mi.2.2.2.1 mi.2.2.1 mi.2.1 b.2 b.1 = true) ∧ ∀ b ∈ bl, ∀ w ∈ j_wdL mi.1.cls b.2, w ∈ j_tbl
/-- closed under the method's blocks -/
def j_clo (C : j_Cal) (E : j_E) (Q : j_O → j_H → Prop) (bl : List (Nat × List j_N)) (G : j_G) : Prop := ∀ b ∈ bl, ∀ lv st h, j_wp C G Q E b.2 b.1 lv st h → G b.1 lv st h
theorem j_method {l : Launch} {D : va_G} {bs : Nat} {E : j_E} {d k : Nat} {as : List Value} {h : j_H} {post : j_O → j_H → Prop} {mi : j_Mi} {bl : List (Nat × List j_N)} (hl : l.stackTraces = false) (HT : j_ThrowOk l D bs E) (hcl : ∀ (c : Nat) (r : vw_C), j_cl[c]? = some r → j_clok c r)
    (hmi : j_mt[k]? = some mi) (hg : j_good mi bl) (hlen : (lg_sl as).length ≤ mi.2.2.1) (hrc : mi.2.2.2.2 < 90 → ∃ (a : Nat) (r : List Value), as = .ref a :: r ∧ j_sh h a = some (.inr mi.2.2.2.2)) (hc1 : j_c h ≤ E.2.1) (hc2 : j_k h ≤ E.2.2)
    (H : ∀ G : j_G, j_clo (j_Met l D bs E d) E post bl G → G 0 (j_pad mi.2.2.1 (j_exp as)) [] h) : j_Met l D bs E (d + 1) k as h post := by
  refine ⟨mi, hmi, hrc, hc1, hc2, ?_⟩
  refine MetFree.of_bodyS (code := mi.2.1) (maxLocals := mi.2.2.1) (ret := mi.2.2.2.1) hg.1 ?_ ?_
  · intro args s m hp hn
    obtain ⟨meth, c, h1, h2, h3, h4, h5, h6, -, -⟩ := Cond.code_spec hn (atoms_spec (ws := Cond.code mi.1 mi.2.1 mi.2.2.1 mi.2.2.2.1 :: j_tbl) hp _ List.mem_cons_self)
    exact ⟨meth, c, h1, h2, h3, h4, h5, h6⟩
  · intro p e s m args below meth c s₁ B hml hP _
    obtain ⟨rfl, henv, hR⟩ := hP
    have hh0 : s₁.heap = s.heap := by rw [B.state]; rfl
    have hts0 := atoms_spec (ws := Cond.code mi.1 mi.2.1 mi.2.2.1 mi.2.2.2.1 :: j_tbl) B.pre
    have htab : ∀ x ∈ c.exceptionTable.toList, False := by
      obtain ⟨meth9, c9, h1, h2, -, -, -, -, h7, -⟩ := Cond.code_spec B.named (hts0 _ List.mem_cons_self)
      cases Option.some.inj (h1.symm.trans B.method)
      cases Option.some.inj (h2.symm.trans (Stand.of_body B).code)
      intro x hx
      rw [Array.isEmpty_iff.mp h7] at hx
      cases hx
    have X : j_Ctx p l (j_room (d + 1) E h) s m as.toArray meth c D bs E h d mi.1.cls mi.2.1 mi.2.2.1 mi.2.2.2.1 := ⟨B.exec, B.bytes, hml, B.returns, findClass_of_methodNamed B.named, fun w hw => hts0 w (List.mem_cons_of_mem _ hw), henv, rfl, B.notSynchronized, htab, hl, by rw [hR.1]; exact hR.2.1⟩
    have hini : (mi.1.name == "<init>") = true → meth.name = "<init>" := fun z => (name_of_methodNamed B.named B.method).1.trans (by simpa using z)
    have K := H (j_W p l e (j_room (d + 1) E h) s m as.toArray below meth c D bs E h mi.2.2.1 (j_MQ below D bs E h post as.toArray s)) (fun b hb lv st h' g => j_sound X HT hini hcl b.2 b.1 lv st h' (hg.2.1 b hb) (hg.2.2 b hb) g)
    have hl0 := lv_entry as (n := mi.2.2.1) hlen
    have K2 := K _ s.heap [] (j_ent hl0) hR va_S.rf ⟨Nat.le_refl _, hc1, Nat.le_refl _, hc2⟩
    rw [Nat.sub_self, Nat.sub_self] at K2
    have K3 : W p l e (j_room (d + 1) E h) s m as.toArray below meth c s.heap [] 0 0 (j_MQ below D bs E h post as.toArray s) (entryFrame m as.toArray mi.2.2.1) := by
      rw [lg_entry_eq]
      exact K2
    obtain ⟨t, a1, o, b1, b2, b3⟩ := K3 s₁ hh0 (Stand.of_body B)
    exact ⟨t, o, a1, b1, b2, b3⟩
end
section
/-! ===== throws: 'throw new E("text")' where E's constructor calls its superclass's by the entry ix (follows vx_ctorMadeS and vx_throwS of the kit's text, the first constructor's bytes being given) ===== -/
section JXC
/-- follows the library's chainS, the first class's entry and bytes being given -/
def jx_chainA (X : String) (ix : Nat) (rx : ByteArray) : List String → List Cond
  | [] => Bundle.passSAtoms X Bundle.tN ix rx
  | Y :: r => Bundle.passSAtoms X Y ix rx ++ Bundle.chainSAtoms Y r
theorem jx_chain {args : Array Value} {s : State} {pl : Platform} (hpl : pl.magicAccessors = ({} : Platform).magicAccessors) {top : MethodId} (htop : s.methodNamed? (Bundle.initS Bundle.tN) = some top)
    {ix : Nat} {rx : ByteArray} (x0 : decode rx 0 = .ok (.aload_n 0, 1)) (x1 : decode rx 1 = .ok (.aload_n 1, 1)) (x2 : decode rx 2 = .ok (.invokespecial ix, 3)) (x5 : decode rx 5 = .ok (.return_, 1))
    (names : List String) (X : String) (hX : Bundle.fit X = true) (hn : ∀ n ∈ names, Bundle.fit n = true) (h : ∀ c ∈ jx_chainA X ix rx names, c.before args s = true) :
      ∃ (P1 : PassC) (Ps : List PassC), Ps.length = names.length ∧ P1.LinksS pl s ∧ (∀ P, P ∈ Ps → P.LinksS pl s) ∧ s.methodNamed? (Bundle.initS X) = some P1.m ∧
        P1.sup = firstOf top (Ps.map (·.toPassT)) ∧ PassesOn top (Ps.map (·.toPassT)) := by
  cases names with
  | nil =>
    obtain ⟨P, L, hm, hs⟩ := PassC.ofS_atoms (args := args) (s := s) hpl (X := X) (Y := Bundle.tN) (Bundle.fit_spec hX).1 (by decide) x0 x1 x2 x5 h
    exact ⟨P, [], rfl, L, (fun _ hP => by cases hP), hm, Option.some.inj (hs.symm.trans htop), trivial⟩
  | cons Y r =>
    obtain ⟨P, L, hm, hs⟩ := PassC.ofS_atoms (args := args) (s := s) hpl (X := X) (Y := Y) (Bundle.fit_spec hX).1 (Bundle.fit_spec (hn Y List.mem_cons_self)).2 x0 x1 x2 x5 (fun c hc => h c (List.mem_append_left _ hc))
    obtain ⟨P', Ps, hlen, L', hL, hm', hsup, hpass⟩ := Bundle.chainS (args := args) hpl htop r Y (hn Y List.mem_cons_self) (fun n hn' => hn n (List.mem_cons_of_mem _ hn')) (fun c hc => h c (List.mem_append_right _ hc))
    refine ⟨P, P' :: Ps, by simp [hlen], L, fun Q hQ => ?_, hm, Option.some.inj (hs.symm.trans hm'), hsup, hpass⟩
    rcases List.mem_cons.mp hQ with rfl | hQ
    · exact L'
    · exact hL Q hQ
def jx_own (own : String) (ic : Nat) (X : String) (ix : Nat) (rx : ByteArray) (names : List String) : List Cond :=
  Bundle.throwableAtoms ++ Bundle.throwableSAtoms ++ jx_chainA X ix rx names ++
  [.methodLink own ic (Bundle.initS X), .instantiable X 6, .castable X X, .selects X Bundle.tFill0 Bundle.tFill0, .selects X Bundle.tFill Bundle.tFill,
   .lays X Bundle.tN "cause" "Ljava/lang/Throwable;", .lays X Bundle.tN "stackTrace" Bundle.steD, .lays X Bundle.tN "suppressedExceptions" Bundle.listD, .lays X Bundle.tN "detailMessage" "Ljava/lang/String;",
   .isRef (.static Bundle.tN "UNASSIGNED_STACK" Bundle.steD), .isRef (.static Bundle.tN "SUPPRESSED_SENTINEL" Bundle.listD),
   .fieldLink Bundle.tN 198 Bundle.tN "backtrace" "Ljava/lang/Object;", .lays Bundle.tN Bundle.tN "backtrace" "Ljava/lang/Object;", .lays X Bundle.tN "backtrace" "Ljava/lang/Object;"]
variable {p : Program} {l : Launch} {e : Env} {R : Room} {s : State} {m₀ : MethodId} {args : Array Value} {below : List Frame} {meth : Method} {c : Code} {W : State} {locs : List Loc} {cells slots : Nat}
set_option maxHeartbeats 1000000 in
theorem jx_ctorMade (X : Stand p l e R s m₀ args below meth c W locs cells slots) (hexec : p.tables.exec = Jvm.exec) (htr : e.platform.stackTraces = false) {own cls : String} {names : List String} {ic : Nat}
    {ix : Nat} {rx : ByteArray} (x0 : decode rx 0 = .ok (.aload_n 0, 1)) (x1 : decode rx 1 = .ok (.aload_n 1, 1)) (x2 : decode rx 2 = .ok (.invokespecial ix, 3)) (x5 : decode rx 5 = .ok (.return_, 1))
    (hown : s.vm.findClass own = some m₀.cls) (hcls : Bundle.fit cls = true) (hnames : ∀ n ∈ names, Bundle.fit n = true)
    (h : ∀ a ∈ jx_own own ic cls ix rx names, a.before args s = true)
    (hlocs : ∀ x ∈ locs, ∀ cell, s.heap[x.base]? = some cell → cell.vm.isStatics = false)
    {a : Addr} {cX : ClassId} {kX : Class} (hfoundX : s.vm.findClass cls = some cX) (hkX : s.vm.classes[cX]? = some kX) (hcell : W.heap[a]? = some (freshCell cX kX)) (hnew : s.heap.size ≤ a)
    {msg : Value} (hmsg : msg.isRef = true)
    {g : JFrame} (hg : g.method = m₀) (hsize : g.locals.size = c.maxLocals) {rest : List Value} (hstack : g.stack = msg :: .ref a :: .ref a :: rest)
    (hd6 : decode c.code g.pc = .ok (.invokespecial ic, 3))
    (hRframes : names.length + 3 < R.frames) (hRlocals : 2 * g.monitorRoom + ((Value.ref a :: rest).map fun v => v.category).sum + (13 * (names.length + 1) + 42) ≤ R.locals) :
    ∃ (V : State) (ce : Cell) (L : List Loc), Stand p l e R s m₀ args below meth c (V.setCell a ce) (locs ++ L) cells slots ∧ (∀ y ∈ L, y.base = a) ∧ a < V.heap.size ∧ ce.cls = cX ∧ ce.vm = .none ∧
      ∀ target, Steps p.tables e below ((V.setCell a ce).setTop { g with stack := .ref a :: rest, pc := g.pc + 3 }) target → Steps p.tables e below (W.setTop g) target := by
  have howns : e.platform.frameOwnsMonitors = true := by rw [X.admits.platform]
  have hfin : e.platform.finalization = false := by rw [X.admits.platform]
  have hpl : e.platform.magicAccessors = ({} : Platform).magicAccessors := by rw [X.admits.platform]
  have a' : ∀ x, x ∈ jx_own own ic cls ix rx names → x.holds args s none s [] = true := fun x hx => h x hx
  obtain ⟨T, Z0, L, -, Y⟩ := ThrowableC.of_atoms (args := args) howns hfin hpl (fun x hx => h x (by simp [jx_own, hx]))
  obtain ⟨Z, M, LZ, LM, hnZ⟩ := Init0T.ofS_atoms (args := args) hpl L Y (fun x hx => h x (by simp [jx_own, hx]))
  obtain ⟨P1, Ps, hlen, L1, hL, hP1m, hlink1, hlink⟩ := jx_chain (args := args) hpl hnZ x0 x1 x2 x5 names cls hcls hnames (fun x hx => h x (by simp [jx_own, hx]))
  have hfound : s.vm.findClass cls = some P1.m.cls := findClass_of_methodNamed hP1m
  cases Option.some.inj (hfoundX.symm.trans hfound)
  obtain ⟨c1, kX', hc1, hk, hord, -, -, hn6⟩ := Cond.instantiable_spec (a' (.instantiable cls 6) (by simp [jx_own]))
  cases Option.some.inj (hc1.symm.trans hfound)
  cases Option.some.inj (hkX.symm.trans hk)
  have hsel0 : selectMethod e.platform s.vm P1.m.cls T.fill0 = .method T.fill0 := by
    obtain ⟨c2, r2, m2, q1, q2, q3, q4, -⟩ := Cond.selects_spec (a' (.selects cls Bundle.tFill0 Bundle.tFill0) (by simp [jx_own]))
    cases Option.some.inj (q1.symm.trans hfound)
    cases Option.some.inj (q2.symm.trans (State.methodFound?_of_named Y.fill0 (by decide)))
    cases Option.some.inj (q3.symm.trans Y.fill0)
    rw [Launch.admits_selectMethod X.admits]; exact q4
  have hselF : selectMethod e.platform s.vm P1.m.cls T.fill = .method T.fill := by
    obtain ⟨c2, r2, m2, q1, q2, q3, q4, -⟩ := Cond.selects_spec (a' (.selects cls Bundle.tFill Bundle.tFill) (by simp [jx_own]))
    cases Option.some.inj (q1.symm.trans hfound)
    cases Option.some.inj (q2.symm.trans (State.methodFound?_of_named Y.fill (by decide)))
    cases Option.some.inj (q3.symm.trans Y.fill)
    rw [Launch.admits_selectMethod X.admits]; exact q4
  obtain ⟨cellS0, hcS0, hiss⟩ := Y.statics
  obtain ⟨u0, hu0⟩ := Cond.staticRefV Y.unassigned L.unassignedStatic L.statics hcS0 hiss (a' (.isRef (.static Bundle.tN "UNASSIGNED_STACK" Bundle.steD)) (by simp [jx_own]))
  obtain ⟨sen, hsen⟩ := Cond.staticRefV Y.sentinel L.sentinelStatic L.statics hcS0 hiss (a' (.isRef (.static Bundle.tN "SUPPRESSED_SENTINEL" Bundle.listD)) (by simp [jx_own]))
  obtain ⟨ci198, i198, fB, hk198, hg198, ha198, hsB, -, hnB, htB, hffB⟩ := Cond.ownField (t := .object "java/lang/Object") Y.found L.cls (by decide +kernel) (a' (.fieldLink Bundle.tN 198 Bundle.tN "backtrace" "Ljava/lang/Object;") (by simp [jx_own])) (a' (.lays Bundle.tN Bundle.tN "backtrace" "Ljava/lang/Object;") (by simp [jx_own])) e.platform hpl
  obtain ⟨cellS, hcS', heS, -, hkeep⟩ := X.same.2.2.2.2.2 T.aS cellS0 hcS0
  have hcellS : W.heap[T.aS]? = some cellS := hcS'
  have hout' : ∀ i, (⟨T.aS, i⟩ : Loc) ∉ locs := fun i hmem => by
    have := hlocs _ hmem cellS0 hcS0
    rw [hiss] at this; cases this
  have hknownS : cellS.vm ≠ .unknown := by
    rw [heS]; intro hu
    rw [show cellS0.vm = .unknown from hu] at hiss
    cases hiss
  have hneS : T.aS ≠ a := Nat.ne_of_lt (Nat.lt_of_lt_of_le (Array.getElem?_eq_some_iff.mp hcS0).1 hnew)
  obtain ⟨iM, hffM⟩ := Y.msg
  obtain ⟨tyC, dC, hdC, hdnC⟩ := Cond.laysAt hfound hk Y.cause (a' (.lays cls Bundle.tN "cause" "Ljava/lang/Throwable;") (by simp [jx_own]))
  obtain ⟨tyS, dS, hdS, hdnS⟩ := Cond.laysAt hfound hk Y.stack (a' (.lays cls Bundle.tN "stackTrace" Bundle.steD) (by simp [jx_own]))
  obtain ⟨tyP, dP, hdP, hdnP⟩ := Cond.laysAt hfound hk Y.supp (a' (.lays cls Bundle.tN "suppressedExceptions" Bundle.listD) (by simp [jx_own]))
  obtain ⟨tyM, dM, hdM, hdnM⟩ := Cond.laysAt hfound hk hffM (a' (.lays cls Bundle.tN "detailMessage" "Ljava/lang/String;") (by simp [jx_own]))
  obtain ⟨tyB, dB, hdB, hdnB⟩ := Cond.laysAt hfound hk hffB (a' (.lays cls Bundle.tN "backtrace" "Ljava/lang/Object;") (by simp [jx_own]))
  have bC := Cond.laysApart hdB hdC hdnB hdnC (by rw [hnB, Y.causeName]; decide)
  have bS := Cond.laysApart hdB hdS hdnB hdnS (by rw [hnB, Y.stackName]; decide)
  have bP := Cond.laysApart hdB hdP hdnB hdnP (by rw [hnB, Y.suppName]; decide)
  have hskip : SkipFacts T e.platform s (fun u => u) u0 ((preparedCellV T.toThrowableT (freshCell P1.m.cls kX) a u0 sen).withEntry W.cur) :=
    ⟨{ ci198 := ci198, i198 := i198, fBack := fB }, ⟨hk198, hg198, ha198, hsB⟩, by
      have := fresh_default (c := P1.m.cls) tyB
      rw [htB] at this
      simpa [preparedCellV, Cell.setSlot, Cell.withEntry, Array.getElem?_setIfInBounds, bC, bS, bP, bC.symm, bS.symm, bP.symm, defaultValue] using this, fun _ _ => rfl⟩
  obtain ⟨tm, methC, cdC, kC, vm₁, hnC, -, -, -, -, -, -, -, hW₁, st1⟩ := Steps.initColdS (tb := p.tables) (e := e) (below := below) (s := s) (U := W) X.here hexec X.warmed hpl hown (t := Bundle.initS cls) rfl rfl (Bundle.fit_spec hcls).2
    (a' (.methodLink own ic (Bundle.initS cls)) (by simp [jx_own])) (h (.instanceMethod (Bundle.initS cls)) (by cases names <;> simp [jx_own, jx_chainA, Bundle.passSAtoms])) (bytes := rx) (maxL := 2) (h (.code (Bundle.initS cls) rx 2 none) (by cases names <;> simp [jx_own, jx_chainA, Bundle.passSAtoms]))
    (f := g) hg (a := a) (msg := msg) (rest := .ref a :: rest) hstack hd6
  cases Option.some.inj (hnC.symm.trans hP1m)
  have X₁ := X.noted hW₁
  obtain ⟨vm₂, X₂, st2⟩ := X₁.ctorMessageOffV hexec (g := { g with stack := .ref a :: rest }) hg hsize T L Z LZ M LM (P1 :: Ps)
    (fun P hP => by rcases List.mem_cons.mp hP with rfl | hP; exact L1; exact hL P hP) ⟨hlink1, hlink⟩ (u0 := u0) (sen := sen) (self := a) hmsg (cell := freshCell P1.m.cls kX) (cellS := cellS)
    hcell (fun _ => by simp) (by simp) rfl rfl hsel0 hselF hcellS hneS hknownS (by rw [hkeep _ (hout' _)]; exact hu0) (by rw [hkeep _ (hout' _)]; exact hsen)
    (Takes.of_laid hk hord tyC (by rw [Y.causeType]; rfl)) (Takes.of_laid hk hord tyS (by rw [Y.stackType]; exact fits_refV_array _ u0)) (Takes.of_laid hk hord tyP (by rw [Y.suppType]; exact fits_refV_object _ sen))
    (Takes.of_laid hk hord tyM (by rw [Y.msgType]; exact fits_refV_object _ ⟨msg, hmsg⟩)) Y.objLocals hskip htr [] hd6
    (by simp only [List.length_cons, hlen]; omega) (by simp only [List.length_cons, hlen]; exact hRlocals)
  have hlt : a < ((W.setVm vm₁).setVm vm₂).heap.size := (Array.getElem?_eq_some_iff.mp hcell).1
  refine ⟨(W.setVm vm₁).setVm vm₂, _, _, X₂, fun y hy => ?_, hlt, rfl, rfl, fun target hwalk => st1 _ (fun acts => ?_)⟩
  · simp only [List.mem_cons, List.not_mem_nil, or_false] at hy
    rcases hy with rfl | rfl | rfl | rfl | rfl <;> rfl
  · rw [doInvoke_state]
    exact st2 _ hwalk
end JXC
section JXT
variable {p : Program} {l : Launch} {e : Env} {R : Room} {s : State} {m : MethodId} {args : Array Value} {below : List Frame} {meth : Method} {c : Code}
variable {D : va_G} {bs : Nat} {E : j_E} {h0 : j_H} {d : Nat} {own : String} {cc : ByteArray} {nL : Nat} {ret : Option FieldType} {Q : j_O → j_H → Prop}
def jx_nc (cls : String) (w : Cond) : Bool := vx_no w && !decide (w = .castable cls cls) && !decide (w = .declares (Bundle.initS Bundle.tN)) && !decide (w = .declares (Bundle.initS "java/lang/Exception")) && !decide (w = .declares (Bundle.initS "java/lang/RuntimeException"))
theorem jx_decl {s : State} {args : Array Value} {y : MethodName} {b : ByteArray} {n : Nat} {r : Option FieldType} (h1 : (Cond.instanceMethod y).before args s = true) (h2 : (Cond.code y b n r).before args s = true) : (Cond.declares y).before args s = true := by
  obtain ⟨mk, methM, hnamed, hmethM, hstM, habM⟩ := Cond.instanceMethod_spec h1
  obtain ⟨methM', cM, hmethM', -, -, -, -, -, -, hsigM⟩ := Cond.code_spec hnamed h2
  cases hmethM.symm.trans hmethM'
  simp [Cond.before, Cond.holds, Cond.value, hnamed, hmethM, hstM, hsigM]
theorem j_rep_thr {U : State} {h : j_H} {H H' : Heap} (hR : j_rep D bs U h H) (h1 : H.size ≤ H'.size) (h2 : ∀ q, q < H.size → H'[q]? = H[q]?) : j_rep D bs U (j_thr h H'.size) H' := by
  refine ⟨rfl, ?_, fun a s hs => ?_⟩
  · show bs ≤ H'.size
    have := hR.2.1
    rw [← hR.1] at this
    omega
  · have g := hR.2.2 a s hs
    exact j_at_kept (h2 a (j_at_lt g)) (fun ty k => by cases ty <;> rfl) g
theorem jx_athrow {T2 U s' : State} {R' : Room} {L : List Loc} {k n pc : Nat} {q : Addr} {ls : Array Slot} {st : List Value} (X : Stand p l e R' s' m args below meth c T2 L k n) (hexec : p.tables.exec = Jvm.exec) (hdg' : decode c.code pc = .ok (.athrow, 1)) (st3 : Steps p.tables e below ((T2.setTop (F0 m pc ls st)).pushFrame (.throwing q)) U) : Steps p.tables e below (T2.setTop (F0 m pc ls (.ref q :: st))) U := by
  jvm_step X.here [X.here.top, hexec, hdg', athrow.wp_sem]
  exact st3
/-- the steps up to the throw, by one of two ways to push the text -/
theorem jx_throw (X : j_Ctx p l R s m args meth c D bs E h0 d own cc nL ret) {pc pi ik ic is x ix sa : Nat} {rx : ByteArray} {cls text : String} {lv st : List Value} {h : j_H} (x0 : decode rx 0 = .ok (.aload_n 0, 1)) (x1 : decode rx 1 = .ok (.aload_n 1, 1)) (x2 : decode rx 2 = .ok (.invokespecial ix, 3)) (x5 : decode rx 5 = .ok (.return_, 1))
    (hcls : Bundle.fit cls = true) (hxn : cls = j_exn x) (w1 : Cond.classLink own ik cls ∈ j_tbl) (w2 : Cond.initialized cls ∈ j_tbl) (w3 : ∀ w ∈ (jx_own own ic cls ix rx ["java/lang/RuntimeException", "java/lang/Exception"]).filter (jx_nc cls), w ∈ j_tbl) (hstr : vk_R own is text sa s)
    (d0 : decode cc pc = .ok (.new ik, 3)) (d3 : decode cc (pc + 3) = .ok (.dup, 1)) (d4 : (decode cc (pc + 4) = .ok (.ldc is, 2) ∧ pi = pc + 6) ∨ (decode cc (pc + 4) = .ok (.ldc_w is, 3) ∧ pi = pc + 7)) (d6 : decode cc pi = .ok (.invokespecial ic, 3)) (d9 : decode cc (pi + 3) = .ok (.athrow, 1))
    (hc1 : j_c h + 1 ≤ E.2.1) (hc2 : j_k h + 6 ≤ E.2.2) (hQ : ∀ z, j_z h ≤ z → Q (.inr x) (j_thr h z)) (hcw : j_cw st = true) : j_W p l e R s m args below meth c D bs E h0 nL (j_MQ below D bs E h0 Q args s) pc lv st h := by
  have X9 := X
  obtain ⟨hex, hb, hml, hr, hown, hts, henv, hRm, hlocks, htab, hst, hbs⟩ := X
  intro ls H locs hl hR hS hc T hT XX
  have hc9 := hc
  obtain ⟨a1, a2, a3, a4⟩ := hc9
  have hcat := j_cat hcw
  have htr : e.platform.stackTraces = false := (show e.platform.stackTraces = l.stackTraces by rw [XX.admits.platform]).trans hst
  have Y := vx_rebase XX (R' := { frames := R.frames, locals := R.locals, cells := 1, slots := 6 }) (Nat.le_refl _) (Nat.le_refl _) (by show (j_c h - j_c h0) + 1 ≤ R.cells; rw [hRm]; simp only [j_room]; omega) (by show (j_k h - j_k h0) + 6 ≤ R.slots; rw [hRm]; simp only [j_room]; omega)
  obtain ⟨s', hA⟩ : ∃ z, z = (T.setVm s.vm).setFrames (.invoking m args :: below) := ⟨_, rfl⟩
  rw [← hA] at Y
  have hvm : s'.vm = s.vm := by rw [hA]; rfl
  have hhp : s'.heap = H := by rw [hA]; exact hT
  have hW0 : s.WarmedH s'.vm := by rw [hvm]; exact State.WarmedH.refl s
  have hwd : ∀ w ∈ j_tbl, w.before args s' = true := fun w hw => word_at hW0 (j_tbl_good hw) (hts w hw)
  have hU' : vx_Zq Bundle.tN "UNASSIGNED_STACK" Bundle.steD (j_A bs) s' s'.heap := by rw [hhp]; exact vx_Zq.moved hW0.alike (henv.2.2.1.kept hS.2.1)
  have hN' : vx_Zq Bundle.tN "SUPPRESSED_SENTINEL" Bundle.listD (j_A bs) s' s'.heap := by rw [hhp]; exact vx_Zq.moved hW0.alike (henv.2.2.2.1.kept hS.2.1)
  have hins : (Cond.instantiable cls 6).before args s' = true := hwd _ (w3 _ (List.mem_filter.mpr ⟨by simp [jx_own], by simp [jx_nc, vx_no]⟩))
  have hcast : (Cond.castable cls cls).before args s' = true := by
    obtain ⟨cC, kC, hfc, -⟩ := Cond.instantiable_spec hins
    simp [Cond.before, Cond.holds, Cond.value, hfc, va_asg]
  have hin : ∀ w ∈ jx_own own ic cls ix rx ["java/lang/RuntimeException", "java/lang/Exception"], jx_nc cls w = true → w.before args s' = true := fun w g1 g2 => hwd w (w3 w (List.mem_filter.mpr ⟨g1, g2⟩))
  have hd1 : (Cond.declares (Bundle.initS Bundle.tN)).before args s' = true := jx_decl (hin (.instanceMethod (Bundle.initS Bundle.tN)) (by simp [jx_own, Bundle.throwableSAtoms]) (by simp [jx_nc, vx_no])) (hin (.code (Bundle.initS Bundle.tN) LibCode.Throwable.InitS.code 2 none) (by simp [jx_own, Bundle.throwableSAtoms]) (by simp [jx_nc, vx_no]))
  have hd2 : (Cond.declares (Bundle.initS "java/lang/Exception")).before args s' = true := jx_decl (hin (.instanceMethod (Bundle.initS "java/lang/Exception")) (by simp [jx_own, jx_chainA, Bundle.chainSAtoms, Bundle.passSAtoms]) (by simp [jx_nc, vx_no])) (hin (.code (Bundle.initS "java/lang/Exception") Bundle.six 2 none) (by simp [jx_own, jx_chainA, Bundle.chainSAtoms, Bundle.passSAtoms]) (by simp [jx_nc, vx_no]))
  have hd3 : (Cond.declares (Bundle.initS "java/lang/RuntimeException")).before args s' = true := jx_decl (hin (.instanceMethod (Bundle.initS "java/lang/RuntimeException")) (by simp [jx_own, jx_chainA, Bundle.chainSAtoms, Bundle.passSAtoms]) (by simp [jx_nc, vx_no])) (hin (.code (Bundle.initS "java/lang/RuntimeException") Bundle.six 2 none) (by simp [jx_own, jx_chainA, Bundle.chainSAtoms, Bundle.passSAtoms]) (by simp [jx_nc, vx_no]))
  have hw : ∀ w ∈ jx_own own ic cls ix rx ["java/lang/RuntimeException", "java/lang/Exception"], w.before args s' = true := vx_own (fun w hw => by
    obtain ⟨g1, g2⟩ := List.mem_filter.mp hw
    by_cases e1 : w = .castable cls cls
    · rw [e1]; exact hcast
    · by_cases e2 : w = .declares (Bundle.initS Bundle.tN)
      · rw [e2]; exact hd1
      · by_cases e3 : w = .declares (Bundle.initS "java/lang/Exception")
        · rw [e3]; exact hd2
        · by_cases e4 : w = .declares (Bundle.initS "java/lang/RuntimeException")
          · rw [e4]; exact hd3
          · exact hin w g1 (by simp [jx_nc, g2, e1, e2, e3, e4])) (vx_isRefq hU'.1) (vx_isRefq hN'.1) hU'.2.word hN'.2.word
  have hown' : s'.vm.findClass own = some m.cls := by rw [hvm]; exact hown
  obtain ⟨vm₁, cX, kX, hfX, hkX, -, -, X₁, st1⟩ := Y.newCold hex (own := own) (C := cls) (index := ik) (n := 6) hown' (hwd _ w1) hins (hwd _ w2)
    (g := F0 m pc ls st) rfl (by rw [hb]; exact d0) (Nat.le_refl _) (Nat.le_refl _)
  generalize hT1 : (T.setVm vm₁).pushCell { cls := cX, slots := kX.instanceTypes.map defaultValue, vm := .none } = T1 at X₁ st1
  have hcellA : T1.heap[T.heap.size]? = some (freshCell cX kX) := by rw [← hT1]; exact State.heap_pushCell_size _ _
  have d3' : decode c.code (pc + 3) = .ok (.dup, 1) := by rw [hb]; exact d3
  have hstr' : vk_R own is text sa s' := vk_R.warm hW0 hstr
  have hcatr : (Value.ref T.heap.size).category = 1 := rfl
  obtain ⟨V, ce, L2, X2, hL2, hlt, hcc, hcv, st2⟩ := jx_ctorMade X₁ hex htr x0 x1 x2 x5 (own := own) (cls := cls) (names := ["java/lang/RuntimeException", "java/lang/Exception"]) (ic := ic) hown' hcls (by decide) hw (fun x hx => nomatch hx) hfX hkX hcellA (by rw [hhp, hT]; exact Nat.le_refl _) (msg := .ref sa) rfl
    (g := { method := m, pc := pi, locals := ls, stack := .ref sa :: .ref T.heap.size :: .ref T.heap.size :: st, locked := none }) rfl (hl.1.trans hml.symm) (rest := st) rfl
    (by rw [hb]; exact d6) (by show 2 + 3 < R.frames; rw [hRm]; simp only [j_room]; omega) (by show 2 * 0 + _ + (13 * (2 + 1) + 42) ≤ R.locals; rw [hRm]; simp only [j_room, List.map_cons, List.sum_cons, hcatr]; omega)
  have hkX' : V.heap.size = V.heap.size := rfl
  obtain ⟨st3, hrun, hend, hW, hsm⟩ := X2.leaveThrown T.heap.size (g := F0 m (pi + 3) ls st) rfl rfl rfl (fun x hx => absurd hx (htab x)) hlocks
  have hce : ((V.setCell T.heap.size ce).setFrames (.throwing T.heap.size :: below)).heap[T.heap.size]? = some ce := by
    show (V.heap.setIfInBounds T.heap.size ce)[T.heap.size]? = some ce
    simp [Array.getElem?_setIfInBounds, hlt]
  generalize hU : (V.setCell T.heap.size ce).setFrames (.throwing T.heap.size :: below) = U at st3 hrun hend hW hsm hce
  obtain ⟨f1, f2⟩ := vx_frame hsm
  rw [hhp] at f1 f2
  have f3 : ∀ q, q < H.size → U.heap[q]? = H[q]? := fun q hq => f2 q hq (fun z hz => by
    have hz' : z ∈ L2 := by simpa using hz
    rw [hL2 z hz', hT]
    exact Nat.ne_of_gt hq)
  have hWs : s.WarmedH U.vm := State.WarmedH.trans hW0 hW
  have hall : s.sameButNew ({ U with vm := s.vm } : State) (locs ++ L2) (j_c h - j_c h0 + 1) (j_k h - j_k h0 + 6) := by
    subst hA
    obtain ⟨e1, e2⟩ := hsm
    rw [State.setFrames_setFrames] at e1
    have h2 : (T.setVm s.vm).sameButNew ({ U with vm := s.vm } : State) ([] ++ L2) (0 + 1) (0 + 6) := ⟨e1, e2⟩
    exact XX.same.trans h2
  have hcl : s.vm.findClass cls = some ce.cls := by rw [← hvm, hcc]; exact hfX
  have hz : j_z h ≤ U.heap.size := by rw [← hR.1]; exact f1
  refine ⟨U, ?_, .threw T.heap.size, hrun, hend, Or.inr ⟨T.heap.size, j_c h - j_c h0 + 1, j_k h - j_k h0 + 6, cls, ce, locs ++ L2, rfl, ⟨x, j_thr h U.heap.size, hxn, hQ _ hz, j_rep_moved hWs.alike (j_rep_thr hR f1 f3), ⟨Nat.le_trans hS.1 f1, fun q g1 g2 => (f3 q (Nat.lt_of_lt_of_le g1 hS.1)).trans (hS.2.1 q g1 g2)⟩, ⟨Nat.le_succ_of_le a1, hc1, Nat.le_trans a3 (Nat.le_add_right _ _), hc2⟩, ?_, ?_⟩, hce, hcv, hcl, hWs, hall, fun z hz => ?_⟩⟩
  · refine st1 _ ?_
    show Steps p.tables e below (T1.setTop { method := m, pc := pc + 3, locals := ls, stack := .ref T.heap.size :: st, locked := none }) _
    jvm_step X₁.here [X₁.here.top, hex, d3', Value.category]
    have hrest : Steps p.tables e below (T1.setTop { method := m, pc := pi, locals := ls, stack := .ref sa :: .ref T.heap.size :: .ref T.heap.size :: st, locked := none }) U := by
      refine st2 _ ?_
      have hd9 : decode c.code (pi + 3) = .ok (.athrow, 1) := by rw [hb]; exact d9
      show Steps p.tables e below ((V.setCell T.heap.size ce).setTop { method := m, pc := pi + 3, locals := ls, stack := .ref T.heap.size :: st, locked := none }) _
      exact jx_athrow X2 hex hd9 st3
    rcases d4 with ⟨d4, rfl⟩ | ⟨d4, rfl⟩
    · exact X₁.ldcString hex (own := own) (text := text) (index := is) (a := sa) hown' hstr'.1 hstr'.2
        (g := { method := m, pc := pc + 4, locals := ls, stack := .ref T.heap.size :: .ref T.heap.size :: st, locked := none }) rfl (by rw [hb]; exact d4) _ hrest
    · exact Stand.ldcStringW X₁ hex (own := own) (text := text) (index := is) (a := sa) hown' hstr'.1 hstr'.2
        (g := { method := m, pc := pc + 4, locals := ls, stack := .ref T.heap.size :: .ref T.heap.size :: st, locked := none }) rfl (by rw [hb]; exact d4) _ hrest
  · show _ = j_c h + 1 - j_c h0
    omega
  · show _ = j_k h + 6 - j_k h0
    omega
  · rcases List.mem_append.mp hz with g | g
    · exact hS.2.2 z g
    · rw [hL2 z g]
      show bs ≤ T.heap.size
      rw [hT, hR.1]
      exact hR.2.1
end JXT
end
section
/-! ===== what the tables say of throws and of the classes ===== -/
def jx_rx : ByteArray := ⟨#[0x2a, 0x2b, 0xb7, 0x00, 0x0d, 0xb1]⟩
theorem jx_w0 : ∀ w ∈ (jx_own RX8 155 "java/util/NoSuchElementException" 13 jx_rx ["java/lang/RuntimeException", "java/lang/Exception"]).filter (jx_nc "java/util/NoSuchElementException"), w ∈ j_tbl := by decide +kernel
theorem jx_w1 : ∀ w ∈ (jx_own RX8 201 "java/lang/IllegalArgumentException" 7 Bundle.six ["java/lang/RuntimeException", "java/lang/Exception"]).filter (jx_nc "java/lang/IllegalArgumentException"), w ∈ j_tbl := by decide +kernel
theorem jx_w2 : ∀ w ∈ [Cond.classLink RX8 151 "java/util/NoSuchElementException", .initialized "java/util/NoSuchElementException", .classLink RX8 197 "java/lang/IllegalArgumentException", .initialized "java/lang/IllegalArgumentException"], w ∈ j_tbl := by decide +kernel
theorem jx_str {D : va_G} {bs : Nat} {E : j_E} {s : State} {own : String} {is : Nat} (henv : j_env D bs E s) (h : j_strs.any (fun z => decide (z.1 = own) && z.2.1 == is) = true) : ∃ text sa, vk_R own is text sa s := by
  obtain ⟨z, hz, h1⟩ := List.any_eq_true.mp h
  simp only [Bool.and_eq_true, decide_eq_true_eq, beq_iff_eq] at h1
  obtain ⟨rfl, rfl⟩ := h1
  obtain ⟨i, hi⟩ := List.getElem?_of_mem hz
  exact ⟨_, _, henv.2.1 i z hi⟩
theorem j_throwok (l : Launch) (D : va_G) (bs : Nat) (E : j_E) : j_ThrowOk l D bs E := by
  intro p e R s m args below meth c h0 d own cc nL ret Q pc idx x ic is lv st h X hd hT hc1 hc2 hQ hcw
  obtain ⟨h1, h2, h3⟩ := hT
  simp only [j_thw, Bool.and_eq_true, Bool.or_eq_true, decide_eq_true_eq, beq_iff_eq] at h1
  obtain ⟨⟨rfl, h4⟩, h5⟩ := h1
  have henv := X.2.2.2.2.2.2.1
  obtain ⟨text, sa, hstr⟩ := jx_str henv h5
  rcases h4 with ⟨⟨rfl, rfl⟩, rfl⟩ | ⟨⟨rfl, rfl⟩, rfl⟩
  · rcases h3 with ⟨g1, g2, g3⟩ | ⟨g1, g2, g3⟩
    · exact jx_throw X (pi := pc + 6) (rx := jx_rx) (ix := 13) (cls := "java/util/NoSuchElementException") (by decide +kernel) (by decide +kernel) (by decide +kernel) (by decide +kernel) (by decide +kernel) rfl (jx_w2 _ (by simp)) (jx_w2 _ (by simp)) jx_w0 hstr hd h2 (Or.inl ⟨g1, rfl⟩) g2 g3 hc1 hc2 hQ hcw
    · exact jx_throw X (pi := pc + 7) (rx := jx_rx) (ix := 13) (cls := "java/util/NoSuchElementException") (by decide +kernel) (by decide +kernel) (by decide +kernel) (by decide +kernel) (by decide +kernel) rfl (jx_w2 _ (by simp)) (jx_w2 _ (by simp)) jx_w0 hstr hd h2 (Or.inr ⟨g1, rfl⟩) g2 g3 hc1 hc2 hQ hcw
  · rcases h3 with ⟨g1, g2, g3⟩ | ⟨g1, g2, g3⟩
    · exact jx_throw X (pi := pc + 6) (rx := Bundle.six) (ix := 7) (cls := "java/lang/IllegalArgumentException") (by decide +kernel) (by decide +kernel) (by decide +kernel) (by decide +kernel) (by decide +kernel) rfl (jx_w2 _ (by simp)) (jx_w2 _ (by simp)) jx_w1 hstr hd h2 (Or.inl ⟨g1, rfl⟩) g2 g3 hc1 hc2 hQ hcw
    · exact jx_throw X (pi := pc + 7) (rx := Bundle.six) (ix := 7) (cls := "java/lang/IllegalArgumentException") (by decide +kernel) (by decide +kernel) (by decide +kernel) (by decide +kernel) (by decide +kernel) rfl (jx_w2 _ (by simp)) (jx_w2 _ (by simp)) jx_w1 hstr hd h2 (Or.inr ⟨g1, rfl⟩) g2 g3 hc1 hc2 hQ hcw
theorem j_u0 : ∀ w ∈ u_ws RJ0 TJ0 4, w ∈ j_tbl := by decide +kernel
theorem j_u1 : ∀ w ∈ u_ws RJ4 TJ4 4, w ∈ j_tbl := by decide +kernel
theorem j_u2 : ∀ w ∈ u_ws RX0 TX0 3, w ∈ j_tbl := by decide +kernel
theorem j_u3 : ∀ w ∈ u_ws RX1 TX1 17, w ∈ j_tbl := by decide +kernel
theorem j_u4 : ∀ w ∈ u_ws RX2 TX2 2, w ∈ j_tbl := by decide +kernel
theorem j_u5 : ∀ w ∈ u_ws RX3 TX3 2, w ∈ j_tbl := by decide +kernel
theorem j_u6 : ∀ w ∈ u_ws RX4 TX4 3, w ∈ j_tbl := by decide +kernel
theorem j_u7 : ∀ w ∈ u_ws RX5 TX5 7, w ∈ j_tbl := by decide +kernel
theorem j_u8 : ∀ w ∈ u_ws RX6 TX6 2, w ∈ j_tbl := by decide +kernel
theorem j_u9 : ∀ w ∈ u_ws RX7 TX7 8, w ∈ j_tbl := by decide +kernel
theorem j_u10 : ∀ w ∈ u_ws RX8 TX8 10, w ∈ j_tbl := by decide +kernel
theorem j_u11 : ∀ w ∈ u_ws RX9 TX9 29, w ∈ j_tbl := by decide +kernel
theorem j_clall : ∀ (c : Nat) (r : vw_C), j_cl[c]? = some r → j_clok c r := by
  intro c r h
  match c, h with
  | 0, h => cases h; exact ⟨j_u0, tyJ0_ok, nmJ0⟩
  | 1, h => cases h; exact ⟨j_u1, tyJ4_ok, nmJ4⟩
  | 2, h => cases h; exact ⟨j_u2, tyX0_ok, nmX0⟩
  | 3, h => cases h; exact ⟨j_u3, tyX1_ok, nmX1⟩
  | 4, h => cases h; exact ⟨j_u4, tyX2_ok, nmX2⟩
  | 5, h => cases h; exact ⟨j_u5, tyX3_ok, nmX3⟩
  | 6, h => cases h; exact ⟨j_u6, tyX4_ok, nmX4⟩
  | 7, h => cases h; exact ⟨j_u7, tyX5_ok, nmX5⟩
  | 8, h => cases h; exact ⟨j_u8, tyX6_ok, nmX6⟩
  | 9, h => cases h; exact ⟨j_u9, tyX7_ok, nmX7⟩
  | 10, h => cases h; exact ⟨j_u10, tyX8_ok, nmX8⟩
  | 11, h => cases h; exact ⟨j_u11, tyX9_ok, nmX9⟩
  | c + 12, h => simp at h
theorem j_in {ws : List Cond} {ps : List Nat} (hp : ws = ps.filterMap (fun i => lw_tbl[i]?)) (hg : ws.all goodWord = true) : ∀ w ∈ ws, w ∈ j_tbl := by
  intro w hw
  have h1 := List.all_eq_true.mp hg w hw
  rw [hp] at hw
  obtain ⟨i, -, hi⟩ := List.mem_filterMap.mp hw
  exact List.mem_filter.mpr ⟨List.mem_of_getElem? hi, h1⟩
/-- a method of the table, by its blocks: no premise left but the launch's -/
theorem j_meth {l : Launch} {D : va_G} {bs : Nat} {E : j_E} {d k : Nat} {as : List Value} {h : j_H} {post : j_O → j_H → Prop} {mi : j_Mi} {bl : List (Nat × List j_N)} (hl : l.stackTraces = false)
    (hmi : j_mt[k]? = some mi) (hg : j_good mi bl) (hlen : (lg_sl as).length ≤ mi.2.2.1) (hrc : mi.2.2.2.2 < 90 → ∃ (a : Nat) (r : List Value), as = .ref a :: r ∧ j_sh h a = some (.inr mi.2.2.2.2)) (hc1 : j_c h ≤ E.2.1) (hc2 : j_k h ≤ E.2.2)
    (H : ∀ G : j_G, j_clo (j_Met l D bs E d) E post bl G → G 0 (j_pad mi.2.2.1 (j_exp as)) [] h) : j_Met l D bs E (d + 1) k as h post := j_method hl (j_throwok l D bs E) j_clall hmi hg hlen hrc hc1 hc2 H
end
