/-! ===== checks: 23.chkX1 ===== -/
abbrev i_X1_init : j_Mi := (yX1_init, cX1_init, 1, none, 3)
theorem c_X1_init : ∀ b ∈ m_X1_init, j_ckL yX1_init.cls (yX1_init.name == "<init>") none 1 cX1_init b.2 b.1 = true := by decide +kernel
theorem w_X1_init : j_wI (m_X1_init.flatMap (fun b => j_wdL yX1_init.cls b.2)) [215, 116, 117, 216, 162, 86, 165, 86, 217, 164, 239, 238, 241, 216, 162, 86, 165, 86, 217, 164, 242, 216, 162, 86, 165, 86, 217, 164, 245, 218, 219, 89, 222, 89, 220, 221, 247] = true := by decide +kernel
theorem g_X1_init : j_good i_X1_init m_X1_init := ⟨by decide +kernel, c_X1_init, fun b hb w hw => j_wI_in w_X1_init w (List.mem_flatMap.mpr ⟨b, hb, hw⟩)⟩
abbrev i_X1_begin : j_Mi := (yX1_begin, cX1_begin, 3, none, 3)
theorem c_X1_begin : ∀ b ∈ m_X1_begin, j_ckL yX1_begin.cls (yX1_begin.name == "<init>") none 3 cX1_begin b.2 b.1 = true := by decide +kernel
theorem w_X1_begin : j_wI (m_X1_begin.flatMap (fun b => j_wdL yX1_begin.cls b.2)) [186, 248, 189, 250, 191, 251, 194, 252, 253, 256, 258, 260, 262, 263, 265, 306, 266, 247, 310, 89, 307, 308, 309, 248, 183, 314, 88, 311, 312, 313] = true := by decide +kernel
theorem g_X1_begin : j_good i_X1_begin m_X1_begin := ⟨by decide +kernel, c_X1_begin, fun b hb w hw => j_wI_in w_X1_begin w (List.mem_flatMap.mpr ⟨b, hb, hw⟩)⟩
abbrev i_X1_beginFlow : j_Mi := (yX1_beginFlow, cX1_beginFlow, 4, none, 3)
theorem c_X1_beginFlow : ∀ b ∈ m_X1_beginFlow, j_ckL yX1_beginFlow.cls (yX1_beginFlow.name == "<init>") none 4 cX1_beginFlow b.2 b.1 = true := by decide +kernel
theorem w_X1_beginFlow : j_wI (m_X1_beginFlow.flatMap (fun b => j_wdL yX1_beginFlow.cls b.2)) [239, 318, 86, 315, 316, 317, 322, 86, 319, 320, 321, 239, 322, 86, 319, 320, 321, 239, 322, 86, 319, 320, 321, 326, 88, 323, 324, 325] = true := by decide +kernel
theorem g_X1_beginFlow : j_good i_X1_beginFlow m_X1_beginFlow := ⟨by decide +kernel, c_X1_beginFlow, fun b hb w hw => j_wI_in w_X1_beginFlow w (List.mem_flatMap.mpr ⟨b, hb, hw⟩)⟩
abbrev i_X1_copyFrom : j_Mi := (yX1_copyFrom, cX1_copyFrom, 2, none, 3)
theorem c_X1_copyFrom : ∀ b ∈ m_X1_copyFrom, j_ckL yX1_copyFrom.cls (yX1_copyFrom.name == "<init>") none 2 cX1_copyFrom b.2 b.1 = true := by decide +kernel
theorem w_X1_copyFrom : j_wI (m_X1_copyFrom.flatMap (fun b => j_wdL yX1_copyFrom.cls b.2)) [584, 88, 581, 582, 583, 247, 247, 596, 89, 593, 594, 595] = true := by decide +kernel
theorem g_X1_copyFrom : j_good i_X1_copyFrom m_X1_copyFrom := ⟨by decide +kernel, c_X1_copyFrom, fun b hb w hw => j_wI_in w_X1_copyFrom w (List.mem_flatMap.mpr ⟨b, hb, hw⟩)⟩
abbrev i_X1_copyTraffic : j_Mi := (yX1_copyTraffic, cX1_copyTraffic, 3, none, 3)
theorem c_X1_copyTraffic : ∀ b ∈ m_X1_copyTraffic, j_ckL yX1_copyTraffic.cls (yX1_copyTraffic.name == "<init>") none 3 cX1_copyTraffic b.2 b.1 = true := by decide +kernel
theorem w_X1_copyTraffic : j_wI (m_X1_copyTraffic.flatMap (fun b => j_wdL yX1_copyTraffic.cls b.2)) [248, 248, 250, 250, 251, 251, 252, 252, 253, 253, 256, 256, 258, 258, 260, 260, 262, 262, 263, 263, 265, 265, 266, 266, 239, 239, 248, 588, 86, 585, 586, 587, 242, 242, 253, 588, 86, 585, 586, 587, 245, 245, 256, 588, 86, 585, 586, 587, 248, 469, 88, 466, 467, 468, 326, 88, 323, 324, 325] = true := by decide +kernel
theorem g_X1_copyTraffic : j_good i_X1_copyTraffic m_X1_copyTraffic := ⟨by decide +kernel, c_X1_copyTraffic, fun b hb w hw => j_wI_in w_X1_copyTraffic w (List.mem_flatMap.mpr ⟨b, hb, hw⟩)⟩
abbrev i_X1_virtualOf : j_Mi := (yX1_virtualOf, cX1_virtualOf, 2, (some .long), 3)
theorem c_X1_virtualOf : ∀ b ∈ m_X1_virtualOf, j_ckL yX1_virtualOf.cls (yX1_virtualOf.name == "<init>") (some .long) 2 cX1_virtualOf b.2 b.1 = true := by decide +kernel
theorem w_X1_virtualOf : j_wI (m_X1_virtualOf.flatMap (fun b => j_wdL yX1_virtualOf.cls b.2)) [241, 241] = true := by decide +kernel
theorem g_X1_virtualOf : j_good i_X1_virtualOf m_X1_virtualOf := ⟨by decide +kernel, c_X1_virtualOf, fun b hb w hw => j_wI_in w_X1_virtualOf w (List.mem_flatMap.mpr ⟨b, hb, hw⟩)⟩
abbrev i_X1_setVirtual : j_Mi := (yX1_setVirtual, cX1_setVirtual, 4, none, 3)
theorem c_X1_setVirtual : ∀ b ∈ m_X1_setVirtual, j_ckL yX1_setVirtual.cls (yX1_setVirtual.name == "<init>") none 4 cX1_setVirtual b.2 b.1 = true := by decide +kernel
theorem w_X1_setVirtual : j_wI (m_X1_setVirtual.flatMap (fun b => j_wdL yX1_setVirtual.cls b.2)) [241, 241] = true := by decide +kernel
theorem g_X1_setVirtual : j_good i_X1_setVirtual m_X1_setVirtual := ⟨by decide +kernel, c_X1_setVirtual, fun b hb w hw => j_wI_in w_X1_setVirtual w (List.mem_flatMap.mpr ⟨b, hb, hw⟩)⟩
abbrev i_X1_unitOf : j_Mi := (yX1_unitOf, cX1_unitOf, 3, (some .int), 3)
theorem c_X1_unitOf : ∀ b ∈ m_X1_unitOf, j_ckL yX1_unitOf.cls (yX1_unitOf.name == "<init>") (some .int) 3 cX1_unitOf b.2 b.1 = true := by decide +kernel
theorem w_X1_unitOf : j_wI (m_X1_unitOf.flatMap (fun b => j_wdL yX1_unitOf.cls b.2)) [239, 318, 86, 315, 316, 317, 502] = true := by decide +kernel
theorem g_X1_unitOf : j_good i_X1_unitOf m_X1_unitOf := ⟨by decide +kernel, c_X1_unitOf, fun b hb w hw => j_wI_in w_X1_unitOf w (List.mem_flatMap.mpr ⟨b, hb, hw⟩)⟩
abbrev i_X1_isBusy : j_Mi := (yX1_isBusy, cX1_isBusy, 2, (some .boolean), 3)
theorem c_X1_isBusy : ∀ b ∈ m_X1_isBusy, j_ckL yX1_isBusy.cls (yX1_isBusy.name == "<init>") (some .boolean) 2 cX1_isBusy b.2 b.1 = true := by decide +kernel
theorem w_X1_isBusy : j_wI (m_X1_isBusy.flatMap (fun b => j_wdL yX1_isBusy.cls b.2)) [239, 318, 86, 315, 316, 317, 239, 318, 86, 315, 316, 317] = true := by decide +kernel
theorem g_X1_isBusy : j_good i_X1_isBusy m_X1_isBusy := ⟨by decide +kernel, c_X1_isBusy, fun b hb w hw => j_wI_in w_X1_isBusy w (List.mem_flatMap.mpr ⟨b, hb, hw⟩)⟩
abbrev i_X1_isDelivered : j_Mi := (yX1_isDelivered, cX1_isDelivered, 2, (some .boolean), 3)
theorem c_X1_isDelivered : ∀ b ∈ m_X1_isDelivered, j_ckL yX1_isDelivered.cls (yX1_isDelivered.name == "<init>") (some .boolean) 2 cX1_isDelivered b.2 b.1 = true := by decide +kernel
theorem w_X1_isDelivered : j_wI (m_X1_isDelivered.flatMap (fun b => j_wdL yX1_isDelivered.cls b.2)) [242, 318, 86, 315, 316, 317] = true := by decide +kernel
theorem g_X1_isDelivered : j_good i_X1_isDelivered m_X1_isDelivered := ⟨by decide +kernel, c_X1_isDelivered, fun b hb w hw => j_wI_in w_X1_isDelivered w (List.mem_flatMap.mpr ⟨b, hb, hw⟩)⟩
abbrev i_X1_leastBusyFlow : j_Mi := (yX1_leastBusyFlow, cX1_leastBusyFlow, 4, (some .int), 3)
theorem c_X1_leastBusyFlow : ∀ b ∈ m_X1_leastBusyFlow, j_ckL yX1_leastBusyFlow.cls (yX1_leastBusyFlow.name == "<init>") (some .int) 4 cX1_leastBusyFlow b.2 b.1 = true := by decide +kernel
theorem w_X1_leastBusyFlow : j_wI (m_X1_leastBusyFlow.flatMap (fun b => j_wdL yX1_leastBusyFlow.cls b.2)) [248, 521, 88, 518, 519, 520, 469, 88, 466, 467, 468, 469, 88, 466, 467, 468] = true := by decide +kernel
theorem g_X1_leastBusyFlow : j_good i_X1_leastBusyFlow m_X1_leastBusyFlow := ⟨by decide +kernel, c_X1_leastBusyFlow, fun b hb w hw => j_wI_in w_X1_leastBusyFlow w (List.mem_flatMap.mpr ⟨b, hb, hw⟩)⟩
abbrev i_X1_flowToServe : j_Mi := (yX1_flowToServe, cX1_flowToServe, 3, (some .int), 3)
theorem c_X1_flowToServe : ∀ b ∈ m_X1_flowToServe, j_ckL yX1_flowToServe.cls (yX1_flowToServe.name == "<init>") (some .int) 3 cX1_flowToServe b.2 b.1 = true := by decide +kernel
theorem w_X1_flowToServe : j_wI (m_X1_flowToServe.flatMap (fun b => j_wdL yX1_flowToServe.cls b.2)) [248, 239, 318, 86, 315, 316, 317, 469, 88, 466, 467, 468, 469, 88, 466, 467, 468] = true := by decide +kernel
theorem g_X1_flowToServe : j_good i_X1_flowToServe m_X1_flowToServe := ⟨by decide +kernel, c_X1_flowToServe, fun b hb w hw => j_wI_in w_X1_flowToServe w (List.mem_flatMap.mpr ⟨b, hb, hw⟩)⟩
abbrev i_X1_packetInQueue : j_Mi := (yX1_packetInQueue, cX1_packetInQueue, 5, (some .int), 3)
theorem c_X1_packetInQueue : ∀ b ∈ m_X1_packetInQueue, j_ckL yX1_packetInQueue.cls (yX1_packetInQueue.name == "<init>") (some .int) 5 cX1_packetInQueue b.2 b.1 = true := by decide +kernel
theorem w_X1_packetInQueue : j_wI (m_X1_packetInQueue.flatMap (fun b => j_wdL yX1_packetInQueue.cls b.2)) [239, 318, 86, 315, 316, 317, 239, 318, 86, 315, 316, 317, 242, 318, 86, 315, 316, 317] = true := by decide +kernel
theorem g_X1_packetInQueue : j_good i_X1_packetInQueue m_X1_packetInQueue := ⟨by decide +kernel, c_X1_packetInQueue, fun b hb w hw => j_wI_in w_X1_packetInQueue w (List.mem_flatMap.mpr ⟨b, hb, hw⟩)⟩
abbrev i_X1_joinEnd : j_Mi := (yX1_joinEnd, cX1_joinEnd, 4, none, 3)
theorem c_X1_joinEnd : ∀ b ∈ m_X1_joinEnd, j_ckL yX1_joinEnd.cls (yX1_joinEnd.name == "<init>") none 4 cX1_joinEnd b.2 b.1 = true := by decide +kernel
theorem w_X1_joinEnd : j_wI (m_X1_joinEnd.flatMap (fun b => j_wdL yX1_joinEnd.cls b.2)) [239, 318, 86, 315, 316, 317, 242, 322, 86, 319, 320, 321, 239, 322, 86, 319, 320, 321, 242, 322, 86, 319, 320, 321, 239, 322, 86, 319, 320, 321, 967, 88, 964, 965, 966] = true := by decide +kernel
theorem g_X1_joinEnd : j_good i_X1_joinEnd m_X1_joinEnd := ⟨by decide +kernel, c_X1_joinEnd, fun b hb w hw => j_wI_in w_X1_joinEnd w (List.mem_flatMap.mpr ⟨b, hb, hw⟩)⟩
abbrev i_X1_joinHead : j_Mi := (yX1_joinHead, cX1_joinHead, 3, none, 3)
theorem c_X1_joinHead : ∀ b ∈ m_X1_joinHead, j_ckL yX1_joinHead.cls (yX1_joinHead.name == "<init>") none 3 cX1_joinHead b.2 b.1 = true := by decide +kernel
theorem w_X1_joinHead : j_wI (m_X1_joinHead.flatMap (fun b => j_wdL yX1_joinHead.cls b.2)) [242, 239, 318, 86, 315, 316, 317, 322, 86, 319, 320, 321, 239, 322, 86, 319, 320, 321, 239, 318, 86, 315, 316, 317, 239, 322, 86, 319, 320, 321, 967, 88, 964, 965, 966] = true := by decide +kernel
theorem g_X1_joinHead : j_good i_X1_joinHead m_X1_joinHead := ⟨by decide +kernel, c_X1_joinHead, fun b hb w hw => j_wI_in w_X1_joinHead w (List.mem_flatMap.mpr ⟨b, hb, hw⟩)⟩
abbrev i_X1_leaveQueue : j_Mi := (yX1_leaveQueue, cX1_leaveQueue, 6, none, 3)
theorem c_X1_leaveQueue : ∀ b ∈ m_X1_leaveQueue, j_ckL yX1_leaveQueue.cls (yX1_leaveQueue.name == "<init>") none 6 cX1_leaveQueue b.2 b.1 = true := by decide +kernel
theorem w_X1_leaveQueue : j_wI (m_X1_leaveQueue.flatMap (fun b => j_wdL yX1_leaveQueue.cls b.2)) [239, 318, 86, 315, 316, 317, 242, 318, 86, 315, 316, 317, 242, 318, 86, 315, 316, 317, 239, 322, 86, 319, 320, 321, 242, 322, 86, 319, 320, 321, 239, 322, 86, 319, 320, 321, 967, 88, 964, 965, 966] = true := by decide +kernel
theorem g_X1_leaveQueue : j_good i_X1_leaveQueue m_X1_leaveQueue := ⟨by decide +kernel, c_X1_leaveQueue, fun b hb w hw => j_wI_in w_X1_leaveQueue w (List.mem_flatMap.mpr ⟨b, hb, hw⟩)⟩
abbrev i_X1_countQueued : j_Mi := (yX1_countQueued, cX1_countQueued, 4, none, 3)
theorem c_X1_countQueued : ∀ b ∈ m_X1_countQueued, j_ckL yX1_countQueued.cls (yX1_countQueued.name == "<init>") none 4 cX1_countQueued b.2 b.1 = true := by decide +kernel
theorem w_X1_countQueued : j_wI (m_X1_countQueued.flatMap (fun b => j_wdL yX1_countQueued.cls b.2)) [262, 262, 239, 959, 86, 956, 957, 958, 239, 242, 318, 86, 315, 316, 317, 959, 86, 956, 957, 958] = true := by decide +kernel
theorem g_X1_countQueued : j_good i_X1_countQueued m_X1_countQueued := ⟨by decide +kernel, c_X1_countQueued, fun b hb w hw => j_wI_in w_X1_countQueued w (List.mem_flatMap.mpr ⟨b, hb, hw⟩)⟩
abbrev i_X1_addPacket : j_Mi := (yX1_addPacket, cX1_addPacket, 4, (some .int), 3)
theorem c_X1_addPacket : ∀ b ∈ m_X1_addPacket, j_ckL yX1_addPacket.cls (yX1_addPacket.name == "<init>") (some .int) 4 cX1_addPacket b.2 b.1 = true := by decide +kernel
theorem w_X1_addPacket : j_wI (m_X1_addPacket.flatMap (fun b => j_wdL yX1_addPacket.cls b.2)) [521, 88, 518, 519, 520, 954, 88, 951, 952, 953, 253, 253, 253, 242, 322, 86, 319, 320, 321, 242, 322, 86, 319, 320, 321, 242, 258, 322, 86, 319, 320, 321, 242, 322, 86, 319, 320, 321, 242, 322, 86, 319, 320, 321, 242, 322, 86, 319, 320, 321, 242, 322, 86, 319, 320, 321, 963, 88, 960, 961, 962] = true := by decide +kernel
theorem g_X1_addPacket : j_good i_X1_addPacket m_X1_addPacket := ⟨by decide +kernel, c_X1_addPacket, fun b hb w hw => j_wI_in w_X1_addPacket w (List.mem_flatMap.mpr ⟨b, hb, hw⟩)⟩
abbrev i_X1_raiseVirtual : j_Mi := (yX1_raiseVirtual, cX1_raiseVirtual, 7, none, 3)
theorem c_X1_raiseVirtual : ∀ b ∈ m_X1_raiseVirtual, j_ckL yX1_raiseVirtual.cls (yX1_raiseVirtual.name == "<init>") none 7 cX1_raiseVirtual b.2 b.1 = true := by decide +kernel
theorem w_X1_raiseVirtual : j_wI (m_X1_raiseVirtual.flatMap (fun b => j_wdL yX1_raiseVirtual.cls b.2)) [517, 88, 955, 515, 516, 239, 318, 86, 315, 316, 317, 501, 88, 498, 499, 500, 469, 88, 466, 467, 468, 469, 88, 466, 467, 468, 326, 88, 323, 324, 325, 239, 959, 86, 956, 957, 958] = true := by decide +kernel
theorem g_X1_raiseVirtual : j_good i_X1_raiseVirtual m_X1_raiseVirtual := ⟨by decide +kernel, c_X1_raiseVirtual, fun b hb w hw => j_wI_in w_X1_raiseVirtual w (List.mem_flatMap.mpr ⟨b, hb, hw⟩)⟩
abbrev i_X1_tick : j_Mi := (yX1_tick, cX1_tick, 1, none, 3)
theorem c_X1_tick : ∀ b ∈ m_X1_tick, j_ckL yX1_tick.cls (yX1_tick.name == "<init>") none 1 cX1_tick b.2 b.1 = true := by decide +kernel
theorem w_X1_tick : j_wI (m_X1_tick.flatMap (fun b => j_wdL yX1_tick.cls b.2)) [258, 266, 984, 88, 981, 982, 983, 260, 250, 1014, 1013, 543, 87, 544, 260, 1018, 88, 1015, 1016, 1017, 262, 260, 258, 258] = true := by decide +kernel
theorem g_X1_tick : j_good i_X1_tick m_X1_tick := ⟨by decide +kernel, c_X1_tick, fun b hb w hw => j_wI_in w_X1_tick w (List.mem_flatMap.mpr ⟨b, hb, hw⟩)⟩
abbrev i_X1_settleDue : j_Mi := (yX1_settleDue, cX1_settleDue, 2, none, 3)
theorem c_X1_settleDue : ∀ b ∈ m_X1_settleDue, j_ckL yX1_settleDue.cls (yX1_settleDue.name == "<init>") none 2 cX1_settleDue b.2 b.1 = true := by decide +kernel
theorem w_X1_settleDue : j_wI (m_X1_settleDue.flatMap (fun b => j_wdL yX1_settleDue.cls b.2)) [265, 256, 245, 318, 86, 315, 316, 317, 258, 988, 88, 985, 986, 987, 265, 256, 245, 318, 86, 315, 316, 317, 245, 318, 86, 315, 316, 317, 258, 252, 1004, 88, 1001, 1002, 1003, 265, 256, 265, 1012, 88, 1009, 1010, 1011, 306, 265, 265, 306, 266, 265, 256, 266, 1012, 88, 1009, 1010, 1011, 1013, 543, 87, 544, 266] = true := by decide +kernel
theorem g_X1_settleDue : j_good i_X1_settleDue m_X1_settleDue := ⟨by decide +kernel, c_X1_settleDue, fun b hb w hw => j_wI_in w_X1_settleDue w (List.mem_flatMap.mpr ⟨b, hb, hw⟩)⟩
abbrev i_X1_dueTick : j_Mi := (yX1_dueTick, cX1_dueTick, 5, (some .int), 3)
theorem c_X1_dueTick : ∀ b ∈ m_X1_dueTick, j_ckL yX1_dueTick.cls (yX1_dueTick.name == "<init>") (some .int) 5 cX1_dueTick b.2 b.1 = true := by decide +kernel
theorem w_X1_dueTick : j_wI (m_X1_dueTick.flatMap (fun b => j_wdL yX1_dueTick.cls b.2)) [245, 318, 86, 315, 316, 317, 245, 318, 86, 315, 316, 317, 306, 245, 318, 86, 315, 316, 317, 252, 1013, 543, 87, 544] = true := by decide +kernel
theorem g_X1_dueTick : j_good i_X1_dueTick m_X1_dueTick := ⟨by decide +kernel, c_X1_dueTick, fun b hb w hw => j_wI_in w_X1_dueTick w (List.mem_flatMap.mpr ⟨b, hb, hw⟩)⟩
abbrev i_X1_acknowledge : j_Mi := (yX1_acknowledge, cX1_acknowledge, 5, none, 3)
theorem c_X1_acknowledge : ∀ b ∈ m_X1_acknowledge, j_ckL yX1_acknowledge.cls (yX1_acknowledge.name == "<init>") none 5 cX1_acknowledge b.2 b.1 = true := by decide +kernel
theorem w_X1_acknowledge : j_wI (m_X1_acknowledge.flatMap (fun b => j_wdL yX1_acknowledge.cls b.2)) [245, 318, 86, 315, 316, 317, 242, 318, 86, 315, 316, 317, 242, 318, 86, 315, 316, 317, 245, 318, 86, 315, 316, 317, 245, 322, 86, 319, 320, 321, 245, 322, 86, 319, 320, 321, 239, 959, 86, 956, 957, 958, 239, 959, 86, 956, 957, 958, 992, 88, 989, 990, 991, 996, 88, 993, 994, 995, 239, 959, 86, 956, 957, 958, 1000, 88, 997, 998, 999, 245, 318, 86, 315, 316, 317, 239, 959, 86, 956, 957, 958, 245, 322, 86, 319, 320, 321, 469, 88, 466, 467, 468, 245, 318, 86, 315, 316, 317, 326, 88, 323, 324, 325] = true := by decide +kernel
theorem g_X1_acknowledge : j_good i_X1_acknowledge m_X1_acknowledge := ⟨by decide +kernel, c_X1_acknowledge, fun b hb w hw => j_wI_in w_X1_acknowledge w (List.mem_flatMap.mpr ⟨b, hb, hw⟩)⟩
abbrev i_X1_deliver : j_Mi := (yX1_deliver, cX1_deliver, 3, none, 3)
theorem c_X1_deliver : ∀ b ∈ m_X1_deliver, j_ckL yX1_deliver.cls (yX1_deliver.name == "<init>") none 3 cX1_deliver b.2 b.1 = true := by decide +kernel
theorem w_X1_deliver : j_wI (m_X1_deliver.flatMap (fun b => j_wdL yX1_deliver.cls b.2)) [242, 322, 86, 319, 320, 321, 242, 258, 322, 86, 319, 320, 321, 239, 242, 318, 86, 315, 316, 317, 959, 86, 956, 957, 958, 263, 263] = true := by decide +kernel
theorem g_X1_deliver : j_good i_X1_deliver m_X1_deliver := ⟨by decide +kernel, c_X1_deliver, fun b hb w hw => j_wI_in w_X1_deliver w (List.mem_flatMap.mpr ⟨b, hb, hw⟩)⟩
abbrev i_X1_declareLost : j_Mi := (yX1_declareLost, cX1_declareLost, 4, none, 3)
theorem c_X1_declareLost : ∀ b ∈ m_X1_declareLost, j_ckL yX1_declareLost.cls (yX1_declareLost.name == "<init>") none 4 cX1_declareLost b.2 b.1 = true := by decide +kernel
theorem w_X1_declareLost : j_wI (m_X1_declareLost.flatMap (fun b => j_wdL yX1_declareLost.cls b.2)) [245, 318, 86, 315, 316, 317, 242, 318, 86, 315, 316, 317, 245, 322, 86, 319, 320, 321, 239, 959, 86, 956, 957, 958, 239, 959, 86, 956, 957, 958, 992, 88, 989, 990, 991, 242, 318, 86, 315, 316, 317, 242, 318, 86, 315, 316, 317, 242, 318, 86, 315, 316, 317, 239, 318, 86, 315, 316, 317, 242, 322, 86, 319, 320, 321, 1008, 88, 1005, 1006, 1007, 242, 322, 86, 319, 320, 321, 239, 959, 86, 956, 957, 958] = true := by decide +kernel
theorem g_X1_declareLost : j_good i_X1_declareLost m_X1_declareLost := ⟨by decide +kernel, c_X1_declareLost, fun b hb w hw => j_wI_in w_X1_declareLost w (List.mem_flatMap.mpr ⟨b, hb, hw⟩)⟩
abbrev i_X1_refund : j_Mi := (yX1_refund, cX1_refund, 3, none, 3)
theorem c_X1_refund : ∀ b ∈ m_X1_refund, j_ckL yX1_refund.cls (yX1_refund.name == "<init>") none 3 cX1_refund b.2 b.1 = true := by decide +kernel
theorem w_X1_refund : j_wI (m_X1_refund.flatMap (fun b => j_wdL yX1_refund.cls b.2)) [245, 318, 86, 315, 316, 317, 245, 322, 86, 319, 320, 321, 469, 88, 466, 467, 468, 245, 318, 86, 315, 316, 317, 326, 88, 323, 324, 325] = true := by decide +kernel
theorem g_X1_refund : j_good i_X1_refund m_X1_refund := ⟨by decide +kernel, c_X1_refund, fun b hb w hw => j_wI_in w_X1_refund w (List.mem_flatMap.mpr ⟨b, hb, hw⟩)⟩
abbrev i_X1_sendQueued : j_Mi := (yX1_sendQueued, cX1_sendQueued, 5, none, 3)
theorem c_X1_sendQueued : ∀ b ∈ m_X1_sendQueued, j_ckL yX1_sendQueued.cls (yX1_sendQueued.name == "<init>") none 5 cX1_sendQueued b.2 b.1 = true := by decide +kernel
theorem w_X1_sendQueued : j_wI (m_X1_sendQueued.flatMap (fun b => j_wdL yX1_sendQueued.cls b.2)) [256, 262, 465, 88, 1019, 463, 464, 239, 318, 86, 315, 316, 317, 242, 318, 86, 315, 316, 317, 260, 260, 260, 996, 88, 993, 994, 995, 1023, 88, 1020, 1021, 1022] = true := by decide +kernel
theorem g_X1_sendQueued : j_good i_X1_sendQueued m_X1_sendQueued := ⟨by decide +kernel, c_X1_sendQueued, fun b hb w hw => j_wI_in w_X1_sendQueued w (List.mem_flatMap.mpr ⟨b, hb, hw⟩)⟩
abbrev i_X1_send : j_Mi := (yX1_send, cX1_send, 5, none, 3)
theorem c_X1_send : ∀ b ∈ m_X1_send, j_ckL yX1_send.cls (yX1_send.name == "<init>") none 5 cX1_send b.2 b.1 = true := by decide +kernel
theorem w_X1_send : j_wI (m_X1_send.flatMap (fun b => j_wdL yX1_send.cls b.2)) [242, 318, 86, 315, 316, 317, 501, 88, 498, 499, 500, 256, 239, 959, 86, 956, 957, 958, 239, 959, 86, 956, 957, 958, 242, 322, 86, 319, 320, 321, 242, 959, 86, 956, 957, 958, 242, 322, 86, 319, 320, 321, 245, 322, 86, 319, 320, 321, 245, 258, 322, 86, 319, 320, 321, 245, 1027, 88, 1024, 1025, 1026, 322, 86, 319, 320, 321, 245, 322, 86, 319, 320, 321, 245, 322, 86, 319, 320, 321, 245, 322, 86, 319, 320, 321, 469, 88, 466, 467, 468, 326, 88, 323, 324, 325, 266, 1012, 88, 1009, 1010, 1011, 1013, 543, 87, 544, 266] = true := by decide +kernel
theorem g_X1_send : j_good i_X1_send m_X1_send := ⟨by decide +kernel, c_X1_send, fun b hb w hw => j_wI_in w_X1_send w (List.mem_flatMap.mpr ⟨b, hb, hw⟩)⟩
abbrev i_X1_acknowledgmentTick : j_Mi := (yX1_acknowledgmentTick, cX1_acknowledgmentTick, 6, (some .int), 3)
theorem c_X1_acknowledgmentTick : ∀ b ∈ m_X1_acknowledgmentTick, j_ckL yX1_acknowledgmentTick.cls (yX1_acknowledgmentTick.name == "<init>") (some .int) 6 cX1_acknowledgmentTick b.2 b.1 = true := by decide +kernel
theorem w_X1_acknowledgmentTick : j_wI (m_X1_acknowledgmentTick.flatMap (fun b => j_wdL yX1_acknowledgmentTick.cls b.2)) [239, 318, 86, 315, 316, 317, 239, 318, 86, 315, 316, 317, 239, 318, 86, 315, 316, 317, 258, 251, 239, 318, 86, 315, 316, 317] = true := by decide +kernel
theorem g_X1_acknowledgmentTick : j_good i_X1_acknowledgmentTick m_X1_acknowledgmentTick := ⟨by decide +kernel, c_X1_acknowledgmentTick, fun b hb w hw => j_wI_in w_X1_acknowledgmentTick w (List.mem_flatMap.mpr ⟨b, hb, hw⟩)⟩
abbrev i_X1_ticksToDeliver : j_Mi := (yX1_ticksToDeliver, cX1_ticksToDeliver, 4, (some .int), 3)
theorem c_X1_ticksToDeliver : ∀ b ∈ m_X1_ticksToDeliver, j_ckL yX1_ticksToDeliver.cls (yX1_ticksToDeliver.name == "<init>") (some .int) 4 cX1_ticksToDeliver b.2 b.1 = true := by decide +kernel
theorem w_X1_ticksToDeliver : j_wI (m_X1_ticksToDeliver.flatMap (fun b => j_wdL yX1_ticksToDeliver.cls b.2)) [1077, 88, 1090, 1075, 1076, 1094, 88, 1091, 1092, 1093, 980, 88, 1095, 978, 979] = true := by decide +kernel
theorem g_X1_ticksToDeliver : j_good i_X1_ticksToDeliver m_X1_ticksToDeliver := ⟨by decide +kernel, c_X1_ticksToDeliver, fun b hb w hw => j_wI_in w_X1_ticksToDeliver w (List.mem_flatMap.mpr ⟨b, hb, hw⟩)⟩
abbrev i_X1_isAtRest : j_Mi := (yX1_isAtRest, cX1_isAtRest, 1, (some .boolean), 3)
theorem c_X1_isAtRest : ∀ b ∈ m_X1_isAtRest, j_ckL yX1_isAtRest.cls (yX1_isAtRest.name == "<init>") (some .boolean) 1 cX1_isAtRest b.2 b.1 = true := by decide +kernel
theorem w_X1_isAtRest : j_wI (m_X1_isAtRest.flatMap (fun b => j_wdL yX1_isAtRest.cls b.2)) [266, 306, 262, 256] = true := by decide +kernel
theorem g_X1_isAtRest : j_good i_X1_isAtRest m_X1_isAtRest := ⟨by decide +kernel, c_X1_isAtRest, fun b hb w hw => j_wI_in w_X1_isAtRest w (List.mem_flatMap.mpr ⟨b, hb, hw⟩)⟩
abbrev i_X1_addRecord : j_Mi := (yX1_addRecord, cX1_addRecord, 4, none, 3)
theorem c_X1_addRecord : ∀ b ∈ m_X1_addRecord, j_ckL yX1_addRecord.cls (yX1_addRecord.name == "<init>") none 4 cX1_addRecord b.2 b.1 = true := by decide +kernel
theorem w_X1_addRecord : j_wI (m_X1_addRecord.flatMap (fun b => j_wdL yX1_addRecord.cls b.2)) [247, 1035, 89, 1032, 1033, 1034, 248, 247, 227, 239, 318, 86, 315, 316, 317, 322, 86, 319, 320, 321, 521, 88, 518, 519, 520, 247, 227, 322, 86, 319, 320, 321] = true := by decide +kernel
theorem g_X1_addRecord : j_good i_X1_addRecord m_X1_addRecord := ⟨by decide +kernel, c_X1_addRecord, fun b hb w hw => j_wI_in w_X1_addRecord w (List.mem_flatMap.mpr ⟨b, hb, hw⟩)⟩
abbrev i_X1_lead : j_Mi := (yX1_lead, cX1_lead, 4, (some .long), 3)
theorem c_X1_lead : ∀ b ∈ m_X1_lead, j_ckL yX1_lead.cls (yX1_lead.name == "<init>") (some .long) 4 cX1_lead b.2 b.1 = true := by decide +kernel
theorem w_X1_lead : j_wI (m_X1_lead.flatMap (fun b => j_wdL yX1_lead.cls b.2)) [247, 497, 89, 494, 495, 496, 501, 88, 498, 499, 500, 247, 497, 89, 494, 495, 496, 501, 88, 498, 499, 500] = true := by decide +kernel
theorem g_X1_lead : j_good i_X1_lead m_X1_lead := ⟨by decide +kernel, c_X1_lead, fun b hb w hw => j_wI_in w_X1_lead w (List.mem_flatMap.mpr ⟨b, hb, hw⟩)⟩
abbrev i_X1_differenceSince : j_Mi := (yX1_differenceSince, cX1_differenceSince, 5, (some .long), 3)
theorem c_X1_differenceSince : ∀ b ∈ m_X1_differenceSince, j_ckL yX1_differenceSince.cls (yX1_differenceSince.name == "<init>") (some .long) 5 cX1_differenceSince b.2 b.1 = true := by decide +kernel
theorem w_X1_differenceSince : j_wI (m_X1_differenceSince.flatMap (fun b => j_wdL yX1_differenceSince.cls b.2)) [247, 229, 1056, 247, 481, 89, 478, 479, 480, 1056, 493, 88, 490, 491, 492, 493, 88, 490, 491, 492, 1057, 1058, 87, 1059] = true := by decide +kernel
theorem g_X1_differenceSince : j_good i_X1_differenceSince m_X1_differenceSince := ⟨by decide +kernel, c_X1_differenceSince, fun b hb w hw => j_wI_in w_X1_differenceSince w (List.mem_flatMap.mpr ⟨b, hb, hw⟩)⟩
abbrev i_X1_greatestDifference : j_Mi := (yX1_greatestDifference, cX1_greatestDifference, 13, (some .long), 3)
theorem c_X1_greatestDifference : ∀ b ∈ m_X1_greatestDifference, j_ckL yX1_greatestDifference.cls (yX1_greatestDifference.name == "<init>") (some .long) 13 cX1_greatestDifference b.2 b.1 = true := by decide +kernel
theorem w_X1_greatestDifference : j_wI (m_X1_greatestDifference.flatMap (fun b => j_wdL yX1_greatestDifference.cls b.2)) [247, 229, 247, 481, 89, 478, 479, 480, 493, 88, 490, 491, 492, 503, 504, 87, 505, 506, 507, 87, 508, 506, 507, 87, 508] = true := by decide +kernel
theorem g_X1_greatestDifference : j_good i_X1_greatestDifference m_X1_greatestDifference := ⟨by decide +kernel, c_X1_greatestDifference, fun b hb w hw => j_wI_in w_X1_greatestDifference w (List.mem_flatMap.mpr ⟨b, hb, hw⟩)⟩
