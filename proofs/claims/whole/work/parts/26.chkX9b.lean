/-! ===== checks: 26.chkX9b ===== -/
abbrev i_X9_inQueue : j_Mi := (yX9_inQueue, cX9_inQueue, 3, (some .int), 11)
theorem c_X9_inQueue : ∀ b ∈ m_X9_inQueue, j_ckL yX9_inQueue.cls (yX9_inQueue.name == "<init>") (some .int) 3 cX9_inQueue b.2 b.1 = true := by decide +kernel
theorem w_X9_inQueue : j_wI (m_X9_inQueue.flatMap (fun b => j_wdL yX9_inQueue.cls b.2)) [1465] = true := by decide +kernel
theorem g_X9_inQueue : j_good i_X9_inQueue m_X9_inQueue := ⟨by decide +kernel, c_X9_inQueue, fun b hb w hw => j_wI_in w_X9_inQueue w (List.mem_flatMap.mpr ⟨b, hb, hw⟩)⟩
abbrev i_X9_bytesQueued : j_Mi := (yX9_bytesQueued, cX9_bytesQueued, 4, (some .int), 11)
theorem c_X9_bytesQueued : ∀ b ∈ m_X9_bytesQueued, j_ckL yX9_bytesQueued.cls (yX9_bytesQueued.name == "<init>") (some .int) 4 cX9_bytesQueued b.2 b.1 = true := by decide +kernel
theorem w_X9_bytesQueued : j_wI (m_X9_bytesQueued.flatMap (fun b => j_wdL yX9_bytesQueued.cls b.2)) [1622, 96, 1619, 1621, 10, 1626, 96, 1623, 1625, 11, 1630, 96, 1627, 1629, 12] = true := by decide +kernel
theorem g_X9_bytesQueued : j_good i_X9_bytesQueued m_X9_bytesQueued := ⟨by decide +kernel, c_X9_bytesQueued, fun b hb w hw => j_wI_in w_X9_bytesQueued w (List.mem_flatMap.mpr ⟨b, hb, hw⟩)⟩
abbrev i_X9_droppedOf : j_Mi := (yX9_droppedOf, cX9_droppedOf, 4, (some .int), 11)
theorem c_X9_droppedOf : ∀ b ∈ m_X9_droppedOf, j_ckL yX9_droppedOf.cls (yX9_droppedOf.name == "<init>") (some .int) 4 cX9_droppedOf b.2 b.1 = true := by decide +kernel
theorem w_X9_droppedOf : j_wI (m_X9_droppedOf.flatMap (fun b => j_wdL yX9_droppedOf.cls b.2)) [1465, 1630, 96, 1627, 1629, 12, 1630, 96, 1627, 1629, 12] = true := by decide +kernel
theorem g_X9_droppedOf : j_good i_X9_droppedOf m_X9_droppedOf := ⟨by decide +kernel, c_X9_droppedOf, fun b hb w hw => j_wI_in w_X9_droppedOf w (List.mem_flatMap.mpr ⟨b, hb, hw⟩)⟩
abbrev i_X9_flow : j_Mi := (yX9_flow, cX9_flow, 3, (some .int), 11)
theorem c_X9_flow : ∀ b ∈ m_X9_flow, j_ckL yX9_flow.cls (yX9_flow.name == "<init>") (some .int) 3 cX9_flow b.2 b.1 = true := by decide +kernel
theorem w_X9_flow : j_wI (m_X9_flow.flatMap (fun b => j_wdL yX9_flow.cls b.2)) [1475, 1614, 96, 1611, 1613, 8, 1594, 96, 1592, 1593, 1598, 96, 1595, 1597, 5, 1618, 96, 1615, 1617, 9, 1622, 96, 1619, 1621, 10, 1622, 96, 1619, 1621, 10, 1622, 96, 1619, 1621, 10, 1622, 96, 1619, 1621, 10, 1622, 96, 1619, 1621, 10, 1634, 96, 1631, 1633, 13, 1622, 96, 1619, 1621, 10, 1622, 96, 1619, 1621, 10] = true := by decide +kernel
theorem g_X9_flow : j_good i_X9_flow m_X9_flow := ⟨by decide +kernel, c_X9_flow, fun b hb w hw => j_wI_in w_X9_flow w (List.mem_flatMap.mpr ⟨b, hb, hw⟩)⟩
abbrev i_X9_virtualTime : j_Mi := (yX9_virtualTime, cX9_virtualTime, 2, (some .long), 11)
theorem c_X9_virtualTime : ∀ b ∈ m_X9_virtualTime, j_ckL yX9_virtualTime.cls (yX9_virtualTime.name == "<init>") (some .long) 2 cX9_virtualTime b.2 b.1 = true := by decide +kernel
theorem w_X9_virtualTime : j_wI (m_X9_virtualTime.flatMap (fun b => j_wdL yX9_virtualTime.cls b.2)) [1475, 1614, 96, 1611, 1613, 8, 1598, 96, 1595, 1597, 5, 1470] = true := by decide +kernel
theorem g_X9_virtualTime : j_good i_X9_virtualTime m_X9_virtualTime := ⟨by decide +kernel, c_X9_virtualTime, fun b hb w hw => j_wI_in w_X9_virtualTime w (List.mem_flatMap.mpr ⟨b, hb, hw⟩)⟩
abbrev i_X9_outstandingOf : j_Mi := (yX9_outstandingOf, cX9_outstandingOf, 4, (some .int), 11)
theorem c_X9_outstandingOf : ∀ b ∈ m_X9_outstandingOf, j_ckL yX9_outstandingOf.cls (yX9_outstandingOf.name == "<init>") (some .int) 4 cX9_outstandingOf b.2 b.1 = true := by decide +kernel
theorem w_X9_outstandingOf : j_wI (m_X9_outstandingOf.flatMap (fun b => j_wdL yX9_outstandingOf.cls b.2)) [1465, 1654, 96, 1651, 1653, 16, 1658, 96, 1655, 1657, 17] = true := by decide +kernel
theorem g_X9_outstandingOf : j_good i_X9_outstandingOf m_X9_outstandingOf := ⟨by decide +kernel, c_X9_outstandingOf, fun b hb w hw => j_wI_in w_X9_outstandingOf w (List.mem_flatMap.mpr ⟨b, hb, hw⟩)⟩
abbrev i_X9_isUnused : j_Mi := (yX9_isUnused, cX9_isUnused, 2, (some .boolean), 11)
theorem c_X9_isUnused : ∀ b ∈ m_X9_isUnused, j_ckL yX9_isUnused.cls (yX9_isUnused.name == "<init>") (some .boolean) 2 cX9_isUnused b.2 b.1 = true := by decide +kernel
theorem w_X9_isUnused : j_wI (m_X9_isUnused.flatMap (fun b => j_wdL yX9_isUnused.cls b.2)) [1622, 96, 1619, 1621, 10, 1650, 96, 1647, 1649, 15] = true := by decide +kernel
theorem g_X9_isUnused : j_good i_X9_isUnused m_X9_isUnused := ⟨by decide +kernel, c_X9_isUnused, fun b hb w hw => j_wI_in w_X9_isUnused w (List.mem_flatMap.mpr ⟨b, hb, hw⟩)⟩
abbrev i_X9_isIdle : j_Mi := (yX9_isIdle, cX9_isIdle, 2, (some .boolean), 11)
theorem c_X9_isIdle : ∀ b ∈ m_X9_isIdle, j_ckL yX9_isIdle.cls (yX9_isIdle.name == "<init>") (some .boolean) 2 cX9_isIdle b.2 b.1 = true := by decide +kernel
theorem w_X9_isIdle : j_wI (m_X9_isIdle.flatMap (fun b => j_wdL yX9_isIdle.cls b.2)) [1614, 96, 1611, 1613, 8, 1475, 1475, 1646, 96, 1643, 1645, 14] = true := by decide +kernel
theorem g_X9_isIdle : j_good i_X9_isIdle m_X9_isIdle := ⟨by decide +kernel, c_X9_isIdle, fun b hb w hw => j_wI_in w_X9_isIdle w (List.mem_flatMap.mpr ⟨b, hb, hw⟩)⟩
abbrev i_X9_queued : j_Mi := (yX9_queued, cX9_queued, 3, (some .int), 11)
theorem c_X9_queued : ∀ b ∈ m_X9_queued, j_ckL yX9_queued.cls (yX9_queued.name == "<init>") (some .int) 3 cX9_queued b.2 b.1 = true := by decide +kernel
theorem w_X9_queued : j_wI (m_X9_queued.flatMap (fun b => j_wdL yX9_queued.cls b.2)) [1475, 1614, 96, 1611, 1613, 8, 1598, 96, 1595, 1597, 5, 1622, 96, 1619, 1621, 10, 1626, 96, 1623, 1625, 11] = true := by decide +kernel
theorem g_X9_queued : j_good i_X9_queued m_X9_queued := ⟨by decide +kernel, c_X9_queued, fun b hb w hw => j_wI_in w_X9_queued w (List.mem_flatMap.mpr ⟨b, hb, hw⟩)⟩
abbrev i_X9_next : j_Mi := (yX9_next, cX9_next, 3, (some .int), 11)
theorem c_X9_next : ∀ b ∈ m_X9_next, j_ckL yX9_next.cls (yX9_next.name == "<init>") (some .int) 3 cX9_next b.2 b.1 = true := by decide +kernel
theorem w_X9_next : j_wI (m_X9_next.flatMap (fun b => j_wdL yX9_next.cls b.2)) [1465, 1622, 96, 1619, 1621, 10, 1470, 1470] = true := by decide +kernel
theorem g_X9_next : j_good i_X9_next m_X9_next := ⟨by decide +kernel, c_X9_next, fun b hb w hw => j_wI_in w_X9_next w (List.mem_flatMap.mpr ⟨b, hb, hw⟩)⟩
abbrev i_X9_nextFlow : j_Mi := (yX9_nextFlow, cX9_nextFlow, 1, (some .int), 11)
theorem c_X9_nextFlow : ∀ b ∈ m_X9_nextFlow, j_ckL yX9_nextFlow.cls (yX9_nextFlow.name == "<init>") (some .int) 1 cX9_nextFlow b.2 b.1 = true := by decide +kernel
theorem w_X9_nextFlow : j_wI (m_X9_nextFlow.flatMap (fun b => j_wdL yX9_nextFlow.cls b.2)) [1475, 1670, 96, 1667, 1669, 18] = true := by decide +kernel
theorem g_X9_nextFlow : j_good i_X9_nextFlow m_X9_nextFlow := ⟨by decide +kernel, c_X9_nextFlow, fun b hb w hw => j_wI_in w_X9_nextFlow w (List.mem_flatMap.mpr ⟨b, hb, hw⟩)⟩
abbrev i_X9_packet : j_Mi := (yX9_packet, cX9_packet, 3, (some .int), 11)
theorem c_X9_packet : ∀ b ∈ m_X9_packet, j_ckL yX9_packet.cls (yX9_packet.name == "<init>") (some .int) 3 cX9_packet b.2 b.1 = true := by decide +kernel
theorem w_X9_packet : j_wI (m_X9_packet.flatMap (fun b => j_wdL yX9_packet.cls b.2)) [1475, 1678, 96, 1675, 1677, 19, 1594, 96, 1592, 1593, 1598, 96, 1595, 1597, 5, 1630, 96, 1627, 1629, 12] = true := by decide +kernel
theorem g_X9_packet : j_good i_X9_packet m_X9_packet := ⟨by decide +kernel, c_X9_packet, fun b hb w hw => j_wI_in w_X9_packet w (List.mem_flatMap.mpr ⟨b, hb, hw⟩)⟩
abbrev i_X9_isSending : j_Mi := (yX9_isSending, cX9_isSending, 2, (some .boolean), 11)
theorem c_X9_isSending : ∀ b ∈ m_X9_isSending, j_ckL yX9_isSending.cls (yX9_isSending.name == "<init>") (some .boolean) 2 cX9_isSending b.2 b.1 = true := by decide +kernel
theorem w_X9_isSending : j_wI (m_X9_isSending.flatMap (fun b => j_wdL yX9_isSending.cls b.2)) [1465, 1594, 96, 1592, 1593] = true := by decide +kernel
theorem g_X9_isSending : j_good i_X9_isSending m_X9_isSending := ⟨by decide +kernel, c_X9_isSending, fun b hb w hw => j_wI_in w_X9_isSending w (List.mem_flatMap.mpr ⟨b, hb, hw⟩)⟩
abbrev i_X9_transmission : j_Mi := (yX9_transmission, cX9_transmission, 3, (some .int), 11)
theorem c_X9_transmission : ∀ b ∈ m_X9_transmission, j_ckL yX9_transmission.cls (yX9_transmission.name == "<init>") (some .int) 3 cX9_transmission b.2 b.1 = true := by decide +kernel
theorem w_X9_transmission : j_wI (m_X9_transmission.flatMap (fun b => j_wdL yX9_transmission.cls b.2)) [1475, 1686, 96, 1683, 1685, 20, 1594, 96, 1592, 1593, 1598, 96, 1595, 1597, 5, 1654, 96, 1651, 1653, 16] = true := by decide +kernel
theorem g_X9_transmission : j_good i_X9_transmission m_X9_transmission := ⟨by decide +kernel, c_X9_transmission, fun b hb w hw => j_wI_in w_X9_transmission w (List.mem_flatMap.mpr ⟨b, hb, hw⟩)⟩
abbrev i_X9_charge : j_Mi := (yX9_charge, cX9_charge, 2, (some .long), 11)
theorem c_X9_charge : ∀ b ∈ m_X9_charge, j_ckL yX9_charge.cls (yX9_charge.name == "<init>") (some .long) 2 cX9_charge b.2 b.1 = true := by decide +kernel
theorem w_X9_charge : j_wI (m_X9_charge.flatMap (fun b => j_wdL yX9_charge.cls b.2)) [1475, 1686, 96, 1683, 1685, 20, 1598, 96, 1595, 1597, 5, 1470] = true := by decide +kernel
theorem g_X9_charge : j_good i_X9_charge m_X9_charge := ⟨by decide +kernel, c_X9_charge, fun b hb w hw => j_wI_in w_X9_charge w (List.mem_flatMap.mpr ⟨b, hb, hw⟩)⟩
abbrev i_X9_outstanding : j_Mi := (yX9_outstanding, cX9_outstanding, 2, (some .int), 11)
theorem c_X9_outstanding : ∀ b ∈ m_X9_outstanding, j_ckL yX9_outstanding.cls (yX9_outstanding.name == "<init>") (some .int) 2 cX9_outstanding b.2 b.1 = true := by decide +kernel
theorem w_X9_outstanding : j_wI (m_X9_outstanding.flatMap (fun b => j_wdL yX9_outstanding.cls b.2)) [1475, 1614, 96, 1611, 1613, 8, 1598, 96, 1595, 1597, 5, 1650, 96, 1647, 1649, 15] = true := by decide +kernel
theorem g_X9_outstanding : j_good i_X9_outstanding m_X9_outstanding := ⟨by decide +kernel, c_X9_outstanding, fun b hb w hw => j_wI_in w_X9_outstanding w (List.mem_flatMap.mpr ⟨b, hb, hw⟩)⟩
abbrev i_X9_putInto : j_Mi := (yX9_putInto, cX9_putInto, 7, none, 11)
theorem c_X9_putInto : ∀ b ∈ m_X9_putInto, j_ckL yX9_putInto.cls (yX9_putInto.name == "<init>") none 7 cX9_putInto b.2 b.1 = true := by decide +kernel
theorem w_X9_putInto : j_wI (m_X9_putInto.flatMap (fun b => j_wdL yX9_putInto.cls b.2)) [1622, 96, 1619, 1621, 10, 1465, 1465, 1465, 1718, 96, 1715, 1717, 23] = true := by decide +kernel
theorem g_X9_putInto : j_good i_X9_putInto m_X9_putInto := ⟨by decide +kernel, c_X9_putInto, fun b hb w hw => j_wI_in w_X9_putInto w (List.mem_flatMap.mpr ⟨b, hb, hw⟩)⟩
abbrev i_X9_takeFrom : j_Mi := (yX9_takeFrom, cX9_takeFrom, 7, none, 11)
theorem c_X9_takeFrom : ∀ b ∈ m_X9_takeFrom, j_ckL yX9_takeFrom.cls (yX9_takeFrom.name == "<init>") none 7 cX9_takeFrom b.2 b.1 = true := by decide +kernel
theorem w_X9_takeFrom : j_wI (m_X9_takeFrom.flatMap (fun b => j_wdL yX9_takeFrom.cls b.2)) [1622, 96, 1619, 1621, 10, 1465, 1465, 1622, 96, 1619, 1621, 10, 1718, 96, 1715, 1717, 23] = true := by decide +kernel
theorem g_X9_takeFrom : j_good i_X9_takeFrom m_X9_takeFrom := ⟨by decide +kernel, c_X9_takeFrom, fun b hb w hw => j_wI_in w_X9_takeFrom w (List.mem_flatMap.mpr ⟨b, hb, hw⟩)⟩
abbrev i_X9_putCharge : j_Mi := (yX9_putCharge, cX9_putCharge, 3, none, 11)
theorem c_X9_putCharge : ∀ b ∈ m_X9_putCharge, j_ckL yX9_putCharge.cls (yX9_putCharge.name == "<init>") none 3 cX9_putCharge b.2 b.1 = true := by decide +kernel
theorem w_X9_putCharge : j_wI (m_X9_putCharge.flatMap (fun b => j_wdL yX9_putCharge.cls b.2)) [1470, 1658, 96, 1655, 1657, 17, 1470, 1470, 1747, 96, 1744, 1746, 29] = true := by decide +kernel
theorem g_X9_putCharge : j_good i_X9_putCharge m_X9_putCharge := ⟨by decide +kernel, c_X9_putCharge, fun b hb w hw => j_wI_in w_X9_putCharge w (List.mem_flatMap.mpr ⟨b, hb, hw⟩)⟩
abbrev i_X9_refund : j_Mi := (yX9_refund, cX9_refund, 2, none, 11)
theorem c_X9_refund : ∀ b ∈ m_X9_refund, j_ckL yX9_refund.cls (yX9_refund.name == "<init>") none 2 cX9_refund b.2 b.1 = true := by decide +kernel
theorem w_X9_refund : j_wI (m_X9_refund.flatMap (fun b => j_wdL yX9_refund.cls b.2)) [1654, 96, 1651, 1653, 16, 1755, 96, 1752, 1754, 31] = true := by decide +kernel
theorem g_X9_refund : j_good i_X9_refund m_X9_refund := ⟨by decide +kernel, c_X9_refund, fun b hb w hw => j_wI_in w_X9_refund w (List.mem_flatMap.mpr ⟨b, hb, hw⟩)⟩
abbrev i_X9_deliver : j_Mi := (yX9_deliver, cX9_deliver, 4, none, 11)
theorem c_X9_deliver : ∀ b ∈ m_X9_deliver, j_ckL yX9_deliver.cls (yX9_deliver.name == "<init>") none 4 cX9_deliver b.2 b.1 = true := by decide +kernel
theorem w_X9_deliver : j_wI (m_X9_deliver.flatMap (fun b => j_wdL yX9_deliver.cls b.2)) [1630, 96, 1627, 1629, 12, 1763, 96, 1760, 1762, 33, 1722, 96, 1719, 1721, 24, 1465, 1722, 96, 1719, 1721, 24, 1630, 96, 1627, 1629, 12, 1718, 96, 1715, 1717, 23, 1654, 96, 1651, 1653, 16, 1755, 96, 1752, 1754, 31, 1718, 96, 1715, 1717, 23] = true := by decide +kernel
theorem g_X9_deliver : j_good i_X9_deliver m_X9_deliver := ⟨by decide +kernel, c_X9_deliver, fun b hb w hw => j_wI_in w_X9_deliver w (List.mem_flatMap.mpr ⟨b, hb, hw⟩)⟩
abbrev i_X9_acknowledge : j_Mi := (yX9_acknowledge, cX9_acknowledge, 4, none, 11)
theorem c_X9_acknowledge : ∀ b ∈ m_X9_acknowledge, j_ckL yX9_acknowledge.cls (yX9_acknowledge.name == "<init>") none 4 cX9_acknowledge b.2 b.1 = true := by decide +kernel
theorem w_X9_acknowledge : j_wI (m_X9_acknowledge.flatMap (fun b => j_wdL yX9_acknowledge.cls b.2)) [1654, 96, 1651, 1653, 16, 1630, 96, 1627, 1629, 12, 1654, 96, 1651, 1653, 16, 1747, 96, 1744, 1746, 29, 1630, 96, 1627, 1629, 12, 1718, 96, 1715, 1717, 23, 1751, 96, 1748, 1750, 30, 1759, 96, 1756, 1758, 32] = true := by decide +kernel
theorem g_X9_acknowledge : j_good i_X9_acknowledge m_X9_acknowledge := ⟨by decide +kernel, c_X9_acknowledge, fun b hb w hw => j_wI_in w_X9_acknowledge w (List.mem_flatMap.mpr ⟨b, hb, hw⟩)⟩
abbrev i_X9_isLatest : j_Mi := (yX9_isLatest, cX9_isLatest, 3, (some .boolean), 11)
theorem c_X9_isLatest : ∀ b ∈ m_X9_isLatest, j_ckL yX9_isLatest.cls (yX9_isLatest.name == "<init>") (some .boolean) 3 cX9_isLatest b.2 b.1 = true := by decide +kernel
theorem w_X9_isLatest : j_wI (m_X9_isLatest.flatMap (fun b => j_wdL yX9_isLatest.cls b.2)) [1465, 1654, 96, 1651, 1653, 16, 1654, 96, 1651, 1653, 16] = true := by decide +kernel
theorem g_X9_isLatest : j_good i_X9_isLatest m_X9_isLatest := ⟨by decide +kernel, c_X9_isLatest, fun b hb w hw => j_wI_in w_X9_isLatest w (List.mem_flatMap.mpr ⟨b, hb, hw⟩)⟩
abbrev i_X9_declareLost : j_Mi := (yX9_declareLost, cX9_declareLost, 4, none, 11)
theorem c_X9_declareLost : ∀ b ∈ m_X9_declareLost, j_ckL yX9_declareLost.cls (yX9_declareLost.name == "<init>") none 4 cX9_declareLost b.2 b.1 = true := by decide +kernel
theorem w_X9_declareLost : j_wI (m_X9_declareLost.flatMap (fun b => j_wdL yX9_declareLost.cls b.2)) [1654, 96, 1651, 1653, 16, 1630, 96, 1627, 1629, 12, 1747, 96, 1744, 1746, 29, 1718, 96, 1715, 1717, 23, 1751, 96, 1748, 1750, 30, 1630, 96, 1627, 1629, 12, 1771, 96, 1768, 1770, 35, 1630, 96, 1627, 1629, 12, 1622, 96, 1619, 1621, 10, 1722, 96, 1719, 1721, 24, 1726, 96, 1723, 1725, 25, 1722, 96, 1719, 1721, 24] = true := by decide +kernel
theorem g_X9_declareLost : j_good i_X9_declareLost m_X9_declareLost := ⟨by decide +kernel, c_X9_declareLost, fun b hb w hw => j_wI_in w_X9_declareLost w (List.mem_flatMap.mpr ⟨b, hb, hw⟩)⟩
abbrev i_X9_divides : j_Mi := (yX9_divides, cX9_divides, 2, (some .boolean), 99)
theorem c_X9_divides : ∀ b ∈ m_X9_divides, j_ckL yX9_divides.cls (yX9_divides.name == "<init>") (some .boolean) 2 cX9_divides b.2 b.1 = true := by decide +kernel
theorem w_X9_divides : j_wI (m_X9_divides.flatMap (fun b => j_wdL yX9_divides.cls b.2)) [] = true := by decide +kernel
theorem g_X9_divides : j_good i_X9_divides m_X9_divides := ⟨by decide +kernel, c_X9_divides, fun b hb w hw => j_wI_in w_X9_divides w (List.mem_flatMap.mpr ⟨b, hb, hw⟩)⟩
