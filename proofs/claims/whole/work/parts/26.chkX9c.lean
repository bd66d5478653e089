/-! ===== checks: 26.chkX9c ===== -/
abbrev i_X9_acknowledgmentTick : j_Mi := (yX9_acknowledgmentTick, cX9_acknowledgmentTick, 3, (some .int), 11)
theorem c_X9_acknowledgmentTick : ∀ b ∈ m_X9_acknowledgmentTick, j_ckL yX9_acknowledgmentTick.cls (yX9_acknowledgmentTick.name == "<init>") (some .int) 3 cX9_acknowledgmentTick b.2 b.1 = true := by decide +kernel
theorem w_X9_acknowledgmentTick : j_wI (m_X9_acknowledgmentTick.flatMap (fun b => j_wdL yX9_acknowledgmentTick.cls b.2)) [1622, 96, 1619, 1621, 10, 1622, 96, 1619, 1621, 10, 1788, 96, 1786, 1787, 1465, 1465, 1622, 96, 1619, 1621, 10, 1788, 96, 1786, 1787, 1622, 96, 1619, 1621, 10] = true := by decide +kernel
theorem g_X9_acknowledgmentTick : j_good i_X9_acknowledgmentTick m_X9_acknowledgmentTick := ⟨by decide +kernel, c_X9_acknowledgmentTick, fun b hb w hw => j_wI_in w_X9_acknowledgmentTick w (List.mem_flatMap.mpr ⟨b, hb, hw⟩)⟩
abbrev i_X9_send : j_Mi := (yX9_send, cX9_send, 4, none, 11)
theorem c_X9_send : ∀ b ∈ m_X9_send, j_ckL yX9_send.cls (yX9_send.name == "<init>") none 4 cX9_send b.2 b.1 = true := by decide +kernel
theorem w_X9_send : j_wI (m_X9_send.flatMap (fun b => j_wdL yX9_send.cls b.2)) [1763, 96, 1760, 1762, 33, 1722, 96, 1719, 1721, 24, 1630, 96, 1627, 1629, 12, 1722, 96, 1719, 1721, 24, 1718, 96, 1715, 1717, 23, 1465, 1465, 1747, 96, 1744, 1746, 29, 1465, 1747, 96, 1744, 1746, 29, 1785, 96, 1782, 1784, 38, 1747, 96, 1744, 1746, 29, 1747, 96, 1744, 1746, 29, 1470, 1630, 96, 1627, 1629, 12, 1714, 1622, 96, 1619, 1621, 10, 1755, 96, 1752, 1754, 31, 1465, 1630, 96, 1627, 1629, 12] = true := by decide +kernel
theorem g_X9_send : j_good i_X9_send m_X9_send := ⟨by decide +kernel, c_X9_send, fun b hb w hw => j_wI_in w_X9_send w (List.mem_flatMap.mpr ⟨b, hb, hw⟩)⟩
abbrev i_X9_sendNext : j_Mi := (yX9_sendNext, cX9_sendNext, 2, (some .boolean), 11)
theorem c_X9_sendNext : ∀ b ∈ m_X9_sendNext, j_ckL yX9_sendNext.cls (yX9_sendNext.name == "<init>") (some .boolean) 2 cX9_sendNext b.2 b.1 = true := by decide +kernel
theorem w_X9_sendNext : j_wI (m_X9_sendNext.flatMap (fun b => j_wdL yX9_sendNext.cls b.2)) [1670, 96, 1667, 1669, 18, 1465, 1626, 96, 1623, 1625, 11, 1630, 96, 1627, 1629, 12, 1465, 1626, 96, 1623, 1625, 11, 1781, 96, 1778, 1780, 37] = true := by decide +kernel
theorem g_X9_sendNext : j_good i_X9_sendNext m_X9_sendNext := ⟨by decide +kernel, c_X9_sendNext, fun b hb w hw => j_wI_in w_X9_sendNext w (List.mem_flatMap.mpr ⟨b, hb, hw⟩)⟩
abbrev i_X9_record : j_Mi := (yX9_record, cX9_record, 4, none, 11)
theorem c_X9_record : ∀ b ∈ m_X9_record, j_ckL yX9_record.cls (yX9_record.name == "<init>") none 4 cX9_record b.2 b.1 = true := by decide +kernel
theorem w_X9_record : j_wI (m_X9_record.flatMap (fun b => j_wdL yX9_record.cls b.2)) [1465, 1465, 1465, 1622, 96, 1619, 1621, 10, 1646, 96, 1643, 1645, 14, 1465] = true := by decide +kernel
theorem g_X9_record : j_good i_X9_record m_X9_record := ⟨by decide +kernel, c_X9_record, fun b hb w hw => j_wI_in w_X9_record w (List.mem_flatMap.mpr ⟨b, hb, hw⟩)⟩
abbrev i_X9_tick : j_Mi := (yX9_tick, cX9_tick, 3, none, 11)
theorem c_X9_tick : ∀ b ∈ m_X9_tick, j_ckL yX9_tick.cls (yX9_tick.name == "<init>") none 3 cX9_tick b.2 b.1 = true := by decide +kernel
theorem w_X9_tick : j_wI (m_X9_tick.flatMap (fun b => j_wdL yX9_tick.cls b.2)) [1465, 1465, 1654, 96, 1651, 1653, 16, 1743, 96, 1740, 1742, 28, 1465, 1654, 96, 1651, 1653, 16, 1654, 96, 1651, 1653, 16, 1465, 1767, 96, 1764, 1766, 34, 1465, 1772, 1465, 1465, 1773, 543, 87, 544, 1777, 96, 1774, 1776, 36, 1465, 1670, 96, 1667, 1669, 18, 1465, 1792, 96, 1789, 1791, 39, 1465] = true := by decide +kernel
theorem g_X9_tick : j_good i_X9_tick m_X9_tick := ⟨by decide +kernel, c_X9_tick, fun b hb w hw => j_wI_in w_X9_tick w (List.mem_flatMap.mpr ⟨b, hb, hw⟩)⟩
abbrev i_X9_forgive : j_Mi := (yX9_forgive, cX9_forgive, 7, none, 11)
theorem c_X9_forgive : ∀ b ∈ m_X9_forgive, j_ckL yX9_forgive.cls (yX9_forgive.name == "<init>") none 7 cX9_forgive b.2 b.1 = true := by decide +kernel
theorem w_X9_forgive : j_wI (m_X9_forgive.flatMap (fun b => j_wdL yX9_forgive.cls b.2)) [1465, 1646, 96, 1643, 1645, 14, 1470, 1713, 504, 87, 505, 1470, 1622, 96, 1619, 1621, 10, 1714, 1622, 96, 1619, 1621, 10, 1646, 96, 1643, 1645, 14, 1470, 1470, 1718, 96, 1715, 1717, 23] = true := by decide +kernel
theorem g_X9_forgive : j_good i_X9_forgive m_X9_forgive := ⟨by decide +kernel, c_X9_forgive, fun b hb w hw => j_wI_in w_X9_forgive w (List.mem_flatMap.mpr ⟨b, hb, hw⟩)⟩
abbrev i_X9_arrive : j_Mi := (yX9_arrive, cX9_arrive, 7, (some .int), 11)
theorem c_X9_arrive : ∀ b ∈ m_X9_arrive, j_ckL yX9_arrive.cls (yX9_arrive.name == "<init>") (some .int) 7 cX9_arrive b.2 b.1 = true := by decide +kernel
theorem w_X9_arrive : j_wI (m_X9_arrive.flatMap (fun b => j_wdL yX9_arrive.cls b.2)) [1475, 1591, 96, 1589, 1590, 1591, 96, 1589, 1590, 1591, 96, 1589, 1590, 1594, 96, 1592, 1593, 1598, 96, 1595, 1597, 5, 1602, 96, 1599, 1601, 6, 1465, 1618, 96, 1615, 1617, 9, 1622, 96, 1619, 1621, 10, 1702, 96, 1699, 1701, 21, 1712, 96, 1709, 1711, 22, 1465, 1465, 1722, 96, 1719, 1721, 24, 1722, 96, 1719, 1721, 24, 1465, 1722, 96, 1719, 1721, 24, 1722, 96, 1719, 1721, 24, 1722, 96, 1719, 1721, 24, 1722, 96, 1719, 1721, 24, 1722, 96, 1719, 1721, 24, 1722, 96, 1719, 1721, 24, 1722, 96, 1719, 1721, 24, 1726, 96, 1723, 1725, 25] = true := by decide +kernel
theorem g_X9_arrive : j_good i_X9_arrive m_X9_arrive := ⟨by decide +kernel, c_X9_arrive, fun b hb w hw => j_wI_in w_X9_arrive w (List.mem_flatMap.mpr ⟨b, hb, hw⟩)⟩
abbrev i_X9_deliveredCount : j_Mi := (yX9_deliveredCount, cX9_deliveredCount, 3, (some .int), 11)
theorem c_X9_deliveredCount : ∀ b ∈ m_X9_deliveredCount, j_ckL yX9_deliveredCount.cls (yX9_deliveredCount.name == "<init>") (some .int) 3 cX9_deliveredCount b.2 b.1 = true := by decide +kernel
theorem w_X9_deliveredCount : j_wI (m_X9_deliveredCount.flatMap (fun b => j_wdL yX9_deliveredCount.cls b.2)) [1465, 1630, 96, 1627, 1629, 12] = true := by decide +kernel
theorem g_X9_deliveredCount : j_good i_X9_deliveredCount m_X9_deliveredCount := ⟨by decide +kernel, c_X9_deliveredCount, fun b hb w hw => j_wI_in w_X9_deliveredCount w (List.mem_flatMap.mpr ⟨b, hb, hw⟩)⟩
abbrev i_X9_run : j_Mi := (yX9_run, cX9_run, 4, (some .int), 11)
theorem c_X9_run : ∀ b ∈ m_X9_run, j_ckL yX9_run.cls (yX9_run.name == "<init>") (some .int) 4 cX9_run b.2 b.1 = true := by decide +kernel
theorem w_X9_run : j_wI (m_X9_run.flatMap (fun b => j_wdL yX9_run.cls b.2)) [1475, 1594, 96, 1592, 1593, 1598, 96, 1595, 1597, 5, 1465, 1731, 1702, 96, 1699, 1701, 21, 1735, 96, 1732, 1734, 26, 1739, 96, 1736, 1738, 27, 1735, 96, 1732, 1734, 26] = true := by decide +kernel
theorem g_X9_run : j_good i_X9_run m_X9_run := ⟨by decide +kernel, c_X9_run, fun b hb w hw => j_wI_in w_X9_run w (List.mem_flatMap.mpr ⟨b, hb, hw⟩)⟩
abbrev i_X9_setWeight : j_Mi := (yX9_setWeight, cX9_setWeight, 4, (some .int), 11)
theorem c_X9_setWeight : ∀ b ∈ m_X9_setWeight, j_ckL yX9_setWeight.cls (yX9_setWeight.name == "<init>") (some .int) 4 cX9_setWeight b.2 b.1 = true := by decide +kernel
theorem w_X9_setWeight : j_wI (m_X9_setWeight.flatMap (fun b => j_wdL yX9_setWeight.cls b.2)) [1475, 1614, 96, 1611, 1613, 8, 1598, 96, 1595, 1597, 5, 1594, 96, 1592, 1593, 1598, 96, 1595, 1597, 5, 1702, 96, 1699, 1701, 21, 1622, 96, 1619, 1621, 10, 1718, 96, 1715, 1717, 23] = true := by decide +kernel
theorem g_X9_setWeight : j_good i_X9_setWeight m_X9_setWeight := ⟨by decide +kernel, c_X9_setWeight, fun b hb w hw => j_wI_in w_X9_setWeight w (List.mem_flatMap.mpr ⟨b, hb, hw⟩)⟩
abbrev i_X9_oldestTick : j_Mi := (yX9_oldestTick, cX9_oldestTick, 1, (some .int), 11)
theorem c_X9_oldestTick : ∀ b ∈ m_X9_oldestTick, j_ckL yX9_oldestTick.cls (yX9_oldestTick.name == "<init>") (some .int) 1 cX9_oldestTick b.2 b.1 = true := by decide +kernel
theorem w_X9_oldestTick : j_wI (m_X9_oldestTick.flatMap (fun b => j_wdL yX9_oldestTick.cls b.2)) [1465, 1805, 168, 87, 169] = true := by decide +kernel
theorem g_X9_oldestTick : j_good i_X9_oldestTick m_X9_oldestTick := ⟨by decide +kernel, c_X9_oldestTick, fun b hb w hw => j_wI_in w_X9_oldestTick w (List.mem_flatMap.mpr ⟨b, hb, hw⟩)⟩
abbrev i_X9_recorded : j_Mi := (yX9_recorded, cX9_recorded, 3, (some .int), 11)
theorem c_X9_recorded : ∀ b ∈ m_X9_recorded, j_ckL yX9_recorded.cls (yX9_recorded.name == "<init>") (some .int) 3 cX9_recorded b.2 b.1 = true := by decide +kernel
theorem w_X9_recorded : j_wI (m_X9_recorded.flatMap (fun b => j_wdL yX9_recorded.cls b.2)) [1465] = true := by decide +kernel
theorem g_X9_recorded : j_good i_X9_recorded m_X9_recorded := ⟨by decide +kernel, c_X9_recorded, fun b hb w hw => j_wI_in w_X9_recorded w (List.mem_flatMap.mpr ⟨b, hb, hw⟩)⟩
abbrev i_X9_areActive : j_Mi := (yX9_areActive, cX9_areActive, 5, (some .boolean), 11)
theorem c_X9_areActive : ∀ b ∈ m_X9_areActive, j_ckL yX9_areActive.cls (yX9_areActive.name == "<init>") (some .boolean) 5 cX9_areActive b.2 b.1 = true := by decide +kernel
theorem w_X9_areActive : j_wI (m_X9_areActive.flatMap (fun b => j_wdL yX9_areActive.cls b.2)) [1814, 96, 1811, 1813, 42] = true := by decide +kernel
theorem g_X9_areActive : j_good i_X9_areActive m_X9_areActive := ⟨by decide +kernel, c_X9_areActive, fun b hb w hw => j_wI_in w_X9_areActive w (List.mem_flatMap.mpr ⟨b, hb, hw⟩)⟩
abbrev i_X9_normalized : j_Mi := (yX9_normalized, cX9_normalized, 4, (some .long), 11)
theorem c_X9_normalized : ∀ b ∈ m_X9_normalized, j_ckL yX9_normalized.cls (yX9_normalized.name == "<init>") (some .long) 4 cX9_normalized b.2 b.1 = true := by decide +kernel
theorem w_X9_normalized : j_wI (m_X9_normalized.flatMap (fun b => j_wdL yX9_normalized.cls b.2)) [1814, 96, 1811, 1813, 42, 1814, 96, 1811, 1813, 42, 1714, 1622, 96, 1619, 1621, 10] = true := by decide +kernel
theorem g_X9_normalized : j_good i_X9_normalized m_X9_normalized := ⟨by decide +kernel, c_X9_normalized, fun b hb w hw => j_wI_in w_X9_normalized w (List.mem_flatMap.mpr ⟨b, hb, hw⟩)⟩
abbrev i_X9_difference : j_Mi := (yX9_difference, cX9_difference, 5, (some .long), 11)
theorem c_X9_difference : ∀ b ∈ m_X9_difference, j_ckL yX9_difference.cls (yX9_difference.name == "<init>") (some .long) 5 cX9_difference b.2 b.1 = true := by decide +kernel
theorem w_X9_difference : j_wI (m_X9_difference.flatMap (fun b => j_wdL yX9_difference.cls b.2)) [1822, 96, 1819, 1821, 44, 1822, 96, 1819, 1821, 44, 1823, 1058, 87, 1059] = true := by decide +kernel
theorem g_X9_difference : j_good i_X9_difference m_X9_difference := ⟨by decide +kernel, c_X9_difference, fun b hb w hw => j_wI_in w_X9_difference w (List.mem_flatMap.mpr ⟨b, hb, hw⟩)⟩
abbrev i_X9_audit : j_Mi := (yX9_audit, cX9_audit, 6, (some .long), 11)
theorem c_X9_audit : ∀ b ∈ m_X9_audit, j_ckL yX9_audit.cls (yX9_audit.name == "<init>") (some .long) 6 cX9_audit b.2 b.1 = true := by decide +kernel
theorem w_X9_audit : j_wI (m_X9_audit.flatMap (fun b => j_wdL yX9_audit.cls b.2)) [1475, 1614, 96, 1611, 1613, 8, 1614, 96, 1611, 1613, 8, 1598, 96, 1595, 1597, 5, 1598, 96, 1595, 1597, 5, 1465, 1804, 96, 1801, 1803, 40, 1804, 96, 1801, 1803, 40, 1806, 1810, 96, 1807, 1809, 41, 1806, 1818, 96, 1815, 1817, 43] = true := by decide +kernel
theorem g_X9_audit : j_good i_X9_audit m_X9_audit := ⟨by decide +kernel, c_X9_audit, fun b hb w hw => j_wI_in w_X9_audit w (List.mem_flatMap.mpr ⟨b, hb, hw⟩)⟩
abbrev i_X9_worstOf : j_Mi := (yX9_worstOf, cX9_worstOf, 8, (some .long), 11)
theorem c_X9_worstOf : ∀ b ∈ m_X9_worstOf, j_ckL yX9_worstOf.cls (yX9_worstOf.name == "<init>") (some .long) 8 cX9_worstOf b.2 b.1 = true := by decide +kernel
theorem w_X9_worstOf : j_wI (m_X9_worstOf.flatMap (fun b => j_wdL yX9_worstOf.cls b.2)) [1804, 96, 1801, 1803, 40, 1465, 1810, 96, 1807, 1809, 41, 1818, 96, 1815, 1817, 43, 1832, 507, 87, 508] = true := by decide +kernel
theorem g_X9_worstOf : j_good i_X9_worstOf m_X9_worstOf := ⟨by decide +kernel, c_X9_worstOf, fun b hb w hw => j_wI_in w_X9_worstOf w (List.mem_flatMap.mpr ⟨b, hb, hw⟩)⟩
abbrev i_X9_worst : j_Mi := (yX9_worst, cX9_worst, 5, (some .long), 11)
theorem c_X9_worst : ∀ b ∈ m_X9_worst, j_ckL yX9_worst.cls (yX9_worst.name == "<init>") (some .long) 5 cX9_worst b.2 b.1 = true := by decide +kernel
theorem w_X9_worst : j_wI (m_X9_worst.flatMap (fun b => j_wdL yX9_worst.cls b.2)) [1475, 1465, 1465, 1831, 96, 1828, 1830, 45, 1832, 507, 87, 508] = true := by decide +kernel
theorem g_X9_worst : j_good i_X9_worst m_X9_worst := ⟨by decide +kernel, c_X9_worst, fun b hb w hw => j_wI_in w_X9_worst w (List.mem_flatMap.mpr ⟨b, hb, hw⟩)⟩
abbrev i_X9_spread : j_Mi := (yX9_spread, cX9_spread, 4, (some .long), 11)
theorem c_X9_spread : ∀ b ∈ m_X9_spread, j_ckL yX9_spread.cls (yX9_spread.name == "<init>") (some .long) 4 cX9_spread b.2 b.1 = true := by decide +kernel
theorem w_X9_spread : j_wI (m_X9_spread.flatMap (fun b => j_wdL yX9_spread.cls b.2)) [1475, 1465, 1646, 96, 1643, 1645, 14, 1470, 1470, 1470, 1470, 1470, 1470] = true := by decide +kernel
theorem g_X9_spread : j_good i_X9_spread m_X9_spread := ⟨by decide +kernel, c_X9_spread, fun b hb w hw => j_wI_in w_X9_spread w (List.mem_flatMap.mpr ⟨b, hb, hw⟩)⟩
abbrev i_X9_share : j_Mi := (yX9_share, cX9_share, 4, (some .double), 11)
theorem c_X9_share : ∀ b ∈ m_X9_share, j_ckL yX9_share.cls (yX9_share.name == "<init>") (some .double) 4 cX9_share b.2 b.1 = true := by decide +kernel
theorem w_X9_share : j_wI (m_X9_share.flatMap (fun b => j_wdL yX9_share.cls b.2)) [1614, 96, 1611, 1613, 8, 1475, 1465, 1622, 96, 1619, 1621, 10, 1475, 1622, 96, 1619, 1621, 10] = true := by decide +kernel
theorem g_X9_share : j_good i_X9_share m_X9_share := ⟨by decide +kernel, c_X9_share, fun b hb w hw => j_wI_in w_X9_share w (List.mem_flatMap.mpr ⟨b, hb, hw⟩)⟩
abbrev i_X9_meanDelay : j_Mi := (yX9_meanDelay, cX9_meanDelay, 5, (some .float), 11)
theorem c_X9_meanDelay : ∀ b ∈ m_X9_meanDelay, j_ckL yX9_meanDelay.cls (yX9_meanDelay.name == "<init>") (some .float) 5 cX9_meanDelay b.2 b.1 = true := by decide +kernel
theorem w_X9_meanDelay : j_wI (m_X9_meanDelay.flatMap (fun b => j_wdL yX9_meanDelay.cls b.2)) [1614, 96, 1611, 1613, 8, 1475, 1465, 1630, 96, 1627, 1629, 12, 1630, 96, 1627, 1629, 12, 1630, 96, 1627, 1629, 12, 1630, 96, 1627, 1629, 12] = true := by decide +kernel
theorem g_X9_meanDelay : j_good i_X9_meanDelay m_X9_meanDelay := ⟨by decide +kernel, c_X9_meanDelay, fun b hb w hw => j_wI_in w_X9_meanDelay w (List.mem_flatMap.mpr ⟨b, hb, hw⟩)⟩
abbrev i_X9_layAside : j_Mi := (yX9_layAside, cX9_layAside, 1, none, 11)
theorem c_X9_layAside : ∀ b ∈ m_X9_layAside, j_ckL yX9_layAside.cls (yX9_layAside.name == "<init>") none 1 cX9_layAside b.2 b.1 = true := by decide +kernel
theorem w_X9_layAside : j_wI (m_X9_layAside.flatMap (fun b => j_wdL yX9_layAside.cls b.2)) [1465, 1467, 1705, 96, 1703, 1704, 1470, 1471, 1708, 96, 1706, 1707] = true := by decide +kernel
theorem g_X9_layAside : j_good i_X9_layAside m_X9_layAside := ⟨by decide +kernel, c_X9_layAside, fun b hb w hw => j_wI_in w_X9_layAside w (List.mem_flatMap.mpr ⟨b, hb, hw⟩)⟩
abbrev i_X9_layBack : j_Mi := (yX9_layBack, cX9_layBack, 1, none, 11)
theorem c_X9_layBack : ∀ b ∈ m_X9_layBack, j_ckL yX9_layBack.cls (yX9_layBack.name == "<init>") none 1 cX9_layBack b.2 b.1 = true := by decide +kernel
theorem w_X9_layBack : j_wI (m_X9_layBack.flatMap (fun b => j_wdL yX9_layBack.cls b.2)) [1467, 1465, 1705, 96, 1703, 1704, 1471, 1470, 1708, 96, 1706, 1707] = true := by decide +kernel
theorem g_X9_layBack : j_good i_X9_layBack m_X9_layBack := ⟨by decide +kernel, c_X9_layBack, fun b hb w hw => j_wI_in w_X9_layBack w (List.mem_flatMap.mpr ⟨b, hb, hw⟩)⟩
abbrev i_X9_ticksUntilDelivered : j_Mi := (yX9_ticksUntilDelivered, cX9_ticksUntilDelivered, 4, (some .int), 11)
theorem c_X9_ticksUntilDelivered : ∀ b ∈ m_X9_ticksUntilDelivered, j_ckL yX9_ticksUntilDelivered.cls (yX9_ticksUntilDelivered.name == "<init>") (some .int) 4 cX9_ticksUntilDelivered b.2 b.1 = true := by decide +kernel
theorem w_X9_ticksUntilDelivered : j_wI (m_X9_ticksUntilDelivered.flatMap (fun b => j_wdL yX9_ticksUntilDelivered.cls b.2)) [1630, 96, 1627, 1629, 12, 1739, 96, 1736, 1738, 27, 1630, 96, 1627, 1629, 12] = true := by decide +kernel
theorem g_X9_ticksUntilDelivered : j_good i_X9_ticksUntilDelivered m_X9_ticksUntilDelivered := ⟨by decide +kernel, c_X9_ticksUntilDelivered, fun b hb w hw => j_wI_in w_X9_ticksUntilDelivered w (List.mem_flatMap.mpr ⟨b, hb, hw⟩)⟩
abbrev i_X9_mayForecast : j_Mi := (yX9_mayForecast, cX9_mayForecast, 4, (some .boolean), 11)
theorem c_X9_mayForecast : ∀ b ∈ m_X9_mayForecast, j_ckL yX9_mayForecast.cls (yX9_mayForecast.name == "<init>") (some .boolean) 4 cX9_mayForecast b.2 b.1 = true := by decide +kernel
theorem w_X9_mayForecast : j_wI (m_X9_mayForecast.flatMap (fun b => j_wdL yX9_mayForecast.cls b.2)) [1678, 96, 1675, 1677, 19, 1594, 96, 1592, 1593, 1475, 1475] = true := by decide +kernel
theorem g_X9_mayForecast : j_good i_X9_mayForecast m_X9_mayForecast := ⟨by decide +kernel, c_X9_mayForecast, fun b hb w hw => j_wI_in w_X9_mayForecast w (List.mem_flatMap.mpr ⟨b, hb, hw⟩)⟩
