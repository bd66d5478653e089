def pw_X9 : List Cond := [1449, 116, 117, 177, 1465, 1466, 1467, 1468, 1450, 1469, 238, 1470, 1471, 1472, 1473, 1477, 1479, 1487, 1451, 1452, 1489, 1490, 1491, 1492, 1464, 96, 1462, 1463, 1475, 1654, 1651, 1653, 16, 1630, 1627, 1629, 12, 1594, 1592, 1593, 1564, 1561, 1563, 4, 1606, 1603, 1605, 7, 1591, 1589, 1590, 1598, 1595, 1597, 5, 1602, 1599, 1601, 6, 1622, 1619, 1621, 10, 1626, 1623, 1625, 11, 1614, 1611, 1613, 8, 1618, 1615, 1617, 9, 1634, 1631, 1633, 13, 1658, 1655, 1657, 17, 1650, 1647, 1649, 15, 1646, 1643, 1645, 14, 1670, 1667, 1669, 18, 1678, 1675, 1677, 19, 1686, 1683, 1685, 20, 1718, 1715, 1717, 23, 1747, 1744, 1746, 29, 1755, 1752, 1754, 31, 1763, 1760, 1762, 33, 1722, 1719, 1721, 24, 1751, 1748, 1750, 30, 1759, 1756, 1758, 32, 1771, 1768, 1770, 35, 1726, 1723, 1725, 25, 1788, 1786, 1787, 1785, 1782, 1784, 38, 1714, 1781, 1778, 1780, 37, 1743, 1740, 1742, 28, 1767, 1764, 1766, 34, 1772, 1773, 543, 87, 544, 1777, 1774, 1776, 36, 1792, 1789, 1791, 39, 1713, 504, 505, 1702, 1699, 1701, 21, 1712, 1709, 1711, 22, 1731, 1735, 1732, 1734, 26, 1739, 1736, 1738, 27, 1805, 168, 169, 1814, 1811, 1813, 42, 1822, 1819, 1821, 44, 1823, 1058, 1059, 1804, 1801, 1803, 40, 1806, 1810, 1807, 1809, 41, 1818, 1815, 1817, 43, 1832, 507, 508, 1831, 1828, 1830, 45, 1705, 1703, 1704, 1708, 1706, 1707, 1852, 1849, 1851, 46, 1856, 1853, 1855, 47, 1860, 1857, 1859, 48, 1864, 1861, 1863, 49, 1474, 1476, 722, 94, 1894, 720, 721, 1478, 735, 1895, 733, 734, 1899, 1896, 1898, 51, 1893, 1890, 1892, 50, 1480, 1481, 1933, 1930, 1932, 54, 1482, 1483, 1484, 1937, 1934, 1936, 55, 1941, 1938, 1940, 56, 1485, 1488, 1929, 1926, 1928, 53, 1486, 1961, 1958, 1960, 61, 1949, 1946, 1948, 58, 1957, 1954, 1956, 60, 1965, 1962, 1964, 62, 2015, 2012, 2014, 72, 1977, 1974, 1976, 65, 1973, 1970, 1972, 64, 1987, 1984, 1986, 67, 1969, 1966, 1968, 63, 1978, 1982, 1979, 1981, 66, 1999, 1996, 1998, 69, 2004, 2001, 2003, 70, 1953, 1950, 1952, 59, 1995, 1992, 1994, 68, 2011, 2008, 2010, 71, 1925, 1922, 1924, 52, 1945, 1942, 1944, 57, 2019, 2016, 2018, 73, 1493, 2051, 2046, 2043, 2045, 78, 2042, 2039, 2041, 77, 2037, 2034, 2036, 76, 2029, 2026, 2028, 74, 2050, 2047, 2049, 79, 2033, 2030, 2032, 75, 2062, 2059, 2061, 81, 2065, 2063, 2064, 2054, 2058, 2055, 2057, 80].filterMap (fun i => lw_tbl[i]?)
theorem pw_X9_in : ∀ w ∈ pw_X9, w ∈ j_tbl := j_in rfl (by decide +kernel)
abbrev i_X9_init : j_Mi := (yX9_init, cX9_init, 1, none, 11)
theorem c_X9_init : ∀ b ∈ m_X9_init, j_ckL yX9_init.cls (yX9_init.name == "<init>") none 1 cX9_init b.2 b.1 = true := by decide +kernel
theorem w_X9_init : ∀ b ∈ m_X9_init, ∀ w ∈ j_wdL yX9_init.cls b.2, w ∈ pw_X9 := by decide +kernel
theorem g_X9_init : j_good i_X9_init m_X9_init := ⟨by decide +kernel, c_X9_init, fun b hb w hw => pw_X9_in w (w_X9_init b hb w hw)⟩
abbrev i_X9_thrown : j_Mi := (yX9_thrown, cX9_thrown, 1, (some .int), 11)
theorem c_X9_thrown : ∀ b ∈ m_X9_thrown, j_ckL yX9_thrown.cls (yX9_thrown.name == "<init>") (some .int) 1 cX9_thrown b.2 b.1 = true := by decide +kernel
theorem w_X9_thrown : ∀ b ∈ m_X9_thrown, ∀ w ∈ j_wdL yX9_thrown.cls b.2, w ∈ pw_X9 := by decide +kernel
theorem g_X9_thrown : j_good i_X9_thrown m_X9_thrown := ⟨by decide +kernel, c_X9_thrown, fun b hb w hw => pw_X9_in w (w_X9_thrown b hb w hw)⟩
abbrev i_X9_raise : j_Mi := (yX9_raise, cX9_raise, 2, (some .int), 11)
theorem c_X9_raise : ∀ b ∈ m_X9_raise, j_ckL yX9_raise.cls (yX9_raise.name == "<init>") (some .int) 2 cX9_raise b.2 b.1 = true := by decide +kernel
theorem w_X9_raise : ∀ b ∈ m_X9_raise, ∀ w ∈ j_wdL yX9_raise.cls b.2, w ∈ pw_X9 := by decide +kernel
theorem g_X9_raise : j_good i_X9_raise m_X9_raise := ⟨by decide +kernel, c_X9_raise, fun b hb w hw => pw_X9_in w (w_X9_raise b hb w hw)⟩
abbrev i_X9_inRange : j_Mi := (yX9_inRange, cX9_inRange, 3, (some .boolean), 99)
theorem c_X9_inRange : ∀ b ∈ m_X9_inRange, j_ckL yX9_inRange.cls (yX9_inRange.name == "<init>") (some .boolean) 3 cX9_inRange b.2 b.1 = true := by decide +kernel
theorem w_X9_inRange : ∀ b ∈ m_X9_inRange, ∀ w ∈ j_wdL yX9_inRange.cls b.2, w ∈ pw_X9 := by decide +kernel
theorem g_X9_inRange : j_good i_X9_inRange m_X9_inRange := ⟨by decide +kernel, c_X9_inRange, fun b hb w hw => pw_X9_in w (w_X9_inRange b hb w hw)⟩
abbrev i_X9_clear : j_Mi := (yX9_clear, cX9_clear, 2, none, 99)
theorem c_X9_clear : ∀ b ∈ m_X9_clear, j_ckL yX9_clear.cls (yX9_clear.name == "<init>") none 2 cX9_clear b.2 b.1 = true := by decide +kernel
theorem w_X9_clear : ∀ b ∈ m_X9_clear, ∀ w ∈ j_wdL yX9_clear.cls b.2, w ∈ pw_X9 := by decide +kernel
theorem g_X9_clear : j_good i_X9_clear m_X9_clear := ⟨by decide +kernel, c_X9_clear, fun b hb w hw => pw_X9_in w (w_X9_clear b hb w hw)⟩
abbrev i_X9_ofFlow : j_Mi := (yX9_ofFlow, cX9_ofFlow, 3, (some .int), 11)
theorem c_X9_ofFlow : ∀ b ∈ m_X9_ofFlow, j_ckL yX9_ofFlow.cls (yX9_ofFlow.name == "<init>") (some .int) 3 cX9_ofFlow b.2 b.1 = true := by decide +kernel
theorem w_X9_ofFlow : ∀ b ∈ m_X9_ofFlow, ∀ w ∈ j_wdL yX9_ofFlow.cls b.2, w ∈ pw_X9 := by decide +kernel
theorem g_X9_ofFlow : j_good i_X9_ofFlow m_X9_ofFlow := ⟨by decide +kernel, c_X9_ofFlow, fun b hb w hw => pw_X9_in w (w_X9_ofFlow b hb w hw)⟩
abbrev i_X9_addToFlow : j_Mi := (yX9_addToFlow, cX9_addToFlow, 4, none, 11)
theorem c_X9_addToFlow : ∀ b ∈ m_X9_addToFlow, j_ckL yX9_addToFlow.cls (yX9_addToFlow.name == "<init>") none 4 cX9_addToFlow b.2 b.1 = true := by decide +kernel
theorem w_X9_addToFlow : ∀ b ∈ m_X9_addToFlow, ∀ w ∈ j_wdL yX9_addToFlow.cls b.2, w ∈ pw_X9 := by decide +kernel
theorem g_X9_addToFlow : j_good i_X9_addToFlow m_X9_addToFlow := ⟨by decide +kernel, c_X9_addToFlow, fun b hb w hw => pw_X9_in w (w_X9_addToFlow b hb w hw)⟩
abbrev i_X9_ofPacket : j_Mi := (yX9_ofPacket, cX9_ofPacket, 3, (some .int), 11)
theorem c_X9_ofPacket : ∀ b ∈ m_X9_ofPacket, j_ckL yX9_ofPacket.cls (yX9_ofPacket.name == "<init>") (some .int) 3 cX9_ofPacket b.2 b.1 = true := by decide +kernel
theorem w_X9_ofPacket : ∀ b ∈ m_X9_ofPacket, ∀ w ∈ j_wdL yX9_ofPacket.cls b.2, w ∈ pw_X9 := by decide +kernel
theorem g_X9_ofPacket : j_good i_X9_ofPacket m_X9_ofPacket := ⟨by decide +kernel, c_X9_ofPacket, fun b hb w hw => pw_X9_in w (w_X9_ofPacket b hb w hw)⟩
abbrev i_X9_putPacket : j_Mi := (yX9_putPacket, cX9_putPacket, 4, none, 11)
theorem c_X9_putPacket : ∀ b ∈ m_X9_putPacket, j_ckL yX9_putPacket.cls (yX9_putPacket.name == "<init>") none 4 cX9_putPacket b.2 b.1 = true := by decide +kernel
theorem w_X9_putPacket : ∀ b ∈ m_X9_putPacket, ∀ w ∈ j_wdL yX9_putPacket.cls b.2, w ∈ pw_X9 := by decide +kernel
theorem g_X9_putPacket : j_good i_X9_putPacket m_X9_putPacket := ⟨by decide +kernel, c_X9_putPacket, fun b hb w hw => pw_X9_in w (w_X9_putPacket b hb w hw)⟩
abbrev i_X9_ofSending : j_Mi := (yX9_ofSending, cX9_ofSending, 3, (some .int), 11)
theorem c_X9_ofSending : ∀ b ∈ m_X9_ofSending, j_ckL yX9_ofSending.cls (yX9_ofSending.name == "<init>") (some .int) 3 cX9_ofSending b.2 b.1 = true := by decide +kernel
theorem w_X9_ofSending : ∀ b ∈ m_X9_ofSending, ∀ w ∈ j_wdL yX9_ofSending.cls b.2, w ∈ pw_X9 := by decide +kernel
theorem g_X9_ofSending : j_good i_X9_ofSending m_X9_ofSending := ⟨by decide +kernel, c_X9_ofSending, fun b hb w hw => pw_X9_in w (w_X9_ofSending b hb w hw)⟩
abbrev i_X9_putSending : j_Mi := (yX9_putSending, cX9_putSending, 4, none, 11)
theorem c_X9_putSending : ∀ b ∈ m_X9_putSending, j_ckL yX9_putSending.cls (yX9_putSending.name == "<init>") none 4 cX9_putSending b.2 b.1 = true := by decide +kernel
theorem w_X9_putSending : ∀ b ∈ m_X9_putSending, ∀ w ∈ j_wdL yX9_putSending.cls b.2, w ∈ pw_X9 := by decide +kernel
theorem g_X9_putSending : j_good i_X9_putSending m_X9_putSending := ⟨by decide +kernel, c_X9_putSending, fun b hb w hw => pw_X9_in w (w_X9_putSending b hb w hw)⟩
abbrev i_X9_flowOfSending : j_Mi := (yX9_flowOfSending, cX9_flowOfSending, 2, (some .int), 11)
theorem c_X9_flowOfSending : ∀ b ∈ m_X9_flowOfSending, j_ckL yX9_flowOfSending.cls (yX9_flowOfSending.name == "<init>") (some .int) 2 cX9_flowOfSending b.2 b.1 = true := by decide +kernel
theorem w_X9_flowOfSending : ∀ b ∈ m_X9_flowOfSending, ∀ w ∈ j_wdL yX9_flowOfSending.cls b.2, w ∈ pw_X9 := by decide +kernel
theorem g_X9_flowOfSending : j_good i_X9_flowOfSending m_X9_flowOfSending := ⟨by decide +kernel, c_X9_flowOfSending, fun b hb w hw => pw_X9_in w (w_X9_flowOfSending b hb w hw)⟩
abbrev i_X9_isFlow : j_Mi := (yX9_isFlow, cX9_isFlow, 2, (some .boolean), 11)
theorem c_X9_isFlow : ∀ b ∈ m_X9_isFlow, j_ckL yX9_isFlow.cls (yX9_isFlow.name == "<init>") (some .boolean) 2 cX9_isFlow b.2 b.1 = true := by decide +kernel
theorem w_X9_isFlow : ∀ b ∈ m_X9_isFlow, ∀ w ∈ j_wdL yX9_isFlow.cls b.2, w ∈ pw_X9 := by decide +kernel
theorem g_X9_isFlow : j_good i_X9_isFlow m_X9_isFlow := ⟨by decide +kernel, c_X9_isFlow, fun b hb w hw => pw_X9_in w (w_X9_isFlow b hb w hw)⟩
abbrev i_X9_isPacket : j_Mi := (yX9_isPacket, cX9_isPacket, 2, (some .boolean), 11)
theorem c_X9_isPacket : ∀ b ∈ m_X9_isPacket, j_ckL yX9_isPacket.cls (yX9_isPacket.name == "<init>") (some .boolean) 2 cX9_isPacket b.2 b.1 = true := by decide +kernel
theorem w_X9_isPacket : ∀ b ∈ m_X9_isPacket, ∀ w ∈ j_wdL yX9_isPacket.cls b.2, w ∈ pw_X9 := by decide +kernel
theorem g_X9_isPacket : j_good i_X9_isPacket m_X9_isPacket := ⟨by decide +kernel, c_X9_isPacket, fun b hb w hw => pw_X9_in w (w_X9_isPacket b hb w hw)⟩
abbrev i_X9_isByte : j_Mi := (yX9_isByte, cX9_isByte, 1, (some .boolean), 99)
theorem c_X9_isByte : ∀ b ∈ m_X9_isByte, j_ckL yX9_isByte.cls (yX9_isByte.name == "<init>") (some .boolean) 1 cX9_isByte b.2 b.1 = true := by decide +kernel
theorem w_X9_isByte : ∀ b ∈ m_X9_isByte, ∀ w ∈ j_wdL yX9_isByte.cls b.2, w ∈ pw_X9 := by decide +kernel
theorem g_X9_isByte : j_good i_X9_isByte m_X9_isByte := ⟨by decide +kernel, c_X9_isByte, fun b hb w hw => pw_X9_in w (w_X9_isByte b hb w hw)⟩
abbrev i_X9_tell : j_Mi := (yX9_tell, cX9_tell, 2, (some .int), 11)
theorem c_X9_tell : ∀ b ∈ m_X9_tell, j_ckL yX9_tell.cls (yX9_tell.name == "<init>") (some .int) 2 cX9_tell b.2 b.1 = true := by decide +kernel
theorem w_X9_tell : ∀ b ∈ m_X9_tell, ∀ w ∈ j_wdL yX9_tell.cls b.2, w ∈ pw_X9 := by decide +kernel
theorem g_X9_tell : j_good i_X9_tell m_X9_tell := ⟨by decide +kernel, c_X9_tell, fun b hb w hw => pw_X9_in w (w_X9_tell b hb w hw)⟩
abbrev i_X9_flowCount : j_Mi := (yX9_flowCount, cX9_flowCount, 1, (some .int), 11)
theorem c_X9_flowCount : ∀ b ∈ m_X9_flowCount, j_ckL yX9_flowCount.cls (yX9_flowCount.name == "<init>") (some .int) 1 cX9_flowCount b.2 b.1 = true := by decide +kernel
theorem w_X9_flowCount : ∀ b ∈ m_X9_flowCount, ∀ w ∈ j_wdL yX9_flowCount.cls b.2, w ∈ pw_X9 := by decide +kernel
theorem g_X9_flowCount : j_good i_X9_flowCount m_X9_flowCount := ⟨by decide +kernel, c_X9_flowCount, fun b hb w hw => pw_X9_in w (w_X9_flowCount b hb w hw)⟩
abbrev i_X9_ruleCount : j_Mi := (yX9_ruleCount, cX9_ruleCount, 1, (some .int), 11)
theorem c_X9_ruleCount : ∀ b ∈ m_X9_ruleCount, j_ckL yX9_ruleCount.cls (yX9_ruleCount.name == "<init>") (some .int) 1 cX9_ruleCount b.2 b.1 = true := by decide +kernel
theorem w_X9_ruleCount : ∀ b ∈ m_X9_ruleCount, ∀ w ∈ j_wdL yX9_ruleCount.cls b.2, w ∈ pw_X9 := by decide +kernel
theorem g_X9_ruleCount : j_good i_X9_ruleCount m_X9_ruleCount := ⟨by decide +kernel, c_X9_ruleCount, fun b hb w hw => pw_X9_in w (w_X9_ruleCount b hb w hw)⟩
abbrev i_X9_packetCount : j_Mi := (yX9_packetCount, cX9_packetCount, 1, (some .int), 11)
theorem c_X9_packetCount : ∀ b ∈ m_X9_packetCount, j_ckL yX9_packetCount.cls (yX9_packetCount.name == "<init>") (some .int) 1 cX9_packetCount b.2 b.1 = true := by decide +kernel
theorem w_X9_packetCount : ∀ b ∈ m_X9_packetCount, ∀ w ∈ j_wdL yX9_packetCount.cls b.2, w ∈ pw_X9 := by decide +kernel
theorem g_X9_packetCount : j_good i_X9_packetCount m_X9_packetCount := ⟨by decide +kernel, c_X9_packetCount, fun b hb w hw => pw_X9_in w (w_X9_packetCount b hb w hw)⟩
abbrev i_X9_transmissionCount : j_Mi := (yX9_transmissionCount, cX9_transmissionCount, 1, (some .int), 11)
theorem c_X9_transmissionCount : ∀ b ∈ m_X9_transmissionCount, j_ckL yX9_transmissionCount.cls (yX9_transmissionCount.name == "<init>") (some .int) 1 cX9_transmissionCount b.2 b.1 = true := by decide +kernel
theorem w_X9_transmissionCount : ∀ b ∈ m_X9_transmissionCount, ∀ w ∈ j_wdL yX9_transmissionCount.cls b.2, w ∈ pw_X9 := by decide +kernel
theorem g_X9_transmissionCount : j_good i_X9_transmissionCount m_X9_transmissionCount := ⟨by decide +kernel, c_X9_transmissionCount, fun b hb w hw => pw_X9_in w (w_X9_transmissionCount b hb w hw)⟩
abbrev i_X9_clock : j_Mi := (yX9_clock, cX9_clock, 1, (some .int), 11)
theorem c_X9_clock : ∀ b ∈ m_X9_clock, j_ckL yX9_clock.cls (yX9_clock.name == "<init>") (some .int) 1 cX9_clock b.2 b.1 = true := by decide +kernel
theorem w_X9_clock : ∀ b ∈ m_X9_clock, ∀ w ∈ j_wdL yX9_clock.cls b.2, w ∈ pw_X9 := by decide +kernel
theorem g_X9_clock : j_good i_X9_clock m_X9_clock := ⟨by decide +kernel, c_X9_clock, fun b hb w hw => pw_X9_in w (w_X9_clock b hb w hw)⟩
abbrev i_X9_credit : j_Mi := (yX9_credit, cX9_credit, 1, (some .int), 11)
theorem c_X9_credit : ∀ b ∈ m_X9_credit, j_ckL yX9_credit.cls (yX9_credit.name == "<init>") (some .int) 1 cX9_credit b.2 b.1 = true := by decide +kernel
theorem w_X9_credit : ∀ b ∈ m_X9_credit, ∀ w ∈ j_wdL yX9_credit.cls b.2, w ∈ pw_X9 := by decide +kernel
theorem g_X9_credit : j_good i_X9_credit m_X9_credit := ⟨by decide +kernel, c_X9_credit, fun b hb w hw => pw_X9_in w (w_X9_credit b hb w hw)⟩
abbrev i_X9_matches : j_Mi := (yX9_matches, cX9_matches, 5, (some .boolean), 11)
theorem c_X9_matches : ∀ b ∈ m_X9_matches, j_ckL yX9_matches.cls (yX9_matches.name == "<init>") (some .boolean) 5 cX9_matches b.2 b.1 = true := by decide +kernel
theorem w_X9_matches : ∀ b ∈ m_X9_matches, ∀ w ∈ j_wdL yX9_matches.cls b.2, w ∈ pw_X9 := by decide +kernel
theorem g_X9_matches : j_good i_X9_matches m_X9_matches := ⟨by decide +kernel, c_X9_matches, fun b hb w hw => pw_X9_in w (w_X9_matches b hb w hw)⟩
abbrev i_X9_flowFor : j_Mi := (yX9_flowFor, cX9_flowFor, 5, (some .int), 11)
theorem c_X9_flowFor : ∀ b ∈ m_X9_flowFor, j_ckL yX9_flowFor.cls (yX9_flowFor.name == "<init>") (some .int) 5 cX9_flowFor b.2 b.1 = true := by decide +kernel
theorem w_X9_flowFor : ∀ b ∈ m_X9_flowFor, ∀ w ∈ j_wdL yX9_flowFor.cls b.2, w ∈ pw_X9 := by decide +kernel
theorem g_X9_flowFor : j_good i_X9_flowFor m_X9_flowFor := ⟨by decide +kernel, c_X9_flowFor, fun b hb w hw => pw_X9_in w (w_X9_flowFor b hb w hw)⟩
abbrev i_X9_classify : j_Mi := (yX9_classify, cX9_classify, 4, (some .int), 11)
theorem c_X9_classify : ∀ b ∈ m_X9_classify, j_ckL yX9_classify.cls (yX9_classify.name == "<init>") (some .int) 4 cX9_classify b.2 b.1 = true := by decide +kernel
theorem w_X9_classify : ∀ b ∈ m_X9_classify, ∀ w ∈ j_wdL yX9_classify.cls b.2, w ∈ pw_X9 := by decide +kernel
theorem g_X9_classify : j_good i_X9_classify m_X9_classify := ⟨by decide +kernel, c_X9_classify, fun b hb w hw => pw_X9_in w (w_X9_classify b hb w hw)⟩
abbrev i_X9_inQueue : j_Mi := (yX9_inQueue, cX9_inQueue, 3, (some .int), 11)
theorem c_X9_inQueue : ∀ b ∈ m_X9_inQueue, j_ckL yX9_inQueue.cls (yX9_inQueue.name == "<init>") (some .int) 3 cX9_inQueue b.2 b.1 = true := by decide +kernel
theorem w_X9_inQueue : ∀ b ∈ m_X9_inQueue, ∀ w ∈ j_wdL yX9_inQueue.cls b.2, w ∈ pw_X9 := by decide +kernel
theorem g_X9_inQueue : j_good i_X9_inQueue m_X9_inQueue := ⟨by decide +kernel, c_X9_inQueue, fun b hb w hw => pw_X9_in w (w_X9_inQueue b hb w hw)⟩
abbrev i_X9_bytesQueued : j_Mi := (yX9_bytesQueued, cX9_bytesQueued, 4, (some .int), 11)
theorem c_X9_bytesQueued : ∀ b ∈ m_X9_bytesQueued, j_ckL yX9_bytesQueued.cls (yX9_bytesQueued.name == "<init>") (some .int) 4 cX9_bytesQueued b.2 b.1 = true := by decide +kernel
theorem w_X9_bytesQueued : ∀ b ∈ m_X9_bytesQueued, ∀ w ∈ j_wdL yX9_bytesQueued.cls b.2, w ∈ pw_X9 := by decide +kernel
theorem g_X9_bytesQueued : j_good i_X9_bytesQueued m_X9_bytesQueued := ⟨by decide +kernel, c_X9_bytesQueued, fun b hb w hw => pw_X9_in w (w_X9_bytesQueued b hb w hw)⟩
abbrev i_X9_droppedOf : j_Mi := (yX9_droppedOf, cX9_droppedOf, 4, (some .int), 11)
theorem c_X9_droppedOf : ∀ b ∈ m_X9_droppedOf, j_ckL yX9_droppedOf.cls (yX9_droppedOf.name == "<init>") (some .int) 4 cX9_droppedOf b.2 b.1 = true := by decide +kernel
theorem w_X9_droppedOf : ∀ b ∈ m_X9_droppedOf, ∀ w ∈ j_wdL yX9_droppedOf.cls b.2, w ∈ pw_X9 := by decide +kernel
theorem g_X9_droppedOf : j_good i_X9_droppedOf m_X9_droppedOf := ⟨by decide +kernel, c_X9_droppedOf, fun b hb w hw => pw_X9_in w (w_X9_droppedOf b hb w hw)⟩
abbrev i_X9_flow : j_Mi := (yX9_flow, cX9_flow, 3, (some .int), 11)
theorem c_X9_flow : ∀ b ∈ m_X9_flow, j_ckL yX9_flow.cls (yX9_flow.name == "<init>") (some .int) 3 cX9_flow b.2 b.1 = true := by decide +kernel
theorem w_X9_flow : ∀ b ∈ m_X9_flow, ∀ w ∈ j_wdL yX9_flow.cls b.2, w ∈ pw_X9 := by decide +kernel
theorem g_X9_flow : j_good i_X9_flow m_X9_flow := ⟨by decide +kernel, c_X9_flow, fun b hb w hw => pw_X9_in w (w_X9_flow b hb w hw)⟩
abbrev i_X9_virtualTime : j_Mi := (yX9_virtualTime, cX9_virtualTime, 2, (some .long), 11)
theorem c_X9_virtualTime : ∀ b ∈ m_X9_virtualTime, j_ckL yX9_virtualTime.cls (yX9_virtualTime.name == "<init>") (some .long) 2 cX9_virtualTime b.2 b.1 = true := by decide +kernel
theorem w_X9_virtualTime : ∀ b ∈ m_X9_virtualTime, ∀ w ∈ j_wdL yX9_virtualTime.cls b.2, w ∈ pw_X9 := by decide +kernel
theorem g_X9_virtualTime : j_good i_X9_virtualTime m_X9_virtualTime := ⟨by decide +kernel, c_X9_virtualTime, fun b hb w hw => pw_X9_in w (w_X9_virtualTime b hb w hw)⟩
abbrev i_X9_outstandingOf : j_Mi := (yX9_outstandingOf, cX9_outstandingOf, 4, (some .int), 11)
theorem c_X9_outstandingOf : ∀ b ∈ m_X9_outstandingOf, j_ckL yX9_outstandingOf.cls (yX9_outstandingOf.name == "<init>") (some .int) 4 cX9_outstandingOf b.2 b.1 = true := by decide +kernel
theorem w_X9_outstandingOf : ∀ b ∈ m_X9_outstandingOf, ∀ w ∈ j_wdL yX9_outstandingOf.cls b.2, w ∈ pw_X9 := by decide +kernel
theorem g_X9_outstandingOf : j_good i_X9_outstandingOf m_X9_outstandingOf := ⟨by decide +kernel, c_X9_outstandingOf, fun b hb w hw => pw_X9_in w (w_X9_outstandingOf b hb w hw)⟩
abbrev i_X9_isUnused : j_Mi := (yX9_isUnused, cX9_isUnused, 2, (some .boolean), 11)
theorem c_X9_isUnused : ∀ b ∈ m_X9_isUnused, j_ckL yX9_isUnused.cls (yX9_isUnused.name == "<init>") (some .boolean) 2 cX9_isUnused b.2 b.1 = true := by decide +kernel
theorem w_X9_isUnused : ∀ b ∈ m_X9_isUnused, ∀ w ∈ j_wdL yX9_isUnused.cls b.2, w ∈ pw_X9 := by decide +kernel
theorem g_X9_isUnused : j_good i_X9_isUnused m_X9_isUnused := ⟨by decide +kernel, c_X9_isUnused, fun b hb w hw => pw_X9_in w (w_X9_isUnused b hb w hw)⟩
abbrev i_X9_isIdle : j_Mi := (yX9_isIdle, cX9_isIdle, 2, (some .boolean), 11)
theorem c_X9_isIdle : ∀ b ∈ m_X9_isIdle, j_ckL yX9_isIdle.cls (yX9_isIdle.name == "<init>") (some .boolean) 2 cX9_isIdle b.2 b.1 = true := by decide +kernel
theorem w_X9_isIdle : ∀ b ∈ m_X9_isIdle, ∀ w ∈ j_wdL yX9_isIdle.cls b.2, w ∈ pw_X9 := by decide +kernel
theorem g_X9_isIdle : j_good i_X9_isIdle m_X9_isIdle := ⟨by decide +kernel, c_X9_isIdle, fun b hb w hw => pw_X9_in w (w_X9_isIdle b hb w hw)⟩
abbrev i_X9_queued : j_Mi := (yX9_queued, cX9_queued, 3, (some .int), 11)
theorem c_X9_queued : ∀ b ∈ m_X9_queued, j_ckL yX9_queued.cls (yX9_queued.name == "<init>") (some .int) 3 cX9_queued b.2 b.1 = true := by decide +kernel
theorem w_X9_queued : ∀ b ∈ m_X9_queued, ∀ w ∈ j_wdL yX9_queued.cls b.2, w ∈ pw_X9 := by decide +kernel
theorem g_X9_queued : j_good i_X9_queued m_X9_queued := ⟨by decide +kernel, c_X9_queued, fun b hb w hw => pw_X9_in w (w_X9_queued b hb w hw)⟩
abbrev i_X9_next : j_Mi := (yX9_next, cX9_next, 3, (some .int), 11)
theorem c_X9_next : ∀ b ∈ m_X9_next, j_ckL yX9_next.cls (yX9_next.name == "<init>") (some .int) 3 cX9_next b.2 b.1 = true := by decide +kernel
theorem w_X9_next : ∀ b ∈ m_X9_next, ∀ w ∈ j_wdL yX9_next.cls b.2, w ∈ pw_X9 := by decide +kernel
theorem g_X9_next : j_good i_X9_next m_X9_next := ⟨by decide +kernel, c_X9_next, fun b hb w hw => pw_X9_in w (w_X9_next b hb w hw)⟩
abbrev i_X9_nextFlow : j_Mi := (yX9_nextFlow, cX9_nextFlow, 1, (some .int), 11)
theorem c_X9_nextFlow : ∀ b ∈ m_X9_nextFlow, j_ckL yX9_nextFlow.cls (yX9_nextFlow.name == "<init>") (some .int) 1 cX9_nextFlow b.2 b.1 = true := by decide +kernel
theorem w_X9_nextFlow : ∀ b ∈ m_X9_nextFlow, ∀ w ∈ j_wdL yX9_nextFlow.cls b.2, w ∈ pw_X9 := by decide +kernel
theorem g_X9_nextFlow : j_good i_X9_nextFlow m_X9_nextFlow := ⟨by decide +kernel, c_X9_nextFlow, fun b hb w hw => pw_X9_in w (w_X9_nextFlow b hb w hw)⟩
abbrev i_X9_packet : j_Mi := (yX9_packet, cX9_packet, 3, (some .int), 11)
theorem c_X9_packet : ∀ b ∈ m_X9_packet, j_ckL yX9_packet.cls (yX9_packet.name == "<init>") (some .int) 3 cX9_packet b.2 b.1 = true := by decide +kernel
theorem w_X9_packet : ∀ b ∈ m_X9_packet, ∀ w ∈ j_wdL yX9_packet.cls b.2, w ∈ pw_X9 := by decide +kernel
theorem g_X9_packet : j_good i_X9_packet m_X9_packet := ⟨by decide +kernel, c_X9_packet, fun b hb w hw => pw_X9_in w (w_X9_packet b hb w hw)⟩
abbrev i_X9_isSending : j_Mi := (yX9_isSending, cX9_isSending, 2, (some .boolean), 11)
theorem c_X9_isSending : ∀ b ∈ m_X9_isSending, j_ckL yX9_isSending.cls (yX9_isSending.name == "<init>") (some .boolean) 2 cX9_isSending b.2 b.1 = true := by decide +kernel
theorem w_X9_isSending : ∀ b ∈ m_X9_isSending, ∀ w ∈ j_wdL yX9_isSending.cls b.2, w ∈ pw_X9 := by decide +kernel
theorem g_X9_isSending : j_good i_X9_isSending m_X9_isSending := ⟨by decide +kernel, c_X9_isSending, fun b hb w hw => pw_X9_in w (w_X9_isSending b hb w hw)⟩
abbrev i_X9_transmission : j_Mi := (yX9_transmission, cX9_transmission, 3, (some .int), 11)
theorem c_X9_transmission : ∀ b ∈ m_X9_transmission, j_ckL yX9_transmission.cls (yX9_transmission.name == "<init>") (some .int) 3 cX9_transmission b.2 b.1 = true := by decide +kernel
theorem w_X9_transmission : ∀ b ∈ m_X9_transmission, ∀ w ∈ j_wdL yX9_transmission.cls b.2, w ∈ pw_X9 := by decide +kernel
theorem g_X9_transmission : j_good i_X9_transmission m_X9_transmission := ⟨by decide +kernel, c_X9_transmission, fun b hb w hw => pw_X9_in w (w_X9_transmission b hb w hw)⟩
abbrev i_X9_charge : j_Mi := (yX9_charge, cX9_charge, 2, (some .long), 11)
theorem c_X9_charge : ∀ b ∈ m_X9_charge, j_ckL yX9_charge.cls (yX9_charge.name == "<init>") (some .long) 2 cX9_charge b.2 b.1 = true := by decide +kernel
theorem w_X9_charge : ∀ b ∈ m_X9_charge, ∀ w ∈ j_wdL yX9_charge.cls b.2, w ∈ pw_X9 := by decide +kernel
theorem g_X9_charge : j_good i_X9_charge m_X9_charge := ⟨by decide +kernel, c_X9_charge, fun b hb w hw => pw_X9_in w (w_X9_charge b hb w hw)⟩
abbrev i_X9_outstanding : j_Mi := (yX9_outstanding, cX9_outstanding, 2, (some .int), 11)
theorem c_X9_outstanding : ∀ b ∈ m_X9_outstanding, j_ckL yX9_outstanding.cls (yX9_outstanding.name == "<init>") (some .int) 2 cX9_outstanding b.2 b.1 = true := by decide +kernel
theorem w_X9_outstanding : ∀ b ∈ m_X9_outstanding, ∀ w ∈ j_wdL yX9_outstanding.cls b.2, w ∈ pw_X9 := by decide +kernel
theorem g_X9_outstanding : j_good i_X9_outstanding m_X9_outstanding := ⟨by decide +kernel, c_X9_outstanding, fun b hb w hw => pw_X9_in w (w_X9_outstanding b hb w hw)⟩
abbrev i_X9_putInto : j_Mi := (yX9_putInto, cX9_putInto, 7, none, 11)
theorem c_X9_putInto : ∀ b ∈ m_X9_putInto, j_ckL yX9_putInto.cls (yX9_putInto.name == "<init>") none 7 cX9_putInto b.2 b.1 = true := by decide +kernel
theorem w_X9_putInto : ∀ b ∈ m_X9_putInto, ∀ w ∈ j_wdL yX9_putInto.cls b.2, w ∈ pw_X9 := by decide +kernel
theorem g_X9_putInto : j_good i_X9_putInto m_X9_putInto := ⟨by decide +kernel, c_X9_putInto, fun b hb w hw => pw_X9_in w (w_X9_putInto b hb w hw)⟩
abbrev i_X9_takeFrom : j_Mi := (yX9_takeFrom, cX9_takeFrom, 7, none, 11)
theorem c_X9_takeFrom : ∀ b ∈ m_X9_takeFrom, j_ckL yX9_takeFrom.cls (yX9_takeFrom.name == "<init>") none 7 cX9_takeFrom b.2 b.1 = true := by decide +kernel
theorem w_X9_takeFrom : ∀ b ∈ m_X9_takeFrom, ∀ w ∈ j_wdL yX9_takeFrom.cls b.2, w ∈ pw_X9 := by decide +kernel
theorem g_X9_takeFrom : j_good i_X9_takeFrom m_X9_takeFrom := ⟨by decide +kernel, c_X9_takeFrom, fun b hb w hw => pw_X9_in w (w_X9_takeFrom b hb w hw)⟩
abbrev i_X9_putCharge : j_Mi := (yX9_putCharge, cX9_putCharge, 3, none, 11)
theorem c_X9_putCharge : ∀ b ∈ m_X9_putCharge, j_ckL yX9_putCharge.cls (yX9_putCharge.name == "<init>") none 3 cX9_putCharge b.2 b.1 = true := by decide +kernel
theorem w_X9_putCharge : ∀ b ∈ m_X9_putCharge, ∀ w ∈ j_wdL yX9_putCharge.cls b.2, w ∈ pw_X9 := by decide +kernel
theorem g_X9_putCharge : j_good i_X9_putCharge m_X9_putCharge := ⟨by decide +kernel, c_X9_putCharge, fun b hb w hw => pw_X9_in w (w_X9_putCharge b hb w hw)⟩
abbrev i_X9_refund : j_Mi := (yX9_refund, cX9_refund, 2, none, 11)
theorem c_X9_refund : ∀ b ∈ m_X9_refund, j_ckL yX9_refund.cls (yX9_refund.name == "<init>") none 2 cX9_refund b.2 b.1 = true := by decide +kernel
theorem w_X9_refund : ∀ b ∈ m_X9_refund, ∀ w ∈ j_wdL yX9_refund.cls b.2, w ∈ pw_X9 := by decide +kernel
theorem g_X9_refund : j_good i_X9_refund m_X9_refund := ⟨by decide +kernel, c_X9_refund, fun b hb w hw => pw_X9_in w (w_X9_refund b hb w hw)⟩
abbrev i_X9_deliver : j_Mi := (yX9_deliver, cX9_deliver, 4, none, 11)
theorem c_X9_deliver : ∀ b ∈ m_X9_deliver, j_ckL yX9_deliver.cls (yX9_deliver.name == "<init>") none 4 cX9_deliver b.2 b.1 = true := by decide +kernel
theorem w_X9_deliver : ∀ b ∈ m_X9_deliver, ∀ w ∈ j_wdL yX9_deliver.cls b.2, w ∈ pw_X9 := by decide +kernel
theorem g_X9_deliver : j_good i_X9_deliver m_X9_deliver := ⟨by decide +kernel, c_X9_deliver, fun b hb w hw => pw_X9_in w (w_X9_deliver b hb w hw)⟩
abbrev i_X9_acknowledge : j_Mi := (yX9_acknowledge, cX9_acknowledge, 4, none, 11)
theorem c_X9_acknowledge : ∀ b ∈ m_X9_acknowledge, j_ckL yX9_acknowledge.cls (yX9_acknowledge.name == "<init>") none 4 cX9_acknowledge b.2 b.1 = true := by decide +kernel
theorem w_X9_acknowledge : ∀ b ∈ m_X9_acknowledge, ∀ w ∈ j_wdL yX9_acknowledge.cls b.2, w ∈ pw_X9 := by decide +kernel
theorem g_X9_acknowledge : j_good i_X9_acknowledge m_X9_acknowledge := ⟨by decide +kernel, c_X9_acknowledge, fun b hb w hw => pw_X9_in w (w_X9_acknowledge b hb w hw)⟩
abbrev i_X9_isLatest : j_Mi := (yX9_isLatest, cX9_isLatest, 3, (some .boolean), 11)
theorem c_X9_isLatest : ∀ b ∈ m_X9_isLatest, j_ckL yX9_isLatest.cls (yX9_isLatest.name == "<init>") (some .boolean) 3 cX9_isLatest b.2 b.1 = true := by decide +kernel
theorem w_X9_isLatest : ∀ b ∈ m_X9_isLatest, ∀ w ∈ j_wdL yX9_isLatest.cls b.2, w ∈ pw_X9 := by decide +kernel
theorem g_X9_isLatest : j_good i_X9_isLatest m_X9_isLatest := ⟨by decide +kernel, c_X9_isLatest, fun b hb w hw => pw_X9_in w (w_X9_isLatest b hb w hw)⟩
abbrev i_X9_declareLost : j_Mi := (yX9_declareLost, cX9_declareLost, 4, none, 11)
theorem c_X9_declareLost : ∀ b ∈ m_X9_declareLost, j_ckL yX9_declareLost.cls (yX9_declareLost.name == "<init>") none 4 cX9_declareLost b.2 b.1 = true := by decide +kernel
theorem w_X9_declareLost : ∀ b ∈ m_X9_declareLost, ∀ w ∈ j_wdL yX9_declareLost.cls b.2, w ∈ pw_X9 := by decide +kernel
theorem g_X9_declareLost : j_good i_X9_declareLost m_X9_declareLost := ⟨by decide +kernel, c_X9_declareLost, fun b hb w hw => pw_X9_in w (w_X9_declareLost b hb w hw)⟩
abbrev i_X9_divides : j_Mi := (yX9_divides, cX9_divides, 2, (some .boolean), 99)
theorem c_X9_divides : ∀ b ∈ m_X9_divides, j_ckL yX9_divides.cls (yX9_divides.name == "<init>") (some .boolean) 2 cX9_divides b.2 b.1 = true := by decide +kernel
theorem w_X9_divides : ∀ b ∈ m_X9_divides, ∀ w ∈ j_wdL yX9_divides.cls b.2, w ∈ pw_X9 := by decide +kernel
theorem g_X9_divides : j_good i_X9_divides m_X9_divides := ⟨by decide +kernel, c_X9_divides, fun b hb w hw => pw_X9_in w (w_X9_divides b hb w hw)⟩
abbrev i_X9_acknowledgmentTick : j_Mi := (yX9_acknowledgmentTick, cX9_acknowledgmentTick, 3, (some .int), 11)
theorem c_X9_acknowledgmentTick : ∀ b ∈ m_X9_acknowledgmentTick, j_ckL yX9_acknowledgmentTick.cls (yX9_acknowledgmentTick.name == "<init>") (some .int) 3 cX9_acknowledgmentTick b.2 b.1 = true := by decide +kernel
theorem w_X9_acknowledgmentTick : ∀ b ∈ m_X9_acknowledgmentTick, ∀ w ∈ j_wdL yX9_acknowledgmentTick.cls b.2, w ∈ pw_X9 := by decide +kernel
theorem g_X9_acknowledgmentTick : j_good i_X9_acknowledgmentTick m_X9_acknowledgmentTick := ⟨by decide +kernel, c_X9_acknowledgmentTick, fun b hb w hw => pw_X9_in w (w_X9_acknowledgmentTick b hb w hw)⟩
abbrev i_X9_send : j_Mi := (yX9_send, cX9_send, 4, none, 11)
theorem c_X9_send : ∀ b ∈ m_X9_send, j_ckL yX9_send.cls (yX9_send.name == "<init>") none 4 cX9_send b.2 b.1 = true := by decide +kernel
theorem w_X9_send : ∀ b ∈ m_X9_send, ∀ w ∈ j_wdL yX9_send.cls b.2, w ∈ pw_X9 := by decide +kernel
theorem g_X9_send : j_good i_X9_send m_X9_send := ⟨by decide +kernel, c_X9_send, fun b hb w hw => pw_X9_in w (w_X9_send b hb w hw)⟩
abbrev i_X9_sendNext : j_Mi := (yX9_sendNext, cX9_sendNext, 2, (some .boolean), 11)
theorem c_X9_sendNext : ∀ b ∈ m_X9_sendNext, j_ckL yX9_sendNext.cls (yX9_sendNext.name == "<init>") (some .boolean) 2 cX9_sendNext b.2 b.1 = true := by decide +kernel
theorem w_X9_sendNext : ∀ b ∈ m_X9_sendNext, ∀ w ∈ j_wdL yX9_sendNext.cls b.2, w ∈ pw_X9 := by decide +kernel
theorem g_X9_sendNext : j_good i_X9_sendNext m_X9_sendNext := ⟨by decide +kernel, c_X9_sendNext, fun b hb w hw => pw_X9_in w (w_X9_sendNext b hb w hw)⟩
abbrev i_X9_record : j_Mi := (yX9_record, cX9_record, 4, none, 11)
theorem c_X9_record : ∀ b ∈ m_X9_record, j_ckL yX9_record.cls (yX9_record.name == "<init>") none 4 cX9_record b.2 b.1 = true := by decide +kernel
theorem w_X9_record : ∀ b ∈ m_X9_record, ∀ w ∈ j_wdL yX9_record.cls b.2, w ∈ pw_X9 := by decide +kernel
theorem g_X9_record : j_good i_X9_record m_X9_record := ⟨by decide +kernel, c_X9_record, fun b hb w hw => pw_X9_in w (w_X9_record b hb w hw)⟩
abbrev i_X9_tick : j_Mi := (yX9_tick, cX9_tick, 3, none, 11)
theorem c_X9_tick : ∀ b ∈ m_X9_tick, j_ckL yX9_tick.cls (yX9_tick.name == "<init>") none 3 cX9_tick b.2 b.1 = true := by decide +kernel
theorem w_X9_tick : ∀ b ∈ m_X9_tick, ∀ w ∈ j_wdL yX9_tick.cls b.2, w ∈ pw_X9 := by decide +kernel
theorem g_X9_tick : j_good i_X9_tick m_X9_tick := ⟨by decide +kernel, c_X9_tick, fun b hb w hw => pw_X9_in w (w_X9_tick b hb w hw)⟩
abbrev i_X9_forgive : j_Mi := (yX9_forgive, cX9_forgive, 7, none, 11)
theorem c_X9_forgive : ∀ b ∈ m_X9_forgive, j_ckL yX9_forgive.cls (yX9_forgive.name == "<init>") none 7 cX9_forgive b.2 b.1 = true := by decide +kernel
theorem w_X9_forgive : ∀ b ∈ m_X9_forgive, ∀ w ∈ j_wdL yX9_forgive.cls b.2, w ∈ pw_X9 := by decide +kernel
theorem g_X9_forgive : j_good i_X9_forgive m_X9_forgive := ⟨by decide +kernel, c_X9_forgive, fun b hb w hw => pw_X9_in w (w_X9_forgive b hb w hw)⟩
abbrev i_X9_arrive : j_Mi := (yX9_arrive, cX9_arrive, 7, (some .int), 11)
theorem c_X9_arrive : ∀ b ∈ m_X9_arrive, j_ckL yX9_arrive.cls (yX9_arrive.name == "<init>") (some .int) 7 cX9_arrive b.2 b.1 = true := by decide +kernel
theorem w_X9_arrive : ∀ b ∈ m_X9_arrive, ∀ w ∈ j_wdL yX9_arrive.cls b.2, w ∈ pw_X9 := by decide +kernel
theorem g_X9_arrive : j_good i_X9_arrive m_X9_arrive := ⟨by decide +kernel, c_X9_arrive, fun b hb w hw => pw_X9_in w (w_X9_arrive b hb w hw)⟩
abbrev i_X9_deliveredCount : j_Mi := (yX9_deliveredCount, cX9_deliveredCount, 3, (some .int), 11)
theorem c_X9_deliveredCount : ∀ b ∈ m_X9_deliveredCount, j_ckL yX9_deliveredCount.cls (yX9_deliveredCount.name == "<init>") (some .int) 3 cX9_deliveredCount b.2 b.1 = true := by decide +kernel
theorem w_X9_deliveredCount : ∀ b ∈ m_X9_deliveredCount, ∀ w ∈ j_wdL yX9_deliveredCount.cls b.2, w ∈ pw_X9 := by decide +kernel
theorem g_X9_deliveredCount : j_good i_X9_deliveredCount m_X9_deliveredCount := ⟨by decide +kernel, c_X9_deliveredCount, fun b hb w hw => pw_X9_in w (w_X9_deliveredCount b hb w hw)⟩
abbrev i_X9_run : j_Mi := (yX9_run, cX9_run, 4, (some .int), 11)
theorem c_X9_run : ∀ b ∈ m_X9_run, j_ckL yX9_run.cls (yX9_run.name == "<init>") (some .int) 4 cX9_run b.2 b.1 = true := by decide +kernel
theorem w_X9_run : ∀ b ∈ m_X9_run, ∀ w ∈ j_wdL yX9_run.cls b.2, w ∈ pw_X9 := by decide +kernel
theorem g_X9_run : j_good i_X9_run m_X9_run := ⟨by decide +kernel, c_X9_run, fun b hb w hw => pw_X9_in w (w_X9_run b hb w hw)⟩
abbrev i_X9_setWeight : j_Mi := (yX9_setWeight, cX9_setWeight, 4, (some .int), 11)
theorem c_X9_setWeight : ∀ b ∈ m_X9_setWeight, j_ckL yX9_setWeight.cls (yX9_setWeight.name == "<init>") (some .int) 4 cX9_setWeight b.2 b.1 = true := by decide +kernel
theorem w_X9_setWeight : ∀ b ∈ m_X9_setWeight, ∀ w ∈ j_wdL yX9_setWeight.cls b.2, w ∈ pw_X9 := by decide +kernel
theorem g_X9_setWeight : j_good i_X9_setWeight m_X9_setWeight := ⟨by decide +kernel, c_X9_setWeight, fun b hb w hw => pw_X9_in w (w_X9_setWeight b hb w hw)⟩
abbrev i_X9_oldestTick : j_Mi := (yX9_oldestTick, cX9_oldestTick, 1, (some .int), 11)
theorem c_X9_oldestTick : ∀ b ∈ m_X9_oldestTick, j_ckL yX9_oldestTick.cls (yX9_oldestTick.name == "<init>") (some .int) 1 cX9_oldestTick b.2 b.1 = true := by decide +kernel
theorem w_X9_oldestTick : ∀ b ∈ m_X9_oldestTick, ∀ w ∈ j_wdL yX9_oldestTick.cls b.2, w ∈ pw_X9 := by decide +kernel
theorem g_X9_oldestTick : j_good i_X9_oldestTick m_X9_oldestTick := ⟨by decide +kernel, c_X9_oldestTick, fun b hb w hw => pw_X9_in w (w_X9_oldestTick b hb w hw)⟩
abbrev i_X9_recorded : j_Mi := (yX9_recorded, cX9_recorded, 3, (some .int), 11)
theorem c_X9_recorded : ∀ b ∈ m_X9_recorded, j_ckL yX9_recorded.cls (yX9_recorded.name == "<init>") (some .int) 3 cX9_recorded b.2 b.1 = true := by decide +kernel
theorem w_X9_recorded : ∀ b ∈ m_X9_recorded, ∀ w ∈ j_wdL yX9_recorded.cls b.2, w ∈ pw_X9 := by decide +kernel
theorem g_X9_recorded : j_good i_X9_recorded m_X9_recorded := ⟨by decide +kernel, c_X9_recorded, fun b hb w hw => pw_X9_in w (w_X9_recorded b hb w hw)⟩
abbrev i_X9_areActive : j_Mi := (yX9_areActive, cX9_areActive, 5, (some .boolean), 11)
theorem c_X9_areActive : ∀ b ∈ m_X9_areActive, j_ckL yX9_areActive.cls (yX9_areActive.name == "<init>") (some .boolean) 5 cX9_areActive b.2 b.1 = true := by decide +kernel
theorem w_X9_areActive : ∀ b ∈ m_X9_areActive, ∀ w ∈ j_wdL yX9_areActive.cls b.2, w ∈ pw_X9 := by decide +kernel
theorem g_X9_areActive : j_good i_X9_areActive m_X9_areActive := ⟨by decide +kernel, c_X9_areActive, fun b hb w hw => pw_X9_in w (w_X9_areActive b hb w hw)⟩
abbrev i_X9_normalized : j_Mi := (yX9_normalized, cX9_normalized, 4, (some .long), 11)
theorem c_X9_normalized : ∀ b ∈ m_X9_normalized, j_ckL yX9_normalized.cls (yX9_normalized.name == "<init>") (some .long) 4 cX9_normalized b.2 b.1 = true := by decide +kernel
theorem w_X9_normalized : ∀ b ∈ m_X9_normalized, ∀ w ∈ j_wdL yX9_normalized.cls b.2, w ∈ pw_X9 := by decide +kernel
theorem g_X9_normalized : j_good i_X9_normalized m_X9_normalized := ⟨by decide +kernel, c_X9_normalized, fun b hb w hw => pw_X9_in w (w_X9_normalized b hb w hw)⟩
abbrev i_X9_difference : j_Mi := (yX9_difference, cX9_difference, 5, (some .long), 11)
theorem c_X9_difference : ∀ b ∈ m_X9_difference, j_ckL yX9_difference.cls (yX9_difference.name == "<init>") (some .long) 5 cX9_difference b.2 b.1 = true := by decide +kernel
theorem w_X9_difference : ∀ b ∈ m_X9_difference, ∀ w ∈ j_wdL yX9_difference.cls b.2, w ∈ pw_X9 := by decide +kernel
theorem g_X9_difference : j_good i_X9_difference m_X9_difference := ⟨by decide +kernel, c_X9_difference, fun b hb w hw => pw_X9_in w (w_X9_difference b hb w hw)⟩
abbrev i_X9_audit : j_Mi := (yX9_audit, cX9_audit, 6, (some .long), 11)
theorem c_X9_audit : ∀ b ∈ m_X9_audit, j_ckL yX9_audit.cls (yX9_audit.name == "<init>") (some .long) 6 cX9_audit b.2 b.1 = true := by decide +kernel
theorem w_X9_audit : ∀ b ∈ m_X9_audit, ∀ w ∈ j_wdL yX9_audit.cls b.2, w ∈ pw_X9 := by decide +kernel
theorem g_X9_audit : j_good i_X9_audit m_X9_audit := ⟨by decide +kernel, c_X9_audit, fun b hb w hw => pw_X9_in w (w_X9_audit b hb w hw)⟩
abbrev i_X9_worstOf : j_Mi := (yX9_worstOf, cX9_worstOf, 8, (some .long), 11)
theorem c_X9_worstOf : ∀ b ∈ m_X9_worstOf, j_ckL yX9_worstOf.cls (yX9_worstOf.name == "<init>") (some .long) 8 cX9_worstOf b.2 b.1 = true := by decide +kernel
theorem w_X9_worstOf : ∀ b ∈ m_X9_worstOf, ∀ w ∈ j_wdL yX9_worstOf.cls b.2, w ∈ pw_X9 := by decide +kernel
theorem g_X9_worstOf : j_good i_X9_worstOf m_X9_worstOf := ⟨by decide +kernel, c_X9_worstOf, fun b hb w hw => pw_X9_in w (w_X9_worstOf b hb w hw)⟩
abbrev i_X9_worst : j_Mi := (yX9_worst, cX9_worst, 5, (some .long), 11)
theorem c_X9_worst : ∀ b ∈ m_X9_worst, j_ckL yX9_worst.cls (yX9_worst.name == "<init>") (some .long) 5 cX9_worst b.2 b.1 = true := by decide +kernel
theorem w_X9_worst : ∀ b ∈ m_X9_worst, ∀ w ∈ j_wdL yX9_worst.cls b.2, w ∈ pw_X9 := by decide +kernel
theorem g_X9_worst : j_good i_X9_worst m_X9_worst := ⟨by decide +kernel, c_X9_worst, fun b hb w hw => pw_X9_in w (w_X9_worst b hb w hw)⟩
abbrev i_X9_spread : j_Mi := (yX9_spread, cX9_spread, 4, (some .long), 11)
theorem c_X9_spread : ∀ b ∈ m_X9_spread, j_ckL yX9_spread.cls (yX9_spread.name == "<init>") (some .long) 4 cX9_spread b.2 b.1 = true := by decide +kernel
theorem w_X9_spread : ∀ b ∈ m_X9_spread, ∀ w ∈ j_wdL yX9_spread.cls b.2, w ∈ pw_X9 := by decide +kernel
theorem g_X9_spread : j_good i_X9_spread m_X9_spread := ⟨by decide +kernel, c_X9_spread, fun b hb w hw => pw_X9_in w (w_X9_spread b hb w hw)⟩
abbrev i_X9_share : j_Mi := (yX9_share, cX9_share, 4, (some .double), 11)
theorem c_X9_share : ∀ b ∈ m_X9_share, j_ckL yX9_share.cls (yX9_share.name == "<init>") (some .double) 4 cX9_share b.2 b.1 = true := by decide +kernel
theorem w_X9_share : ∀ b ∈ m_X9_share, ∀ w ∈ j_wdL yX9_share.cls b.2, w ∈ pw_X9 := by decide +kernel
theorem g_X9_share : j_good i_X9_share m_X9_share := ⟨by decide +kernel, c_X9_share, fun b hb w hw => pw_X9_in w (w_X9_share b hb w hw)⟩
abbrev i_X9_meanDelay : j_Mi := (yX9_meanDelay, cX9_meanDelay, 5, (some .float), 11)
theorem c_X9_meanDelay : ∀ b ∈ m_X9_meanDelay, j_ckL yX9_meanDelay.cls (yX9_meanDelay.name == "<init>") (some .float) 5 cX9_meanDelay b.2 b.1 = true := by decide +kernel
theorem w_X9_meanDelay : ∀ b ∈ m_X9_meanDelay, ∀ w ∈ j_wdL yX9_meanDelay.cls b.2, w ∈ pw_X9 := by decide +kernel
theorem g_X9_meanDelay : j_good i_X9_meanDelay m_X9_meanDelay := ⟨by decide +kernel, c_X9_meanDelay, fun b hb w hw => pw_X9_in w (w_X9_meanDelay b hb w hw)⟩
abbrev i_X9_layAside : j_Mi := (yX9_layAside, cX9_layAside, 1, none, 11)
theorem c_X9_layAside : ∀ b ∈ m_X9_layAside, j_ckL yX9_layAside.cls (yX9_layAside.name == "<init>") none 1 cX9_layAside b.2 b.1 = true := by decide +kernel
theorem w_X9_layAside : ∀ b ∈ m_X9_layAside, ∀ w ∈ j_wdL yX9_layAside.cls b.2, w ∈ pw_X9 := by decide +kernel
theorem g_X9_layAside : j_good i_X9_layAside m_X9_layAside := ⟨by decide +kernel, c_X9_layAside, fun b hb w hw => pw_X9_in w (w_X9_layAside b hb w hw)⟩
abbrev i_X9_layBack : j_Mi := (yX9_layBack, cX9_layBack, 1, none, 11)
theorem c_X9_layBack : ∀ b ∈ m_X9_layBack, j_ckL yX9_layBack.cls (yX9_layBack.name == "<init>") none 1 cX9_layBack b.2 b.1 = true := by decide +kernel
theorem w_X9_layBack : ∀ b ∈ m_X9_layBack, ∀ w ∈ j_wdL yX9_layBack.cls b.2, w ∈ pw_X9 := by decide +kernel
theorem g_X9_layBack : j_good i_X9_layBack m_X9_layBack := ⟨by decide +kernel, c_X9_layBack, fun b hb w hw => pw_X9_in w (w_X9_layBack b hb w hw)⟩
abbrev i_X9_ticksUntilDelivered : j_Mi := (yX9_ticksUntilDelivered, cX9_ticksUntilDelivered, 4, (some .int), 11)
theorem c_X9_ticksUntilDelivered : ∀ b ∈ m_X9_ticksUntilDelivered, j_ckL yX9_ticksUntilDelivered.cls (yX9_ticksUntilDelivered.name == "<init>") (some .int) 4 cX9_ticksUntilDelivered b.2 b.1 = true := by decide +kernel
theorem w_X9_ticksUntilDelivered : ∀ b ∈ m_X9_ticksUntilDelivered, ∀ w ∈ j_wdL yX9_ticksUntilDelivered.cls b.2, w ∈ pw_X9 := by decide +kernel
theorem g_X9_ticksUntilDelivered : j_good i_X9_ticksUntilDelivered m_X9_ticksUntilDelivered := ⟨by decide +kernel, c_X9_ticksUntilDelivered, fun b hb w hw => pw_X9_in w (w_X9_ticksUntilDelivered b hb w hw)⟩
abbrev i_X9_mayForecast : j_Mi := (yX9_mayForecast, cX9_mayForecast, 4, (some .boolean), 11)
theorem c_X9_mayForecast : ∀ b ∈ m_X9_mayForecast, j_ckL yX9_mayForecast.cls (yX9_mayForecast.name == "<init>") (some .boolean) 4 cX9_mayForecast b.2 b.1 = true := by decide +kernel
theorem w_X9_mayForecast : ∀ b ∈ m_X9_mayForecast, ∀ w ∈ j_wdL yX9_mayForecast.cls b.2, w ∈ pw_X9 := by decide +kernel
theorem g_X9_mayForecast : j_good i_X9_mayForecast m_X9_mayForecast := ⟨by decide +kernel, c_X9_mayForecast, fun b hb w hw => pw_X9_in w (w_X9_mayForecast b hb w hw)⟩
abbrev i_X9_forecast : j_Mi := (yX9_forecast, cX9_forecast, 4, (some .int), 11)
theorem c_X9_forecast : ∀ b ∈ m_X9_forecast, j_ckL yX9_forecast.cls (yX9_forecast.name == "<init>") (some .int) 4 cX9_forecast b.2 b.1 = true := by decide +kernel
theorem w_X9_forecast : ∀ b ∈ m_X9_forecast, ∀ w ∈ j_wdL yX9_forecast.cls b.2, w ∈ pw_X9 := by decide +kernel
theorem g_X9_forecast : j_good i_X9_forecast m_X9_forecast := ⟨by decide +kernel, c_X9_forecast, fun b hb w hw => pw_X9_in w (w_X9_forecast b hb w hw)⟩
abbrev i_X9_weightFor : j_Mi := (yX9_weightFor, cX9_weightFor, 5, (some .int), 11)
theorem c_X9_weightFor : ∀ b ∈ m_X9_weightFor, j_ckL yX9_weightFor.cls (yX9_weightFor.name == "<init>") (some .int) 5 cX9_weightFor b.2 b.1 = true := by decide +kernel
theorem w_X9_weightFor : ∀ b ∈ m_X9_weightFor, ∀ w ∈ j_wdL yX9_weightFor.cls b.2, w ∈ pw_X9 := by decide +kernel
theorem g_X9_weightFor : j_good i_X9_weightFor m_X9_weightFor := ⟨by decide +kernel, c_X9_weightFor, fun b hb w hw => pw_X9_in w (w_X9_weightFor b hb w hw)⟩
abbrev i_X9_copy : j_Mi := (yX9_copy, cX9_copy, 5, none, 99)
theorem c_X9_copy : ∀ b ∈ m_X9_copy, j_ckL yX9_copy.cls (yX9_copy.name == "<init>") none 5 cX9_copy b.2 b.1 = true := by decide +kernel
theorem w_X9_copy : ∀ b ∈ m_X9_copy, ∀ w ∈ j_wdL yX9_copy.cls b.2, w ∈ pw_X9 := by decide +kernel
theorem g_X9_copy : j_good i_X9_copy m_X9_copy := ⟨by decide +kernel, c_X9_copy, fun b hb w hw => pw_X9_in w (w_X9_copy b hb w hw)⟩
abbrev i_X9_copyTimes : j_Mi := (yX9_copyTimes, cX9_copyTimes, 5, none, 99)
theorem c_X9_copyTimes : ∀ b ∈ m_X9_copyTimes, j_ckL yX9_copyTimes.cls (yX9_copyTimes.name == "<init>") none 5 cX9_copyTimes b.2 b.1 = true := by decide +kernel
theorem w_X9_copyTimes : ∀ b ∈ m_X9_copyTimes, ∀ w ∈ j_wdL yX9_copyTimes.cls b.2, w ∈ pw_X9 := by decide +kernel
theorem g_X9_copyTimes : j_good i_X9_copyTimes m_X9_copyTimes := ⟨by decide +kernel, c_X9_copyTimes, fun b hb w hw => pw_X9_in w (w_X9_copyTimes b hb w hw)⟩
abbrev i_X9_remember : j_Mi := (yX9_remember, cX9_remember, 2, none, 11)
theorem c_X9_remember : ∀ b ∈ m_X9_remember, j_ckL yX9_remember.cls (yX9_remember.name == "<init>") none 2 cX9_remember b.2 b.1 = true := by decide +kernel
theorem w_X9_remember : ∀ b ∈ m_X9_remember, ∀ w ∈ j_wdL yX9_remember.cls b.2, w ∈ pw_X9 := by decide +kernel
theorem g_X9_remember : j_good i_X9_remember m_X9_remember := ⟨by decide +kernel, c_X9_remember, fun b hb w hw => pw_X9_in w (w_X9_remember b hb w hw)⟩
abbrev i_X9_undoCount : j_Mi := (yX9_undoCount, cX9_undoCount, 1, (some .int), 11)
theorem c_X9_undoCount : ∀ b ∈ m_X9_undoCount, j_ckL yX9_undoCount.cls (yX9_undoCount.name == "<init>") (some .int) 1 cX9_undoCount b.2 b.1 = true := by decide +kernel
theorem w_X9_undoCount : ∀ b ∈ m_X9_undoCount, ∀ w ∈ j_wdL yX9_undoCount.cls b.2, w ∈ pw_X9 := by decide +kernel
theorem g_X9_undoCount : j_good i_X9_undoCount m_X9_undoCount := ⟨by decide +kernel, c_X9_undoCount, fun b hb w hw => pw_X9_in w (w_X9_undoCount b hb w hw)⟩
abbrev i_X9_undo : j_Mi := (yX9_undo, cX9_undo, 1, (some .int), 11)
theorem c_X9_undo : ∀ b ∈ m_X9_undo, j_ckL yX9_undo.cls (yX9_undo.name == "<init>") (some .int) 1 cX9_undo b.2 b.1 = true := by decide +kernel
theorem w_X9_undo : ∀ b ∈ m_X9_undo, ∀ w ∈ j_wdL yX9_undo.cls b.2, w ∈ pw_X9 := by decide +kernel
theorem g_X9_undo : j_good i_X9_undo m_X9_undo := ⟨by decide +kernel, c_X9_undo, fun b hb w hw => pw_X9_in w (w_X9_undo b hb w hw)⟩
abbrev i_X9_saveSnapshot : j_Mi := (yX9_saveSnapshot, cX9_saveSnapshot, 1, none, 11)
theorem c_X9_saveSnapshot : ∀ b ∈ m_X9_saveSnapshot, j_ckL yX9_saveSnapshot.cls (yX9_saveSnapshot.name == "<init>") none 1 cX9_saveSnapshot b.2 b.1 = true := by decide +kernel
theorem w_X9_saveSnapshot : ∀ b ∈ m_X9_saveSnapshot, ∀ w ∈ j_wdL yX9_saveSnapshot.cls b.2, w ∈ pw_X9 := by decide +kernel
theorem g_X9_saveSnapshot : j_good i_X9_saveSnapshot m_X9_saveSnapshot := ⟨by decide +kernel, c_X9_saveSnapshot, fun b hb w hw => pw_X9_in w (w_X9_saveSnapshot b hb w hw)⟩
abbrev i_X9_restoreSnapshot : j_Mi := (yX9_restoreSnapshot, cX9_restoreSnapshot, 1, (some .boolean), 11)
theorem c_X9_restoreSnapshot : ∀ b ∈ m_X9_restoreSnapshot, j_ckL yX9_restoreSnapshot.cls (yX9_restoreSnapshot.name == "<init>") (some .boolean) 1 cX9_restoreSnapshot b.2 b.1 = true := by decide +kernel
theorem w_X9_restoreSnapshot : ∀ b ∈ m_X9_restoreSnapshot, ∀ w ∈ j_wdL yX9_restoreSnapshot.cls b.2, w ∈ pw_X9 := by decide +kernel
theorem g_X9_restoreSnapshot : j_good i_X9_restoreSnapshot m_X9_restoreSnapshot := ⟨by decide +kernel, c_X9_restoreSnapshot, fun b hb w hw => pw_X9_in w (w_X9_restoreSnapshot b hb w hw)⟩
abbrev i_X9_write : j_Mi := (yX9_write, cX9_write, 3, none, 11)
theorem c_X9_write : ∀ b ∈ m_X9_write, j_ckL yX9_write.cls (yX9_write.name == "<init>") none 3 cX9_write b.2 b.1 = true := by decide +kernel
theorem w_X9_write : ∀ b ∈ m_X9_write, ∀ w ∈ j_wdL yX9_write.cls b.2, w ∈ pw_X9 := by decide +kernel
theorem g_X9_write : j_good i_X9_write m_X9_write := ⟨by decide +kernel, c_X9_write, fun b hb w hw => pw_X9_in w (w_X9_write b hb w hw)⟩
abbrev i_X9_writeNumber : j_Mi := (yX9_writeNumber, cX9_writeNumber, 2, none, 11)
theorem c_X9_writeNumber : ∀ b ∈ m_X9_writeNumber, j_ckL yX9_writeNumber.cls (yX9_writeNumber.name == "<init>") none 2 cX9_writeNumber b.2 b.1 = true := by decide +kernel
theorem w_X9_writeNumber : ∀ b ∈ m_X9_writeNumber, ∀ w ∈ j_wdL yX9_writeNumber.cls b.2, w ∈ pw_X9 := by decide +kernel
theorem g_X9_writeNumber : j_good i_X9_writeNumber m_X9_writeNumber := ⟨by decide +kernel, c_X9_writeNumber, fun b hb w hw => pw_X9_in w (w_X9_writeNumber b hb w hw)⟩
abbrev i_X9_format : j_Mi := (yX9_format, cX9_format, 3, (some .int), 11)
theorem c_X9_format : ∀ b ∈ m_X9_format, j_ckL yX9_format.cls (yX9_format.name == "<init>") (some .int) 3 cX9_format b.2 b.1 = true := by decide +kernel
theorem w_X9_format : ∀ b ∈ m_X9_format, ∀ w ∈ j_wdL yX9_format.cls b.2, w ∈ pw_X9 := by decide +kernel
theorem g_X9_format : j_good i_X9_format m_X9_format := ⟨by decide +kernel, c_X9_format, fun b hb w hw => pw_X9_in w (w_X9_format b hb w hw)⟩
abbrev i_X9_formattedByte : j_Mi := (yX9_formattedByte, cX9_formattedByte, 2, (some .int), 11)
theorem c_X9_formattedByte : ∀ b ∈ m_X9_formattedByte, j_ckL yX9_formattedByte.cls (yX9_formattedByte.name == "<init>") (some .int) 2 cX9_formattedByte b.2 b.1 = true := by decide +kernel
theorem w_X9_formattedByte : ∀ b ∈ m_X9_formattedByte, ∀ w ∈ j_wdL yX9_formattedByte.cls b.2, w ∈ pw_X9 := by decide +kernel
theorem g_X9_formattedByte : j_good i_X9_formattedByte m_X9_formattedByte := ⟨by decide +kernel, c_X9_formattedByte, fun b hb w hw => pw_X9_in w (w_X9_formattedByte b hb w hw)⟩
abbrev i_X9_feed : j_Mi := (yX9_feed, cX9_feed, 8, (some .int), 11)
theorem c_X9_feed : ∀ b ∈ m_X9_feed, j_ckL yX9_feed.cls (yX9_feed.name == "<init>") (some .int) 8 cX9_feed b.2 b.1 = true := by decide +kernel
theorem w_X9_feed : ∀ b ∈ m_X9_feed, ∀ w ∈ j_wdL yX9_feed.cls b.2, w ∈ pw_X9 := by decide +kernel
theorem g_X9_feed : j_good i_X9_feed m_X9_feed := ⟨by decide +kernel, c_X9_feed, fun b hb w hw => pw_X9_in w (w_X9_feed b hb w hw)⟩
abbrev i_X9_errorPosition : j_Mi := (yX9_errorPosition, cX9_errorPosition, 1, (some .int), 11)
theorem c_X9_errorPosition : ∀ b ∈ m_X9_errorPosition, j_ckL yX9_errorPosition.cls (yX9_errorPosition.name == "<init>") (some .int) 1 cX9_errorPosition b.2 b.1 = true := by decide +kernel
theorem w_X9_errorPosition : ∀ b ∈ m_X9_errorPosition, ∀ w ∈ j_wdL yX9_errorPosition.cls b.2, w ∈ pw_X9 := by decide +kernel
theorem g_X9_errorPosition : j_good i_X9_errorPosition m_X9_errorPosition := ⟨by decide +kernel, c_X9_errorPosition, fun b hb w hw => pw_X9_in w (w_X9_errorPosition b hb w hw)⟩
abbrev i_X9_byteAt : j_Mi := (yX9_byteAt, cX9_byteAt, 2, (some .int), 11)
theorem c_X9_byteAt : ∀ b ∈ m_X9_byteAt, j_ckL yX9_byteAt.cls (yX9_byteAt.name == "<init>") (some .int) 2 cX9_byteAt b.2 b.1 = true := by decide +kernel
theorem w_X9_byteAt : ∀ b ∈ m_X9_byteAt, ∀ w ∈ j_wdL yX9_byteAt.cls b.2, w ∈ pw_X9 := by decide +kernel
theorem g_X9_byteAt : j_good i_X9_byteAt m_X9_byteAt := ⟨by decide +kernel, c_X9_byteAt, fun b hb w hw => pw_X9_in w (w_X9_byteAt b hb w hw)⟩
abbrev i_X9_isLetter : j_Mi := (yX9_isLetter, cX9_isLetter, 2, (some .boolean), 11)
theorem c_X9_isLetter : ∀ b ∈ m_X9_isLetter, j_ckL yX9_isLetter.cls (yX9_isLetter.name == "<init>") (some .boolean) 2 cX9_isLetter b.2 b.1 = true := by decide +kernel
theorem w_X9_isLetter : ∀ b ∈ m_X9_isLetter, ∀ w ∈ j_wdL yX9_isLetter.cls b.2, w ∈ pw_X9 := by decide +kernel
theorem g_X9_isLetter : j_good i_X9_isLetter m_X9_isLetter := ⟨by decide +kernel, c_X9_isLetter, fun b hb w hw => pw_X9_in w (w_X9_isLetter b hb w hw)⟩
abbrev i_X9_isDigit : j_Mi := (yX9_isDigit, cX9_isDigit, 2, (some .boolean), 11)
theorem c_X9_isDigit : ∀ b ∈ m_X9_isDigit, j_ckL yX9_isDigit.cls (yX9_isDigit.name == "<init>") (some .boolean) 2 cX9_isDigit b.2 b.1 = true := by decide +kernel
theorem w_X9_isDigit : ∀ b ∈ m_X9_isDigit, ∀ w ∈ j_wdL yX9_isDigit.cls b.2, w ∈ pw_X9 := by decide +kernel
theorem g_X9_isDigit : j_good i_X9_isDigit m_X9_isDigit := ⟨by decide +kernel, c_X9_isDigit, fun b hb w hw => pw_X9_in w (w_X9_isDigit b hb w hw)⟩
abbrev i_X9_scan : j_Mi := (yX9_scan, cX9_scan, 1, none, 11)
theorem c_X9_scan : ∀ b ∈ m_X9_scan, j_ckL yX9_scan.cls (yX9_scan.name == "<init>") none 1 cX9_scan b.2 b.1 = true := by decide +kernel
theorem w_X9_scan : ∀ b ∈ m_X9_scan, ∀ w ∈ j_wdL yX9_scan.cls b.2, w ∈ pw_X9 := by decide +kernel
theorem g_X9_scan : j_good i_X9_scan m_X9_scan := ⟨by decide +kernel, c_X9_scan, fun b hb w hw => pw_X9_in w (w_X9_scan b hb w hw)⟩
abbrev i_X9_startText : j_Mi := (yX9_startText, cX9_startText, 2, none, 11)
theorem c_X9_startText : ∀ b ∈ m_X9_startText, j_ckL yX9_startText.cls (yX9_startText.name == "<init>") none 2 cX9_startText b.2 b.1 = true := by decide +kernel
theorem w_X9_startText : ∀ b ∈ m_X9_startText, ∀ w ∈ j_wdL yX9_startText.cls b.2, w ∈ pw_X9 := by decide +kernel
theorem g_X9_startText : j_good i_X9_startText m_X9_startText := ⟨by decide +kernel, c_X9_startText, fun b hb w hw => pw_X9_in w (w_X9_startText b hb w hw)⟩
abbrev i_X9_finish : j_Mi := (yX9_finish, cX9_finish, 1, (some .int), 11)
theorem c_X9_finish : ∀ b ∈ m_X9_finish, j_ckL yX9_finish.cls (yX9_finish.name == "<init>") (some .int) 1 cX9_finish b.2 b.1 = true := by decide +kernel
theorem w_X9_finish : ∀ b ∈ m_X9_finish, ∀ w ∈ j_wdL yX9_finish.cls b.2, w ∈ pw_X9 := by decide +kernel
theorem g_X9_finish : j_good i_X9_finish m_X9_finish := ⟨by decide +kernel, c_X9_finish, fun b hb w hw => pw_X9_in w (w_X9_finish b hb w hw)⟩
abbrev i_X9_fail : j_Mi := (yX9_fail, cX9_fail, 2, none, 11)
theorem c_X9_fail : ∀ b ∈ m_X9_fail, j_ckL yX9_fail.cls (yX9_fail.name == "<init>") none 2 cX9_fail b.2 b.1 = true := by decide +kernel
theorem w_X9_fail : ∀ b ∈ m_X9_fail, ∀ w ∈ j_wdL yX9_fail.cls b.2, w ∈ pw_X9 := by decide +kernel
theorem g_X9_fail : j_good i_X9_fail m_X9_fail := ⟨by decide +kernel, c_X9_fail, fun b hb w hw => pw_X9_in w (w_X9_fail b hb w hw)⟩
abbrev i_X9_check : j_Mi := (yX9_check, cX9_check, 3, none, 11)
theorem c_X9_check : ∀ b ∈ m_X9_check, j_ckL yX9_check.cls (yX9_check.name == "<init>") none 3 cX9_check b.2 b.1 = true := by decide +kernel
theorem w_X9_check : ∀ b ∈ m_X9_check, ∀ w ∈ j_wdL yX9_check.cls b.2, w ∈ pw_X9 := by decide +kernel
theorem g_X9_check : j_good i_X9_check m_X9_check := ⟨by decide +kernel, c_X9_check, fun b hb w hw => pw_X9_in w (w_X9_check b hb w hw)⟩
abbrev i_X9_advance : j_Mi := (yX9_advance, cX9_advance, 1, none, 11)
theorem c_X9_advance : ∀ b ∈ m_X9_advance, j_ckL yX9_advance.cls (yX9_advance.name == "<init>") none 1 cX9_advance b.2 b.1 = true := by decide +kernel
theorem w_X9_advance : ∀ b ∈ m_X9_advance, ∀ w ∈ j_wdL yX9_advance.cls b.2, w ∈ pw_X9 := by decide +kernel
theorem g_X9_advance : j_good i_X9_advance m_X9_advance := ⟨by decide +kernel, c_X9_advance, fun b hb w hw => pw_X9_in w (w_X9_advance b hb w hw)⟩
abbrev i_X9_isSymbol : j_Mi := (yX9_isSymbol, cX9_isSymbol, 2, (some .boolean), 11)
theorem c_X9_isSymbol : ∀ b ∈ m_X9_isSymbol, j_ckL yX9_isSymbol.cls (yX9_isSymbol.name == "<init>") (some .boolean) 2 cX9_isSymbol b.2 b.1 = true := by decide +kernel
theorem w_X9_isSymbol : ∀ b ∈ m_X9_isSymbol, ∀ w ∈ j_wdL yX9_isSymbol.cls b.2, w ∈ pw_X9 := by decide +kernel
theorem g_X9_isSymbol : j_good i_X9_isSymbol m_X9_isSymbol := ⟨by decide +kernel, c_X9_isSymbol, fun b hb w hw => pw_X9_in w (w_X9_isSymbol b hb w hw)⟩
abbrev i_X9_isWord : j_Mi := (yX9_isWord, cX9_isWord, 4, (some .boolean), 11)
theorem c_X9_isWord : ∀ b ∈ m_X9_isWord, j_ckL yX9_isWord.cls (yX9_isWord.name == "<init>") (some .boolean) 4 cX9_isWord b.2 b.1 = true := by decide +kernel
theorem w_X9_isWord : ∀ b ∈ m_X9_isWord, ∀ w ∈ j_wdL yX9_isWord.cls b.2, w ∈ pw_X9 := by decide +kernel
theorem g_X9_isWord : j_good i_X9_isWord m_X9_isWord := ⟨by decide +kernel, c_X9_isWord, fun b hb w hw => pw_X9_in w (w_X9_isWord b hb w hw)⟩
abbrev i_X9_accept : j_Mi := (yX9_accept, cX9_accept, 3, (some .boolean), 11)
theorem c_X9_accept : ∀ b ∈ m_X9_accept, j_ckL yX9_accept.cls (yX9_accept.name == "<init>") (some .boolean) 3 cX9_accept b.2 b.1 = true := by decide +kernel
theorem w_X9_accept : ∀ b ∈ m_X9_accept, ∀ w ∈ j_wdL yX9_accept.cls b.2, w ∈ pw_X9 := by decide +kernel
theorem g_X9_accept : j_good i_X9_accept m_X9_accept := ⟨by decide +kernel, c_X9_accept, fun b hb w hw => pw_X9_in w (w_X9_accept b hb w hw)⟩
abbrev i_X9_expectWord : j_Mi := (yX9_expectWord, cX9_expectWord, 2, none, 11)
theorem c_X9_expectWord : ∀ b ∈ m_X9_expectWord, j_ckL yX9_expectWord.cls (yX9_expectWord.name == "<init>") none 2 cX9_expectWord b.2 b.1 = true := by decide +kernel
theorem w_X9_expectWord : ∀ b ∈ m_X9_expectWord, ∀ w ∈ j_wdL yX9_expectWord.cls b.2, w ∈ pw_X9 := by decide +kernel
theorem g_X9_expectWord : j_good i_X9_expectWord m_X9_expectWord := ⟨by decide +kernel, c_X9_expectWord, fun b hb w hw => pw_X9_in w (w_X9_expectWord b hb w hw)⟩
abbrev i_X9_expect : j_Mi := (yX9_expect, cX9_expect, 2, none, 11)
theorem c_X9_expect : ∀ b ∈ m_X9_expect, j_ckL yX9_expect.cls (yX9_expect.name == "<init>") none 2 cX9_expect b.2 b.1 = true := by decide +kernel
theorem w_X9_expect : ∀ b ∈ m_X9_expect, ∀ w ∈ j_wdL yX9_expect.cls b.2, w ∈ pw_X9 := by decide +kernel
theorem g_X9_expect : j_good i_X9_expect m_X9_expect := ⟨by decide +kernel, c_X9_expect, fun b hb w hw => pw_X9_in w (w_X9_expect b hb w hw)⟩
abbrev i_X9_value : j_Mi := (yX9_value, cX9_value, 3, (some .int), 11)
theorem c_X9_value : ∀ b ∈ m_X9_value, j_ckL yX9_value.cls (yX9_value.name == "<init>") (some .int) 3 cX9_value b.2 b.1 = true := by decide +kernel
theorem w_X9_value : ∀ b ∈ m_X9_value, ∀ w ∈ j_wdL yX9_value.cls b.2, w ∈ pw_X9 := by decide +kernel
theorem g_X9_value : j_good i_X9_value m_X9_value := ⟨by decide +kernel, c_X9_value, fun b hb w hw => pw_X9_in w (w_X9_value b hb w hw)⟩
abbrev i_X9_number : j_Mi := (yX9_number, cX9_number, 4, (some .int), 11)
theorem c_X9_number : ∀ b ∈ m_X9_number, j_ckL yX9_number.cls (yX9_number.name == "<init>") (some .int) 4 cX9_number b.2 b.1 = true := by decide +kernel
theorem w_X9_number : ∀ b ∈ m_X9_number, ∀ w ∈ j_wdL yX9_number.cls b.2, w ∈ pw_X9 := by decide +kernel
theorem g_X9_number : j_good i_X9_number m_X9_number := ⟨by decide +kernel, c_X9_number, fun b hb w hw => pw_X9_in w (w_X9_number b hb w hw)⟩
abbrev i_X9_putNumber : j_Mi := (yX9_putNumber, cX9_putNumber, 5, none, 11)
theorem c_X9_putNumber : ∀ b ∈ m_X9_putNumber, j_ckL yX9_putNumber.cls (yX9_putNumber.name == "<init>") none 5 cX9_putNumber b.2 b.1 = true := by decide +kernel
theorem w_X9_putNumber : ∀ b ∈ m_X9_putNumber, ∀ w ∈ j_wdL yX9_putNumber.cls b.2, w ∈ pw_X9 := by decide +kernel
theorem g_X9_putNumber : j_good i_X9_putNumber m_X9_putNumber := ⟨by decide +kernel, c_X9_putNumber, fun b hb w hw => pw_X9_in w (w_X9_putNumber b hb w hw)⟩
abbrev i_X9_readOption : j_Mi := (yX9_readOption, cX9_readOption, 2, (some .boolean), 11)
theorem c_X9_readOption : ∀ b ∈ m_X9_readOption, j_ckL yX9_readOption.cls (yX9_readOption.name == "<init>") (some .boolean) 2 cX9_readOption b.2 b.1 = true := by decide +kernel
theorem w_X9_readOption : ∀ b ∈ m_X9_readOption, ∀ w ∈ j_wdL yX9_readOption.cls b.2, w ∈ pw_X9 := by decide +kernel
theorem g_X9_readOption : j_good i_X9_readOption m_X9_readOption := ⟨by decide +kernel, c_X9_readOption, fun b hb w hw => pw_X9_in w (w_X9_readOption b hb w hw)⟩
abbrev i_X9_readFlow : j_Mi := (yX9_readFlow, cX9_readFlow, 3, none, 11)
theorem c_X9_readFlow : ∀ b ∈ m_X9_readFlow, j_ckL yX9_readFlow.cls (yX9_readFlow.name == "<init>") none 3 cX9_readFlow b.2 b.1 = true := by decide +kernel
theorem w_X9_readFlow : ∀ b ∈ m_X9_readFlow, ∀ w ∈ j_wdL yX9_readFlow.cls b.2, w ∈ pw_X9 := by decide +kernel
theorem g_X9_readFlow : j_good i_X9_readFlow m_X9_readFlow := ⟨by decide +kernel, c_X9_readFlow, fun b hb w hw => pw_X9_in w (w_X9_readFlow b hb w hw)⟩
abbrev i_X9_readCondition : j_Mi := (yX9_readCondition, cX9_readCondition, 5, (some .boolean), 11)
theorem c_X9_readCondition : ∀ b ∈ m_X9_readCondition, j_ckL yX9_readCondition.cls (yX9_readCondition.name == "<init>") (some .boolean) 5 cX9_readCondition b.2 b.1 = true := by decide +kernel
theorem w_X9_readCondition : ∀ b ∈ m_X9_readCondition, ∀ w ∈ j_wdL yX9_readCondition.cls b.2, w ∈ pw_X9 := by decide +kernel
theorem g_X9_readCondition : j_good i_X9_readCondition m_X9_readCondition := ⟨by decide +kernel, c_X9_readCondition, fun b hb w hw => pw_X9_in w (w_X9_readCondition b hb w hw)⟩
abbrev i_X9_readRule : j_Mi := (yX9_readRule, cX9_readRule, 3, none, 11)
theorem c_X9_readRule : ∀ b ∈ m_X9_readRule, j_ckL yX9_readRule.cls (yX9_readRule.name == "<init>") none 3 cX9_readRule b.2 b.1 = true := by decide +kernel
theorem w_X9_readRule : ∀ b ∈ m_X9_readRule, ∀ w ∈ j_wdL yX9_readRule.cls b.2, w ∈ pw_X9 := by decide +kernel
theorem g_X9_readRule : j_good i_X9_readRule m_X9_readRule := ⟨by decide +kernel, c_X9_readRule, fun b hb w hw => pw_X9_in w (w_X9_readRule b hb w hw)⟩
abbrev i_X9_readClause : j_Mi := (yX9_readClause, cX9_readClause, 1, none, 11)
theorem c_X9_readClause : ∀ b ∈ m_X9_readClause, j_ckL yX9_readClause.cls (yX9_readClause.name == "<init>") none 1 cX9_readClause b.2 b.1 = true := by decide +kernel
theorem w_X9_readClause : ∀ b ∈ m_X9_readClause, ∀ w ∈ j_wdL yX9_readClause.cls b.2, w ∈ pw_X9 := by decide +kernel
theorem g_X9_readClause : j_good i_X9_readClause m_X9_readClause := ⟨by decide +kernel, c_X9_readClause, fun b hb w hw => pw_X9_in w (w_X9_readClause b hb w hw)⟩
abbrev i_X9_load : j_Mi := (yX9_load, cX9_load, 3, (some .int), 11)
theorem c_X9_load : ∀ b ∈ m_X9_load, j_ckL yX9_load.cls (yX9_load.name == "<init>") (some .int) 3 cX9_load b.2 b.1 = true := by decide +kernel
theorem w_X9_load : ∀ b ∈ m_X9_load, ∀ w ∈ j_wdL yX9_load.cls b.2, w ∈ pw_X9 := by decide +kernel
theorem g_X9_load : j_good i_X9_load m_X9_load := ⟨by decide +kernel, c_X9_load, fun b hb w hw => pw_X9_in w (w_X9_load b hb w hw)⟩
abbrev i_X9_emit : j_Mi := (yX9_emit, cX9_emit, 2, none, 11)
theorem c_X9_emit : ∀ b ∈ m_X9_emit, j_ckL yX9_emit.cls (yX9_emit.name == "<init>") none 2 cX9_emit b.2 b.1 = true := by decide +kernel
theorem w_X9_emit : ∀ b ∈ m_X9_emit, ∀ w ∈ j_wdL yX9_emit.cls b.2, w ∈ pw_X9 := by decide +kernel
theorem g_X9_emit : j_good i_X9_emit m_X9_emit := ⟨by decide +kernel, c_X9_emit, fun b hb w hw => pw_X9_in w (w_X9_emit b hb w hw)⟩
abbrev i_X9_enter : j_Mi := (yX9_enter, cX9_enter, 1, none, 11)
theorem c_X9_enter : ∀ b ∈ m_X9_enter, j_ckL yX9_enter.cls (yX9_enter.name == "<init>") none 1 cX9_enter b.2 b.1 = true := by decide +kernel
theorem w_X9_enter : ∀ b ∈ m_X9_enter, ∀ w ∈ j_wdL yX9_enter.cls b.2, w ∈ pw_X9 := by decide +kernel
theorem g_X9_enter : j_good i_X9_enter m_X9_enter := ⟨by decide +kernel, c_X9_enter, fun b hb w hw => pw_X9_in w (w_X9_enter b hb w hw)⟩
abbrev i_X9_compileValue : j_Mi := (yX9_compileValue, cX9_compileValue, 2, none, 11)
theorem c_X9_compileValue : ∀ b ∈ m_X9_compileValue, j_ckL yX9_compileValue.cls (yX9_compileValue.name == "<init>") none 2 cX9_compileValue b.2 b.1 = true := by decide +kernel
theorem w_X9_compileValue : ∀ b ∈ m_X9_compileValue, ∀ w ∈ j_wdL yX9_compileValue.cls b.2, w ∈ pw_X9 := by decide +kernel
theorem g_X9_compileValue : j_good i_X9_compileValue m_X9_compileValue := ⟨by decide +kernel, c_X9_compileValue, fun b hb w hw => pw_X9_in w (w_X9_compileValue b hb w hw)⟩
abbrev i_X9_compileFactor : j_Mi := (yX9_compileFactor, cX9_compileFactor, 2, none, 11)
theorem c_X9_compileFactor : ∀ b ∈ m_X9_compileFactor, j_ckL yX9_compileFactor.cls (yX9_compileFactor.name == "<init>") none 2 cX9_compileFactor b.2 b.1 = true := by decide +kernel
theorem w_X9_compileFactor : ∀ b ∈ m_X9_compileFactor, ∀ w ∈ j_wdL yX9_compileFactor.cls b.2, w ∈ pw_X9 := by decide +kernel
theorem g_X9_compileFactor : j_good i_X9_compileFactor m_X9_compileFactor := ⟨by decide +kernel, c_X9_compileFactor, fun b hb w hw => pw_X9_in w (w_X9_compileFactor b hb w hw)⟩
abbrev i_X9_compileConjunction : j_Mi := (yX9_compileConjunction, cX9_compileConjunction, 1, none, 11)
theorem c_X9_compileConjunction : ∀ b ∈ m_X9_compileConjunction, j_ckL yX9_compileConjunction.cls (yX9_compileConjunction.name == "<init>") none 1 cX9_compileConjunction b.2 b.1 = true := by decide +kernel
theorem w_X9_compileConjunction : ∀ b ∈ m_X9_compileConjunction, ∀ w ∈ j_wdL yX9_compileConjunction.cls b.2, w ∈ pw_X9 := by decide +kernel
theorem g_X9_compileConjunction : j_good i_X9_compileConjunction m_X9_compileConjunction := ⟨by decide +kernel, c_X9_compileConjunction, fun b hb w hw => pw_X9_in w (w_X9_compileConjunction b hb w hw)⟩
abbrev i_X9_compileTest : j_Mi := (yX9_compileTest, cX9_compileTest, 1, none, 11)
theorem c_X9_compileTest : ∀ b ∈ m_X9_compileTest, j_ckL yX9_compileTest.cls (yX9_compileTest.name == "<init>") none 1 cX9_compileTest b.2 b.1 = true := by decide +kernel
theorem w_X9_compileTest : ∀ b ∈ m_X9_compileTest, ∀ w ∈ j_wdL yX9_compileTest.cls b.2, w ∈ pw_X9 := by decide +kernel
theorem g_X9_compileTest : j_good i_X9_compileTest m_X9_compileTest := ⟨by decide +kernel, c_X9_compileTest, fun b hb w hw => pw_X9_in w (w_X9_compileTest b hb w hw)⟩
abbrev i_X9_operate : j_Mi := (yX9_operate, cX9_operate, 3, (some .int), 99)
theorem c_X9_operate : ∀ b ∈ m_X9_operate, j_ckL yX9_operate.cls (yX9_operate.name == "<init>") (some .int) 3 cX9_operate b.2 b.1 = true := by decide +kernel
theorem w_X9_operate : ∀ b ∈ m_X9_operate, ∀ w ∈ j_wdL yX9_operate.cls b.2, w ∈ pw_X9 := by decide +kernel
theorem g_X9_operate : j_good i_X9_operate m_X9_operate := ⟨by decide +kernel, c_X9_operate, fun b hb w hw => pw_X9_in w (w_X9_operate b hb w hw)⟩
abbrev i_X9_property : j_Mi := (yX9_property, cX9_property, 3, (some .int), 11)
theorem c_X9_property : ∀ b ∈ m_X9_property, j_ckL yX9_property.cls (yX9_property.name == "<init>") (some .int) 3 cX9_property b.2 b.1 = true := by decide +kernel
theorem w_X9_property : ∀ b ∈ m_X9_property, ∀ w ∈ j_wdL yX9_property.cls b.2, w ∈ pw_X9 := by decide +kernel
theorem g_X9_property : j_good i_X9_property m_X9_property := ⟨by decide +kernel, c_X9_property, fun b hb w hw => pw_X9_in w (w_X9_property b hb w hw)⟩
abbrev i_X9_holdsFor : j_Mi := (yX9_holdsFor, cX9_holdsFor, 5, (some .boolean), 11)
theorem c_X9_holdsFor : ∀ b ∈ m_X9_holdsFor, j_ckL yX9_holdsFor.cls (yX9_holdsFor.name == "<init>") (some .boolean) 5 cX9_holdsFor b.2 b.1 = true := by decide +kernel
theorem w_X9_holdsFor : ∀ b ∈ m_X9_holdsFor, ∀ w ∈ j_wdL yX9_holdsFor.cls b.2, w ∈ pw_X9 := by decide +kernel
theorem g_X9_holdsFor : j_good i_X9_holdsFor m_X9_holdsFor := ⟨by decide +kernel, c_X9_holdsFor, fun b hb w hw => pw_X9_in w (w_X9_holdsFor b hb w hw)⟩
abbrev i_X9_query : j_Mi := (yX9_query, cX9_query, 5, (some .int), 11)
theorem c_X9_query : ∀ b ∈ m_X9_query, j_ckL yX9_query.cls (yX9_query.name == "<init>") (some .int) 5 cX9_query b.2 b.1 = true := by decide +kernel
theorem w_X9_query : ∀ b ∈ m_X9_query, ∀ w ∈ j_wdL yX9_query.cls b.2, w ∈ pw_X9 := by decide +kernel
theorem g_X9_query : j_good i_X9_query m_X9_query := ⟨by decide +kernel, c_X9_query, fun b hb w hw => pw_X9_in w (w_X9_query b hb w hw)⟩
