/-! ===== printed: checks of the law's blocks ===== -/
def m_L_10 : List (Nat × List j_N) := [(1163, q_L_law_1163), (1166, q_L_law_1166), (1183, q_L_law_1183), (1214, q_L_law_1214), (1231, q_L_law_1231), (1234, q_L_law_1234)]
theorem c_L_10 : ∀ b ∈ m_L_10, j_ckL x.cls (x.name == "<init>") (some .boolean) 9 code b.2 b.1 = true := by decide +kernel
theorem w_L_10 : j_wI (m_L_10.flatMap (fun b => j_wdL x.cls b.2)) [1796, 96, 1793, 1794, 1795, 1556, 96, 1553, 1554, 1555] = true := by decide +kernel
def m_L_11 : List (Nat × List j_N) := [(1257, q_L_law_1257), (1294, q_L_law_1294), (1310, q_L_law_1310), (1313, q_L_law_1313), (1327, q_L_law_1327), (1341, q_L_law_1341)]
theorem c_L_11 : ∀ b ∈ m_L_11, j_ckL x.cls (x.name == "<init>") (some .boolean) 9 code b.2 b.1 = true := by decide +kernel
theorem w_L_11 : j_wI (m_L_11.flatMap (fun b => j_wdL x.cls b.2)) [1800, 96, 1797, 1798, 1799, 1556, 96, 1553, 1554, 1555, 473, 83, 470, 471, 472, 1827, 96, 1824, 1825, 1826, 513, 83, 510, 511, 512, 1836, 96, 1833, 1834, 1835] = true := by decide +kernel
def m_L_12 : List (Nat × List j_N) := [(1353, q_L_law_1353), (1378, q_L_law_1378), (1413, q_L_law_1413), (1415, q_L_law_1415), (1418, q_L_law_1418), (1430, q_L_law_1430)]
theorem c_L_12 : ∀ b ∈ m_L_12, j_ckL x.cls (x.name == "<init>") (some .boolean) 9 code b.2 b.1 = true := by decide +kernel
theorem w_L_12 : j_wI (m_L_12.flatMap (fun b => j_wdL x.cls b.2)) [1840, 96, 1837, 1838, 1839, 1556, 96, 1553, 1554, 1555, 1844, 96, 1841, 1842, 1843, 1556, 96, 1553, 1554, 1555] = true := by decide +kernel
def m_L_13 : List (Nat × List j_N) := [(1455, q_L_law_1455), (1491, q_L_law_1491), (1493, q_L_law_1493), (1496, q_L_law_1496), (1513, q_L_law_1513), (1544, q_L_law_1544)]
theorem c_L_13 : ∀ b ∈ m_L_13, j_ckL x.cls (x.name == "<init>") (some .boolean) 9 code b.2 b.1 = true := by decide +kernel
theorem w_L_13 : j_wI (m_L_13.flatMap (fun b => j_wdL x.cls b.2)) [1848, 96, 1845, 1846, 1847, 1556, 96, 1553, 1554, 1555] = true := by decide +kernel
def m_L_14 : List (Nat × List j_N) := [(1561, q_L_law_1561), (1564, q_L_law_1564), (1581, q_L_law_1581), (1612, q_L_law_1612), (1629, q_L_law_1629), (1632, q_L_law_1632)]
theorem c_L_14 : ∀ b ∈ m_L_14, j_ckL x.cls (x.name == "<init>") (some .boolean) 9 code b.2 b.1 = true := by decide +kernel
theorem w_L_14 : j_wI (m_L_14.flatMap (fun b => j_wdL x.cls b.2)) [1868, 96, 1865, 1866, 1867, 1556, 96, 1553, 1554, 1555] = true := by decide +kernel
