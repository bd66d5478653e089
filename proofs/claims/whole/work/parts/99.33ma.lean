/-! ===== printed: checks of the law's blocks ===== -/
def m_L_0 : List (Nat × List j_N) := [(0, q_L_law_0), (28, q_L_law_28), (204, q_L_law_204), (277, q_L_law_277), (288, q_L_law_288), (313, q_L_law_313)]
theorem c_L_0 : ∀ b ∈ m_L_0, j_ckL x.cls (x.name == "<init>") (some .boolean) 9 code b.2 b.1 = true := by decide +kernel
theorem w_L_0 : j_wI (m_L_0.flatMap (fun b => j_wdL x.cls b.2)) [110, 111, 83, 114, 83, 112, 113, 1444, 1445, 96, 1448, 96, 1446, 1447, 238, 2066, 425, 83, 422, 423, 424, 1913, 96, 1910, 1911, 1912, 1921, 96, 1918, 1919, 1920, 1556, 96, 1553, 1554, 1555] = true := by decide +kernel
def m_L_1 : List (Nat × List j_N) := [(330, q_L_law_330), (333, q_L_law_333), (346, q_L_law_346), (359, q_L_law_359), (372, q_L_law_372), (385, q_L_law_385)]
theorem c_L_1 : ∀ b ∈ m_L_1, j_ckL x.cls (x.name == "<init>") (some .boolean) 9 code b.2 b.1 = true := by decide +kernel
theorem w_L_1 : j_wI (m_L_1.flatMap (fun b => j_wdL x.cls b.2)) [433, 83, 430, 431, 432, 1917, 96, 1914, 1915, 1916, 437, 83, 434, 435, 436, 1560, 96, 1557, 1558, 1559, 441, 83, 438, 439, 440, 1568, 96, 1565, 1566, 1567, 445, 83, 442, 443, 444, 1572, 96, 1569, 1570, 1571, 449, 83, 446, 447, 448, 1576, 96, 1573, 1574, 1575] = true := by decide +kernel
def m_L_2 : List (Nat × List j_N) := [(398, q_L_law_398), (411, q_L_law_411), (424, q_L_law_424), (447, q_L_law_447), (484, q_L_law_484), (501, q_L_law_501)]
theorem c_L_2 : ∀ b ∈ m_L_2, j_ckL x.cls (x.name == "<init>") (some .boolean) 9 code b.2 b.1 = true := by decide +kernel
theorem w_L_2 : j_wI (m_L_2.flatMap (fun b => j_wdL x.cls b.2)) [453, 83, 450, 451, 452, 1580, 96, 1577, 1578, 1579, 457, 83, 454, 455, 456, 1584, 96, 1581, 1582, 1583, 1588, 96, 1585, 1586, 1587, 1556, 96, 1553, 1554, 1555] = true := by decide +kernel
def m_L_3 : List (Nat × List j_N) := [(504, q_L_law_504), (521, q_L_law_521), (552, q_L_law_552), (569, q_L_law_569), (572, q_L_law_572), (583, q_L_law_583)]
theorem c_L_3 : ∀ b ∈ m_L_3, j_ckL x.cls (x.name == "<init>") (some .boolean) 9 code b.2 b.1 = true := by decide +kernel
theorem w_L_3 : j_wI (m_L_3.flatMap (fun b => j_wdL x.cls b.2)) [1610, 96, 1607, 1608, 1609, 1556, 96, 1553, 1554, 1555, 1638, 96, 1635, 1636, 1637, 1556, 96, 1553, 1554, 1555] = true := by decide +kernel
def m_L_4 : List (Nat × List j_N) := [(608, q_L_law_608), (624, q_L_law_624), (627, q_L_law_627), (638, q_L_law_638), (663, q_L_law_663), (680, q_L_law_680)]
theorem c_L_4 : ∀ b ∈ m_L_4, j_ckL x.cls (x.name == "<init>") (some .boolean) 9 code b.2 b.1 = true := by decide +kernel
theorem w_L_4 : j_wI (m_L_4.flatMap (fun b => j_wdL x.cls b.2)) [1642, 96, 1639, 1640, 1641, 1556, 96, 1553, 1554, 1555] = true := by decide +kernel
