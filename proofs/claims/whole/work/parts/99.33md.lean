/-! ===== printed: checks of the law's blocks ===== -/
def m_L_15 : List (Nat × List j_N) := [(1643, q_L_law_1643), (1668, q_L_law_1668), (1685, q_L_law_1685), (1688, q_L_law_1688), (1713, q_L_law_1713), (1726, q_L_law_1726)]
theorem c_L_15 : ∀ b ∈ m_L_15, j_ckL x.cls (x.name == "<init>") (some .boolean) 9 code b.2 b.1 = true := by decide +kernel
theorem w_L_15 : j_wI (m_L_15.flatMap (fun b => j_wdL x.cls b.2)) [1888, 96, 1885, 1886, 1887, 1556, 96, 1553, 1554, 1555, 527, 83, 524, 525, 526, 1909, 96, 1906, 1907, 1908, 568, 83, 565, 566, 567, 1872, 96, 1869, 1870, 1871, 572, 83, 569, 570, 571, 1876, 96, 1873, 1874, 1875] = true := by decide +kernel
def m_L_16 : List (Nat × List j_N) := [(1739, q_L_law_1739), (1750, q_L_law_1750), (1763, q_L_law_1763), (1774, q_L_law_1774), (1799, q_L_law_1799), (1816, q_L_law_1816)]
theorem c_L_16 : ∀ b ∈ m_L_16, j_ckL x.cls (x.name == "<init>") (some .boolean) 9 code b.2 b.1 = true := by decide +kernel
theorem w_L_16 : j_wI (m_L_16.flatMap (fun b => j_wdL x.cls b.2)) [602, 83, 599, 600, 601, 1880, 96, 1877, 1878, 1879, 607, 83, 604, 605, 606, 1884, 96, 1881, 1882, 1883, 2023, 96, 2020, 2021, 2022, 1556, 96, 1553, 1554, 1555] = true := by decide +kernel
def m_L_17 : List (Nat × List j_N) := [(1819, q_L_law_1819), (1825, q_L_law_1825)]
theorem c_L_17 : ∀ b ∈ m_L_17, j_ckL x.cls (x.name == "<init>") (some .boolean) 9 code b.2 b.1 = true := by decide +kernel
theorem w_L_17 : j_wI (m_L_17.flatMap (fun b => j_wdL x.cls b.2)) [] = true := by decide +kernel
