/-! ===== printed: checks of the law's blocks ===== -/
def m_L_5 : List (Nat × List j_N) := [(681, q_L_law_681), (687, q_L_law_687), (690, q_L_law_690), (707, q_L_law_707), (738, q_L_law_738), (755, q_L_law_755)]
theorem c_L_5 : ∀ b ∈ m_L_5, j_ckL x.cls (x.name == "<init>") (some .boolean) 9 code b.2 b.1 = true := by decide +kernel
theorem w_L_5 : j_wI (m_L_5.flatMap (fun b => j_wdL x.cls b.2)) [1662, 96, 1659, 1660, 1661, 1556, 96, 1553, 1554, 1555] = true := by decide +kernel
def m_L_6 : List (Nat × List j_N) := [(758, q_L_law_758), (771, q_L_law_771), (788, q_L_law_788), (819, q_L_law_819), (836, q_L_law_836), (839, q_L_law_839)]
theorem c_L_6 : ∀ b ∈ m_L_6, j_ckL x.cls (x.name == "<init>") (some .boolean) 9 code b.2 b.1 = true := by decide +kernel
theorem w_L_6 : j_wI (m_L_6.flatMap (fun b => j_wdL x.cls b.2)) [461, 83, 458, 459, 460, 1666, 96, 1663, 1664, 1665, 1674, 96, 1671, 1672, 1673, 1556, 96, 1553, 1554, 1555] = true := by decide +kernel
def m_L_7 : List (Nat × List j_N) := [(856, q_L_law_856), (887, q_L_law_887), (904, q_L_law_904), (907, q_L_law_907), (918, q_L_law_918), (943, q_L_law_943)]
theorem c_L_7 : ∀ b ∈ m_L_7, j_ckL x.cls (x.name == "<init>") (some .boolean) 9 code b.2 b.1 = true := by decide +kernel
theorem w_L_7 : j_wI (m_L_7.flatMap (fun b => j_wdL x.cls b.2)) [1682, 96, 1679, 1680, 1681, 1556, 96, 1553, 1554, 1555, 1690, 96, 1687, 1688, 1689, 1556, 96, 1553, 1554, 1555] = true := by decide +kernel
def m_L_8 : List (Nat × List j_N) := [(959, q_L_law_959), (962, q_L_law_962), (973, q_L_law_973), (998, q_L_law_998), (1015, q_L_law_1015), (1018, q_L_law_1018)]
theorem c_L_8 : ∀ b ∈ m_L_8, j_ckL x.cls (x.name == "<init>") (some .boolean) 9 code b.2 b.1 = true := by decide +kernel
theorem w_L_8 : j_wI (m_L_8.flatMap (fun b => j_wdL x.cls b.2)) [1694, 96, 1691, 1692, 1693, 1556, 96, 1553, 1554, 1555] = true := by decide +kernel
def m_L_9 : List (Nat × List j_N) := [(1047, q_L_law_1047), (1090, q_L_law_1090), (1107, q_L_law_1107), (1110, q_L_law_1110), (1121, q_L_law_1121), (1146, q_L_law_1146)]
theorem c_L_9 : ∀ b ∈ m_L_9, j_ckL x.cls (x.name == "<init>") (some .boolean) 9 code b.2 b.1 = true := by decide +kernel
theorem w_L_9 : j_wI (m_L_9.flatMap (fun b => j_wdL x.cls b.2)) [1698, 96, 1695, 1696, 1697, 1556, 96, 1553, 1554, 1555, 1730, 96, 1727, 1728, 1729, 1556, 96, 1553, 1554, 1555] = true := by decide +kernel
