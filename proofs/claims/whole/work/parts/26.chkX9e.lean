/-! ===== checks: 26.chkX9e ===== -/
abbrev i_X9_isWord : j_Mi := (yX9_isWord, cX9_isWord, 4, (some .boolean), 11)
theorem c_X9_isWord : ∀ b ∈ m_X9_isWord, j_ckL yX9_isWord.cls (yX9_isWord.name == "<init>") (some .boolean) 4 cX9_isWord b.2 b.1 = true := by decide +kernel
theorem w_X9_isWord : j_wI (m_X9_isWord.flatMap (fun b => j_wdL yX9_isWord.cls b.2)) [1485, 1484, 722, 94, 1894, 720, 721, 1482, 1483, 722, 94, 1894, 720, 721, 735, 94, 1895, 733, 734, 1479, 1483] = true := by decide +kernel
theorem g_X9_isWord : j_good i_X9_isWord m_X9_isWord := ⟨by decide +kernel, c_X9_isWord, fun b hb w hw => j_wI_in w_X9_isWord w (List.mem_flatMap.mpr ⟨b, hb, hw⟩)⟩
abbrev i_X9_accept : j_Mi := (yX9_accept, cX9_accept, 3, (some .boolean), 11)
theorem c_X9_accept : ∀ b ∈ m_X9_accept, j_ckL yX9_accept.cls (yX9_accept.name == "<init>") (some .boolean) 3 cX9_accept b.2 b.1 = true := by decide +kernel
theorem w_X9_accept : j_wI (m_X9_accept.flatMap (fun b => j_wdL yX9_accept.cls b.2)) [1949, 96, 1946, 1948, 58, 1929, 96, 1926, 1928, 53] = true := by decide +kernel
theorem g_X9_accept : j_good i_X9_accept m_X9_accept := ⟨by decide +kernel, c_X9_accept, fun b hb w hw => j_wI_in w_X9_accept w (List.mem_flatMap.mpr ⟨b, hb, hw⟩)⟩
abbrev i_X9_expectWord : j_Mi := (yX9_expectWord, cX9_expectWord, 2, none, 11)
theorem c_X9_expectWord : ∀ b ∈ m_X9_expectWord, j_ckL yX9_expectWord.cls (yX9_expectWord.name == "<init>") none 2 cX9_expectWord b.2 b.1 = true := by decide +kernel
theorem w_X9_expectWord : j_wI (m_X9_expectWord.flatMap (fun b => j_wdL yX9_expectWord.cls b.2)) [1949, 96, 1946, 1948, 58, 1957, 96, 1954, 1956, 60, 1965, 96, 1962, 1964, 62] = true := by decide +kernel
theorem g_X9_expectWord : j_good i_X9_expectWord m_X9_expectWord := ⟨by decide +kernel, c_X9_expectWord, fun b hb w hw => j_wI_in w_X9_expectWord w (List.mem_flatMap.mpr ⟨b, hb, hw⟩)⟩
abbrev i_X9_expect : j_Mi := (yX9_expect, cX9_expect, 2, none, 11)
theorem c_X9_expect : ∀ b ∈ m_X9_expect, j_ckL yX9_expect.cls (yX9_expect.name == "<init>") none 2 cX9_expect b.2 b.1 = true := by decide +kernel
theorem w_X9_expect : j_wI (m_X9_expect.flatMap (fun b => j_wdL yX9_expect.cls b.2)) [2015, 96, 2012, 2014, 72, 1957, 96, 1954, 1956, 60, 1965, 96, 1962, 1964, 62] = true := by decide +kernel
theorem g_X9_expect : j_good i_X9_expect m_X9_expect := ⟨by decide +kernel, c_X9_expect, fun b hb w hw => j_wI_in w_X9_expect w (List.mem_flatMap.mpr ⟨b, hb, hw⟩)⟩
abbrev i_X9_value : j_Mi := (yX9_value, cX9_value, 3, (some .int), 11)
theorem c_X9_value : ∀ b ∈ m_X9_value, j_ckL yX9_value.cls (yX9_value.name == "<init>") (some .int) 3 cX9_value b.2 b.1 = true := by decide +kernel
theorem w_X9_value : j_wI (m_X9_value.flatMap (fun b => j_wdL yX9_value.cls b.2)) [1483, 1482, 1484, 1731, 1479, 1773, 543, 87, 544] = true := by decide +kernel
theorem g_X9_value : j_good i_X9_value m_X9_value := ⟨by decide +kernel, c_X9_value, fun b hb w hw => j_wI_in w_X9_value w (List.mem_flatMap.mpr ⟨b, hb, hw⟩)⟩
abbrev i_X9_number : j_Mi := (yX9_number, cX9_number, 4, (some .int), 11)
theorem c_X9_number : ∀ b ∈ m_X9_number, j_ckL yX9_number.cls (yX9_number.name == "<init>") (some .int) 4 cX9_number b.2 b.1 = true := by decide +kernel
theorem w_X9_number : j_wI (m_X9_number.flatMap (fun b => j_wdL yX9_number.cls b.2)) [1485, 1484, 1957, 96, 1954, 1956, 60, 1977, 96, 1974, 1976, 65, 1485, 1594, 96, 1592, 1593, 1957, 96, 1954, 1956, 60, 1965, 96, 1962, 1964, 62, 1485] = true := by decide +kernel
theorem g_X9_number : j_good i_X9_number m_X9_number := ⟨by decide +kernel, c_X9_number, fun b hb w hw => j_wI_in w_X9_number w (List.mem_flatMap.mpr ⟨b, hb, hw⟩)⟩
abbrev i_X9_putNumber : j_Mi := (yX9_putNumber, cX9_putNumber, 5, none, 11)
theorem c_X9_putNumber : ∀ b ∈ m_X9_putNumber, j_ckL yX9_putNumber.cls (yX9_putNumber.name == "<init>") none 5 cX9_putNumber b.2 b.1 = true := by decide +kernel
theorem w_X9_putNumber : j_wI (m_X9_putNumber.flatMap (fun b => j_wdL yX9_putNumber.cls b.2)) [1973, 96, 1970, 1972, 64, 1485, 1466] = true := by decide +kernel
theorem g_X9_putNumber : j_good i_X9_putNumber m_X9_putNumber := ⟨by decide +kernel, c_X9_putNumber, fun b hb w hw => j_wI_in w_X9_putNumber w (List.mem_flatMap.mpr ⟨b, hb, hw⟩)⟩
abbrev i_X9_readOption : j_Mi := (yX9_readOption, cX9_readOption, 2, (some .boolean), 11)
theorem c_X9_readOption : ∀ b ∈ m_X9_readOption, j_ckL yX9_readOption.cls (yX9_readOption.name == "<init>") (some .boolean) 2 cX9_readOption b.2 b.1 = true := by decide +kernel
theorem w_X9_readOption : j_wI (m_X9_readOption.flatMap (fun b => j_wdL yX9_readOption.cls b.2)) [1987, 96, 1984, 1986, 67, 1969, 96, 1966, 1968, 63, 1987, 96, 1984, 1986, 67, 1969, 96, 1966, 1968, 63, 1987, 96, 1984, 1986, 67, 1969, 96, 1966, 1968, 63, 1987, 96, 1984, 1986, 67, 1969, 96, 1966, 1968, 63, 1969, 96, 1966, 1968, 63, 1485] = true := by decide +kernel
theorem g_X9_readOption : j_good i_X9_readOption m_X9_readOption := ⟨by decide +kernel, c_X9_readOption, fun b hb w hw => j_wI_in w_X9_readOption w (List.mem_flatMap.mpr ⟨b, hb, hw⟩)⟩
abbrev i_X9_readFlow : j_Mi := (yX9_readFlow, cX9_readFlow, 3, none, 11)
theorem c_X9_readFlow : ∀ b ∈ m_X9_readFlow, j_ckL yX9_readFlow.cls (yX9_readFlow.name == "<init>") none 3 cX9_readFlow b.2 b.1 = true := by decide +kernel
theorem w_X9_readFlow : j_wI (m_X9_readFlow.flatMap (fun b => j_wdL yX9_readFlow.cls b.2)) [1466, 1957, 96, 1954, 1956, 60, 1965, 96, 1962, 1964, 62, 1485, 1466, 1466, 1969, 96, 1966, 1968, 63, 1978, 1969, 96, 1966, 1968, 63, 1982, 96, 1979, 1981, 66, 1466] = true := by decide +kernel
theorem g_X9_readFlow : j_good i_X9_readFlow m_X9_readFlow := ⟨by decide +kernel, c_X9_readFlow, fun b hb w hw => j_wI_in w_X9_readFlow w (List.mem_flatMap.mpr ⟨b, hb, hw⟩)⟩
abbrev i_X9_readCondition : j_Mi := (yX9_readCondition, cX9_readCondition, 5, (some .boolean), 11)
theorem c_X9_readCondition : ∀ b ∈ m_X9_readCondition, j_ckL yX9_readCondition.cls (yX9_readCondition.name == "<init>") (some .boolean) 5 cX9_readCondition b.2 b.1 = true := by decide +kernel
theorem w_X9_readCondition : j_wI (m_X9_readCondition.flatMap (fun b => j_wdL yX9_readCondition.cls b.2)) [1987, 96, 1984, 1986, 67, 1987, 96, 1984, 1986, 67, 1987, 96, 1984, 1986, 67, 1973, 96, 1970, 1972, 64, 1973, 96, 1970, 1972, 64, 1466, 1466, 1485] = true := by decide +kernel
theorem g_X9_readCondition : j_good i_X9_readCondition m_X9_readCondition := ⟨by decide +kernel, c_X9_readCondition, fun b hb w hw => j_wI_in w_X9_readCondition w (List.mem_flatMap.mpr ⟨b, hb, hw⟩)⟩
abbrev i_X9_readRule : j_Mi := (yX9_readRule, cX9_readRule, 3, none, 11)
theorem c_X9_readRule : ∀ b ∈ m_X9_readRule, j_ckL yX9_readRule.cls (yX9_readRule.name == "<init>") none 3 cX9_readRule b.2 b.1 = true := by decide +kernel
theorem w_X9_readRule : j_wI (m_X9_readRule.flatMap (fun b => j_wdL yX9_readRule.cls b.2)) [1466, 1957, 96, 1954, 1956, 60, 1965, 96, 1962, 1964, 62, 1485, 1466, 1466, 1466, 1999, 96, 1996, 1998, 69, 2004, 96, 2001, 2003, 70, 1466, 1969, 96, 1966, 1968, 63, 1466] = true := by decide +kernel
theorem g_X9_readRule : j_good i_X9_readRule m_X9_readRule := ⟨by decide +kernel, c_X9_readRule, fun b hb w hw => j_wI_in w_X9_readRule w (List.mem_flatMap.mpr ⟨b, hb, hw⟩)⟩
abbrev i_X9_readClause : j_Mi := (yX9_readClause, cX9_readClause, 1, none, 11)
theorem c_X9_readClause : ∀ b ∈ m_X9_readClause, j_ckL yX9_readClause.cls (yX9_readClause.name == "<init>") none 1 cX9_readClause b.2 b.1 = true := by decide +kernel
theorem w_X9_readClause : j_wI (m_X9_readClause.flatMap (fun b => j_wdL yX9_readClause.cls b.2)) [1949, 96, 1946, 1948, 58, 1953, 96, 1950, 1952, 59, 1949, 96, 1946, 1948, 58, 1995, 96, 1992, 1994, 68, 1987, 96, 1984, 1986, 67, 1969, 96, 1966, 1968, 63, 1987, 96, 1984, 1986, 67, 1969, 96, 1966, 1968, 63, 2004, 96, 2001, 2003, 70, 1969, 96, 1966, 1968, 63, 2011, 96, 2008, 2010, 71] = true := by decide +kernel
theorem g_X9_readClause : j_good i_X9_readClause m_X9_readClause := ⟨by decide +kernel, c_X9_readClause, fun b hb w hw => j_wI_in w_X9_readClause w (List.mem_flatMap.mpr ⟨b, hb, hw⟩)⟩
abbrev i_X9_load : j_Mi := (yX9_load, cX9_load, 3, (some .int), 11)
theorem c_X9_load : ∀ b ∈ m_X9_load, j_ckL yX9_load.cls (yX9_load.name == "<init>") (some .int) 3 cX9_load b.2 b.1 = true := by decide +kernel
theorem w_X9_load : j_wI (m_X9_load.flatMap (fun b => j_wdL yX9_load.cls b.2)) [1475, 1480, 1594, 96, 1592, 1593, 1598, 96, 1595, 1597, 5, 1466, 1464, 96, 1462, 1463, 1925, 96, 1922, 1924, 52, 1485, 1484, 1945, 96, 1942, 1944, 57, 2019, 96, 2016, 2018, 73, 1485, 1466, 1465, 1705, 96, 1703, 1704, 1470, 1474, 1476, 1465] = true := by decide +kernel
theorem g_X9_load : j_good i_X9_load m_X9_load := ⟨by decide +kernel, c_X9_load, fun b hb w hw => j_wI_in w_X9_load w (List.mem_flatMap.mpr ⟨b, hb, hw⟩)⟩
abbrev i_X9_emit : j_Mi := (yX9_emit, cX9_emit, 2, none, 11)
theorem c_X9_emit : ∀ b ∈ m_X9_emit, j_ckL yX9_emit.cls (yX9_emit.name == "<init>") none 2 cX9_emit b.2 b.1 = true := by decide +kernel
theorem w_X9_emit : j_wI (m_X9_emit.flatMap (fun b => j_wdL yX9_emit.cls b.2)) [1485, 1491, 1493, 1493, 1493] = true := by decide +kernel
theorem g_X9_emit : j_good i_X9_emit m_X9_emit := ⟨by decide +kernel, c_X9_emit, fun b hb w hw => j_wI_in w_X9_emit w (List.mem_flatMap.mpr ⟨b, hb, hw⟩)⟩
abbrev i_X9_enter : j_Mi := (yX9_enter, cX9_enter, 1, none, 11)
theorem c_X9_enter : ∀ b ∈ m_X9_enter, j_ckL yX9_enter.cls (yX9_enter.name == "<init>") none 1 cX9_enter b.2 b.1 = true := by decide +kernel
theorem w_X9_enter : j_wI (m_X9_enter.flatMap (fun b => j_wdL yX9_enter.cls b.2)) [1488, 1957, 96, 1954, 1956, 60, 1488, 1488, 1965, 96, 1962, 1964, 62] = true := by decide +kernel
theorem g_X9_enter : j_good i_X9_enter m_X9_enter := ⟨by decide +kernel, c_X9_enter, fun b hb w hw => j_wI_in w_X9_enter w (List.mem_flatMap.mpr ⟨b, hb, hw⟩)⟩
abbrev i_X9_compileValue : j_Mi := (yX9_compileValue, cX9_compileValue, 2, none, 11)
theorem c_X9_compileValue : ∀ b ∈ m_X9_compileValue, j_ckL yX9_compileValue.cls (yX9_compileValue.name == "<init>") none 2 cX9_compileValue b.2 b.1 = true := by decide +kernel
theorem w_X9_compileValue : j_wI (m_X9_compileValue.flatMap (fun b => j_wdL yX9_compileValue.cls b.2)) [1485, 1484, 2051, 1973, 96, 1970, 1972, 64, 2046, 96, 2043, 2045, 78, 1489, 1489, 1949, 96, 1946, 1948, 58, 1489, 1957, 96, 1954, 1956, 60, 2046, 96, 2043, 2045, 78, 1965, 96, 1962, 1964, 62] = true := by decide +kernel
theorem g_X9_compileValue : j_good i_X9_compileValue m_X9_compileValue := ⟨by decide +kernel, c_X9_compileValue, fun b hb w hw => j_wI_in w_X9_compileValue w (List.mem_flatMap.mpr ⟨b, hb, hw⟩)⟩
abbrev i_X9_compileFactor : j_Mi := (yX9_compileFactor, cX9_compileFactor, 2, none, 11)
theorem c_X9_compileFactor : ∀ b ∈ m_X9_compileFactor, j_ckL yX9_compileFactor.cls (yX9_compileFactor.name == "<init>") none 2 cX9_compileFactor b.2 b.1 = true := by decide +kernel
theorem w_X9_compileFactor : j_wI (m_X9_compileFactor.flatMap (fun b => j_wdL yX9_compileFactor.cls b.2)) [1949, 96, 1946, 1948, 58, 2042, 96, 2039, 2041, 77, 1485, 2037, 96, 2034, 2036, 76, 2046, 96, 2043, 2045, 78, 1488, 1488, 2015, 96, 2012, 2014, 72, 2042, 96, 2039, 2041, 77, 1485, 2029, 96, 2026, 2028, 74, 2011, 96, 2008, 2010, 71, 1488, 1488, 2050, 96, 2047, 2049, 79, 2015, 96, 2012, 2014, 72, 2015, 96, 2012, 2014, 72, 2015, 96, 2012, 2014, 72, 1957, 96, 1954, 1956, 60, 1965, 96, 1962, 1964, 62, 2050, 96, 2047, 2049, 79, 2046, 96, 2043, 2045, 78] = true := by decide +kernel
theorem g_X9_compileFactor : j_good i_X9_compileFactor m_X9_compileFactor := ⟨by decide +kernel, c_X9_compileFactor, fun b hb w hw => j_wI_in w_X9_compileFactor w (List.mem_flatMap.mpr ⟨b, hb, hw⟩)⟩
abbrev i_X9_compileConjunction : j_Mi := (yX9_compileConjunction, cX9_compileConjunction, 1, none, 11)
theorem c_X9_compileConjunction : ∀ b ∈ m_X9_compileConjunction, j_ckL yX9_compileConjunction.cls (yX9_compileConjunction.name == "<init>") none 1 cX9_compileConjunction b.2 b.1 = true := by decide +kernel
theorem w_X9_compileConjunction : j_wI (m_X9_compileConjunction.flatMap (fun b => j_wdL yX9_compileConjunction.cls b.2)) [2037, 96, 2034, 2036, 76, 1987, 96, 1984, 1986, 67, 2037, 96, 2034, 2036, 76, 2046, 96, 2043, 2045, 78] = true := by decide +kernel
theorem g_X9_compileConjunction : j_good i_X9_compileConjunction m_X9_compileConjunction := ⟨by decide +kernel, c_X9_compileConjunction, fun b hb w hw => j_wI_in w_X9_compileConjunction w (List.mem_flatMap.mpr ⟨b, hb, hw⟩)⟩
abbrev i_X9_compileTest : j_Mi := (yX9_compileTest, cX9_compileTest, 1, none, 11)
theorem c_X9_compileTest : ∀ b ∈ m_X9_compileTest, j_ckL yX9_compileTest.cls (yX9_compileTest.name == "<init>") none 1 cX9_compileTest b.2 b.1 = true := by decide +kernel
theorem w_X9_compileTest : j_wI (m_X9_compileTest.flatMap (fun b => j_wdL yX9_compileTest.cls b.2)) [2033, 96, 2030, 2032, 75, 1987, 96, 1984, 1986, 67, 2033, 96, 2030, 2032, 75, 2046, 96, 2043, 2045, 78] = true := by decide +kernel
theorem g_X9_compileTest : j_good i_X9_compileTest m_X9_compileTest := ⟨by decide +kernel, c_X9_compileTest, fun b hb w hw => j_wI_in w_X9_compileTest w (List.mem_flatMap.mpr ⟨b, hb, hw⟩)⟩
abbrev i_X9_operate : j_Mi := (yX9_operate, cX9_operate, 3, (some .int), 99)
theorem c_X9_operate : ∀ b ∈ m_X9_operate, j_ckL yX9_operate.cls (yX9_operate.name == "<init>") (some .int) 3 cX9_operate b.2 b.1 = true := by decide +kernel
theorem w_X9_operate : j_wI (m_X9_operate.flatMap (fun b => j_wdL yX9_operate.cls b.2)) [] = true := by decide +kernel
theorem g_X9_operate : j_good i_X9_operate m_X9_operate := ⟨by decide +kernel, c_X9_operate, fun b hb w hw => j_wI_in w_X9_operate w (List.mem_flatMap.mpr ⟨b, hb, hw⟩)⟩
abbrev i_X9_property : j_Mi := (yX9_property, cX9_property, 3, (some .int), 11)
theorem c_X9_property : ∀ b ∈ m_X9_property, j_ckL yX9_property.cls (yX9_property.name == "<init>") (some .int) 3 cX9_property b.2 b.1 = true := by decide +kernel
theorem w_X9_property : j_wI (m_X9_property.flatMap (fun b => j_wdL yX9_property.cls b.2)) [1490, 1630, 96, 1627, 1629, 12] = true := by decide +kernel
theorem g_X9_property : j_good i_X9_property m_X9_property := ⟨by decide +kernel, c_X9_property, fun b hb w hw => j_wI_in w_X9_property w (List.mem_flatMap.mpr ⟨b, hb, hw⟩)⟩
abbrev i_X9_holdsFor : j_Mi := (yX9_holdsFor, cX9_holdsFor, 5, (some .boolean), 11)
theorem c_X9_holdsFor : ∀ b ∈ m_X9_holdsFor, j_ckL yX9_holdsFor.cls (yX9_holdsFor.name == "<init>") (some .boolean) 5 cX9_holdsFor b.2 b.1 = true := by decide +kernel
theorem w_X9_holdsFor : j_wI (m_X9_holdsFor.flatMap (fun b => j_wdL yX9_holdsFor.cls b.2)) [1493, 1491, 1492, 1492, 1492, 2062, 96, 2059, 2061, 81, 1492, 1492, 1492, 2065, 96, 2063, 2064, 1492] = true := by decide +kernel
theorem g_X9_holdsFor : j_good i_X9_holdsFor m_X9_holdsFor := ⟨by decide +kernel, c_X9_holdsFor, fun b hb w hw => j_wI_in w_X9_holdsFor w (List.mem_flatMap.mpr ⟨b, hb, hw⟩)⟩
abbrev i_X9_query : j_Mi := (yX9_query, cX9_query, 5, (some .int), 11)
theorem c_X9_query : ∀ b ∈ m_X9_query, j_ckL yX9_query.cls (yX9_query.name == "<init>") (some .int) 5 cX9_query b.2 b.1 = true := by decide +kernel
theorem w_X9_query : j_wI (m_X9_query.flatMap (fun b => j_wdL yX9_query.cls b.2)) [1475, 1480, 1773, 543, 87, 544, 1594, 96, 1592, 1593, 1598, 96, 1595, 1597, 5, 1493, 1925, 96, 1922, 1924, 52, 1949, 96, 1946, 1948, 58, 1949, 96, 1946, 1948, 58, 1957, 96, 1954, 1956, 60, 1965, 96, 1962, 1964, 62, 2029, 96, 2026, 2028, 74, 1485, 1484, 1957, 96, 1954, 1956, 60, 2019, 96, 2016, 2018, 73, 2054, 1485, 1465, 2058, 96, 2055, 2057, 80] = true := by decide +kernel
theorem g_X9_query : j_good i_X9_query m_X9_query := ⟨by decide +kernel, c_X9_query, fun b hb w hw => j_wI_in w_X9_query w (List.mem_flatMap.mpr ⟨b, hb, hw⟩)⟩
