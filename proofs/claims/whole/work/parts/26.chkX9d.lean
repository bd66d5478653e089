/-! ===== checks: 26.chkX9d ===== -/
abbrev i_X9_forecast : j_Mi := (yX9_forecast, cX9_forecast, 4, (some .int), 11)
theorem c_X9_forecast : ∀ b ∈ m_X9_forecast, j_ckL yX9_forecast.cls (yX9_forecast.name == "<init>") (some .int) 4 cX9_forecast b.2 b.1 = true := by decide +kernel
theorem w_X9_forecast : j_wI (m_X9_forecast.flatMap (fun b => j_wdL yX9_forecast.cls b.2)) [1852, 96, 1849, 1851, 46, 1856, 96, 1853, 1855, 47, 1860, 96, 1857, 1859, 48, 1864, 96, 1861, 1863, 49] = true := by decide +kernel
theorem g_X9_forecast : j_good i_X9_forecast m_X9_forecast := ⟨by decide +kernel, c_X9_forecast, fun b hb w hw => j_wI_in w_X9_forecast w (List.mem_flatMap.mpr ⟨b, hb, hw⟩)⟩
abbrev i_X9_weightFor : j_Mi := (yX9_weightFor, cX9_weightFor, 5, (some .int), 11)
theorem c_X9_weightFor : ∀ b ∈ m_X9_weightFor, j_ckL yX9_weightFor.cls (yX9_weightFor.name == "<init>") (some .int) 5 cX9_weightFor b.2 b.1 = true := by decide +kernel
theorem w_X9_weightFor : j_wI (m_X9_weightFor.flatMap (fun b => j_wdL yX9_weightFor.cls b.2)) [1852, 96, 1849, 1851, 46, 1856, 96, 1853, 1855, 47, 1465, 1630, 96, 1627, 1629, 12, 1860, 96, 1857, 1859, 48, 1864, 96, 1861, 1863, 49] = true := by decide +kernel
theorem g_X9_weightFor : j_good i_X9_weightFor m_X9_weightFor := ⟨by decide +kernel, c_X9_weightFor, fun b hb w hw => j_wI_in w_X9_weightFor w (List.mem_flatMap.mpr ⟨b, hb, hw⟩)⟩
abbrev i_X9_copy : j_Mi := (yX9_copy, cX9_copy, 5, none, 99)
theorem c_X9_copy : ∀ b ∈ m_X9_copy, j_ckL yX9_copy.cls (yX9_copy.name == "<init>") none 5 cX9_copy b.2 b.1 = true := by decide +kernel
theorem w_X9_copy : j_wI (m_X9_copy.flatMap (fun b => j_wdL yX9_copy.cls b.2)) [] = true := by decide +kernel
theorem g_X9_copy : j_good i_X9_copy m_X9_copy := ⟨by decide +kernel, c_X9_copy, fun b hb w hw => j_wI_in w_X9_copy w (List.mem_flatMap.mpr ⟨b, hb, hw⟩)⟩
abbrev i_X9_copyTimes : j_Mi := (yX9_copyTimes, cX9_copyTimes, 5, none, 99)
theorem c_X9_copyTimes : ∀ b ∈ m_X9_copyTimes, j_ckL yX9_copyTimes.cls (yX9_copyTimes.name == "<init>") none 5 cX9_copyTimes b.2 b.1 = true := by decide +kernel
theorem w_X9_copyTimes : j_wI (m_X9_copyTimes.flatMap (fun b => j_wdL yX9_copyTimes.cls b.2)) [] = true := by decide +kernel
theorem g_X9_copyTimes : j_good i_X9_copyTimes m_X9_copyTimes := ⟨by decide +kernel, c_X9_copyTimes, fun b hb w hw => j_wI_in w_X9_copyTimes w (List.mem_flatMap.mpr ⟨b, hb, hw⟩)⟩
abbrev i_X9_remember : j_Mi := (yX9_remember, cX9_remember, 2, none, 11)
theorem c_X9_remember : ∀ b ∈ m_X9_remember, j_ckL yX9_remember.cls (yX9_remember.name == "<init>") none 2 cX9_remember b.2 b.1 = true := by decide +kernel
theorem w_X9_remember : j_wI (m_X9_remember.flatMap (fun b => j_wdL yX9_remember.cls b.2)) [1474, 1469, 1469, 1705, 96, 1703, 1704, 1473, 1473, 1708, 96, 1706, 1707, 1474, 1474, 1465, 1469, 1474, 1705, 96, 1703, 1704, 1470, 1473, 1474, 1708, 96, 1706, 1707, 1474, 1474] = true := by decide +kernel
theorem g_X9_remember : j_good i_X9_remember m_X9_remember := ⟨by decide +kernel, c_X9_remember, fun b hb w hw => j_wI_in w_X9_remember w (List.mem_flatMap.mpr ⟨b, hb, hw⟩)⟩
abbrev i_X9_undoCount : j_Mi := (yX9_undoCount, cX9_undoCount, 1, (some .int), 11)
theorem c_X9_undoCount : ∀ b ∈ m_X9_undoCount, j_ckL yX9_undoCount.cls (yX9_undoCount.name == "<init>") (some .int) 1 cX9_undoCount b.2 b.1 = true := by decide +kernel
theorem w_X9_undoCount : j_wI (m_X9_undoCount.flatMap (fun b => j_wdL yX9_undoCount.cls b.2)) [1475, 1474] = true := by decide +kernel
theorem g_X9_undoCount : j_good i_X9_undoCount m_X9_undoCount := ⟨by decide +kernel, c_X9_undoCount, fun b hb w hw => j_wI_in w_X9_undoCount w (List.mem_flatMap.mpr ⟨b, hb, hw⟩)⟩
abbrev i_X9_undo : j_Mi := (yX9_undo, cX9_undo, 1, (some .int), 11)
theorem c_X9_undo : ∀ b ∈ m_X9_undo, j_ckL yX9_undo.cls (yX9_undo.name == "<init>") (some .int) 1 cX9_undo b.2 b.1 = true := by decide +kernel
theorem w_X9_undo : j_wI (m_X9_undo.flatMap (fun b => j_wdL yX9_undo.cls b.2)) [1475, 1474, 1474, 1474, 1469, 1474, 1465, 1705, 96, 1703, 1704, 1473, 1474, 1470, 1708, 96, 1706, 1707, 1474] = true := by decide +kernel
theorem g_X9_undo : j_good i_X9_undo m_X9_undo := ⟨by decide +kernel, c_X9_undo, fun b hb w hw => j_wI_in w_X9_undo w (List.mem_flatMap.mpr ⟨b, hb, hw⟩)⟩
abbrev i_X9_saveSnapshot : j_Mi := (yX9_saveSnapshot, cX9_saveSnapshot, 1, none, 11)
theorem c_X9_saveSnapshot : ∀ b ∈ m_X9_saveSnapshot, j_ckL yX9_saveSnapshot.cls (yX9_saveSnapshot.name == "<init>") none 1 cX9_saveSnapshot b.2 b.1 = true := by decide +kernel
theorem w_X9_saveSnapshot : j_wI (m_X9_saveSnapshot.flatMap (fun b => j_wdL yX9_saveSnapshot.cls b.2)) [1475, 1465, 1468, 1705, 96, 1703, 1704, 1470, 1472, 1708, 96, 1706, 1707, 1476] = true := by decide +kernel
theorem g_X9_saveSnapshot : j_good i_X9_saveSnapshot m_X9_saveSnapshot := ⟨by decide +kernel, c_X9_saveSnapshot, fun b hb w hw => j_wI_in w_X9_saveSnapshot w (List.mem_flatMap.mpr ⟨b, hb, hw⟩)⟩
abbrev i_X9_restoreSnapshot : j_Mi := (yX9_restoreSnapshot, cX9_restoreSnapshot, 1, (some .boolean), 11)
theorem c_X9_restoreSnapshot : ∀ b ∈ m_X9_restoreSnapshot, j_ckL yX9_restoreSnapshot.cls (yX9_restoreSnapshot.name == "<init>") (some .boolean) 1 cX9_restoreSnapshot b.2 b.1 = true := by decide +kernel
theorem w_X9_restoreSnapshot : j_wI (m_X9_restoreSnapshot.flatMap (fun b => j_wdL yX9_restoreSnapshot.cls b.2)) [1475, 1476, 1468, 1465, 1705, 96, 1703, 1704, 1472, 1470, 1708, 96, 1706, 1707, 1474] = true := by decide +kernel
theorem g_X9_restoreSnapshot : j_good i_X9_restoreSnapshot m_X9_restoreSnapshot := ⟨by decide +kernel, c_X9_restoreSnapshot, fun b hb w hw => j_wI_in w_X9_restoreSnapshot w (List.mem_flatMap.mpr ⟨b, hb, hw⟩)⟩
abbrev i_X9_write : j_Mi := (yX9_write, cX9_write, 3, none, 11)
theorem c_X9_write : ∀ b ∈ m_X9_write, j_ckL yX9_write.cls (yX9_write.name == "<init>") none 3 cX9_write b.2 b.1 = true := by decide +kernel
theorem w_X9_write : j_wI (m_X9_write.flatMap (fun b => j_wdL yX9_write.cls b.2)) [722, 94, 1894, 720, 721, 1477, 1478, 735, 94, 1895, 733, 734, 1478, 1478] = true := by decide +kernel
theorem g_X9_write : j_good i_X9_write m_X9_write := ⟨by decide +kernel, c_X9_write, fun b hb w hw => j_wI_in w_X9_write w (List.mem_flatMap.mpr ⟨b, hb, hw⟩)⟩
abbrev i_X9_writeNumber : j_Mi := (yX9_writeNumber, cX9_writeNumber, 2, none, 11)
theorem c_X9_writeNumber : ∀ b ∈ m_X9_writeNumber, j_ckL yX9_writeNumber.cls (yX9_writeNumber.name == "<init>") none 2 cX9_writeNumber b.2 b.1 = true := by decide +kernel
theorem w_X9_writeNumber : j_wI (m_X9_writeNumber.flatMap (fun b => j_wdL yX9_writeNumber.cls b.2)) [1899, 96, 1896, 1898, 51, 1477, 1478, 1478, 1478] = true := by decide +kernel
theorem g_X9_writeNumber : j_good i_X9_writeNumber m_X9_writeNumber := ⟨by decide +kernel, c_X9_writeNumber, fun b hb w hw => j_wI_in w_X9_writeNumber w (List.mem_flatMap.mpr ⟨b, hb, hw⟩)⟩
abbrev i_X9_format : j_Mi := (yX9_format, cX9_format, 3, (some .int), 11)
theorem c_X9_format : ∀ b ∈ m_X9_format, j_ckL yX9_format.cls (yX9_format.name == "<init>") (some .int) 3 cX9_format b.2 b.1 = true := by decide +kernel
theorem w_X9_format : j_wI (m_X9_format.flatMap (fun b => j_wdL yX9_format.cls b.2)) [1475, 1678, 96, 1675, 1677, 19, 1598, 96, 1595, 1597, 5, 1478, 1893, 96, 1890, 1892, 50, 1899, 96, 1896, 1898, 51, 1893, 96, 1890, 1892, 50, 1630, 96, 1627, 1629, 12, 1899, 96, 1896, 1898, 51, 1893, 96, 1890, 1892, 50, 1630, 96, 1627, 1629, 12, 1899, 96, 1896, 1898, 51, 1630, 96, 1627, 1629, 12, 1893, 96, 1890, 1892, 50, 1630, 96, 1627, 1629, 12, 1899, 96, 1896, 1898, 51, 1478] = true := by decide +kernel
theorem g_X9_format : j_good i_X9_format m_X9_format := ⟨by decide +kernel, c_X9_format, fun b hb w hw => j_wI_in w_X9_format w (List.mem_flatMap.mpr ⟨b, hb, hw⟩)⟩
abbrev i_X9_formattedByte : j_Mi := (yX9_formattedByte, cX9_formattedByte, 2, (some .int), 11)
theorem c_X9_formattedByte : ∀ b ∈ m_X9_formattedByte, j_ckL yX9_formattedByte.cls (yX9_formattedByte.name == "<init>") (some .int) 2 cX9_formattedByte b.2 b.1 = true := by decide +kernel
theorem w_X9_formattedByte : j_wI (m_X9_formattedByte.flatMap (fun b => j_wdL yX9_formattedByte.cls b.2)) [1475, 1478, 1594, 96, 1592, 1593, 1477] = true := by decide +kernel
theorem g_X9_formattedByte : j_good i_X9_formattedByte m_X9_formattedByte := ⟨by decide +kernel, c_X9_formattedByte, fun b hb w hw => j_wI_in w_X9_formattedByte w (List.mem_flatMap.mpr ⟨b, hb, hw⟩)⟩
abbrev i_X9_feed : j_Mi := (yX9_feed, cX9_feed, 8, (some .int), 11)
theorem c_X9_feed : ∀ b ∈ m_X9_feed, j_ckL yX9_feed.cls (yX9_feed.name == "<init>") (some .int) 8 cX9_feed b.2 b.1 = true := by decide +kernel
theorem w_X9_feed : j_wI (m_X9_feed.flatMap (fun b => j_wdL yX9_feed.cls b.2)) [1475, 1480, 1479, 1480, 1480, 1480, 1480] = true := by decide +kernel
theorem g_X9_feed : j_good i_X9_feed m_X9_feed := ⟨by decide +kernel, c_X9_feed, fun b hb w hw => j_wI_in w_X9_feed w (List.mem_flatMap.mpr ⟨b, hb, hw⟩)⟩
abbrev i_X9_errorPosition : j_Mi := (yX9_errorPosition, cX9_errorPosition, 1, (some .int), 11)
theorem c_X9_errorPosition : ∀ b ∈ m_X9_errorPosition, j_ckL yX9_errorPosition.cls (yX9_errorPosition.name == "<init>") (some .int) 1 cX9_errorPosition b.2 b.1 = true := by decide +kernel
theorem w_X9_errorPosition : j_wI (m_X9_errorPosition.flatMap (fun b => j_wdL yX9_errorPosition.cls b.2)) [1475, 1487] = true := by decide +kernel
theorem g_X9_errorPosition : j_good i_X9_errorPosition m_X9_errorPosition := ⟨by decide +kernel, c_X9_errorPosition, fun b hb w hw => j_wI_in w_X9_errorPosition w (List.mem_flatMap.mpr ⟨b, hb, hw⟩)⟩
abbrev i_X9_byteAt : j_Mi := (yX9_byteAt, cX9_byteAt, 2, (some .int), 11)
theorem c_X9_byteAt : ∀ b ∈ m_X9_byteAt, j_ckL yX9_byteAt.cls (yX9_byteAt.name == "<init>") (some .int) 2 cX9_byteAt b.2 b.1 = true := by decide +kernel
theorem w_X9_byteAt : j_wI (m_X9_byteAt.flatMap (fun b => j_wdL yX9_byteAt.cls b.2)) [1481, 1479] = true := by decide +kernel
theorem g_X9_byteAt : j_good i_X9_byteAt m_X9_byteAt := ⟨by decide +kernel, c_X9_byteAt, fun b hb w hw => j_wI_in w_X9_byteAt w (List.mem_flatMap.mpr ⟨b, hb, hw⟩)⟩
abbrev i_X9_isLetter : j_Mi := (yX9_isLetter, cX9_isLetter, 2, (some .boolean), 11)
theorem c_X9_isLetter : ∀ b ∈ m_X9_isLetter, j_ckL yX9_isLetter.cls (yX9_isLetter.name == "<init>") (some .boolean) 2 cX9_isLetter b.2 b.1 = true := by decide +kernel
theorem w_X9_isLetter : j_wI (m_X9_isLetter.flatMap (fun b => j_wdL yX9_isLetter.cls b.2)) [1933, 96, 1930, 1932, 54, 1933, 96, 1930, 1932, 54] = true := by decide +kernel
theorem g_X9_isLetter : j_good i_X9_isLetter m_X9_isLetter := ⟨by decide +kernel, c_X9_isLetter, fun b hb w hw => j_wI_in w_X9_isLetter w (List.mem_flatMap.mpr ⟨b, hb, hw⟩)⟩
abbrev i_X9_isDigit : j_Mi := (yX9_isDigit, cX9_isDigit, 2, (some .boolean), 11)
theorem c_X9_isDigit : ∀ b ∈ m_X9_isDigit, j_ckL yX9_isDigit.cls (yX9_isDigit.name == "<init>") (some .boolean) 2 cX9_isDigit b.2 b.1 = true := by decide +kernel
theorem w_X9_isDigit : j_wI (m_X9_isDigit.flatMap (fun b => j_wdL yX9_isDigit.cls b.2)) [1933, 96, 1930, 1932, 54, 1933, 96, 1930, 1932, 54] = true := by decide +kernel
theorem g_X9_isDigit : j_good i_X9_isDigit m_X9_isDigit := ⟨by decide +kernel, c_X9_isDigit, fun b hb w hw => j_wI_in w_X9_isDigit w (List.mem_flatMap.mpr ⟨b, hb, hw⟩)⟩
abbrev i_X9_scan : j_Mi := (yX9_scan, cX9_scan, 1, none, 11)
theorem c_X9_scan : ∀ b ∈ m_X9_scan, j_ckL yX9_scan.cls (yX9_scan.name == "<init>") none 1 cX9_scan b.2 b.1 = true := by decide +kernel
theorem w_X9_scan : j_wI (m_X9_scan.flatMap (fun b => j_wdL yX9_scan.cls b.2)) [1482, 1933, 96, 1930, 1932, 54, 1482, 1933, 96, 1930, 1932, 54, 1482, 1482, 1482, 1483, 1482, 1481, 1484, 1482, 1937, 96, 1934, 1936, 55, 1482, 1937, 96, 1934, 1936, 55, 1482, 1482, 1484, 1482, 1941, 96, 1938, 1940, 56, 1482, 1941, 96, 1938, 1940, 56, 1482, 1482, 1484, 1482, 1482, 1484] = true := by decide +kernel
theorem g_X9_scan : j_good i_X9_scan m_X9_scan := ⟨by decide +kernel, c_X9_scan, fun b hb w hw => j_wI_in w_X9_scan w (List.mem_flatMap.mpr ⟨b, hb, hw⟩)⟩
abbrev i_X9_startText : j_Mi := (yX9_startText, cX9_startText, 2, none, 11)
theorem c_X9_startText : ∀ b ∈ m_X9_startText, j_ckL yX9_startText.cls (yX9_startText.name == "<init>") none 2 cX9_startText b.2 b.1 = true := by decide +kernel
theorem w_X9_startText : j_wI (m_X9_startText.flatMap (fun b => j_wdL yX9_startText.cls b.2)) [1481, 1482, 1485, 1488, 1929, 96, 1926, 1928, 53] = true := by decide +kernel
theorem g_X9_startText : j_good i_X9_startText m_X9_startText := ⟨by decide +kernel, c_X9_startText, fun b hb w hw => j_wI_in w_X9_startText w (List.mem_flatMap.mpr ⟨b, hb, hw⟩)⟩
abbrev i_X9_finish : j_Mi := (yX9_finish, cX9_finish, 1, (some .int), 11)
theorem c_X9_finish : ∀ b ∈ m_X9_finish, j_ckL yX9_finish.cls (yX9_finish.name == "<init>") (some .int) 1 cX9_finish b.2 b.1 = true := by decide +kernel
theorem w_X9_finish : j_wI (m_X9_finish.flatMap (fun b => j_wdL yX9_finish.cls b.2)) [1480, 1485, 1486, 1487, 1485] = true := by decide +kernel
theorem g_X9_finish : j_good i_X9_finish m_X9_finish := ⟨by decide +kernel, c_X9_finish, fun b hb w hw => j_wI_in w_X9_finish w (List.mem_flatMap.mpr ⟨b, hb, hw⟩)⟩
abbrev i_X9_fail : j_Mi := (yX9_fail, cX9_fail, 2, none, 11)
theorem c_X9_fail : ∀ b ∈ m_X9_fail, j_ckL yX9_fail.cls (yX9_fail.name == "<init>") none 2 cX9_fail b.2 b.1 = true := by decide +kernel
theorem w_X9_fail : j_wI (m_X9_fail.flatMap (fun b => j_wdL yX9_fail.cls b.2)) [1485, 1485, 1483, 1486] = true := by decide +kernel
theorem g_X9_fail : j_good i_X9_fail m_X9_fail := ⟨by decide +kernel, c_X9_fail, fun b hb w hw => j_wI_in w_X9_fail w (List.mem_flatMap.mpr ⟨b, hb, hw⟩)⟩
abbrev i_X9_check : j_Mi := (yX9_check, cX9_check, 3, none, 11)
theorem c_X9_check : ∀ b ∈ m_X9_check, j_ckL yX9_check.cls (yX9_check.name == "<init>") none 3 cX9_check b.2 b.1 = true := by decide +kernel
theorem w_X9_check : j_wI (m_X9_check.flatMap (fun b => j_wdL yX9_check.cls b.2)) [1961, 96, 1958, 1960, 61] = true := by decide +kernel
theorem g_X9_check : j_good i_X9_check m_X9_check := ⟨by decide +kernel, c_X9_check, fun b hb w hw => j_wI_in w_X9_check w (List.mem_flatMap.mpr ⟨b, hb, hw⟩)⟩
abbrev i_X9_advance : j_Mi := (yX9_advance, cX9_advance, 1, none, 11)
theorem c_X9_advance : ∀ b ∈ m_X9_advance, j_ckL yX9_advance.cls (yX9_advance.name == "<init>") none 1 cX9_advance b.2 b.1 = true := by decide +kernel
theorem w_X9_advance : j_wI (m_X9_advance.flatMap (fun b => j_wdL yX9_advance.cls b.2)) [1485, 1929, 96, 1926, 1928, 53] = true := by decide +kernel
theorem g_X9_advance : j_good i_X9_advance m_X9_advance := ⟨by decide +kernel, c_X9_advance, fun b hb w hw => j_wI_in w_X9_advance w (List.mem_flatMap.mpr ⟨b, hb, hw⟩)⟩
abbrev i_X9_isSymbol : j_Mi := (yX9_isSymbol, cX9_isSymbol, 2, (some .boolean), 11)
theorem c_X9_isSymbol : ∀ b ∈ m_X9_isSymbol, j_ckL yX9_isSymbol.cls (yX9_isSymbol.name == "<init>") (some .boolean) 2 cX9_isSymbol b.2 b.1 = true := by decide +kernel
theorem w_X9_isSymbol : j_wI (m_X9_isSymbol.flatMap (fun b => j_wdL yX9_isSymbol.cls b.2)) [1485, 1484, 1479, 1483] = true := by decide +kernel
theorem g_X9_isSymbol : j_good i_X9_isSymbol m_X9_isSymbol := ⟨by decide +kernel, c_X9_isSymbol, fun b hb w hw => j_wI_in w_X9_isSymbol w (List.mem_flatMap.mpr ⟨b, hb, hw⟩)⟩
