/-! ===== checks: 26.chkX9a ===== -/
abbrev i_X9_init : j_Mi := (yX9_init, cX9_init, 1, none, 11)
theorem c_X9_init : ∀ b ∈ m_X9_init, j_ckL yX9_init.cls (yX9_init.name == "<init>") none 1 cX9_init b.2 b.1 = true := by decide +kernel
theorem w_X9_init : j_wI (m_X9_init.flatMap (fun b => j_wdL yX9_init.cls b.2)) [1449, 116, 117, 177, 1465, 177, 1466, 177, 1467, 177, 1468, 1450, 177, 1469, 238, 1470, 238, 1471, 238, 1472, 238, 1473, 177, 1477, 177, 1479, 1487, 1451, 1489, 177, 1490, 177, 1491, 177, 1492, 1465, 1464, 96, 1462, 1463] = true := by decide +kernel
theorem g_X9_init : j_good i_X9_init m_X9_init := ⟨by decide +kernel, c_X9_init, fun b hb w hw => j_wI_in w_X9_init w (List.mem_flatMap.mpr ⟨b, hb, hw⟩)⟩
abbrev i_X9_thrown : j_Mi := (yX9_thrown, cX9_thrown, 1, (some .int), 11)
theorem c_X9_thrown : ∀ b ∈ m_X9_thrown, j_ckL yX9_thrown.cls (yX9_thrown.name == "<init>") (some .int) 1 cX9_thrown b.2 b.1 = true := by decide +kernel
theorem w_X9_thrown : j_wI (m_X9_thrown.flatMap (fun b => j_wdL yX9_thrown.cls b.2)) [1475] = true := by decide +kernel
theorem g_X9_thrown : j_good i_X9_thrown m_X9_thrown := ⟨by decide +kernel, c_X9_thrown, fun b hb w hw => j_wI_in w_X9_thrown w (List.mem_flatMap.mpr ⟨b, hb, hw⟩)⟩
abbrev i_X9_raise : j_Mi := (yX9_raise, cX9_raise, 2, (some .int), 11)
theorem c_X9_raise : ∀ b ∈ m_X9_raise, j_ckL yX9_raise.cls (yX9_raise.name == "<init>") (some .int) 2 cX9_raise b.2 b.1 = true := by decide +kernel
theorem w_X9_raise : j_wI (m_X9_raise.flatMap (fun b => j_wdL yX9_raise.cls b.2)) [1475] = true := by decide +kernel
theorem g_X9_raise : j_good i_X9_raise m_X9_raise := ⟨by decide +kernel, c_X9_raise, fun b hb w hw => j_wI_in w_X9_raise w (List.mem_flatMap.mpr ⟨b, hb, hw⟩)⟩
abbrev i_X9_inRange : j_Mi := (yX9_inRange, cX9_inRange, 3, (some .boolean), 99)
theorem c_X9_inRange : ∀ b ∈ m_X9_inRange, j_ckL yX9_inRange.cls (yX9_inRange.name == "<init>") (some .boolean) 3 cX9_inRange b.2 b.1 = true := by decide +kernel
theorem w_X9_inRange : j_wI (m_X9_inRange.flatMap (fun b => j_wdL yX9_inRange.cls b.2)) [] = true := by decide +kernel
theorem g_X9_inRange : j_good i_X9_inRange m_X9_inRange := ⟨by decide +kernel, c_X9_inRange, fun b hb w hw => j_wI_in w_X9_inRange w (List.mem_flatMap.mpr ⟨b, hb, hw⟩)⟩
abbrev i_X9_clear : j_Mi := (yX9_clear, cX9_clear, 2, none, 99)
theorem c_X9_clear : ∀ b ∈ m_X9_clear, j_ckL yX9_clear.cls (yX9_clear.name == "<init>") none 2 cX9_clear b.2 b.1 = true := by decide +kernel
theorem w_X9_clear : j_wI (m_X9_clear.flatMap (fun b => j_wdL yX9_clear.cls b.2)) [] = true := by decide +kernel
theorem g_X9_clear : j_good i_X9_clear m_X9_clear := ⟨by decide +kernel, c_X9_clear, fun b hb w hw => j_wI_in w_X9_clear w (List.mem_flatMap.mpr ⟨b, hb, hw⟩)⟩
abbrev i_X9_ofFlow : j_Mi := (yX9_ofFlow, cX9_ofFlow, 3, (some .int), 11)
theorem c_X9_ofFlow : ∀ b ∈ m_X9_ofFlow, j_ckL yX9_ofFlow.cls (yX9_ofFlow.name == "<init>") (some .int) 3 cX9_ofFlow b.2 b.1 = true := by decide +kernel
theorem w_X9_ofFlow : j_wI (m_X9_ofFlow.flatMap (fun b => j_wdL yX9_ofFlow.cls b.2)) [1465] = true := by decide +kernel
theorem g_X9_ofFlow : j_good i_X9_ofFlow m_X9_ofFlow := ⟨by decide +kernel, c_X9_ofFlow, fun b hb w hw => j_wI_in w_X9_ofFlow w (List.mem_flatMap.mpr ⟨b, hb, hw⟩)⟩
abbrev i_X9_addToFlow : j_Mi := (yX9_addToFlow, cX9_addToFlow, 4, none, 11)
theorem c_X9_addToFlow : ∀ b ∈ m_X9_addToFlow, j_ckL yX9_addToFlow.cls (yX9_addToFlow.name == "<init>") none 4 cX9_addToFlow b.2 b.1 = true := by decide +kernel
theorem w_X9_addToFlow : j_wI (m_X9_addToFlow.flatMap (fun b => j_wdL yX9_addToFlow.cls b.2)) [1465] = true := by decide +kernel
theorem g_X9_addToFlow : j_good i_X9_addToFlow m_X9_addToFlow := ⟨by decide +kernel, c_X9_addToFlow, fun b hb w hw => j_wI_in w_X9_addToFlow w (List.mem_flatMap.mpr ⟨b, hb, hw⟩)⟩
abbrev i_X9_ofPacket : j_Mi := (yX9_ofPacket, cX9_ofPacket, 3, (some .int), 11)
theorem c_X9_ofPacket : ∀ b ∈ m_X9_ofPacket, j_ckL yX9_ofPacket.cls (yX9_ofPacket.name == "<init>") (some .int) 3 cX9_ofPacket b.2 b.1 = true := by decide +kernel
theorem w_X9_ofPacket : j_wI (m_X9_ofPacket.flatMap (fun b => j_wdL yX9_ofPacket.cls b.2)) [1465] = true := by decide +kernel
theorem g_X9_ofPacket : j_good i_X9_ofPacket m_X9_ofPacket := ⟨by decide +kernel, c_X9_ofPacket, fun b hb w hw => j_wI_in w_X9_ofPacket w (List.mem_flatMap.mpr ⟨b, hb, hw⟩)⟩
abbrev i_X9_putPacket : j_Mi := (yX9_putPacket, cX9_putPacket, 4, none, 11)
theorem c_X9_putPacket : ∀ b ∈ m_X9_putPacket, j_ckL yX9_putPacket.cls (yX9_putPacket.name == "<init>") none 4 cX9_putPacket b.2 b.1 = true := by decide +kernel
theorem w_X9_putPacket : j_wI (m_X9_putPacket.flatMap (fun b => j_wdL yX9_putPacket.cls b.2)) [1465] = true := by decide +kernel
theorem g_X9_putPacket : j_good i_X9_putPacket m_X9_putPacket := ⟨by decide +kernel, c_X9_putPacket, fun b hb w hw => j_wI_in w_X9_putPacket w (List.mem_flatMap.mpr ⟨b, hb, hw⟩)⟩
abbrev i_X9_ofSending : j_Mi := (yX9_ofSending, cX9_ofSending, 3, (some .int), 11)
theorem c_X9_ofSending : ∀ b ∈ m_X9_ofSending, j_ckL yX9_ofSending.cls (yX9_ofSending.name == "<init>") (some .int) 3 cX9_ofSending b.2 b.1 = true := by decide +kernel
theorem w_X9_ofSending : j_wI (m_X9_ofSending.flatMap (fun b => j_wdL yX9_ofSending.cls b.2)) [1465] = true := by decide +kernel
theorem g_X9_ofSending : j_good i_X9_ofSending m_X9_ofSending := ⟨by decide +kernel, c_X9_ofSending, fun b hb w hw => j_wI_in w_X9_ofSending w (List.mem_flatMap.mpr ⟨b, hb, hw⟩)⟩
abbrev i_X9_putSending : j_Mi := (yX9_putSending, cX9_putSending, 4, none, 11)
theorem c_X9_putSending : ∀ b ∈ m_X9_putSending, j_ckL yX9_putSending.cls (yX9_putSending.name == "<init>") none 4 cX9_putSending b.2 b.1 = true := by decide +kernel
theorem w_X9_putSending : j_wI (m_X9_putSending.flatMap (fun b => j_wdL yX9_putSending.cls b.2)) [1465] = true := by decide +kernel
theorem g_X9_putSending : j_good i_X9_putSending m_X9_putSending := ⟨by decide +kernel, c_X9_putSending, fun b hb w hw => j_wI_in w_X9_putSending w (List.mem_flatMap.mpr ⟨b, hb, hw⟩)⟩
abbrev i_X9_flowOfSending : j_Mi := (yX9_flowOfSending, cX9_flowOfSending, 2, (some .int), 11)
theorem c_X9_flowOfSending : ∀ b ∈ m_X9_flowOfSending, j_ckL yX9_flowOfSending.cls (yX9_flowOfSending.name == "<init>") (some .int) 2 cX9_flowOfSending b.2 b.1 = true := by decide +kernel
theorem w_X9_flowOfSending : j_wI (m_X9_flowOfSending.flatMap (fun b => j_wdL yX9_flowOfSending.cls b.2)) [1654, 96, 1651, 1653, 16, 1630, 96, 1627, 1629, 12] = true := by decide +kernel
theorem g_X9_flowOfSending : j_good i_X9_flowOfSending m_X9_flowOfSending := ⟨by decide +kernel, c_X9_flowOfSending, fun b hb w hw => j_wI_in w_X9_flowOfSending w (List.mem_flatMap.mpr ⟨b, hb, hw⟩)⟩
abbrev i_X9_isFlow : j_Mi := (yX9_isFlow, cX9_isFlow, 2, (some .boolean), 11)
theorem c_X9_isFlow : ∀ b ∈ m_X9_isFlow, j_ckL yX9_isFlow.cls (yX9_isFlow.name == "<init>") (some .boolean) 2 cX9_isFlow b.2 b.1 = true := by decide +kernel
theorem w_X9_isFlow : j_wI (m_X9_isFlow.flatMap (fun b => j_wdL yX9_isFlow.cls b.2)) [1465, 1594, 96, 1592, 1593] = true := by decide +kernel
theorem g_X9_isFlow : j_good i_X9_isFlow m_X9_isFlow := ⟨by decide +kernel, c_X9_isFlow, fun b hb w hw => j_wI_in w_X9_isFlow w (List.mem_flatMap.mpr ⟨b, hb, hw⟩)⟩
abbrev i_X9_isPacket : j_Mi := (yX9_isPacket, cX9_isPacket, 2, (some .boolean), 11)
theorem c_X9_isPacket : ∀ b ∈ m_X9_isPacket, j_ckL yX9_isPacket.cls (yX9_isPacket.name == "<init>") (some .boolean) 2 cX9_isPacket b.2 b.1 = true := by decide +kernel
theorem w_X9_isPacket : j_wI (m_X9_isPacket.flatMap (fun b => j_wdL yX9_isPacket.cls b.2)) [1465, 1594, 96, 1592, 1593] = true := by decide +kernel
theorem g_X9_isPacket : j_good i_X9_isPacket m_X9_isPacket := ⟨by decide +kernel, c_X9_isPacket, fun b hb w hw => j_wI_in w_X9_isPacket w (List.mem_flatMap.mpr ⟨b, hb, hw⟩)⟩
abbrev i_X9_isByte : j_Mi := (yX9_isByte, cX9_isByte, 1, (some .boolean), 99)
theorem c_X9_isByte : ∀ b ∈ m_X9_isByte, j_ckL yX9_isByte.cls (yX9_isByte.name == "<init>") (some .boolean) 1 cX9_isByte b.2 b.1 = true := by decide +kernel
theorem w_X9_isByte : j_wI (m_X9_isByte.flatMap (fun b => j_wdL yX9_isByte.cls b.2)) [1594, 96, 1592, 1593] = true := by decide +kernel
theorem g_X9_isByte : j_good i_X9_isByte m_X9_isByte := ⟨by decide +kernel, c_X9_isByte, fun b hb w hw => j_wI_in w_X9_isByte w (List.mem_flatMap.mpr ⟨b, hb, hw⟩)⟩
abbrev i_X9_tell : j_Mi := (yX9_tell, cX9_tell, 2, (some .int), 11)
theorem c_X9_tell : ∀ b ∈ m_X9_tell, j_ckL yX9_tell.cls (yX9_tell.name == "<init>") (some .int) 2 cX9_tell b.2 b.1 = true := by decide +kernel
theorem w_X9_tell : j_wI (m_X9_tell.flatMap (fun b => j_wdL yX9_tell.cls b.2)) [1475, 1465] = true := by decide +kernel
theorem g_X9_tell : j_good i_X9_tell m_X9_tell := ⟨by decide +kernel, c_X9_tell, fun b hb w hw => j_wI_in w_X9_tell w (List.mem_flatMap.mpr ⟨b, hb, hw⟩)⟩
abbrev i_X9_flowCount : j_Mi := (yX9_flowCount, cX9_flowCount, 1, (some .int), 11)
theorem c_X9_flowCount : ∀ b ∈ m_X9_flowCount, j_ckL yX9_flowCount.cls (yX9_flowCount.name == "<init>") (some .int) 1 cX9_flowCount b.2 b.1 = true := by decide +kernel
theorem w_X9_flowCount : j_wI (m_X9_flowCount.flatMap (fun b => j_wdL yX9_flowCount.cls b.2)) [1564, 96, 1561, 1563, 4] = true := by decide +kernel
theorem g_X9_flowCount : j_good i_X9_flowCount m_X9_flowCount := ⟨by decide +kernel, c_X9_flowCount, fun b hb w hw => j_wI_in w_X9_flowCount w (List.mem_flatMap.mpr ⟨b, hb, hw⟩)⟩
abbrev i_X9_ruleCount : j_Mi := (yX9_ruleCount, cX9_ruleCount, 1, (some .int), 11)
theorem c_X9_ruleCount : ∀ b ∈ m_X9_ruleCount, j_ckL yX9_ruleCount.cls (yX9_ruleCount.name == "<init>") (some .int) 1 cX9_ruleCount b.2 b.1 = true := by decide +kernel
theorem w_X9_ruleCount : j_wI (m_X9_ruleCount.flatMap (fun b => j_wdL yX9_ruleCount.cls b.2)) [1564, 96, 1561, 1563, 4] = true := by decide +kernel
theorem g_X9_ruleCount : j_good i_X9_ruleCount m_X9_ruleCount := ⟨by decide +kernel, c_X9_ruleCount, fun b hb w hw => j_wI_in w_X9_ruleCount w (List.mem_flatMap.mpr ⟨b, hb, hw⟩)⟩
abbrev i_X9_packetCount : j_Mi := (yX9_packetCount, cX9_packetCount, 1, (some .int), 11)
theorem c_X9_packetCount : ∀ b ∈ m_X9_packetCount, j_ckL yX9_packetCount.cls (yX9_packetCount.name == "<init>") (some .int) 1 cX9_packetCount b.2 b.1 = true := by decide +kernel
theorem w_X9_packetCount : j_wI (m_X9_packetCount.flatMap (fun b => j_wdL yX9_packetCount.cls b.2)) [1564, 96, 1561, 1563, 4] = true := by decide +kernel
theorem g_X9_packetCount : j_good i_X9_packetCount m_X9_packetCount := ⟨by decide +kernel, c_X9_packetCount, fun b hb w hw => j_wI_in w_X9_packetCount w (List.mem_flatMap.mpr ⟨b, hb, hw⟩)⟩
abbrev i_X9_transmissionCount : j_Mi := (yX9_transmissionCount, cX9_transmissionCount, 1, (some .int), 11)
theorem c_X9_transmissionCount : ∀ b ∈ m_X9_transmissionCount, j_ckL yX9_transmissionCount.cls (yX9_transmissionCount.name == "<init>") (some .int) 1 cX9_transmissionCount b.2 b.1 = true := by decide +kernel
theorem w_X9_transmissionCount : j_wI (m_X9_transmissionCount.flatMap (fun b => j_wdL yX9_transmissionCount.cls b.2)) [1564, 96, 1561, 1563, 4] = true := by decide +kernel
theorem g_X9_transmissionCount : j_good i_X9_transmissionCount m_X9_transmissionCount := ⟨by decide +kernel, c_X9_transmissionCount, fun b hb w hw => j_wI_in w_X9_transmissionCount w (List.mem_flatMap.mpr ⟨b, hb, hw⟩)⟩
abbrev i_X9_clock : j_Mi := (yX9_clock, cX9_clock, 1, (some .int), 11)
theorem c_X9_clock : ∀ b ∈ m_X9_clock, j_ckL yX9_clock.cls (yX9_clock.name == "<init>") (some .int) 1 cX9_clock b.2 b.1 = true := by decide +kernel
theorem w_X9_clock : j_wI (m_X9_clock.flatMap (fun b => j_wdL yX9_clock.cls b.2)) [1564, 96, 1561, 1563, 4] = true := by decide +kernel
theorem g_X9_clock : j_good i_X9_clock m_X9_clock := ⟨by decide +kernel, c_X9_clock, fun b hb w hw => j_wI_in w_X9_clock w (List.mem_flatMap.mpr ⟨b, hb, hw⟩)⟩
abbrev i_X9_credit : j_Mi := (yX9_credit, cX9_credit, 1, (some .int), 11)
theorem c_X9_credit : ∀ b ∈ m_X9_credit, j_ckL yX9_credit.cls (yX9_credit.name == "<init>") (some .int) 1 cX9_credit b.2 b.1 = true := by decide +kernel
theorem w_X9_credit : j_wI (m_X9_credit.flatMap (fun b => j_wdL yX9_credit.cls b.2)) [1564, 96, 1561, 1563, 4] = true := by decide +kernel
theorem g_X9_credit : j_good i_X9_credit m_X9_credit := ⟨by decide +kernel, c_X9_credit, fun b hb w hw => j_wI_in w_X9_credit w (List.mem_flatMap.mpr ⟨b, hb, hw⟩)⟩
abbrev i_X9_matches : j_Mi := (yX9_matches, cX9_matches, 5, (some .boolean), 11)
theorem c_X9_matches : ∀ b ∈ m_X9_matches, j_ckL yX9_matches.cls (yX9_matches.name == "<init>") (some .boolean) 5 cX9_matches b.2 b.1 = true := by decide +kernel
theorem w_X9_matches : j_wI (m_X9_matches.flatMap (fun b => j_wdL yX9_matches.cls b.2)) [1465, 1465, 1594, 96, 1592, 1593] = true := by decide +kernel
theorem g_X9_matches : j_good i_X9_matches m_X9_matches := ⟨by decide +kernel, c_X9_matches, fun b hb w hw => j_wI_in w_X9_matches w (List.mem_flatMap.mpr ⟨b, hb, hw⟩)⟩
abbrev i_X9_flowFor : j_Mi := (yX9_flowFor, cX9_flowFor, 5, (some .int), 11)
theorem c_X9_flowFor : ∀ b ∈ m_X9_flowFor, j_ckL yX9_flowFor.cls (yX9_flowFor.name == "<init>") (some .int) 5 cX9_flowFor b.2 b.1 = true := by decide +kernel
theorem w_X9_flowFor : j_wI (m_X9_flowFor.flatMap (fun b => j_wdL yX9_flowFor.cls b.2)) [1465, 1606, 96, 1603, 1605, 7, 1606, 96, 1603, 1605, 7, 1606, 96, 1603, 1605, 7, 1465, 1465] = true := by decide +kernel
theorem g_X9_flowFor : j_good i_X9_flowFor m_X9_flowFor := ⟨by decide +kernel, c_X9_flowFor, fun b hb w hw => j_wI_in w_X9_flowFor w (List.mem_flatMap.mpr ⟨b, hb, hw⟩)⟩
abbrev i_X9_classify : j_Mi := (yX9_classify, cX9_classify, 4, (some .int), 11)
theorem c_X9_classify : ∀ b ∈ m_X9_classify, j_ckL yX9_classify.cls (yX9_classify.name == "<init>") (some .int) 4 cX9_classify b.2 b.1 = true := by decide +kernel
theorem w_X9_classify : j_wI (m_X9_classify.flatMap (fun b => j_wdL yX9_classify.cls b.2)) [1475, 1591, 96, 1589, 1590, 1591, 96, 1589, 1590, 1591, 96, 1589, 1590, 1598, 96, 1595, 1597, 5, 1602, 96, 1599, 1601, 6] = true := by decide +kernel
theorem g_X9_classify : j_good i_X9_classify m_X9_classify := ⟨by decide +kernel, c_X9_classify, fun b hb w hw => j_wI_in w_X9_classify w (List.mem_flatMap.mpr ⟨b, hb, hw⟩)⟩
