/-! ===== checks: 24.chkX8 ===== -/
abbrev i_X8_init : j_Mi := (yX8_init, cX8_init, 4, none, 10)
theorem c_X8_init : ∀ b ∈ m_X8_init, j_ckL yX8_init.cls (yX8_init.name == "<init>") none 4 cX8_init b.2 b.1 = true := by decide +kernel
theorem w_X8_init : j_wI (m_X8_init.flatMap (fun b => j_wdL yX8_init.cls b.2)) [115, 116, 117, 118, 119, 84, 122, 84, 120, 121, 155, 156, 85, 159, 85, 157, 158, 210, 211, 88, 214, 88, 212, 213, 305, 88, 302, 303, 304, 391, 398, 155, 156, 85, 159, 85, 157, 158, 399, 393, 210, 211, 88, 214, 88, 212, 213, 394, 210, 211, 88, 214, 88, 212, 213, 395, 400, 327, 328, 90, 331, 90, 329, 330, 396, 346, 347, 91, 350, 91, 348, 349, 392, 359, 360, 93, 363, 93, 361, 362, 397] = true := by decide +kernel
theorem g_X8_init : j_good i_X8_init m_X8_init := ⟨by decide +kernel, c_X8_init, fun b hb w hw => j_wI_in w_X8_init w (List.mem_flatMap.mpr ⟨b, hb, hw⟩)⟩
abbrev i_X8_feed : j_Mi := (yX8_feed, cX8_feed, 6, (some .int), 10)
theorem c_X8_feed : ∀ b ∈ m_X8_feed, j_ckL yX8_feed.cls (yX8_feed.name == "<init>") (some .int) 6 cX8_feed b.2 b.1 = true := by decide +kernel
theorem w_X8_feed : j_wI (m_X8_feed.flatMap (fun b => j_wdL yX8_feed.cls b.2)) [391, 125, 391, 429, 84, 426, 427, 428, 391, 429, 84, 426, 427, 428, 391, 429, 84, 426, 427, 428, 391, 429, 84, 426, 427, 428, 391, 429, 84, 426, 427, 428, 391, 125] = true := by decide +kernel
theorem g_X8_feed : j_good i_X8_feed m_X8_feed := ⟨by decide +kernel, c_X8_feed, fun b hb w hw => j_wI_in w_X8_feed w (List.mem_flatMap.mpr ⟨b, hb, hw⟩)⟩
abbrev i_X8_load : j_Mi := (yX8_load, cX8_load, 3, (some .int), 10)
theorem c_X8_load : ∀ b ∈ m_X8_load, j_ckL yX8_load.cls (yX8_load.name == "<init>") (some .int) 3 cX8_load b.2 b.1 = true := by decide +kernel
theorem w_X8_load : j_wI (m_X8_load.flatMap (fun b => j_wdL yX8_load.cls b.2)) [391, 125, 622, 83, 620, 621, 391, 692, 84, 689, 690, 691, 399, 391, 705, 85, 702, 703, 704, 391, 817, 84, 814, 815, 816, 391, 133, 391, 133, 398, 399, 398, 399, 393, 398, 305, 88, 302, 303, 304, 396, 611, 90, 608, 609, 610, 400, 393, 249] = true := by decide +kernel
theorem g_X8_load : j_good i_X8_load m_X8_load := ⟨by decide +kernel, c_X8_load, fun b hb w hw => j_wI_in w_X8_load w (List.mem_flatMap.mpr ⟨b, hb, hw⟩)⟩
abbrev i_X8_errorPosition : j_Mi := (yX8_errorPosition, cX8_errorPosition, 1, (some .int), 10)
theorem c_X8_errorPosition : ∀ b ∈ m_X8_errorPosition, j_ckL yX8_errorPosition.cls (yX8_errorPosition.name == "<init>") (some .int) 1 cX8_errorPosition b.2 b.1 = true := by decide +kernel
theorem w_X8_errorPosition : j_wI (m_X8_errorPosition.flatMap (fun b => j_wdL yX8_errorPosition.cls b.2)) [391, 136] = true := by decide +kernel
theorem g_X8_errorPosition : j_good i_X8_errorPosition m_X8_errorPosition := ⟨by decide +kernel, c_X8_errorPosition, fun b hb w hw => j_wI_in w_X8_errorPosition w (List.mem_flatMap.mpr ⟨b, hb, hw⟩)⟩
abbrev i_X8_flowCount : j_Mi := (yX8_flowCount, cX8_flowCount, 1, (some .int), 10)
theorem c_X8_flowCount : ∀ b ∈ m_X8_flowCount, j_ckL yX8_flowCount.cls (yX8_flowCount.name == "<init>") (some .int) 1 cX8_flowCount b.2 b.1 = true := by decide +kernel
theorem w_X8_flowCount : j_wI (m_X8_flowCount.flatMap (fun b => j_wdL yX8_flowCount.cls b.2)) [393, 249] = true := by decide +kernel
theorem g_X8_flowCount : j_good i_X8_flowCount m_X8_flowCount := ⟨by decide +kernel, c_X8_flowCount, fun b hb w hw => j_wI_in w_X8_flowCount w (List.mem_flatMap.mpr ⟨b, hb, hw⟩)⟩
abbrev i_X8_ruleCount : j_Mi := (yX8_ruleCount, cX8_ruleCount, 1, (some .int), 10)
theorem c_X8_ruleCount : ∀ b ∈ m_X8_ruleCount, j_ckL yX8_ruleCount.cls (yX8_ruleCount.name == "<init>") (some .int) 1 cX8_ruleCount b.2 b.1 = true := by decide +kernel
theorem w_X8_ruleCount : j_wI (m_X8_ruleCount.flatMap (fun b => j_wdL yX8_ruleCount.cls b.2)) [398, 188] = true := by decide +kernel
theorem g_X8_ruleCount : j_good i_X8_ruleCount m_X8_ruleCount := ⟨by decide +kernel, c_X8_ruleCount, fun b hb w hw => j_wI_in w_X8_ruleCount w (List.mem_flatMap.mpr ⟨b, hb, hw⟩)⟩
abbrev i_X8_packetCount : j_Mi := (yX8_packetCount, cX8_packetCount, 1, (some .int), 10)
theorem c_X8_packetCount : ∀ b ∈ m_X8_packetCount, j_ckL yX8_packetCount.cls (yX8_packetCount.name == "<init>") (some .int) 1 cX8_packetCount b.2 b.1 = true := by decide +kernel
theorem w_X8_packetCount : j_wI (m_X8_packetCount.flatMap (fun b => j_wdL yX8_packetCount.cls b.2)) [393, 254] = true := by decide +kernel
theorem g_X8_packetCount : j_good i_X8_packetCount m_X8_packetCount := ⟨by decide +kernel, c_X8_packetCount, fun b hb w hw => j_wI_in w_X8_packetCount w (List.mem_flatMap.mpr ⟨b, hb, hw⟩)⟩
abbrev i_X8_transmissionCount : j_Mi := (yX8_transmissionCount, cX8_transmissionCount, 1, (some .int), 10)
theorem c_X8_transmissionCount : ∀ b ∈ m_X8_transmissionCount, j_ckL yX8_transmissionCount.cls (yX8_transmissionCount.name == "<init>") (some .int) 1 cX8_transmissionCount b.2 b.1 = true := by decide +kernel
theorem w_X8_transmissionCount : j_wI (m_X8_transmissionCount.flatMap (fun b => j_wdL yX8_transmissionCount.cls b.2)) [393, 257] = true := by decide +kernel
theorem g_X8_transmissionCount : j_good i_X8_transmissionCount m_X8_transmissionCount := ⟨by decide +kernel, c_X8_transmissionCount, fun b hb w hw => j_wI_in w_X8_transmissionCount w (List.mem_flatMap.mpr ⟨b, hb, hw⟩)⟩
abbrev i_X8_clock : j_Mi := (yX8_clock, cX8_clock, 1, (some .int), 10)
theorem c_X8_clock : ∀ b ∈ m_X8_clock, j_ckL yX8_clock.cls (yX8_clock.name == "<init>") (some .int) 1 cX8_clock b.2 b.1 = true := by decide +kernel
theorem w_X8_clock : j_wI (m_X8_clock.flatMap (fun b => j_wdL yX8_clock.cls b.2)) [393, 259] = true := by decide +kernel
theorem g_X8_clock : j_good i_X8_clock m_X8_clock := ⟨by decide +kernel, c_X8_clock, fun b hb w hw => j_wI_in w_X8_clock w (List.mem_flatMap.mpr ⟨b, hb, hw⟩)⟩
abbrev i_X8_credit : j_Mi := (yX8_credit, cX8_credit, 1, (some .int), 10)
theorem c_X8_credit : ∀ b ∈ m_X8_credit, j_ckL yX8_credit.cls (yX8_credit.name == "<init>") (some .int) 1 cX8_credit b.2 b.1 = true := by decide +kernel
theorem w_X8_credit : j_wI (m_X8_credit.flatMap (fun b => j_wdL yX8_credit.cls b.2)) [393, 261] = true := by decide +kernel
theorem g_X8_credit : j_good i_X8_credit m_X8_credit := ⟨by decide +kernel, c_X8_credit, fun b hb w hw => j_wI_in w_X8_credit w (List.mem_flatMap.mpr ⟨b, hb, hw⟩)⟩
abbrev i_X8_classify : j_Mi := (yX8_classify, cX8_classify, 4, (some .int), 10)
theorem c_X8_classify : ∀ b ∈ m_X8_classify, j_ckL yX8_classify.cls (yX8_classify.name == "<init>") (some .int) 4 cX8_classify b.2 b.1 = true := by decide +kernel
theorem w_X8_classify : j_wI (m_X8_classify.flatMap (fun b => j_wdL yX8_classify.cls b.2)) [827, 83, 825, 826, 398, 831, 85, 828, 829, 830] = true := by decide +kernel
theorem g_X8_classify : j_good i_X8_classify m_X8_classify := ⟨by decide +kernel, c_X8_classify, fun b hb w hw => j_wI_in w_X8_classify w (List.mem_flatMap.mpr ⟨b, hb, hw⟩)⟩
abbrev i_X8_flow : j_Mi := (yX8_flow, cX8_flow, 3, (some .int), 10)
theorem c_X8_flow : ∀ b ∈ m_X8_flow, j_ckL yX8_flow.cls (yX8_flow.name == "<init>") (some .int) 3 cX8_flow b.2 b.1 = true := by decide +kernel
theorem w_X8_flow : j_wI (m_X8_flow.flatMap (fun b => j_wdL yX8_flow.cls b.2)) [848, 83, 845, 847, 1, 867, 83, 865, 866, 393, 240, 318, 86, 869, 316, 317] = true := by decide +kernel
theorem g_X8_flow : j_good i_X8_flow m_X8_flow := ⟨by decide +kernel, c_X8_flow, fun b hb w hw => j_wI_in w_X8_flow w (List.mem_flatMap.mpr ⟨b, hb, hw⟩)⟩
abbrev i_X8_virtualTime : j_Mi := (yX8_virtualTime, cX8_virtualTime, 2, (some .long), 10)
theorem c_X8_virtualTime : ∀ b ∈ m_X8_virtualTime, j_ckL yX8_virtualTime.cls (yX8_virtualTime.name == "<init>") (some .long) 2 cX8_virtualTime b.2 b.1 = true := by decide +kernel
theorem w_X8_virtualTime : j_wI (m_X8_virtualTime.flatMap (fun b => j_wdL yX8_virtualTime.cls b.2)) [848, 83, 845, 847, 1, 393, 469, 88, 522, 467, 468] = true := by decide +kernel
theorem g_X8_virtualTime : j_good i_X8_virtualTime m_X8_virtualTime := ⟨by decide +kernel, c_X8_virtualTime, fun b hb w hw => j_wI_in w_X8_virtualTime w (List.mem_flatMap.mpr ⟨b, hb, hw⟩)⟩
abbrev i_X8_isIdle : j_Mi := (yX8_isIdle, cX8_isIdle, 2, (some .boolean), 10)
theorem c_X8_isIdle : ∀ b ∈ m_X8_isIdle, j_ckL yX8_isIdle.cls (yX8_isIdle.name == "<init>") (some .boolean) 2 cX8_isIdle b.2 b.1 = true := by decide +kernel
theorem w_X8_isIdle : j_wI (m_X8_isIdle.flatMap (fun b => j_wdL yX8_isIdle.cls b.2)) [848, 83, 845, 847, 1, 393, 521, 88, 523, 519, 520] = true := by decide +kernel
theorem g_X8_isIdle : j_good i_X8_isIdle m_X8_isIdle := ⟨by decide +kernel, c_X8_isIdle, fun b hb w hw => j_wI_in w_X8_isIdle w (List.mem_flatMap.mpr ⟨b, hb, hw⟩)⟩
abbrev i_X8_queued : j_Mi := (yX8_queued, cX8_queued, 3, (some .int), 10)
theorem c_X8_queued : ∀ b ∈ m_X8_queued, j_ckL yX8_queued.cls (yX8_queued.name == "<init>") (some .int) 3 cX8_queued b.2 b.1 = true := by decide +kernel
theorem w_X8_queued : j_wI (m_X8_queued.flatMap (fun b => j_wdL yX8_queued.cls b.2)) [848, 83, 845, 847, 1, 393, 895, 88, 892, 893, 894] = true := by decide +kernel
theorem g_X8_queued : j_good i_X8_queued m_X8_queued := ⟨by decide +kernel, c_X8_queued, fun b hb w hw => j_wI_in w_X8_queued w (List.mem_flatMap.mpr ⟨b, hb, hw⟩)⟩
abbrev i_X8_nextFlow : j_Mi := (yX8_nextFlow, cX8_nextFlow, 1, (some .int), 10)
theorem c_X8_nextFlow : ∀ b ∈ m_X8_nextFlow, j_ckL yX8_nextFlow.cls (yX8_nextFlow.name == "<init>") (some .int) 1 cX8_nextFlow b.2 b.1 = true := by decide +kernel
theorem w_X8_nextFlow : j_wI (m_X8_nextFlow.flatMap (fun b => j_wdL yX8_nextFlow.cls b.2)) [393, 465, 88, 462, 463, 464] = true := by decide +kernel
theorem g_X8_nextFlow : j_good i_X8_nextFlow m_X8_nextFlow := ⟨by decide +kernel, c_X8_nextFlow, fun b hb w hw => j_wI_in w_X8_nextFlow w (List.mem_flatMap.mpr ⟨b, hb, hw⟩)⟩
abbrev i_X8_packet : j_Mi := (yX8_packet, cX8_packet, 3, (some .int), 10)
theorem c_X8_packet : ∀ b ∈ m_X8_packet, j_ckL yX8_packet.cls (yX8_packet.name == "<init>") (some .int) 3 cX8_packet b.2 b.1 = true := by decide +kernel
theorem w_X8_packet : j_wI (m_X8_packet.flatMap (fun b => j_wdL yX8_packet.cls b.2)) [906, 83, 903, 905, 2, 867, 83, 865, 866, 393, 244, 318, 86, 869, 316, 317] = true := by decide +kernel
theorem g_X8_packet : j_good i_X8_packet m_X8_packet := ⟨by decide +kernel, c_X8_packet, fun b hb w hw => j_wI_in w_X8_packet w (List.mem_flatMap.mpr ⟨b, hb, hw⟩)⟩
abbrev i_X8_transmission : j_Mi := (yX8_transmission, cX8_transmission, 3, (some .int), 10)
theorem c_X8_transmission : ∀ b ∈ m_X8_transmission, j_ckL yX8_transmission.cls (yX8_transmission.name == "<init>") (some .int) 3 cX8_transmission b.2 b.1 = true := by decide +kernel
theorem w_X8_transmission : j_wI (m_X8_transmission.flatMap (fun b => j_wdL yX8_transmission.cls b.2)) [918, 83, 915, 917, 3, 867, 83, 865, 866, 393, 246, 318, 86, 869, 316, 317] = true := by decide +kernel
theorem g_X8_transmission : j_good i_X8_transmission m_X8_transmission := ⟨by decide +kernel, c_X8_transmission, fun b hb w hw => j_wI_in w_X8_transmission w (List.mem_flatMap.mpr ⟨b, hb, hw⟩)⟩
abbrev i_X8_charge : j_Mi := (yX8_charge, cX8_charge, 2, (some .long), 10)
theorem c_X8_charge : ∀ b ∈ m_X8_charge, j_ckL yX8_charge.cls (yX8_charge.name == "<init>") (some .long) 2 cX8_charge b.2 b.1 = true := by decide +kernel
theorem w_X8_charge : j_wI (m_X8_charge.flatMap (fun b => j_wdL yX8_charge.cls b.2)) [918, 83, 915, 917, 3, 393, 246, 318, 86, 869, 316, 317] = true := by decide +kernel
theorem g_X8_charge : j_good i_X8_charge m_X8_charge := ⟨by decide +kernel, c_X8_charge, fun b hb w hw => j_wI_in w_X8_charge w (List.mem_flatMap.mpr ⟨b, hb, hw⟩)⟩
abbrev i_X8_outstanding : j_Mi := (yX8_outstanding, cX8_outstanding, 2, (some .int), 10)
theorem c_X8_outstanding : ∀ b ∈ m_X8_outstanding, j_ckL yX8_outstanding.cls (yX8_outstanding.name == "<init>") (some .int) 2 cX8_outstanding b.2 b.1 = true := by decide +kernel
theorem w_X8_outstanding : j_wI (m_X8_outstanding.flatMap (fun b => j_wdL yX8_outstanding.cls b.2)) [848, 83, 845, 847, 1, 393, 240, 318, 86, 869, 316, 317] = true := by decide +kernel
theorem g_X8_outstanding : j_good i_X8_outstanding m_X8_outstanding := ⟨by decide +kernel, c_X8_outstanding, fun b hb w hw => j_wI_in w_X8_outstanding w (List.mem_flatMap.mpr ⟨b, hb, hw⟩)⟩
abbrev i_X8_arrive : j_Mi := (yX8_arrive, cX8_arrive, 7, (some .int), 10)
theorem c_X8_arrive : ∀ b ∈ m_X8_arrive, j_ckL yX8_arrive.cls (yX8_arrive.name == "<init>") (some .int) 7 cX8_arrive b.2 b.1 = true := by decide +kernel
theorem w_X8_arrive : j_wI (m_X8_arrive.flatMap (fun b => j_wdL yX8_arrive.cls b.2)) [827, 83, 825, 826, 622, 83, 620, 621, 398, 831, 85, 828, 829, 830, 393, 254, 393, 240, 318, 86, 869, 316, 317, 393, 240, 318, 86, 869, 316, 317, 396, 393, 944, 90, 941, 942, 943, 393, 950, 88, 947, 948, 949, 393, 244, 322, 86, 968, 320, 321, 393, 244, 322, 86, 968, 320, 321, 393, 244, 322, 86, 968, 320, 321] = true := by decide +kernel
theorem g_X8_arrive : j_good i_X8_arrive m_X8_arrive := ⟨by decide +kernel, c_X8_arrive, fun b hb w hw => j_wI_in w_X8_arrive w (List.mem_flatMap.mpr ⟨b, hb, hw⟩)⟩
abbrev i_X8_run : j_Mi := (yX8_run, cX8_run, 4, (some .int), 10)
theorem c_X8_run : ∀ b ∈ m_X8_run, j_ckL yX8_run.cls (yX8_run.name == "<init>") (some .int) 4 cX8_run b.2 b.1 = true := by decide +kernel
theorem w_X8_run : j_wI (m_X8_run.flatMap (fun b => j_wdL yX8_run.cls b.2)) [622, 83, 620, 621, 393, 259, 976, 396, 393, 944, 90, 941, 942, 943, 393, 264, 393, 980, 88, 977, 978, 979, 393, 1031, 88, 1028, 1029, 1030, 393, 264] = true := by decide +kernel
theorem g_X8_run : j_good i_X8_run m_X8_run := ⟨by decide +kernel, c_X8_run, fun b hb w hw => j_wI_in w_X8_run w (List.mem_flatMap.mpr ⟨b, hb, hw⟩)⟩
abbrev i_X8_setWeight : j_Mi := (yX8_setWeight, cX8_setWeight, 4, (some .int), 10)
theorem c_X8_setWeight : ∀ b ∈ m_X8_setWeight, j_ckL yX8_setWeight.cls (yX8_setWeight.name == "<init>") (some .int) 4 cX8_setWeight b.2 b.1 = true := by decide +kernel
theorem w_X8_setWeight : j_wI (m_X8_setWeight.flatMap (fun b => j_wdL yX8_setWeight.cls b.2)) [848, 83, 845, 847, 1, 622, 83, 620, 621, 396, 393, 944, 90, 941, 942, 943, 393, 240, 318, 86, 869, 316, 317, 393, 240, 322, 86, 968, 320, 321] = true := by decide +kernel
theorem g_X8_setWeight : j_good i_X8_setWeight m_X8_setWeight := ⟨by decide +kernel, c_X8_setWeight, fun b hb w hw => j_wI_in w_X8_setWeight w (List.mem_flatMap.mpr ⟨b, hb, hw⟩)⟩
abbrev i_X8_audit : j_Mi := (yX8_audit, cX8_audit, 4, (some .long), 10)
theorem c_X8_audit : ∀ b ∈ m_X8_audit, j_ckL yX8_audit.cls (yX8_audit.name == "<init>") (some .long) 4 cX8_audit b.2 b.1 = true := by decide +kernel
theorem w_X8_audit : j_wI (m_X8_audit.flatMap (fun b => j_wdL yX8_audit.cls b.2)) [848, 83, 845, 847, 1, 848, 83, 845, 847, 1, 393, 1055, 88, 1052, 1053, 1054] = true := by decide +kernel
theorem g_X8_audit : j_good i_X8_audit m_X8_audit := ⟨by decide +kernel, c_X8_audit, fun b hb w hw => j_wI_in w_X8_audit w (List.mem_flatMap.mpr ⟨b, hb, hw⟩)⟩
abbrev i_X8_worst : j_Mi := (yX8_worst, cX8_worst, 5, (some .long), 10)
theorem c_X8_worst : ∀ b ∈ m_X8_worst, j_ckL yX8_worst.cls (yX8_worst.name == "<init>") (some .long) 5 cX8_worst b.2 b.1 = true := by decide +kernel
theorem w_X8_worst : j_wI (m_X8_worst.flatMap (fun b => j_wdL yX8_worst.cls b.2)) [393, 249, 393, 249, 393, 477, 88, 474, 475, 476, 509, 507, 87, 508] = true := by decide +kernel
theorem g_X8_worst : j_good i_X8_worst m_X8_worst := ⟨by decide +kernel, c_X8_worst, fun b hb w hw => j_wI_in w_X8_worst w (List.mem_flatMap.mpr ⟨b, hb, hw⟩)⟩
abbrev i_X8_spread : j_Mi := (yX8_spread, cX8_spread, 5, (some .long), 10)
theorem c_X8_spread : ∀ b ∈ m_X8_spread, j_ckL yX8_spread.cls (yX8_spread.name == "<init>") (some .long) 5 cX8_spread b.2 b.1 = true := by decide +kernel
theorem w_X8_spread : j_wI (m_X8_spread.flatMap (fun b => j_wdL yX8_spread.cls b.2)) [393, 517, 88, 514, 515, 516, 393, 469, 88, 522, 467, 468, 393, 249, 393, 521, 88, 523, 519, 520, 393, 469, 88, 522, 467, 468, 509, 507, 87, 508, 393, 469, 88, 522, 467, 468] = true := by decide +kernel
theorem g_X8_spread : j_good i_X8_spread m_X8_spread := ⟨by decide +kernel, c_X8_spread, fun b hb w hw => j_wI_in w_X8_spread w (List.mem_flatMap.mpr ⟨b, hb, hw⟩)⟩
abbrev i_X8_share : j_Mi := (yX8_share, cX8_share, 4, (some .double), 10)
theorem c_X8_share : ∀ b ∈ m_X8_share, j_ckL yX8_share.cls (yX8_share.name == "<init>") (some .double) 4 cX8_share b.2 b.1 = true := by decide +kernel
theorem w_X8_share : j_wI (m_X8_share.flatMap (fun b => j_wdL yX8_share.cls b.2)) [848, 83, 845, 847, 1, 393, 249, 393, 240, 318, 86, 869, 316, 317, 393, 240, 318, 86, 869, 316, 317] = true := by decide +kernel
theorem g_X8_share : j_good i_X8_share m_X8_share := ⟨by decide +kernel, c_X8_share, fun b hb w hw => j_wI_in w_X8_share w (List.mem_flatMap.mpr ⟨b, hb, hw⟩)⟩
abbrev i_X8_meanDelay : j_Mi := (yX8_meanDelay, cX8_meanDelay, 5, (some .float), 10)
theorem c_X8_meanDelay : ∀ b ∈ m_X8_meanDelay, j_ckL yX8_meanDelay.cls (yX8_meanDelay.name == "<init>") (some .float) 5 cX8_meanDelay b.2 b.1 = true := by decide +kernel
theorem w_X8_meanDelay : j_wI (m_X8_meanDelay.flatMap (fun b => j_wdL yX8_meanDelay.cls b.2)) [848, 83, 845, 847, 1, 393, 254, 393, 244, 318, 86, 869, 316, 317, 393, 1077, 88, 1074, 1075, 1076, 393, 244, 318, 86, 869, 316, 317, 393, 244, 318, 86, 869, 316, 317] = true := by decide +kernel
theorem g_X8_meanDelay : j_good i_X8_meanDelay m_X8_meanDelay := ⟨by decide +kernel, c_X8_meanDelay, fun b hb w hw => j_wI_in w_X8_meanDelay w (List.mem_flatMap.mpr ⟨b, hb, hw⟩)⟩
abbrev i_X8_forecast : j_Mi := (yX8_forecast, cX8_forecast, 3, (some .int), 10)
theorem c_X8_forecast : ∀ b ∈ m_X8_forecast, j_ckL yX8_forecast.cls (yX8_forecast.name == "<init>") (some .int) 3 cX8_forecast b.2 b.1 = true := by decide +kernel
theorem w_X8_forecast : j_wI (m_X8_forecast.flatMap (fun b => j_wdL yX8_forecast.cls b.2)) [906, 83, 903, 905, 2, 622, 83, 620, 621, 394, 393, 584, 88, 1085, 582, 583, 394, 1089, 88, 1086, 1087, 1088] = true := by decide +kernel
theorem g_X8_forecast : j_good i_X8_forecast m_X8_forecast := ⟨by decide +kernel, c_X8_forecast, fun b hb w hw => j_wI_in w_X8_forecast w (List.mem_flatMap.mpr ⟨b, hb, hw⟩)⟩
abbrev i_X8_weightFor : j_Mi := (yX8_weightFor, cX8_weightFor, 5, (some .int), 10)
theorem c_X8_weightFor : ∀ b ∈ m_X8_weightFor, j_ckL yX8_weightFor.cls (yX8_weightFor.name == "<init>") (some .int) 5 cX8_weightFor b.2 b.1 = true := by decide +kernel
theorem w_X8_weightFor : j_wI (m_X8_weightFor.flatMap (fun b => j_wdL yX8_weightFor.cls b.2)) [906, 83, 903, 905, 2, 622, 83, 620, 621, 393, 244, 318, 86, 869, 316, 317, 394, 393, 584, 88, 1085, 582, 583, 394, 240, 322, 86, 968, 320, 321, 394, 1089, 88, 1086, 1087, 1088] = true := by decide +kernel
theorem g_X8_weightFor : j_good i_X8_weightFor m_X8_weightFor := ⟨by decide +kernel, c_X8_weightFor, fun b hb w hw => j_wI_in w_X8_weightFor w (List.mem_flatMap.mpr ⟨b, hb, hw⟩)⟩
abbrev i_X8_format : j_Mi := (yX8_format, cX8_format, 3, (some .int), 10)
theorem c_X8_format : ∀ b ∈ m_X8_format, j_ckL yX8_format.cls (yX8_format.name == "<init>") (some .int) 3 cX8_format b.2 b.1 = true := by decide +kernel
theorem w_X8_format : j_wI (m_X8_format.flatMap (fun b => j_wdL yX8_format.cls b.2)) [906, 83, 903, 905, 2, 397, 1113, 93, 1110, 1111, 1112, 397, 1311, 93, 1308, 1309, 1310, 1228, 93, 1321, 1226, 1227, 397, 1167, 93, 1323, 1165, 1166, 393, 244, 318, 86, 869, 316, 317, 1228, 93, 1321, 1226, 1227, 397, 1311, 93, 1308, 1309, 1310, 393, 244, 318, 86, 869, 316, 317, 1228, 93, 1321, 1226, 1227, 1311, 93, 1308, 1309, 1310, 393, 244, 318, 86, 869, 316, 317, 397, 1167, 93, 1323, 1165, 1166, 397, 1167, 93, 1323, 1165, 1166, 397, 1167, 93, 1323, 1165, 1166, 397, 1167, 93, 1323, 1165, 1166, 393, 244, 318, 86, 869, 316, 317, 1228, 93, 1321, 1226, 1227, 397, 531, 93, 528, 529, 530] = true := by decide +kernel
theorem g_X8_format : j_good i_X8_format m_X8_format := ⟨by decide +kernel, c_X8_format, fun b hb w hw => j_wI_in w_X8_format w (List.mem_flatMap.mpr ⟨b, hb, hw⟩)⟩
abbrev i_X8_formattedByte : j_Mi := (yX8_formattedByte, cX8_formattedByte, 2, (some .int), 10)
theorem c_X8_formattedByte : ∀ b ∈ m_X8_formattedByte, j_ckL yX8_formattedByte.cls (yX8_formattedByte.name == "<init>") (some .int) 2 cX8_formattedByte b.2 b.1 = true := by decide +kernel
theorem w_X8_formattedByte : j_wI (m_X8_formattedByte.flatMap (fun b => j_wdL yX8_formattedByte.cls b.2)) [397, 531, 93, 528, 529, 530, 397, 538, 93, 535, 536, 537] = true := by decide +kernel
theorem g_X8_formattedByte : j_good i_X8_formattedByte m_X8_formattedByte := ⟨by decide +kernel, c_X8_formattedByte, fun b hb w hw => j_wI_in w_X8_formattedByte w (List.mem_flatMap.mpr ⟨b, hb, hw⟩)⟩
abbrev i_X8_undoCount : j_Mi := (yX8_undoCount, cX8_undoCount, 1, (some .int), 10)
theorem c_X8_undoCount : ∀ b ∈ m_X8_undoCount, j_ckL yX8_undoCount.cls (yX8_undoCount.name == "<init>") (some .int) 1 cX8_undoCount b.2 b.1 = true := by decide +kernel
theorem w_X8_undoCount : j_wI (m_X8_undoCount.flatMap (fun b => j_wdL yX8_undoCount.cls b.2)) [396, 337] = true := by decide +kernel
theorem g_X8_undoCount : j_good i_X8_undoCount m_X8_undoCount := ⟨by decide +kernel, c_X8_undoCount, fun b hb w hw => j_wI_in w_X8_undoCount w (List.mem_flatMap.mpr ⟨b, hb, hw⟩)⟩
abbrev i_X8_undo : j_Mi := (yX8_undo, cX8_undo, 1, (some .int), 10)
theorem c_X8_undo : ∀ b ∈ m_X8_undo, j_ckL yX8_undo.cls (yX8_undo.name == "<init>") (some .int) 1 cX8_undo b.2 b.1 = true := by decide +kernel
theorem w_X8_undo : j_wI (m_X8_undo.flatMap (fun b => j_wdL yX8_undo.cls b.2)) [396, 337, 396, 393, 576, 90, 573, 574, 575, 396, 337] = true := by decide +kernel
theorem g_X8_undo : j_good i_X8_undo m_X8_undo := ⟨by decide +kernel, c_X8_undo, fun b hb w hw => j_wI_in w_X8_undo w (List.mem_flatMap.mpr ⟨b, hb, hw⟩)⟩
abbrev i_X8_saveSnapshot : j_Mi := (yX8_saveSnapshot, cX8_saveSnapshot, 1, none, 10)
theorem c_X8_saveSnapshot : ∀ b ∈ m_X8_saveSnapshot, j_ckL yX8_saveSnapshot.cls (yX8_saveSnapshot.name == "<init>") none 1 cX8_saveSnapshot b.2 b.1 = true := by decide +kernel
theorem w_X8_saveSnapshot : j_wI (m_X8_saveSnapshot.flatMap (fun b => j_wdL yX8_saveSnapshot.cls b.2)) [395, 393, 580, 88, 603, 578, 579, 400] = true := by decide +kernel
theorem g_X8_saveSnapshot : j_good i_X8_saveSnapshot m_X8_saveSnapshot := ⟨by decide +kernel, c_X8_saveSnapshot, fun b hb w hw => j_wI_in w_X8_saveSnapshot w (List.mem_flatMap.mpr ⟨b, hb, hw⟩)⟩
abbrev i_X8_restoreSnapshot : j_Mi := (yX8_restoreSnapshot, cX8_restoreSnapshot, 1, (some .boolean), 10)
theorem c_X8_restoreSnapshot : ∀ b ∈ m_X8_restoreSnapshot, j_ckL yX8_restoreSnapshot.cls (yX8_restoreSnapshot.name == "<init>") (some .boolean) 1 cX8_restoreSnapshot b.2 b.1 = true := by decide +kernel
theorem w_X8_restoreSnapshot : j_wI (m_X8_restoreSnapshot.flatMap (fun b => j_wdL yX8_restoreSnapshot.cls b.2)) [400, 393, 395, 580, 88, 603, 578, 579, 396, 611, 90, 608, 609, 610] = true := by decide +kernel
theorem g_X8_restoreSnapshot : j_good i_X8_restoreSnapshot m_X8_restoreSnapshot := ⟨by decide +kernel, c_X8_restoreSnapshot, fun b hb w hw => j_wI_in w_X8_restoreSnapshot w (List.mem_flatMap.mpr ⟨b, hb, hw⟩)⟩
abbrev i_X8_query : j_Mi := (yX8_query, cX8_query, 4, (some .int), 10)
theorem c_X8_query : ∀ b ∈ m_X8_query, j_ckL yX8_query.cls (yX8_query.name == "<init>") (some .int) 4 cX8_query b.2 b.1 = true := by decide +kernel
theorem w_X8_query : j_wI (m_X8_query.flatMap (fun b => j_wdL yX8_query.cls b.2)) [391, 125, 1335, 543, 87, 544, 622, 83, 620, 621, 391, 692, 84, 689, 690, 691, 391, 718, 84, 1337, 716, 717, 391, 718, 84, 1337, 716, 717, 391, 759, 84, 1339, 757, 758, 391, 697, 84, 1340, 695, 696, 392, 1344, 91, 1341, 1342, 1343, 391, 1430, 84, 1427, 1428, 1429, 391, 817, 84, 814, 815, 816, 391, 133, 1431, 391, 133, 393, 254, 1435, 109, 1432, 1433, 1434, 393, 254, 1443, 109, 1440, 1441, 1442] = true := by decide +kernel
theorem g_X8_query : j_good i_X8_query m_X8_query := ⟨by decide +kernel, c_X8_query, fun b hb w hw => j_wI_in w_X8_query w (List.mem_flatMap.mpr ⟨b, hb, hw⟩)⟩
abbrev i_X8_requireRange : j_Mi := (yX8_requireRange, cX8_requireRange, 3, none, 99)
theorem c_X8_requireRange : ∀ b ∈ m_X8_requireRange, j_ckL yX8_requireRange.cls (yX8_requireRange.name == "<init>") none 3 cX8_requireRange b.2 b.1 = true := by decide +kernel
theorem w_X8_requireRange : j_wI (m_X8_requireRange.flatMap (fun b => j_wdL yX8_requireRange.cls b.2)) [] = true := by decide +kernel
theorem g_X8_requireRange : j_good i_X8_requireRange m_X8_requireRange := ⟨by decide +kernel, c_X8_requireRange, fun b hb w hw => j_wI_in w_X8_requireRange w (List.mem_flatMap.mpr ⟨b, hb, hw⟩)⟩
abbrev i_X8_requireAddress : j_Mi := (yX8_requireAddress, cX8_requireAddress, 3, none, 99)
theorem c_X8_requireAddress : ∀ b ∈ m_X8_requireAddress, j_ckL yX8_requireAddress.cls (yX8_requireAddress.name == "<init>") none 3 cX8_requireAddress b.2 b.1 = true := by decide +kernel
theorem w_X8_requireAddress : j_wI (m_X8_requireAddress.flatMap (fun b => j_wdL yX8_requireAddress.cls b.2)) [622, 83, 620, 621, 622, 83, 620, 621, 622, 83, 620, 621] = true := by decide +kernel
theorem g_X8_requireAddress : j_good i_X8_requireAddress m_X8_requireAddress := ⟨by decide +kernel, c_X8_requireAddress, fun b hb w hw => j_wI_in w_X8_requireAddress w (List.mem_flatMap.mpr ⟨b, hb, hw⟩)⟩
abbrev i_X8_requireProperty : j_Mi := (yX8_requireProperty, cX8_requireProperty, 2, none, 99)
theorem c_X8_requireProperty : ∀ b ∈ m_X8_requireProperty, j_ckL yX8_requireProperty.cls (yX8_requireProperty.name == "<init>") none 2 cX8_requireProperty b.2 b.1 = true := by decide +kernel
theorem w_X8_requireProperty : j_wI (m_X8_requireProperty.flatMap (fun b => j_wdL yX8_requireProperty.cls b.2)) [] = true := by decide +kernel
theorem g_X8_requireProperty : j_good i_X8_requireProperty m_X8_requireProperty := ⟨by decide +kernel, c_X8_requireProperty, fun b hb w hw => j_wI_in w_X8_requireProperty w (List.mem_flatMap.mpr ⟨b, hb, hw⟩)⟩
abbrev i_X8_requireFlow : j_Mi := (yX8_requireFlow, cX8_requireFlow, 2, none, 10)
theorem c_X8_requireFlow : ∀ b ∈ m_X8_requireFlow, j_ckL yX8_requireFlow.cls (yX8_requireFlow.name == "<init>") none 2 cX8_requireFlow b.2 b.1 = true := by decide +kernel
theorem w_X8_requireFlow : j_wI (m_X8_requireFlow.flatMap (fun b => j_wdL yX8_requireFlow.cls b.2)) [393, 249] = true := by decide +kernel
theorem g_X8_requireFlow : j_good i_X8_requireFlow m_X8_requireFlow := ⟨by decide +kernel, c_X8_requireFlow, fun b hb w hw => j_wI_in w_X8_requireFlow w (List.mem_flatMap.mpr ⟨b, hb, hw⟩)⟩
abbrev i_X8_requirePacket : j_Mi := (yX8_requirePacket, cX8_requirePacket, 2, none, 10)
theorem c_X8_requirePacket : ∀ b ∈ m_X8_requirePacket, j_ckL yX8_requirePacket.cls (yX8_requirePacket.name == "<init>") none 2 cX8_requirePacket b.2 b.1 = true := by decide +kernel
theorem w_X8_requirePacket : j_wI (m_X8_requirePacket.flatMap (fun b => j_wdL yX8_requirePacket.cls b.2)) [393, 254] = true := by decide +kernel
theorem g_X8_requirePacket : j_good i_X8_requirePacket m_X8_requirePacket := ⟨by decide +kernel, c_X8_requirePacket, fun b hb w hw => j_wI_in w_X8_requirePacket w (List.mem_flatMap.mpr ⟨b, hb, hw⟩)⟩
abbrev i_X8_requireTransmission : j_Mi := (yX8_requireTransmission, cX8_requireTransmission, 2, none, 10)
theorem c_X8_requireTransmission : ∀ b ∈ m_X8_requireTransmission, j_ckL yX8_requireTransmission.cls (yX8_requireTransmission.name == "<init>") none 2 cX8_requireTransmission b.2 b.1 = true := by decide +kernel
theorem w_X8_requireTransmission : j_wI (m_X8_requireTransmission.flatMap (fun b => j_wdL yX8_requireTransmission.cls b.2)) [393, 257] = true := by decide +kernel
theorem g_X8_requireTransmission : j_good i_X8_requireTransmission m_X8_requireTransmission := ⟨by decide +kernel, c_X8_requireTransmission, fun b hb w hw => j_wI_in w_X8_requireTransmission w (List.mem_flatMap.mpr ⟨b, hb, hw⟩)⟩
