/-! ===== checks of the reference, 3 ===== -/
abbrev i_X9_acknowledgmentTick : j_Mi := (yX9_acknowledgmentTick, cX9_acknowledgmentTick, 3, (some .int), 11)
theorem c_X9_acknowledgmentTick : ∀ b ∈ m_X9_acknowledgmentTick, j_ckL yX9_acknowledgmentTick.cls (yX9_acknowledgmentTick.name == "<init>") (some .int) 3 cX9_acknowledgmentTick b.2 b.1 = true := by decide +kernel
theorem w_X9_acknowledgmentTick : ∀ b ∈ m_X9_acknowledgmentTick, ∀ w ∈ j_wdL yX9_acknowledgmentTick.cls b.2, w ∈ pw_X9 := by decide +kernel
theorem g_X9_acknowledgmentTick : j_good i_X9_acknowledgmentTick m_X9_acknowledgmentTick := ⟨by decide +kernel, c_X9_acknowledgmentTick, fun b hb w hw => pw_X9_in w (w_X9_acknowledgmentTick b hb w hw)⟩
abbrev i_X9_send : j_Mi := (yX9_send, cX9_send, 4, none, 11)
theorem c_X9_send : ∀ b ∈ m_X9_send, j_ckL yX9_send.cls (yX9_send.name == "<init>") none 4 cX9_send b.2 b.1 = true := by decide +kernel
theorem w_X9_send : ∀ b ∈ m_X9_send, ∀ w ∈ j_wdL yX9_send.cls b.2, w ∈ pw_X9 := by decide +kernel
theorem g_X9_send : j_good i_X9_send m_X9_send := ⟨by decide +kernel, c_X9_send, fun b hb w hw => pw_X9_in w (w_X9_send b hb w hw)⟩
abbrev i_X9_sendNext : j_Mi := (yX9_sendNext, cX9_sendNext, 2, (some .boolean), 11)
theorem c_X9_sendNext : ∀ b ∈ m_X9_sendNext, j_ckL yX9_sendNext.cls (yX9_sendNext.name == "<init>") (some .boolean) 2 cX9_sendNext b.2 b.1 = true := by decide +kernel
theorem w_X9_sendNext : ∀ b ∈ m_X9_sendNext, ∀ w ∈ j_wdL yX9_sendNext.cls b.2, w ∈ pw_X9 := by decide +kernel
theorem g_X9_sendNext : j_good i_X9_sendNext m_X9_sendNext := ⟨by decide +kernel, c_X9_sendNext, fun b hb w hw => pw_X9_in w (w_X9_sendNext b hb w hw)⟩
abbrev i_X9_record : j_Mi := (yX9_record, cX9_record, 4, none, 11)
theorem c_X9_record : ∀ b ∈ m_X9_record, j_ckL yX9_record.cls (yX9_record.name == "<init>") none 4 cX9_record b.2 b.1 = true := by decide +kernel
theorem w_X9_record : ∀ b ∈ m_X9_record, ∀ w ∈ j_wdL yX9_record.cls b.2, w ∈ pw_X9 := by decide +kernel
theorem g_X9_record : j_good i_X9_record m_X9_record := ⟨by decide +kernel, c_X9_record, fun b hb w hw => pw_X9_in w (w_X9_record b hb w hw)⟩
abbrev i_X9_tick : j_Mi := (yX9_tick, cX9_tick, 3, none, 11)
theorem c_X9_tick : ∀ b ∈ m_X9_tick, j_ckL yX9_tick.cls (yX9_tick.name == "<init>") none 3 cX9_tick b.2 b.1 = true := by decide +kernel
theorem w_X9_tick : ∀ b ∈ m_X9_tick, ∀ w ∈ j_wdL yX9_tick.cls b.2, w ∈ pw_X9 := by decide +kernel
theorem g_X9_tick : j_good i_X9_tick m_X9_tick := ⟨by decide +kernel, c_X9_tick, fun b hb w hw => pw_X9_in w (w_X9_tick b hb w hw)⟩
abbrev i_X9_forgive : j_Mi := (yX9_forgive, cX9_forgive, 7, none, 11)
theorem c_X9_forgive : ∀ b ∈ m_X9_forgive, j_ckL yX9_forgive.cls (yX9_forgive.name == "<init>") none 7 cX9_forgive b.2 b.1 = true := by decide +kernel
theorem w_X9_forgive : ∀ b ∈ m_X9_forgive, ∀ w ∈ j_wdL yX9_forgive.cls b.2, w ∈ pw_X9 := by decide +kernel
theorem g_X9_forgive : j_good i_X9_forgive m_X9_forgive := ⟨by decide +kernel, c_X9_forgive, fun b hb w hw => pw_X9_in w (w_X9_forgive b hb w hw)⟩
abbrev i_X9_arrive : j_Mi := (yX9_arrive, cX9_arrive, 7, (some .int), 11)
theorem c_X9_arrive : ∀ b ∈ m_X9_arrive, j_ckL yX9_arrive.cls (yX9_arrive.name == "<init>") (some .int) 7 cX9_arrive b.2 b.1 = true := by decide +kernel
theorem w_X9_arrive : ∀ b ∈ m_X9_arrive, ∀ w ∈ j_wdL yX9_arrive.cls b.2, w ∈ pw_X9 := by decide +kernel
theorem g_X9_arrive : j_good i_X9_arrive m_X9_arrive := ⟨by decide +kernel, c_X9_arrive, fun b hb w hw => pw_X9_in w (w_X9_arrive b hb w hw)⟩
abbrev i_X9_deliveredCount : j_Mi := (yX9_deliveredCount, cX9_deliveredCount, 3, (some .int), 11)
theorem c_X9_deliveredCount : ∀ b ∈ m_X9_deliveredCount, j_ckL yX9_deliveredCount.cls (yX9_deliveredCount.name == "<init>") (some .int) 3 cX9_deliveredCount b.2 b.1 = true := by decide +kernel
theorem w_X9_deliveredCount : ∀ b ∈ m_X9_deliveredCount, ∀ w ∈ j_wdL yX9_deliveredCount.cls b.2, w ∈ pw_X9 := by decide +kernel
theorem g_X9_deliveredCount : j_good i_X9_deliveredCount m_X9_deliveredCount := ⟨by decide +kernel, c_X9_deliveredCount, fun b hb w hw => pw_X9_in w (w_X9_deliveredCount b hb w hw)⟩
abbrev i_X9_run : j_Mi := (yX9_run, cX9_run, 4, (some .int), 11)
theorem c_X9_run : ∀ b ∈ m_X9_run, j_ckL yX9_run.cls (yX9_run.name == "<init>") (some .int) 4 cX9_run b.2 b.1 = true := by decide +kernel
theorem w_X9_run : ∀ b ∈ m_X9_run, ∀ w ∈ j_wdL yX9_run.cls b.2, w ∈ pw_X9 := by decide +kernel
theorem g_X9_run : j_good i_X9_run m_X9_run := ⟨by decide +kernel, c_X9_run, fun b hb w hw => pw_X9_in w (w_X9_run b hb w hw)⟩
abbrev i_X9_setWeight : j_Mi := (yX9_setWeight, cX9_setWeight, 4, (some .int), 11)
theorem c_X9_setWeight : ∀ b ∈ m_X9_setWeight, j_ckL yX9_setWeight.cls (yX9_setWeight.name == "<init>") (some .int) 4 cX9_setWeight b.2 b.1 = true := by decide +kernel
theorem w_X9_setWeight : ∀ b ∈ m_X9_setWeight, ∀ w ∈ j_wdL yX9_setWeight.cls b.2, w ∈ pw_X9 := by decide +kernel
theorem g_X9_setWeight : j_good i_X9_setWeight m_X9_setWeight := ⟨by decide +kernel, c_X9_setWeight, fun b hb w hw => pw_X9_in w (w_X9_setWeight b hb w hw)⟩
abbrev i_X9_oldestTick : j_Mi := (yX9_oldestTick, cX9_oldestTick, 1, (some .int), 11)
theorem c_X9_oldestTick : ∀ b ∈ m_X9_oldestTick, j_ckL yX9_oldestTick.cls (yX9_oldestTick.name == "<init>") (some .int) 1 cX9_oldestTick b.2 b.1 = true := by decide +kernel
theorem w_X9_oldestTick : ∀ b ∈ m_X9_oldestTick, ∀ w ∈ j_wdL yX9_oldestTick.cls b.2, w ∈ pw_X9 := by decide +kernel
theorem g_X9_oldestTick : j_good i_X9_oldestTick m_X9_oldestTick := ⟨by decide +kernel, c_X9_oldestTick, fun b hb w hw => pw_X9_in w (w_X9_oldestTick b hb w hw)⟩
abbrev i_X9_recorded : j_Mi := (yX9_recorded, cX9_recorded, 3, (some .int), 11)
theorem c_X9_recorded : ∀ b ∈ m_X9_recorded, j_ckL yX9_recorded.cls (yX9_recorded.name == "<init>") (some .int) 3 cX9_recorded b.2 b.1 = true := by decide +kernel
theorem w_X9_recorded : ∀ b ∈ m_X9_recorded, ∀ w ∈ j_wdL yX9_recorded.cls b.2, w ∈ pw_X9 := by decide +kernel
theorem g_X9_recorded : j_good i_X9_recorded m_X9_recorded := ⟨by decide +kernel, c_X9_recorded, fun b hb w hw => pw_X9_in w (w_X9_recorded b hb w hw)⟩
abbrev i_X9_areActive : j_Mi := (yX9_areActive, cX9_areActive, 5, (some .boolean), 11)
theorem c_X9_areActive : ∀ b ∈ m_X9_areActive, j_ckL yX9_areActive.cls (yX9_areActive.name == "<init>") (some .boolean) 5 cX9_areActive b.2 b.1 = true := by decide +kernel
theorem w_X9_areActive : ∀ b ∈ m_X9_areActive, ∀ w ∈ j_wdL yX9_areActive.cls b.2, w ∈ pw_X9 := by decide +kernel
theorem g_X9_areActive : j_good i_X9_areActive m_X9_areActive := ⟨by decide +kernel, c_X9_areActive, fun b hb w hw => pw_X9_in w (w_X9_areActive b hb w hw)⟩
abbrev i_X9_normalized : j_Mi := (yX9_normalized, cX9_normalized, 4, (some .long), 11)
theorem c_X9_normalized : ∀ b ∈ m_X9_normalized, j_ckL yX9_normalized.cls (yX9_normalized.name == "<init>") (some .long) 4 cX9_normalized b.2 b.1 = true := by decide +kernel
theorem w_X9_normalized : ∀ b ∈ m_X9_normalized, ∀ w ∈ j_wdL yX9_normalized.cls b.2, w ∈ pw_X9 := by decide +kernel
theorem g_X9_normalized : j_good i_X9_normalized m_X9_normalized := ⟨by decide +kernel, c_X9_normalized, fun b hb w hw => pw_X9_in w (w_X9_normalized b hb w hw)⟩
abbrev i_X9_difference : j_Mi := (yX9_difference, cX9_difference, 5, (some .long), 11)
theorem c_X9_difference : ∀ b ∈ m_X9_difference, j_ckL yX9_difference.cls (yX9_difference.name == "<init>") (some .long) 5 cX9_difference b.2 b.1 = true := by decide +kernel
theorem w_X9_difference : ∀ b ∈ m_X9_difference, ∀ w ∈ j_wdL yX9_difference.cls b.2, w ∈ pw_X9 := by decide +kernel
theorem g_X9_difference : j_good i_X9_difference m_X9_difference := ⟨by decide +kernel, c_X9_difference, fun b hb w hw => pw_X9_in w (w_X9_difference b hb w hw)⟩
abbrev i_X9_audit : j_Mi := (yX9_audit, cX9_audit, 6, (some .long), 11)
theorem c_X9_audit : ∀ b ∈ m_X9_audit, j_ckL yX9_audit.cls (yX9_audit.name == "<init>") (some .long) 6 cX9_audit b.2 b.1 = true := by decide +kernel
theorem w_X9_audit : ∀ b ∈ m_X9_audit, ∀ w ∈ j_wdL yX9_audit.cls b.2, w ∈ pw_X9 := by decide +kernel
theorem g_X9_audit : j_good i_X9_audit m_X9_audit := ⟨by decide +kernel, c_X9_audit, fun b hb w hw => pw_X9_in w (w_X9_audit b hb w hw)⟩
abbrev i_X9_worstOf : j_Mi := (yX9_worstOf, cX9_worstOf, 8, (some .long), 11)
theorem c_X9_worstOf : ∀ b ∈ m_X9_worstOf, j_ckL yX9_worstOf.cls (yX9_worstOf.name == "<init>") (some .long) 8 cX9_worstOf b.2 b.1 = true := by decide +kernel
theorem w_X9_worstOf : ∀ b ∈ m_X9_worstOf, ∀ w ∈ j_wdL yX9_worstOf.cls b.2, w ∈ pw_X9 := by decide +kernel
theorem g_X9_worstOf : j_good i_X9_worstOf m_X9_worstOf := ⟨by decide +kernel, c_X9_worstOf, fun b hb w hw => pw_X9_in w (w_X9_worstOf b hb w hw)⟩
abbrev i_X9_worst : j_Mi := (yX9_worst, cX9_worst, 5, (some .long), 11)
theorem c_X9_worst : ∀ b ∈ m_X9_worst, j_ckL yX9_worst.cls (yX9_worst.name == "<init>") (some .long) 5 cX9_worst b.2 b.1 = true := by decide +kernel
theorem w_X9_worst : ∀ b ∈ m_X9_worst, ∀ w ∈ j_wdL yX9_worst.cls b.2, w ∈ pw_X9 := by decide +kernel
theorem g_X9_worst : j_good i_X9_worst m_X9_worst := ⟨by decide +kernel, c_X9_worst, fun b hb w hw => pw_X9_in w (w_X9_worst b hb w hw)⟩
abbrev i_X9_spread : j_Mi := (yX9_spread, cX9_spread, 4, (some .long), 11)
theorem c_X9_spread : ∀ b ∈ m_X9_spread, j_ckL yX9_spread.cls (yX9_spread.name == "<init>") (some .long) 4 cX9_spread b.2 b.1 = true := by decide +kernel
theorem w_X9_spread : ∀ b ∈ m_X9_spread, ∀ w ∈ j_wdL yX9_spread.cls b.2, w ∈ pw_X9 := by decide +kernel
theorem g_X9_spread : j_good i_X9_spread m_X9_spread := ⟨by decide +kernel, c_X9_spread, fun b hb w hw => pw_X9_in w (w_X9_spread b hb w hw)⟩
abbrev i_X9_share : j_Mi := (yX9_share, cX9_share, 4, (some .double), 11)
theorem c_X9_share : ∀ b ∈ m_X9_share, j_ckL yX9_share.cls (yX9_share.name == "<init>") (some .double) 4 cX9_share b.2 b.1 = true := by decide +kernel
theorem w_X9_share : ∀ b ∈ m_X9_share, ∀ w ∈ j_wdL yX9_share.cls b.2, w ∈ pw_X9 := by decide +kernel
theorem g_X9_share : j_good i_X9_share m_X9_share := ⟨by decide +kernel, c_X9_share, fun b hb w hw => pw_X9_in w (w_X9_share b hb w hw)⟩
abbrev i_X9_meanDelay : j_Mi := (yX9_meanDelay, cX9_meanDelay, 5, (some .float), 11)
theorem c_X9_meanDelay : ∀ b ∈ m_X9_meanDelay, j_ckL yX9_meanDelay.cls (yX9_meanDelay.name == "<init>") (some .float) 5 cX9_meanDelay b.2 b.1 = true := by decide +kernel
theorem w_X9_meanDelay : ∀ b ∈ m_X9_meanDelay, ∀ w ∈ j_wdL yX9_meanDelay.cls b.2, w ∈ pw_X9 := by decide +kernel
theorem g_X9_meanDelay : j_good i_X9_meanDelay m_X9_meanDelay := ⟨by decide +kernel, c_X9_meanDelay, fun b hb w hw => pw_X9_in w (w_X9_meanDelay b hb w hw)⟩
abbrev i_X9_layAside : j_Mi := (yX9_layAside, cX9_layAside, 1, none, 11)
theorem c_X9_layAside : ∀ b ∈ m_X9_layAside, j_ckL yX9_layAside.cls (yX9_layAside.name == "<init>") none 1 cX9_layAside b.2 b.1 = true := by decide +kernel
theorem w_X9_layAside : ∀ b ∈ m_X9_layAside, ∀ w ∈ j_wdL yX9_layAside.cls b.2, w ∈ pw_X9 := by decide +kernel
theorem g_X9_layAside : j_good i_X9_layAside m_X9_layAside := ⟨by decide +kernel, c_X9_layAside, fun b hb w hw => pw_X9_in w (w_X9_layAside b hb w hw)⟩
abbrev i_X9_layBack : j_Mi := (yX9_layBack, cX9_layBack, 1, none, 11)
theorem c_X9_layBack : ∀ b ∈ m_X9_layBack, j_ckL yX9_layBack.cls (yX9_layBack.name == "<init>") none 1 cX9_layBack b.2 b.1 = true := by decide +kernel
theorem w_X9_layBack : ∀ b ∈ m_X9_layBack, ∀ w ∈ j_wdL yX9_layBack.cls b.2, w ∈ pw_X9 := by decide +kernel
theorem g_X9_layBack : j_good i_X9_layBack m_X9_layBack := ⟨by decide +kernel, c_X9_layBack, fun b hb w hw => pw_X9_in w (w_X9_layBack b hb w hw)⟩
abbrev i_X9_ticksUntilDelivered : j_Mi := (yX9_ticksUntilDelivered, cX9_ticksUntilDelivered, 4, (some .int), 11)
theorem c_X9_ticksUntilDelivered : ∀ b ∈ m_X9_ticksUntilDelivered, j_ckL yX9_ticksUntilDelivered.cls (yX9_ticksUntilDelivered.name == "<init>") (some .int) 4 cX9_ticksUntilDelivered b.2 b.1 = true := by decide +kernel
theorem w_X9_ticksUntilDelivered : ∀ b ∈ m_X9_ticksUntilDelivered, ∀ w ∈ j_wdL yX9_ticksUntilDelivered.cls b.2, w ∈ pw_X9 := by decide +kernel
theorem g_X9_ticksUntilDelivered : j_good i_X9_ticksUntilDelivered m_X9_ticksUntilDelivered := ⟨by decide +kernel, c_X9_ticksUntilDelivered, fun b hb w hw => pw_X9_in w (w_X9_ticksUntilDelivered b hb w hw)⟩
abbrev i_X9_mayForecast : j_Mi := (yX9_mayForecast, cX9_mayForecast, 4, (some .boolean), 11)
theorem c_X9_mayForecast : ∀ b ∈ m_X9_mayForecast, j_ckL yX9_mayForecast.cls (yX9_mayForecast.name == "<init>") (some .boolean) 4 cX9_mayForecast b.2 b.1 = true := by decide +kernel
theorem w_X9_mayForecast : ∀ b ∈ m_X9_mayForecast, ∀ w ∈ j_wdL yX9_mayForecast.cls b.2, w ∈ pw_X9 := by decide +kernel
theorem g_X9_mayForecast : j_good i_X9_mayForecast m_X9_mayForecast := ⟨by decide +kernel, c_X9_mayForecast, fun b hb w hw => pw_X9_in w (w_X9_mayForecast b hb w hw)⟩
