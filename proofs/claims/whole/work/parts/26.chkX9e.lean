/-! ===== checks of the reference, 5 ===== -/
abbrev i_X9_isWord : j_Mi := (yX9_isWord, cX9_isWord, 4, (some .boolean), 11)
theorem c_X9_isWord : ∀ b ∈ m_X9_isWord, j_ckL yX9_isWord.cls (yX9_isWord.name == "<init>") (some .boolean) 4 cX9_isWord b.2 b.1 = true := by decide +kernel
theorem w_X9_isWord : ∀ b ∈ m_X9_isWord, ∀ w ∈ j_wdL yX9_isWord.cls b.2, w ∈ pw_X9 := by decide +kernel
theorem g_X9_isWord : j_good i_X9_isWord m_X9_isWord := ⟨by decide +kernel, c_X9_isWord, fun b hb w hw => pw_X9_in w (w_X9_isWord b hb w hw)⟩
abbrev i_X9_accept : j_Mi := (yX9_accept, cX9_accept, 3, (some .boolean), 11)
theorem c_X9_accept : ∀ b ∈ m_X9_accept, j_ckL yX9_accept.cls (yX9_accept.name == "<init>") (some .boolean) 3 cX9_accept b.2 b.1 = true := by decide +kernel
theorem w_X9_accept : ∀ b ∈ m_X9_accept, ∀ w ∈ j_wdL yX9_accept.cls b.2, w ∈ pw_X9 := by decide +kernel
theorem g_X9_accept : j_good i_X9_accept m_X9_accept := ⟨by decide +kernel, c_X9_accept, fun b hb w hw => pw_X9_in w (w_X9_accept b hb w hw)⟩
abbrev i_X9_expectWord : j_Mi := (yX9_expectWord, cX9_expectWord, 2, none, 11)
theorem c_X9_expectWord : ∀ b ∈ m_X9_expectWord, j_ckL yX9_expectWord.cls (yX9_expectWord.name == "<init>") none 2 cX9_expectWord b.2 b.1 = true := by decide +kernel
theorem w_X9_expectWord : ∀ b ∈ m_X9_expectWord, ∀ w ∈ j_wdL yX9_expectWord.cls b.2, w ∈ pw_X9 := by decide +kernel
theorem g_X9_expectWord : j_good i_X9_expectWord m_X9_expectWord := ⟨by decide +kernel, c_X9_expectWord, fun b hb w hw => pw_X9_in w (w_X9_expectWord b hb w hw)⟩
abbrev i_X9_expect : j_Mi := (yX9_expect, cX9_expect, 2, none, 11)
theorem c_X9_expect : ∀ b ∈ m_X9_expect, j_ckL yX9_expect.cls (yX9_expect.name == "<init>") none 2 cX9_expect b.2 b.1 = true := by decide +kernel
theorem w_X9_expect : ∀ b ∈ m_X9_expect, ∀ w ∈ j_wdL yX9_expect.cls b.2, w ∈ pw_X9 := by decide +kernel
theorem g_X9_expect : j_good i_X9_expect m_X9_expect := ⟨by decide +kernel, c_X9_expect, fun b hb w hw => pw_X9_in w (w_X9_expect b hb w hw)⟩
abbrev i_X9_value : j_Mi := (yX9_value, cX9_value, 3, (some .int), 11)
theorem c_X9_value : ∀ b ∈ m_X9_value, j_ckL yX9_value.cls (yX9_value.name == "<init>") (some .int) 3 cX9_value b.2 b.1 = true := by decide +kernel
theorem w_X9_value : ∀ b ∈ m_X9_value, ∀ w ∈ j_wdL yX9_value.cls b.2, w ∈ pw_X9 := by decide +kernel
theorem g_X9_value : j_good i_X9_value m_X9_value := ⟨by decide +kernel, c_X9_value, fun b hb w hw => pw_X9_in w (w_X9_value b hb w hw)⟩
abbrev i_X9_number : j_Mi := (yX9_number, cX9_number, 4, (some .int), 11)
theorem c_X9_number : ∀ b ∈ m_X9_number, j_ckL yX9_number.cls (yX9_number.name == "<init>") (some .int) 4 cX9_number b.2 b.1 = true := by decide +kernel
theorem w_X9_number : ∀ b ∈ m_X9_number, ∀ w ∈ j_wdL yX9_number.cls b.2, w ∈ pw_X9 := by decide +kernel
theorem g_X9_number : j_good i_X9_number m_X9_number := ⟨by decide +kernel, c_X9_number, fun b hb w hw => pw_X9_in w (w_X9_number b hb w hw)⟩
abbrev i_X9_putNumber : j_Mi := (yX9_putNumber, cX9_putNumber, 5, none, 11)
theorem c_X9_putNumber : ∀ b ∈ m_X9_putNumber, j_ckL yX9_putNumber.cls (yX9_putNumber.name == "<init>") none 5 cX9_putNumber b.2 b.1 = true := by decide +kernel
theorem w_X9_putNumber : ∀ b ∈ m_X9_putNumber, ∀ w ∈ j_wdL yX9_putNumber.cls b.2, w ∈ pw_X9 := by decide +kernel
theorem g_X9_putNumber : j_good i_X9_putNumber m_X9_putNumber := ⟨by decide +kernel, c_X9_putNumber, fun b hb w hw => pw_X9_in w (w_X9_putNumber b hb w hw)⟩
abbrev i_X9_readOption : j_Mi := (yX9_readOption, cX9_readOption, 2, (some .boolean), 11)
theorem c_X9_readOption : ∀ b ∈ m_X9_readOption, j_ckL yX9_readOption.cls (yX9_readOption.name == "<init>") (some .boolean) 2 cX9_readOption b.2 b.1 = true := by decide +kernel
theorem w_X9_readOption : ∀ b ∈ m_X9_readOption, ∀ w ∈ j_wdL yX9_readOption.cls b.2, w ∈ pw_X9 := by decide +kernel
theorem g_X9_readOption : j_good i_X9_readOption m_X9_readOption := ⟨by decide +kernel, c_X9_readOption, fun b hb w hw => pw_X9_in w (w_X9_readOption b hb w hw)⟩
abbrev i_X9_readFlow : j_Mi := (yX9_readFlow, cX9_readFlow, 3, none, 11)
theorem c_X9_readFlow : ∀ b ∈ m_X9_readFlow, j_ckL yX9_readFlow.cls (yX9_readFlow.name == "<init>") none 3 cX9_readFlow b.2 b.1 = true := by decide +kernel
theorem w_X9_readFlow : ∀ b ∈ m_X9_readFlow, ∀ w ∈ j_wdL yX9_readFlow.cls b.2, w ∈ pw_X9 := by decide +kernel
theorem g_X9_readFlow : j_good i_X9_readFlow m_X9_readFlow := ⟨by decide +kernel, c_X9_readFlow, fun b hb w hw => pw_X9_in w (w_X9_readFlow b hb w hw)⟩
abbrev i_X9_readCondition : j_Mi := (yX9_readCondition, cX9_readCondition, 5, (some .boolean), 11)
theorem c_X9_readCondition : ∀ b ∈ m_X9_readCondition, j_ckL yX9_readCondition.cls (yX9_readCondition.name == "<init>") (some .boolean) 5 cX9_readCondition b.2 b.1 = true := by decide +kernel
theorem w_X9_readCondition : ∀ b ∈ m_X9_readCondition, ∀ w ∈ j_wdL yX9_readCondition.cls b.2, w ∈ pw_X9 := by decide +kernel
theorem g_X9_readCondition : j_good i_X9_readCondition m_X9_readCondition := ⟨by decide +kernel, c_X9_readCondition, fun b hb w hw => pw_X9_in w (w_X9_readCondition b hb w hw)⟩
abbrev i_X9_readRule : j_Mi := (yX9_readRule, cX9_readRule, 3, none, 11)
theorem c_X9_readRule : ∀ b ∈ m_X9_readRule, j_ckL yX9_readRule.cls (yX9_readRule.name == "<init>") none 3 cX9_readRule b.2 b.1 = true := by decide +kernel
theorem w_X9_readRule : ∀ b ∈ m_X9_readRule, ∀ w ∈ j_wdL yX9_readRule.cls b.2, w ∈ pw_X9 := by decide +kernel
theorem g_X9_readRule : j_good i_X9_readRule m_X9_readRule := ⟨by decide +kernel, c_X9_readRule, fun b hb w hw => pw_X9_in w (w_X9_readRule b hb w hw)⟩
abbrev i_X9_readClause : j_Mi := (yX9_readClause, cX9_readClause, 1, none, 11)
theorem c_X9_readClause : ∀ b ∈ m_X9_readClause, j_ckL yX9_readClause.cls (yX9_readClause.name == "<init>") none 1 cX9_readClause b.2 b.1 = true := by decide +kernel
theorem w_X9_readClause : ∀ b ∈ m_X9_readClause, ∀ w ∈ j_wdL yX9_readClause.cls b.2, w ∈ pw_X9 := by decide +kernel
theorem g_X9_readClause : j_good i_X9_readClause m_X9_readClause := ⟨by decide +kernel, c_X9_readClause, fun b hb w hw => pw_X9_in w (w_X9_readClause b hb w hw)⟩
abbrev i_X9_load : j_Mi := (yX9_load, cX9_load, 3, (some .int), 11)
theorem c_X9_load : ∀ b ∈ m_X9_load, j_ckL yX9_load.cls (yX9_load.name == "<init>") (some .int) 3 cX9_load b.2 b.1 = true := by decide +kernel
theorem w_X9_load : ∀ b ∈ m_X9_load, ∀ w ∈ j_wdL yX9_load.cls b.2, w ∈ pw_X9 := by decide +kernel
theorem g_X9_load : j_good i_X9_load m_X9_load := ⟨by decide +kernel, c_X9_load, fun b hb w hw => pw_X9_in w (w_X9_load b hb w hw)⟩
abbrev i_X9_emit : j_Mi := (yX9_emit, cX9_emit, 2, none, 11)
theorem c_X9_emit : ∀ b ∈ m_X9_emit, j_ckL yX9_emit.cls (yX9_emit.name == "<init>") none 2 cX9_emit b.2 b.1 = true := by decide +kernel
theorem w_X9_emit : ∀ b ∈ m_X9_emit, ∀ w ∈ j_wdL yX9_emit.cls b.2, w ∈ pw_X9 := by decide +kernel
theorem g_X9_emit : j_good i_X9_emit m_X9_emit := ⟨by decide +kernel, c_X9_emit, fun b hb w hw => pw_X9_in w (w_X9_emit b hb w hw)⟩
abbrev i_X9_enter : j_Mi := (yX9_enter, cX9_enter, 1, none, 11)
theorem c_X9_enter : ∀ b ∈ m_X9_enter, j_ckL yX9_enter.cls (yX9_enter.name == "<init>") none 1 cX9_enter b.2 b.1 = true := by decide +kernel
theorem w_X9_enter : ∀ b ∈ m_X9_enter, ∀ w ∈ j_wdL yX9_enter.cls b.2, w ∈ pw_X9 := by decide +kernel
theorem g_X9_enter : j_good i_X9_enter m_X9_enter := ⟨by decide +kernel, c_X9_enter, fun b hb w hw => pw_X9_in w (w_X9_enter b hb w hw)⟩
abbrev i_X9_compileValue : j_Mi := (yX9_compileValue, cX9_compileValue, 2, none, 11)
theorem c_X9_compileValue : ∀ b ∈ m_X9_compileValue, j_ckL yX9_compileValue.cls (yX9_compileValue.name == "<init>") none 2 cX9_compileValue b.2 b.1 = true := by decide +kernel
theorem w_X9_compileValue : ∀ b ∈ m_X9_compileValue, ∀ w ∈ j_wdL yX9_compileValue.cls b.2, w ∈ pw_X9 := by decide +kernel
theorem g_X9_compileValue : j_good i_X9_compileValue m_X9_compileValue := ⟨by decide +kernel, c_X9_compileValue, fun b hb w hw => pw_X9_in w (w_X9_compileValue b hb w hw)⟩
abbrev i_X9_compileFactor : j_Mi := (yX9_compileFactor, cX9_compileFactor, 2, none, 11)
theorem c_X9_compileFactor : ∀ b ∈ m_X9_compileFactor, j_ckL yX9_compileFactor.cls (yX9_compileFactor.name == "<init>") none 2 cX9_compileFactor b.2 b.1 = true := by decide +kernel
theorem w_X9_compileFactor : ∀ b ∈ m_X9_compileFactor, ∀ w ∈ j_wdL yX9_compileFactor.cls b.2, w ∈ pw_X9 := by decide +kernel
theorem g_X9_compileFactor : j_good i_X9_compileFactor m_X9_compileFactor := ⟨by decide +kernel, c_X9_compileFactor, fun b hb w hw => pw_X9_in w (w_X9_compileFactor b hb w hw)⟩
abbrev i_X9_compileConjunction : j_Mi := (yX9_compileConjunction, cX9_compileConjunction, 1, none, 11)
theorem c_X9_compileConjunction : ∀ b ∈ m_X9_compileConjunction, j_ckL yX9_compileConjunction.cls (yX9_compileConjunction.name == "<init>") none 1 cX9_compileConjunction b.2 b.1 = true := by decide +kernel
theorem w_X9_compileConjunction : ∀ b ∈ m_X9_compileConjunction, ∀ w ∈ j_wdL yX9_compileConjunction.cls b.2, w ∈ pw_X9 := by decide +kernel
theorem g_X9_compileConjunction : j_good i_X9_compileConjunction m_X9_compileConjunction := ⟨by decide +kernel, c_X9_compileConjunction, fun b hb w hw => pw_X9_in w (w_X9_compileConjunction b hb w hw)⟩
abbrev i_X9_compileTest : j_Mi := (yX9_compileTest, cX9_compileTest, 1, none, 11)
theorem c_X9_compileTest : ∀ b ∈ m_X9_compileTest, j_ckL yX9_compileTest.cls (yX9_compileTest.name == "<init>") none 1 cX9_compileTest b.2 b.1 = true := by decide +kernel
theorem w_X9_compileTest : ∀ b ∈ m_X9_compileTest, ∀ w ∈ j_wdL yX9_compileTest.cls b.2, w ∈ pw_X9 := by decide +kernel
theorem g_X9_compileTest : j_good i_X9_compileTest m_X9_compileTest := ⟨by decide +kernel, c_X9_compileTest, fun b hb w hw => pw_X9_in w (w_X9_compileTest b hb w hw)⟩
abbrev i_X9_operate : j_Mi := (yX9_operate, cX9_operate, 3, (some .int), 99)
theorem c_X9_operate : ∀ b ∈ m_X9_operate, j_ckL yX9_operate.cls (yX9_operate.name == "<init>") (some .int) 3 cX9_operate b.2 b.1 = true := by decide +kernel
theorem w_X9_operate : ∀ b ∈ m_X9_operate, ∀ w ∈ j_wdL yX9_operate.cls b.2, w ∈ pw_X9 := by decide +kernel
theorem g_X9_operate : j_good i_X9_operate m_X9_operate := ⟨by decide +kernel, c_X9_operate, fun b hb w hw => pw_X9_in w (w_X9_operate b hb w hw)⟩
abbrev i_X9_property : j_Mi := (yX9_property, cX9_property, 3, (some .int), 11)
theorem c_X9_property : ∀ b ∈ m_X9_property, j_ckL yX9_property.cls (yX9_property.name == "<init>") (some .int) 3 cX9_property b.2 b.1 = true := by decide +kernel
theorem w_X9_property : ∀ b ∈ m_X9_property, ∀ w ∈ j_wdL yX9_property.cls b.2, w ∈ pw_X9 := by decide +kernel
theorem g_X9_property : j_good i_X9_property m_X9_property := ⟨by decide +kernel, c_X9_property, fun b hb w hw => pw_X9_in w (w_X9_property b hb w hw)⟩
abbrev i_X9_holdsFor : j_Mi := (yX9_holdsFor, cX9_holdsFor, 5, (some .boolean), 11)
theorem c_X9_holdsFor : ∀ b ∈ m_X9_holdsFor, j_ckL yX9_holdsFor.cls (yX9_holdsFor.name == "<init>") (some .boolean) 5 cX9_holdsFor b.2 b.1 = true := by decide +kernel
theorem w_X9_holdsFor : ∀ b ∈ m_X9_holdsFor, ∀ w ∈ j_wdL yX9_holdsFor.cls b.2, w ∈ pw_X9 := by decide +kernel
theorem g_X9_holdsFor : j_good i_X9_holdsFor m_X9_holdsFor := ⟨by decide +kernel, c_X9_holdsFor, fun b hb w hw => pw_X9_in w (w_X9_holdsFor b hb w hw)⟩
abbrev i_X9_query : j_Mi := (yX9_query, cX9_query, 5, (some .int), 11)
theorem c_X9_query : ∀ b ∈ m_X9_query, j_ckL yX9_query.cls (yX9_query.name == "<init>") (some .int) 5 cX9_query b.2 b.1 = true := by decide +kernel
theorem w_X9_query : ∀ b ∈ m_X9_query, ∀ w ∈ j_wdL yX9_query.cls b.2, w ∈ pw_X9 := by decide +kernel
theorem g_X9_query : j_good i_X9_query m_X9_query := ⟨by decide +kernel, c_X9_query, fun b hb w hw => pw_X9_in w (w_X9_query b hb w hw)⟩
