/-! ===== checks: 22.chk ===== -/
/-- each word stands in the table at its place -/
def j_wI : List Cond → List Nat → Bool
  | [], _ => true
  | w :: ws, i :: is => decide (lw_tbl[i]? = some w) && (goodWord w && j_wI ws is)
  | _ :: _, [] => false
theorem j_wI_in : ∀ {ws : List Cond} {is : List Nat}, j_wI ws is = true → ∀ w ∈ ws, w ∈ j_tbl := by
  intro ws
  induction ws with
  | nil => intro is _ w hw; cases hw
  | cons v ws ih =>
    intro is h w hw
    cases is with
    | nil => exact absurd h (by simp [j_wI])
    | cons i is =>
      simp only [j_wI, Bool.and_eq_true, decide_eq_true_eq] at h
      rcases List.mem_cons.mp hw with e | e
      · rw [e]
        exact List.mem_append_left _ (List.mem_filter.mpr ⟨List.mem_of_getElem? h.1, h.2.1⟩)
      · exact ih h.2.2 w e
abbrev i_X0_init : j_Mi := (yX0_init, cX0_init, 1, none, 2)
theorem c_X0_init : ∀ b ∈ m_X0_init, j_ckL yX0_init.cls (yX0_init.name == "<init>") none 1 cX0_init b.2 b.1 = true := by decide +kernel
theorem w_X0_init : j_wI (m_X0_init.flatMap (fun b => j_wdL yX0_init.cls b.2)) [332, 116, 117, 333, 335] = true := by decide +kernel
theorem g_X0_init : j_good i_X0_init m_X0_init := ⟨by decide +kernel, c_X0_init, fun b hb w hw => j_wI_in w_X0_init w (List.mem_flatMap.mpr ⟨b, hb, hw⟩)⟩
abbrev i_X0_forget : j_Mi := (yX0_forget, cX0_forget, 1, none, 2)
theorem c_X0_forget : ∀ b ∈ m_X0_forget, j_ckL yX0_forget.cls (yX0_forget.name == "<init>") none 1 cX0_forget b.2 b.1 = true := by decide +kernel
theorem w_X0_forget : j_wI (m_X0_forget.flatMap (fun b => j_wdL yX0_forget.cls b.2)) [336] = true := by decide +kernel
theorem g_X0_forget : j_good i_X0_forget m_X0_forget := ⟨by decide +kernel, c_X0_forget, fun b hb w hw => j_wI_in w_X0_forget w (List.mem_flatMap.mpr ⟨b, hb, hw⟩)⟩
abbrev i_X0_keep : j_Mi := (yX0_keep, cX0_keep, 2, none, 2)
theorem c_X0_keep : ∀ b ∈ m_X0_keep, j_ckL yX0_keep.cls (yX0_keep.name == "<init>") none 2 cX0_keep b.2 b.1 = true := by decide +kernel
theorem w_X0_keep : j_wI (m_X0_keep.flatMap (fun b => j_wdL yX0_keep.cls b.2)) [338, 338, 338, 336, 945, 543, 87, 544, 336, 338, 338, 335, 335, 338, 335, 338, 333, 211, 88, 214, 88, 946, 213, 335, 338, 580, 88, 577, 578, 579] = true := by decide +kernel
theorem g_X0_keep : j_good i_X0_keep m_X0_keep := ⟨by decide +kernel, c_X0_keep, fun b hb w hw => j_wI_in w_X0_keep w (List.mem_flatMap.mpr ⟨b, hb, hw⟩)⟩
abbrev i_X0_giveBack : j_Mi := (yX0_giveBack, cX0_giveBack, 2, none, 2)
theorem c_X0_giveBack : ∀ b ∈ m_X0_giveBack, j_ckL yX0_giveBack.cls (yX0_giveBack.name == "<init>") none 2 cX0_giveBack b.2 b.1 = true := by decide +kernel
theorem w_X0_giveBack : j_wI (m_X0_giveBack.flatMap (fun b => j_wdL yX0_giveBack.cls b.2)) [338, 338, 335, 335, 338, 335, 338, 580, 88, 577, 578, 579, 338, 338, 338, 336, 598, 168, 87, 169, 336] = true := by decide +kernel
theorem g_X0_giveBack : j_good i_X0_giveBack m_X0_giveBack := ⟨by decide +kernel, c_X0_giveBack, fun b hb w hw => j_wI_in w_X0_giveBack w (List.mem_flatMap.mpr ⟨b, hb, hw⟩)⟩
abbrev i_X2_init : j_Mi := (yX2_init, cX2_init, 1, none, 4)
theorem c_X2_init : ∀ b ∈ m_X2_init, j_ckL yX2_init.cls (yX2_init.name == "<init>") none 1 cX2_init b.2 b.1 = true := by decide +kernel
theorem w_X2_init : j_wI (m_X2_init.flatMap (fun b => j_wdL yX2_init.cls b.2)) [1390, 116, 117, 1391, 1392] = true := by decide +kernel
theorem g_X2_init : j_good i_X2_init m_X2_init := ⟨by decide +kernel, c_X2_init, fun b hb w hw => j_wI_in w_X2_init w (List.mem_flatMap.mpr ⟨b, hb, hw⟩)⟩
abbrev i_X2_put : j_Mi := (yX2_put, cX2_put, 2, none, 4)
theorem c_X2_put : ∀ b ∈ m_X2_put, j_ckL yX2_put.cls (yX2_put.name == "<init>") none 2 cX2_put b.2 b.1 = true := by decide +kernel
theorem w_X2_put : j_wI (m_X2_put.flatMap (fun b => j_wdL yX2_put.cls b.2)) [1391, 1391, 1392, 1392] = true := by decide +kernel
theorem g_X2_put : j_good i_X2_put m_X2_put := ⟨by decide +kernel, c_X2_put, fun b hb w hw => j_wI_in w_X2_put w (List.mem_flatMap.mpr ⟨b, hb, hw⟩)⟩
abbrev i_X2_has : j_Mi := (yX2_has, cX2_has, 4, (some .boolean), 4)
theorem c_X2_has : ∀ b ∈ m_X2_has, j_ckL yX2_has.cls (yX2_has.name == "<init>") (some .boolean) 4 cX2_has b.2 b.1 = true := by decide +kernel
theorem w_X2_has : j_wI (m_X2_has.flatMap (fun b => j_wdL yX2_has.cls b.2)) [1391, 1392] = true := by decide +kernel
theorem g_X2_has : j_good i_X2_has m_X2_has := ⟨by decide +kernel, c_X2_has, fun b hb w hw => j_wI_in w_X2_has w (List.mem_flatMap.mpr ⟨b, hb, hw⟩)⟩
abbrev i_X2_addAll : j_Mi := (yX2_addAll, cX2_addAll, 2, none, 4)
theorem c_X2_addAll : ∀ b ∈ m_X2_addAll, j_ckL yX2_addAll.cls (yX2_addAll.name == "<init>") none 2 cX2_addAll b.2 b.1 = true := by decide +kernel
theorem w_X2_addAll : j_wI (m_X2_addAll.flatMap (fun b => j_wdL yX2_addAll.cls b.2)) [1391, 1391, 1391, 1392, 1392, 1392] = true := by decide +kernel
theorem g_X2_addAll : j_good i_X2_addAll m_X2_addAll := ⟨by decide +kernel, c_X2_addAll, fun b hb w hw => j_wI_in w_X2_addAll w (List.mem_flatMap.mpr ⟨b, hb, hw⟩)⟩
abbrev i_X2_keepAll : j_Mi := (yX2_keepAll, cX2_keepAll, 2, none, 4)
theorem c_X2_keepAll : ∀ b ∈ m_X2_keepAll, j_ckL yX2_keepAll.cls (yX2_keepAll.name == "<init>") none 2 cX2_keepAll b.2 b.1 = true := by decide +kernel
theorem w_X2_keepAll : j_wI (m_X2_keepAll.flatMap (fun b => j_wdL yX2_keepAll.cls b.2)) [1391, 1391, 1391, 1392, 1392, 1392] = true := by decide +kernel
theorem g_X2_keepAll : j_good i_X2_keepAll m_X2_keepAll := ⟨by decide +kernel, c_X2_keepAll, fun b hb w hw => j_wI_in w_X2_keepAll w (List.mem_flatMap.mpr ⟨b, hb, hw⟩)⟩
abbrev i_X2_invert : j_Mi := (yX2_invert, cX2_invert, 1, none, 4)
theorem c_X2_invert : ∀ b ∈ m_X2_invert, j_ckL yX2_invert.cls (yX2_invert.name == "<init>") none 1 cX2_invert b.2 b.1 = true := by decide +kernel
theorem w_X2_invert : j_wI (m_X2_invert.flatMap (fun b => j_wdL yX2_invert.cls b.2)) [1391, 1415, 1391, 1392, 1415, 1392] = true := by decide +kernel
theorem g_X2_invert : j_good i_X2_invert m_X2_invert := ⟨by decide +kernel, c_X2_invert, fun b hb w hw => j_wI_in w_X2_invert w (List.mem_flatMap.mpr ⟨b, hb, hw⟩)⟩
abbrev i_X2_countBelow : j_Mi := (yX2_countBelow, cX2_countBelow, 4, (some .int), 4)
theorem c_X2_countBelow : ∀ b ∈ m_X2_countBelow, j_ckL yX2_countBelow.cls (yX2_countBelow.name == "<init>") (some .int) 4 cX2_countBelow b.2 b.1 = true := by decide +kernel
theorem w_X2_countBelow : j_wI (m_X2_countBelow.flatMap (fun b => j_wdL yX2_countBelow.cls b.2)) [1439, 109, 1436, 1437, 1438] = true := by decide +kernel
theorem g_X2_countBelow : j_good i_X2_countBelow m_X2_countBelow := ⟨by decide +kernel, c_X2_countBelow, fun b hb w hw => j_wI_in w_X2_countBelow w (List.mem_flatMap.mpr ⟨b, hb, hw⟩)⟩
abbrev i_X2_firstBelow : j_Mi := (yX2_firstBelow, cX2_firstBelow, 3, (some .int), 4)
theorem c_X2_firstBelow : ∀ b ∈ m_X2_firstBelow, j_ckL yX2_firstBelow.cls (yX2_firstBelow.name == "<init>") (some .int) 3 cX2_firstBelow b.2 b.1 = true := by decide +kernel
theorem w_X2_firstBelow : j_wI (m_X2_firstBelow.flatMap (fun b => j_wdL yX2_firstBelow.cls b.2)) [1439, 109, 1436, 1437, 1438] = true := by decide +kernel
theorem g_X2_firstBelow : j_good i_X2_firstBelow m_X2_firstBelow := ⟨by decide +kernel, c_X2_firstBelow, fun b hb w hw => j_wI_in w_X2_firstBelow w (List.mem_flatMap.mpr ⟨b, hb, hw⟩)⟩
abbrev i_X3_init : j_Mi := (yX3_init, cX3_init, 3, none, 5)
theorem c_X3_init : ∀ b ∈ m_X3_init, j_ckL yX3_init.cls (yX3_init.name == "<init>") none 3 cX3_init b.2 b.1 = true := by decide +kernel
theorem w_X3_init : j_wI (m_X3_init.flatMap (fun b => j_wdL yX3_init.cls b.2)) [351, 116, 117, 352, 353] = true := by decide +kernel
theorem g_X3_init : j_good i_X3_init m_X3_init := ⟨by decide +kernel, c_X3_init, fun b hb w hw => j_wI_in w_X3_init w (List.mem_flatMap.mpr ⟨b, hb, hw⟩)⟩
abbrev i_X3_readTest : j_Mi := (yX3_readTest, cX3_readTest, 4, (some (.object "PacketScheduler$PacketSet")), 5)
theorem c_X3_readTest : ∀ b ∈ m_X3_readTest, j_ckL yX3_readTest.cls (yX3_readTest.name == "<init>") (some (.object "PacketScheduler$PacketSet")) 4 cX3_readTest b.2 b.1 = true := by decide +kernel
theorem w_X3_readTest : j_wI (m_X3_readTest.flatMap (fun b => j_wdL yX3_readTest.cls b.2)) [1348, 91, 1345, 1346, 1347, 352, 718, 84, 1354, 716, 717, 352, 697, 84, 1376, 695, 696, 1348, 91, 1345, 1346, 1347, 1426, 109, 1423, 1424, 1425] = true := by decide +kernel
theorem g_X3_readTest : j_good i_X3_readTest m_X3_readTest := ⟨by decide +kernel, c_X3_readTest, fun b hb w hw => j_wI_in w_X3_readTest w (List.mem_flatMap.mpr ⟨b, hb, hw⟩)⟩
abbrev i_X3_readConjunction : j_Mi := (yX3_readConjunction, cX3_readConjunction, 4, (some (.object "PacketScheduler$PacketSet")), 5)
theorem c_X3_readConjunction : ∀ b ∈ m_X3_readConjunction, j_ckL yX3_readConjunction.cls (yX3_readConjunction.name == "<init>") (some (.object "PacketScheduler$PacketSet")) 4 cX3_readConjunction b.2 b.1 = true := by decide +kernel
theorem w_X3_readConjunction : j_wI (m_X3_readConjunction.flatMap (fun b => j_wdL yX3_readConjunction.cls b.2)) [1352, 91, 1349, 1350, 1351, 352, 718, 84, 1354, 716, 717, 352, 697, 84, 1376, 695, 696, 1352, 91, 1349, 1350, 1351, 1421, 109, 1418, 1419, 1420] = true := by decide +kernel
theorem g_X3_readConjunction : j_good i_X3_readConjunction m_X3_readConjunction := ⟨by decide +kernel, c_X3_readConjunction, fun b hb w hw => j_wI_in w_X3_readConjunction w (List.mem_flatMap.mpr ⟨b, hb, hw⟩)⟩
abbrev i_X3_readFactor : j_Mi := (yX3_readFactor, cX3_readFactor, 5, (some (.object "PacketScheduler$PacketSet")), 5)
theorem c_X3_readFactor : ∀ b ∈ m_X3_readFactor, j_ckL yX3_readFactor.cls (yX3_readFactor.name == "<init>") (some (.object "PacketScheduler$PacketSet")) 5 cX3_readFactor b.2 b.1 = true := by decide +kernel
theorem w_X3_readFactor : j_wI (m_X3_readFactor.flatMap (fun b => j_wdL yX3_readFactor.cls b.2)) [352, 718, 84, 1354, 716, 717, 352, 788, 84, 1355, 786, 787, 1359, 91, 1356, 1357, 1358, 1380, 91, 1377, 1378, 1379, 1359, 91, 1356, 1357, 1358, 1384, 91, 1381, 1382, 1383, 352, 759, 84, 1375, 757, 758, 1385, 1386, 109, 1389, 109, 1387, 1388, 352, 697, 84, 1376, 695, 696, 1352, 91, 1349, 1350, 1351, 1344, 91, 1410, 1342, 1343, 1414, 109, 1411, 1412, 1413, 352, 784, 84, 1416, 782, 783] = true := by decide +kernel
theorem g_X3_readFactor : j_good i_X3_readFactor m_X3_readFactor := ⟨by decide +kernel, c_X3_readFactor, fun b hb w hw => j_wI_in w_X3_readFactor w (List.mem_flatMap.mpr ⟨b, hb, hw⟩)⟩
abbrev i_X3_readValue : j_Mi := (yX3_readValue, cX3_readValue, 2, (some .int), 5)
theorem c_X3_readValue : ∀ b ∈ m_X3_readValue, j_ckL yX3_readValue.cls (yX3_readValue.name == "<init>") (some .int) 2 cX3_readValue b.2 b.1 = true := by decide +kernel
theorem w_X3_readValue : j_wI (m_X3_readValue.flatMap (fun b => j_wdL yX3_readValue.cls b.2)) [352, 129, 352, 1360, 764, 84, 1361, 762, 763, 1365, 91, 1362, 1363, 1364, 352, 759, 84, 1375, 757, 758, 352, 697, 84, 1376, 695, 696] = true := by decide +kernel
theorem g_X3_readValue : j_good i_X3_readValue m_X3_readValue := ⟨by decide +kernel, c_X3_readValue, fun b hb w hw => j_wI_in w_X3_readValue w (List.mem_flatMap.mpr ⟨b, hb, hw⟩)⟩
abbrev i_X3_namedColumn : j_Mi := (yX3_namedColumn, cX3_namedColumn, 1, (some .int), 5)
theorem c_X3_namedColumn : ∀ b ∈ m_X3_namedColumn, j_ckL yX3_namedColumn.cls (yX3_namedColumn.name == "<init>") (some .int) 1 cX3_namedColumn b.2 b.1 = true := by decide +kernel
theorem w_X3_namedColumn : j_wI (m_X3_namedColumn.flatMap (fun b => j_wdL yX3_namedColumn.cls b.2)) [352, 718, 84, 1354, 716, 717, 352, 718, 84, 1354, 716, 717, 352, 718, 84, 1354, 716, 717, 352, 718, 84, 1354, 716, 717, 352, 718, 84, 1354, 716, 717, 352, 718, 84, 1354, 716, 717, 352, 718, 84, 1354, 716, 717, 352, 718, 84, 1354, 716, 717, 352, 718, 84, 1354, 716, 717] = true := by decide +kernel
theorem g_X3_namedColumn : j_good i_X3_namedColumn m_X3_namedColumn := ⟨by decide +kernel, c_X3_namedColumn, fun b hb w hw => j_wI_in w_X3_namedColumn w (List.mem_flatMap.mpr ⟨b, hb, hw⟩)⟩
abbrev i_X3_readComparison : j_Mi := (yX3_readComparison, cX3_readComparison, 2, (some .int), 5)
theorem c_X3_readComparison : ∀ b ∈ m_X3_readComparison, j_ckL yX3_readComparison.cls (yX3_readComparison.name == "<init>") (some .int) 2 cX3_readComparison b.2 b.1 = true := by decide +kernel
theorem w_X3_readComparison : j_wI (m_X3_readComparison.flatMap (fun b => j_wdL yX3_readComparison.cls b.2)) [352, 788, 84, 1355, 786, 787, 352, 788, 84, 1355, 786, 787, 352, 788, 84, 1355, 786, 787, 352, 759, 84, 1375, 757, 758, 352, 697, 84, 1376, 695, 696] = true := by decide +kernel
theorem g_X3_readComparison : j_good i_X3_readComparison m_X3_readComparison := ⟨by decide +kernel, c_X3_readComparison, fun b hb w hw => j_wI_in w_X3_readComparison w (List.mem_flatMap.mpr ⟨b, hb, hw⟩)⟩
abbrev i_X3_compareAll : j_Mi := (yX3_compareAll, cX3_compareAll, 6, (some (.object "PacketScheduler$PacketSet")), 5)
theorem c_X3_compareAll : ∀ b ∈ m_X3_compareAll, j_ckL yX3_compareAll.cls (yX3_compareAll.name == "<init>") (some (.object "PacketScheduler$PacketSet")) 6 cX3_compareAll b.2 b.1 = true := by decide +kernel
theorem w_X3_compareAll : j_wI (m_X3_compareAll.flatMap (fun b => j_wdL yX3_compareAll.cls b.2)) [1385, 1386, 109, 1389, 109, 1387, 1388, 353, 255, 1401, 91, 1398, 1399, 1400, 1401, 91, 1398, 1399, 1400, 1405, 108, 1403, 1404, 1409, 109, 1406, 1407, 1408] = true := by decide +kernel
theorem g_X3_compareAll : j_good i_X3_compareAll m_X3_compareAll := ⟨by decide +kernel, c_X3_compareAll, fun b hb w hw => j_wI_in w_X3_compareAll w (List.mem_flatMap.mpr ⟨b, hb, hw⟩)⟩
abbrev i_X3_valueFor : j_Mi := (yX3_valueFor, cX3_valueFor, 4, (some .int), 5)
theorem c_X3_valueFor : ∀ b ∈ m_X3_valueFor, j_ckL yX3_valueFor.cls (yX3_valueFor.name == "<init>") (some .int) 4 cX3_valueFor b.2 b.1 = true := by decide +kernel
theorem w_X3_valueFor : j_wI (m_X3_valueFor.flatMap (fun b => j_wdL yX3_valueFor.cls b.2)) [353, 243, 318, 86, 1402, 316, 317] = true := by decide +kernel
theorem g_X3_valueFor : j_good i_X3_valueFor m_X3_valueFor := ⟨by decide +kernel, c_X3_valueFor, fun b hb w hw => j_wI_in w_X3_valueFor w (List.mem_flatMap.mpr ⟨b, hb, hw⟩)⟩
abbrev i_X4_init : j_Mi := (yX4_init, cX4_init, 1, none, 6)
theorem c_X4_init : ∀ b ∈ m_X4_init, j_ckL yX4_init.cls (yX4_init.name == "<init>") none 1 cX4_init b.2 b.1 = true := by decide +kernel
theorem w_X4_init : j_wI (m_X4_init.flatMap (fun b => j_wdL yX4_init.cls b.2)) [223, 116, 117, 224, 162, 86, 165, 86, 225, 164, 226] = true := by decide +kernel
theorem g_X4_init : j_good i_X4_init m_X4_init := ⟨by decide +kernel, c_X4_init, fun b hb w hw => j_wI_in w_X4_init w (List.mem_flatMap.mpr ⟨b, hb, hw⟩)⟩
abbrev i_X4_reset : j_Mi := (yX4_reset, cX4_reset, 1, none, 6)
theorem c_X4_reset : ∀ b ∈ m_X4_reset, j_ckL yX4_reset.cls (yX4_reset.name == "<init>") none 1 cX4_reset b.2 b.1 = true := by decide +kernel
theorem w_X4_reset : j_wI (m_X4_reset.flatMap (fun b => j_wdL yX4_reset.cls b.2)) [228, 230] = true := by decide +kernel
theorem g_X4_reset : j_good i_X4_reset m_X4_reset := ⟨by decide +kernel, c_X4_reset, fun b hb w hw => j_wI_in w_X4_reset w (List.mem_flatMap.mpr ⟨b, hb, hw⟩)⟩
abbrev i_X4_addRow : j_Mi := (yX4_addRow, cX4_addRow, 1, (some .int), 6)
theorem c_X4_addRow : ∀ b ∈ m_X4_addRow, j_ckL yX4_addRow.cls (yX4_addRow.name == "<init>") (some .int) 1 cX4_addRow b.2 b.1 = true := by decide +kernel
theorem w_X4_addRow : j_wI (m_X4_addRow.flatMap (fun b => j_wdL yX4_addRow.cls b.2)) [230, 230, 230, 228, 1036, 543, 87, 544, 228, 230] = true := by decide +kernel
theorem g_X4_addRow : j_good i_X4_addRow m_X4_addRow := ⟨by decide +kernel, c_X4_addRow, fun b hb w hw => j_wI_in w_X4_addRow w (List.mem_flatMap.mpr ⟨b, hb, hw⟩)⟩
abbrev i_X4_rowOf : j_Mi := (yX4_rowOf, cX4_rowOf, 2, (some .int), 6)
theorem c_X4_rowOf : ∀ b ∈ m_X4_rowOf, j_ckL yX4_rowOf.cls (yX4_rowOf.name == "<init>") (some .int) 2 cX4_rowOf b.2 b.1 = true := by decide +kernel
theorem w_X4_rowOf : j_wI (m_X4_rowOf.flatMap (fun b => j_wdL yX4_rowOf.cls b.2)) [230, 488, 87, 486, 487] = true := by decide +kernel
theorem g_X4_rowOf : j_good i_X4_rowOf m_X4_rowOf := ⟨by decide +kernel, c_X4_rowOf, fun b hb w hw => j_wI_in w_X4_rowOf w (List.mem_flatMap.mpr ⟨b, hb, hw⟩)⟩
abbrev i_X4_areBusy : j_Mi := (yX4_areBusy, cX4_areBusy, 5, (some .boolean), 6)
theorem c_X4_areBusy : ∀ b ∈ m_X4_areBusy, j_ckL yX4_areBusy.cls (yX4_areBusy.name == "<init>") (some .boolean) 5 cX4_areBusy b.2 b.1 = true := by decide +kernel
theorem w_X4_areBusy : j_wI (m_X4_areBusy.flatMap (fun b => j_wdL yX4_areBusy.cls b.2)) [226, 485, 89, 482, 483, 484, 318, 86, 489, 316, 317] = true := by decide +kernel
theorem g_X4_areBusy : j_good i_X4_areBusy m_X4_areBusy := ⟨by decide +kernel, c_X4_areBusy, fun b hb w hw => j_wI_in w_X4_areBusy w (List.mem_flatMap.mpr ⟨b, hb, hw⟩)⟩
abbrev i_X4_bytesOf : j_Mi := (yX4_bytesOf, cX4_bytesOf, 3, (some .int), 6)
theorem c_X4_bytesOf : ∀ b ∈ m_X4_bytesOf, j_ckL yX4_bytesOf.cls (yX4_bytesOf.name == "<init>") (some .int) 3 cX4_bytesOf b.2 b.1 = true := by decide +kernel
theorem w_X4_bytesOf : j_wI (m_X4_bytesOf.flatMap (fun b => j_wdL yX4_bytesOf.cls b.2)) [226, 485, 89, 482, 483, 484, 318, 86, 489, 316, 317] = true := by decide +kernel
theorem g_X4_bytesOf : j_good i_X4_bytesOf m_X4_bytesOf := ⟨by decide +kernel, c_X4_bytesOf, fun b hb w hw => j_wI_in w_X4_bytesOf w (List.mem_flatMap.mpr ⟨b, hb, hw⟩)⟩
abbrev i_X4_copyFrom : j_Mi := (yX4_copyFrom, cX4_copyFrom, 2, none, 6)
theorem c_X4_copyFrom : ∀ b ∈ m_X4_copyFrom, j_ckL yX4_copyFrom.cls (yX4_copyFrom.name == "<init>") none 2 cX4_copyFrom b.2 b.1 = true := by decide +kernel
theorem w_X4_copyFrom : j_wI (m_X4_copyFrom.flatMap (fun b => j_wdL yX4_copyFrom.cls b.2)) [228, 228, 230, 230, 226, 226, 228, 588, 86, 597, 586, 587] = true := by decide +kernel
theorem g_X4_copyFrom : j_good i_X4_copyFrom m_X4_copyFrom := ⟨by decide +kernel, c_X4_copyFrom, fun b hb w hw => j_wI_in w_X4_copyFrom w (List.mem_flatMap.mpr ⟨b, hb, hw⟩)⟩
abbrev i_X5_init : j_Mi := (yX5_init, cX5_init, 1, none, 7)
theorem c_X5_init : ∀ b ∈ m_X5_init, j_ckL yX5_init.cls (yX5_init.name == "<init>") none 1 cX5_init b.2 b.1 = true := by decide +kernel
theorem w_X5_init : j_wI (m_X5_init.flatMap (fun b => j_wdL yX5_init.cls b.2)) [160, 116, 117, 161, 162, 86, 165, 86, 163, 164, 182, 161, 162, 86, 165, 86, 163, 164, 184, 181, 85, 178, 179, 180] = true := by decide +kernel
theorem g_X5_init : j_good i_X5_init m_X5_init := ⟨by decide +kernel, c_X5_init, fun b hb w hw => j_wI_in w_X5_init w (List.mem_flatMap.mpr ⟨b, hb, hw⟩)⟩
abbrev i_X5_reset : j_Mi := (yX5_reset, cX5_reset, 1, none, 7)
theorem c_X5_reset : ∀ b ∈ m_X5_reset, j_ckL yX5_reset.cls (yX5_reset.name == "<init>") none 1 cX5_reset b.2 b.1 = true := by decide +kernel
theorem w_X5_reset : j_wI (m_X5_reset.flatMap (fun b => j_wdL yX5_reset.cls b.2)) [185, 187, 190, 192, 193] = true := by decide +kernel
theorem g_X5_reset : j_good i_X5_reset m_X5_reset := ⟨by decide +kernel, c_X5_reset, fun b hb w hw => j_wI_in w_X5_reset w (List.mem_flatMap.mpr ⟨b, hb, hw⟩)⟩
abbrev i_X5_flowFor : j_Mi := (yX5_flowFor, cX5_flowFor, 5, (some .int), 7)
theorem c_X5_flowFor : ∀ b ∈ m_X5_flowFor, j_ckL yX5_flowFor.cls (yX5_flowFor.name == "<init>") (some .int) 5 cX5_flowFor b.2 b.1 = true := by decide +kernel
theorem w_X5_flowFor : j_wI (m_X5_flowFor.flatMap (fun b => j_wdL yX5_flowFor.cls b.2)) [187, 835, 85, 832, 833, 834, 835, 85, 832, 833, 834, 835, 85, 832, 833, 834, 184, 318, 86, 836, 316, 317, 185] = true := by decide +kernel
theorem g_X5_flowFor : j_good i_X5_flowFor m_X5_flowFor := ⟨by decide +kernel, c_X5_flowFor, fun b hb w hw => j_wI_in w_X5_flowFor w (List.mem_flatMap.mpr ⟨b, hb, hw⟩)⟩
abbrev i_X5_isInRange : j_Mi := (yX5_isInRange, cX5_isInRange, 4, (some .boolean), 7)
theorem c_X5_isInRange : ∀ b ∈ m_X5_isInRange, j_ckL yX5_isInRange.cls (yX5_isInRange.name == "<init>") (some .boolean) 4 cX5_isInRange b.2 b.1 = true := by decide +kernel
theorem w_X5_isInRange : j_wI (m_X5_isInRange.flatMap (fun b => j_wdL yX5_isInRange.cls b.2)) [184, 318, 86, 836, 316, 317, 184, 318, 86, 836, 316, 317] = true := by decide +kernel
theorem g_X5_isInRange : j_good i_X5_isInRange m_X5_isInRange := ⟨by decide +kernel, c_X5_isInRange, fun b hb w hw => j_wI_in w_X5_isInRange w (List.mem_flatMap.mpr ⟨b, hb, hw⟩)⟩
abbrev i_X5_readFrom : j_Mi := (yX5_readFrom, cX5_readFrom, 3, none, 7)
theorem c_X5_readFrom : ∀ b ∈ m_X5_readFrom, j_ckL yX5_readFrom.cls (yX5_readFrom.name == "<init>") none 3 cX5_readFrom b.2 b.1 = true := by decide +kernel
theorem w_X5_readFrom : j_wI (m_X5_readFrom.flatMap (fun b => j_wdL yX5_readFrom.cls b.2)) [181, 85, 178, 179, 180, 709, 84, 706, 707, 708, 713, 85, 710, 711, 712] = true := by decide +kernel
theorem g_X5_readFrom : j_good i_X5_readFrom m_X5_readFrom := ⟨by decide +kernel, c_X5_readFrom, fun b hb w hw => j_wI_in w_X5_readFrom w (List.mem_flatMap.mpr ⟨b, hb, hw⟩)⟩
abbrev i_X5_readClause : j_Mi := (yX5_readClause, cX5_readClause, 2, none, 7)
theorem c_X5_readClause : ∀ b ∈ m_X5_readClause, j_ckL yX5_readClause.cls (yX5_readClause.name == "<init>") none 2 cX5_readClause b.2 b.1 = true := by decide +kernel
theorem w_X5_readClause : j_wI (m_X5_readClause.flatMap (fun b => j_wdL yX5_readClause.cls b.2)) [718, 84, 715, 716, 717, 755, 85, 752, 753, 754, 718, 84, 715, 716, 717, 793, 85, 790, 791, 792, 718, 84, 715, 716, 717, 811, 85, 808, 809, 810, 190, 718, 84, 715, 716, 717, 811, 85, 808, 809, 810, 192, 718, 84, 715, 716, 717, 811, 85, 808, 809, 810, 193, 759, 84, 756, 757, 758] = true := by decide +kernel
theorem g_X5_readClause : j_good i_X5_readClause m_X5_readClause := ⟨by decide +kernel, c_X5_readClause, fun b hb w hw => j_wI_in w_X5_readClause w (List.mem_flatMap.mpr ⟨b, hb, hw⟩)⟩
abbrev i_X5_readSetting : j_Mi := (yX5_readSetting, cX5_readSetting, 4, (some .int), 7)
theorem c_X5_readSetting : ∀ b ∈ m_X5_readSetting, j_ckL yX5_readSetting.cls (yX5_readSetting.name == "<init>") (some .int) 4 cX5_readSetting b.2 b.1 = true := by decide +kernel
theorem w_X5_readSetting : j_wI (m_X5_readSetting.flatMap (fun b => j_wdL yX5_readSetting.cls b.2)) [697, 84, 760, 695, 696, 764, 84, 761, 762, 763, 784, 84, 781, 782, 783] = true := by decide +kernel
theorem g_X5_readSetting : j_good i_X5_readSetting m_X5_readSetting := ⟨by decide +kernel, c_X5_readSetting, fun b hb w hw => j_wI_in w_X5_readSetting w (List.mem_flatMap.mpr ⟨b, hb, hw⟩)⟩
abbrev i_X5_readFlow : j_Mi := (yX5_readFlow, cX5_readFlow, 3, none, 7)
theorem c_X5_readFlow : ∀ b ∈ m_X5_readFlow, j_ckL yX5_readFlow.cls (yX5_readFlow.name == "<init>") none 3 cX5_readFlow b.2 b.1 = true := by decide +kernel
theorem w_X5_readFlow : j_wI (m_X5_readFlow.flatMap (fun b => j_wdL yX5_readFlow.cls b.2)) [185, 759, 84, 756, 757, 758, 697, 84, 760, 695, 696, 182, 185, 764, 84, 761, 762, 763, 322, 86, 771, 320, 321, 182, 185, 772, 764, 84, 761, 762, 763, 322, 86, 771, 320, 321, 182, 185, 322, 86, 771, 320, 321, 182, 185, 322, 86, 771, 320, 321, 182, 185, 322, 86, 771, 320, 321, 182, 185, 322, 86, 771, 320, 321, 182, 185, 322, 86, 771, 320, 321, 130, 776, 85, 773, 774, 775, 784, 84, 781, 782, 783, 185, 185] = true := by decide +kernel
theorem g_X5_readFlow : j_good i_X5_readFlow m_X5_readFlow := ⟨by decide +kernel, c_X5_readFlow, fun b hb w hw => j_wI_in w_X5_readFlow w (List.mem_flatMap.mpr ⟨b, hb, hw⟩)⟩
abbrev i_X5_readOption : j_Mi := (yX5_readOption, cX5_readOption, 2, none, 7)
theorem c_X5_readOption : ∀ b ∈ m_X5_readOption, j_ckL yX5_readOption.cls (yX5_readOption.name == "<init>") none 2 cX5_readOption b.2 b.1 = true := by decide +kernel
theorem w_X5_readOption : j_wI (m_X5_readOption.flatMap (fun b => j_wdL yX5_readOption.cls b.2)) [718, 84, 715, 716, 717, 697, 84, 760, 695, 696, 182, 185, 764, 84, 761, 762, 763, 322, 86, 771, 320, 321, 718, 84, 715, 716, 717, 697, 84, 760, 695, 696, 182, 185, 764, 84, 761, 762, 763, 322, 86, 771, 320, 321, 718, 84, 715, 716, 717, 697, 84, 760, 695, 696, 182, 185, 764, 84, 761, 762, 763, 322, 86, 771, 320, 321, 718, 84, 715, 716, 717, 697, 84, 760, 695, 696, 182, 185, 764, 84, 761, 762, 763, 322, 86, 771, 320, 321, 182, 185, 764, 84, 761, 762, 763, 322, 86, 771, 320, 321, 759, 84, 756, 757, 758] = true := by decide +kernel
theorem g_X5_readOption : j_good i_X5_readOption m_X5_readOption := ⟨by decide +kernel, c_X5_readOption, fun b hb w hw => j_wI_in w_X5_readOption w (List.mem_flatMap.mpr ⟨b, hb, hw⟩)⟩
abbrev i_X5_readRule : j_Mi := (yX5_readRule, cX5_readRule, 3, none, 7)
theorem c_X5_readRule : ∀ b ∈ m_X5_readRule, j_ckL yX5_readRule.cls (yX5_readRule.name == "<init>") none 3 cX5_readRule b.2 b.1 = true := by decide +kernel
theorem w_X5_readRule : j_wI (m_X5_readRule.flatMap (fun b => j_wdL yX5_readRule.cls b.2)) [187, 759, 84, 756, 757, 758, 697, 84, 760, 695, 696, 184, 187, 322, 86, 771, 320, 321, 184, 187, 322, 86, 771, 320, 321, 130, 718, 84, 715, 716, 717, 798, 85, 795, 796, 797, 805, 84, 802, 803, 804, 184, 187, 185, 764, 84, 761, 762, 763, 322, 86, 771, 320, 321, 784, 84, 781, 782, 783, 187, 187] = true := by decide +kernel
theorem g_X5_readRule : j_good i_X5_readRule m_X5_readRule := ⟨by decide +kernel, c_X5_readRule, fun b hb w hw => j_wI_in w_X5_readRule w (List.mem_flatMap.mpr ⟨b, hb, hw⟩)⟩
abbrev i_X5_readCondition : j_Mi := (yX5_readCondition, cX5_readCondition, 4, none, 7)
theorem c_X5_readCondition : ∀ b ∈ m_X5_readCondition, j_ckL yX5_readCondition.cls (yX5_readCondition.name == "<init>") none 4 cX5_readCondition b.2 b.1 = true := by decide +kernel
theorem w_X5_readCondition : j_wI (m_X5_readCondition.flatMap (fun b => j_wdL yX5_readCondition.cls b.2)) [718, 84, 715, 716, 717, 718, 84, 715, 716, 717, 718, 84, 715, 716, 717, 759, 84, 756, 757, 758, 697, 84, 760, 695, 696, 764, 84, 761, 762, 763, 184, 187, 322, 86, 771, 320, 321, 184, 187, 764, 84, 761, 762, 763, 322, 86, 771, 320, 321] = true := by decide +kernel
theorem g_X5_readCondition : j_good i_X5_readCondition m_X5_readCondition := ⟨by decide +kernel, c_X5_readCondition, fun b hb w hw => j_wI_in w_X5_readCondition w (List.mem_flatMap.mpr ⟨b, hb, hw⟩)⟩
abbrev i_X6_init : j_Mi := (yX6_init, cX6_init, 3, none, 8)
theorem c_X6_init : ∀ b ∈ m_X6_init, j_ckL yX6_init.cls (yX6_init.name == "<init>") none 3 cX6_init b.2 b.1 = true := by decide +kernel
theorem w_X6_init : j_wI (m_X6_init.flatMap (fun b => j_wdL yX6_init.cls b.2)) [166, 116, 117, 167, 168, 87, 169, 170, 167, 168, 87, 169, 170, 177, 171] = true := by decide +kernel
theorem g_X6_init : j_good i_X6_init m_X6_init := ⟨by decide +kernel, c_X6_init, fun b hb w hw => j_wI_in w_X6_init w (List.mem_flatMap.mpr ⟨b, hb, hw⟩)⟩
abbrev i_X6_get : j_Mi := (yX6_get, cX6_get, 4, (some .int), 8)
theorem c_X6_get : ∀ b ∈ m_X6_get, j_ckL yX6_get.cls (yX6_get.name == "<init>") (some .int) 4 cX6_get b.2 b.1 = true := by decide +kernel
theorem w_X6_get : j_wI (m_X6_get.flatMap (fun b => j_wdL yX6_get.cls b.2)) [170, 170, 171, 171] = true := by decide +kernel
theorem g_X6_get : j_good i_X6_get m_X6_get := ⟨by decide +kernel, c_X6_get, fun b hb w hw => j_wI_in w_X6_get w (List.mem_flatMap.mpr ⟨b, hb, hw⟩)⟩
abbrev i_X6_set : j_Mi := (yX6_set, cX6_set, 5, none, 8)
theorem c_X6_set : ∀ b ∈ m_X6_set, j_ckL yX6_set.cls (yX6_set.name == "<init>") none 5 cX6_set b.2 b.1 = true := by decide +kernel
theorem w_X6_set : j_wI (m_X6_set.flatMap (fun b => j_wdL yX6_set.cls b.2)) [170, 170, 171, 171] = true := by decide +kernel
theorem g_X6_set : j_good i_X6_set m_X6_set := ⟨by decide +kernel, c_X6_set, fun b hb w hw => j_wI_in w_X6_set w (List.mem_flatMap.mpr ⟨b, hb, hw⟩)⟩
abbrev i_X6_add : j_Mi := (yX6_add, cX6_add, 5, none, 8)
theorem c_X6_add : ∀ b ∈ m_X6_add, j_ckL yX6_add.cls (yX6_add.name == "<init>") none 5 cX6_add b.2 b.1 = true := by decide +kernel
theorem w_X6_add : j_wI (m_X6_add.flatMap (fun b => j_wdL yX6_add.cls b.2)) [170, 170, 171, 171] = true := by decide +kernel
theorem g_X6_add : j_good i_X6_add m_X6_add := ⟨by decide +kernel, c_X6_add, fun b hb w hw => j_wI_in w_X6_add w (List.mem_flatMap.mpr ⟨b, hb, hw⟩)⟩
abbrev i_X6_copyRows : j_Mi := (yX6_copyRows, cX6_copyRows, 4, none, 8)
theorem c_X6_copyRows : ∀ b ∈ m_X6_copyRows, j_ckL yX6_copyRows.cls (yX6_copyRows.name == "<init>") none 4 cX6_copyRows b.2 b.1 = true := by decide +kernel
theorem w_X6_copyRows : j_wI (m_X6_copyRows.flatMap (fun b => j_wdL yX6_copyRows.cls b.2)) [170, 171, 171, 589, 543, 87, 544, 589, 543, 87, 544, 171, 171, 590, 592, 591, 104] = true := by decide +kernel
theorem g_X6_copyRows : j_good i_X6_copyRows m_X6_copyRows := ⟨by decide +kernel, c_X6_copyRows, fun b hb w hw => j_wI_in w_X6_copyRows w (List.mem_flatMap.mpr ⟨b, hb, hw⟩)⟩
abbrev i_X7_init : j_Mi := (yX7_init, cX7_init, 1, none, 9)
theorem c_X7_init : ∀ b ∈ m_X7_init, j_ckL yX7_init.cls (yX7_init.name == "<init>") none 1 cX7_init b.2 b.1 = true := by decide +kernel
theorem w_X7_init : j_wI (m_X7_init.flatMap (fun b => j_wdL yX7_init.cls b.2)) [123, 116, 117, 154, 124, 135] = true := by decide +kernel
theorem g_X7_init : j_good i_X7_init m_X7_init := ⟨by decide +kernel, c_X7_init, fun b hb w hw => j_wI_in w_X7_init w (List.mem_flatMap.mpr ⟨b, hb, hw⟩)⟩
abbrev i_X7_append : j_Mi := (yX7_append, cX7_append, 3, none, 9)
theorem c_X7_append : ∀ b ∈ m_X7_append, j_ckL yX7_append.cls (yX7_append.name == "<init>") none 3 cX7_append b.2 b.1 = true := by decide +kernel
theorem w_X7_append : j_wI (m_X7_append.flatMap (fun b => j_wdL yX7_append.cls b.2)) [126, 126, 124, 124, 126, 126, 126] = true := by decide +kernel
theorem g_X7_append : j_good i_X7_append m_X7_append := ⟨by decide +kernel, c_X7_append, fun b hb w hw => j_wI_in w_X7_append w (List.mem_flatMap.mpr ⟨b, hb, hw⟩)⟩
abbrev i_X7_empty : j_Mi := (yX7_empty, cX7_empty, 1, none, 9)
theorem c_X7_empty : ∀ b ∈ m_X7_empty, j_ckL yX7_empty.cls (yX7_empty.name == "<init>") none 1 cX7_empty b.2 b.1 = true := by decide +kernel
theorem w_X7_empty : j_wI (m_X7_empty.flatMap (fun b => j_wdL yX7_empty.cls b.2)) [126] = true := by decide +kernel
theorem g_X7_empty : j_good i_X7_empty m_X7_empty := ⟨by decide +kernel, c_X7_empty, fun b hb w hw => j_wI_in w_X7_empty w (List.mem_flatMap.mpr ⟨b, hb, hw⟩)⟩
abbrev i_X7_open : j_Mi := (yX7_open, cX7_open, 2, none, 9)
theorem c_X7_open : ∀ b ∈ m_X7_open, j_ckL yX7_open.cls (yX7_open.name == "<init>") none 2 cX7_open b.2 b.1 = true := by decide +kernel
theorem w_X7_open : j_wI (m_X7_open.flatMap (fun b => j_wdL yX7_open.cls b.2)) [124, 693, 543, 87, 544, 127, 134, 135, 132, 128, 697, 84, 694, 695, 696] = true := by decide +kernel
theorem g_X7_open : j_good i_X7_open m_X7_open := ⟨by decide +kernel, c_X7_open, fun b hb w hw => j_wI_in w_X7_open w (List.mem_flatMap.mpr ⟨b, hb, hw⟩)⟩
abbrev i_X7_next : j_Mi := (yX7_next, cX7_next, 2, none, 9)
theorem c_X7_next : ∀ b ∈ m_X7_next, j_ckL yX7_next.cls (yX7_next.name == "<init>") none 2 cX7_next b.2 b.1 = true := by decide +kernel
theorem w_X7_next : j_wI (m_X7_next.flatMap (fun b => j_wdL yX7_next.cls b.2)) [128, 132, 127, 701, 84, 698, 699, 700, 131, 701, 84, 698, 699, 700, 128, 128, 127, 701, 84, 698, 699, 700, 128, 132] = true := by decide +kernel
theorem g_X7_next : j_good i_X7_next m_X7_next := ⟨by decide +kernel, c_X7_next, fun b hb w hw => j_wI_in w_X7_next w (List.mem_flatMap.mpr ⟨b, hb, hw⟩)⟩
abbrev i_X7_kindAt : j_Mi := (yX7_kindAt, cX7_kindAt, 3, (some .int), 9)
theorem c_X7_kindAt : ∀ b ∈ m_X7_kindAt, j_ckL yX7_kindAt.cls (yX7_kindAt.name == "<init>") (some .int) 3 cX7_kindAt b.2 b.1 = true := by decide +kernel
theorem w_X7_kindAt : j_wI (m_X7_kindAt.flatMap (fun b => j_wdL yX7_kindAt.cls b.2)) [127, 124, 124] = true := by decide +kernel
theorem g_X7_kindAt : j_good i_X7_kindAt m_X7_kindAt := ⟨by decide +kernel, c_X7_kindAt, fun b hb w hw => j_wI_in w_X7_kindAt w (List.mem_flatMap.mpr ⟨b, hb, hw⟩)⟩
abbrev i_X7_byteAt : j_Mi := (yX7_byteAt, cX7_byteAt, 2, (some .int), 9)
theorem c_X7_byteAt : ∀ b ∈ m_X7_byteAt, j_ckL yX7_byteAt.cls (yX7_byteAt.name == "<init>") (some .int) 2 cX7_byteAt b.2 b.1 = true := by decide +kernel
theorem w_X7_byteAt : j_wI (m_X7_byteAt.flatMap (fun b => j_wdL yX7_byteAt.cls b.2)) [124, 124] = true := by decide +kernel
theorem g_X7_byteAt : j_good i_X7_byteAt m_X7_byteAt := ⟨by decide +kernel, c_X7_byteAt, fun b hb w hw => j_wI_in w_X7_byteAt w (List.mem_flatMap.mpr ⟨b, hb, hw⟩)⟩
abbrev i_X7_goesOn : j_Mi := (yX7_goesOn, cX7_goesOn, 1, (some .boolean), 9)
theorem c_X7_goesOn : ∀ b ∈ m_X7_goesOn, j_ckL yX7_goesOn.cls (yX7_goesOn.name == "<init>") (some .boolean) 1 cX7_goesOn b.2 b.1 = true := by decide +kernel
theorem w_X7_goesOn : j_wI (m_X7_goesOn.flatMap (fun b => j_wdL yX7_goesOn.cls b.2)) [128, 128] = true := by decide +kernel
theorem g_X7_goesOn : j_good i_X7_goesOn m_X7_goesOn := ⟨by decide +kernel, c_X7_goesOn, fun b hb w hw => j_wI_in w_X7_goesOn w (List.mem_flatMap.mpr ⟨b, hb, hw⟩)⟩
abbrev i_X7_isWord : j_Mi := (yX7_isWord, cX7_isWord, 3, (some .boolean), 9)
theorem c_X7_isWord : ∀ b ∈ m_X7_isWord, j_ckL yX7_isWord.cls (yX7_isWord.name == "<init>") (some .boolean) 3 cX7_isWord b.2 b.1 = true := by decide +kernel
theorem w_X7_isWord : j_wI (m_X7_isWord.flatMap (fun b => j_wdL yX7_isWord.cls b.2)) [128, 132, 131, 722, 94, 719, 720, 721, 722, 94, 719, 720, 721, 131, 731, 84, 728, 729, 730, 735, 94, 732, 733, 734] = true := by decide +kernel
theorem g_X7_isWord : j_good i_X7_isWord m_X7_isWord := ⟨by decide +kernel, c_X7_isWord, fun b hb w hw => j_wI_in w_X7_isWord w (List.mem_flatMap.mpr ⟨b, hb, hw⟩)⟩
abbrev i_X7_isSign : j_Mi := (yX7_isSign, cX7_isSign, 2, (some .boolean), 9)
theorem c_X7_isSign : ∀ b ∈ m_X7_isSign, j_ckL yX7_isSign.cls (yX7_isSign.name == "<init>") (some .boolean) 2 cX7_isSign b.2 b.1 = true := by decide +kernel
theorem w_X7_isSign : j_wI (m_X7_isSign.flatMap (fun b => j_wdL yX7_isSign.cls b.2)) [128, 131, 731, 84, 728, 729, 730] = true := by decide +kernel
theorem g_X7_isSign : j_good i_X7_isSign m_X7_isSign := ⟨by decide +kernel, c_X7_isSign, fun b hb w hw => j_wI_in w_X7_isSign w (List.mem_flatMap.mpr ⟨b, hb, hw⟩)⟩
abbrev i_X7_fail : j_Mi := (yX7_fail, cX7_fail, 2, none, 9)
theorem c_X7_fail : ∀ b ∈ m_X7_fail, j_ckL yX7_fail.cls (yX7_fail.name == "<init>") none 2 cX7_fail b.2 b.1 = true := by decide +kernel
theorem w_X7_fail : j_wI (m_X7_fail.flatMap (fun b => j_wdL yX7_fail.cls b.2)) [128, 134, 131, 135, 128] = true := by decide +kernel
theorem g_X7_fail : j_good i_X7_fail m_X7_fail := ⟨by decide +kernel, c_X7_fail, fun b hb w hw => j_wI_in w_X7_fail w (List.mem_flatMap.mpr ⟨b, hb, hw⟩)⟩
abbrev i_X7_number : j_Mi := (yX7_number, cX7_number, 3, (some .int), 9)
theorem c_X7_number : ∀ b ∈ m_X7_number, j_ckL yX7_number.cls (yX7_number.name == "<init>") (some .int) 3 cX7_number b.2 b.1 = true := by decide +kernel
theorem w_X7_number : j_wI (m_X7_number.flatMap (fun b => j_wdL yX7_number.cls b.2)) [131, 132, 731, 84, 728, 729, 730, 770, 693, 543, 87, 544] = true := by decide +kernel
theorem g_X7_number : j_good i_X7_number m_X7_number := ⟨by decide +kernel, c_X7_number, fun b hb w hw => j_wI_in w_X7_number w (List.mem_flatMap.mpr ⟨b, hb, hw⟩)⟩
abbrev i_X7_takeNumber : j_Mi := (yX7_takeNumber, cX7_takeNumber, 4, (some .int), 9)
theorem c_X7_takeNumber : ∀ b ∈ m_X7_takeNumber, j_ckL yX7_takeNumber.cls (yX7_takeNumber.name == "<init>") (some .int) 4 cX7_takeNumber b.2 b.1 = true := by decide +kernel
theorem w_X7_takeNumber : j_wI (m_X7_takeNumber.flatMap (fun b => j_wdL yX7_takeNumber.cls b.2)) [128, 759, 84, 765, 757, 758, 769, 84, 766, 767, 768, 759, 84, 765, 757, 758, 697, 84, 694, 695, 696] = true := by decide +kernel
theorem g_X7_takeNumber : j_good i_X7_takeNumber m_X7_takeNumber := ⟨by decide +kernel, c_X7_takeNumber, fun b hb w hw => j_wI_in w_X7_takeNumber w (List.mem_flatMap.mpr ⟨b, hb, hw⟩)⟩
abbrev i_X7_takeSign : j_Mi := (yX7_takeSign, cX7_takeSign, 2, none, 9)
theorem c_X7_takeSign : ∀ b ∈ m_X7_takeSign, j_ckL yX7_takeSign.cls (yX7_takeSign.name == "<init>") none 2 cX7_takeSign b.2 b.1 = true := by decide +kernel
theorem w_X7_takeSign : j_wI (m_X7_takeSign.flatMap (fun b => j_wdL yX7_takeSign.cls b.2)) [788, 84, 785, 786, 787, 759, 84, 765, 757, 758, 697, 84, 694, 695, 696] = true := by decide +kernel
theorem g_X7_takeSign : j_good i_X7_takeSign m_X7_takeSign := ⟨by decide +kernel, c_X7_takeSign, fun b hb w hw => j_wI_in w_X7_takeSign w (List.mem_flatMap.mpr ⟨b, hb, hw⟩)⟩
abbrev i_X7_takeWord : j_Mi := (yX7_takeWord, cX7_takeWord, 2, none, 9)
theorem c_X7_takeWord : ∀ b ∈ m_X7_takeWord, j_ckL yX7_takeWord.cls (yX7_takeWord.name == "<init>") none 2 cX7_takeWord b.2 b.1 = true := by decide +kernel
theorem w_X7_takeWord : j_wI (m_X7_takeWord.flatMap (fun b => j_wdL yX7_takeWord.cls b.2)) [718, 84, 806, 716, 717, 759, 84, 765, 757, 758, 697, 84, 694, 695, 696] = true := by decide +kernel
theorem g_X7_takeWord : j_good i_X7_takeWord m_X7_takeWord := ⟨by decide +kernel, c_X7_takeWord, fun b hb w hw => j_wI_in w_X7_takeWord w (List.mem_flatMap.mpr ⟨b, hb, hw⟩)⟩
abbrev i_X7_requireEnd : j_Mi := (yX7_requireEnd, cX7_requireEnd, 1, none, 9)
theorem c_X7_requireEnd : ∀ b ∈ m_X7_requireEnd, j_ckL yX7_requireEnd.cls (yX7_requireEnd.name == "<init>") none 1 cX7_requireEnd b.2 b.1 = true := by decide +kernel
theorem w_X7_requireEnd : j_wI (m_X7_requireEnd.flatMap (fun b => j_wdL yX7_requireEnd.cls b.2)) [128, 759, 84, 765, 757, 758] = true := by decide +kernel
theorem g_X7_requireEnd : j_good i_X7_requireEnd m_X7_requireEnd := ⟨by decide +kernel, c_X7_requireEnd, fun b hb w hw => j_wI_in w_X7_requireEnd w (List.mem_flatMap.mpr ⟨b, hb, hw⟩)⟩
