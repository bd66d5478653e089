/-! ===== printed: the law's wrappers, their code and what they do ===== -/
section LWr
variable {l : Launch} {D : va_G} {bs : Nat} {E : j_E} {h : j_H} {d : Nat} {Q : j_O → j_H → Prop} {x sc Ls n : Nat} {xs : Nat → Int32}
theorem w_in {w : Cond} (i : Nat) (h : (decide (lw_tbl[i]? = some w) && goodWord w) = true) : w ∈ j_tbl := by
  simp only [Bool.and_eq_true, decide_eq_true_eq] at h
  exact List.mem_append_left _ (List.mem_filter.mpr ⟨List.mem_of_getElem? h.1, h.2⟩)
/-- what a wrapper comes to: 0, the class's answer v lying in the law's cell as R has it; or another number; the reference will say the same -/
def WP (l : Launch) (D : va_G) (E : j_E) (bs x sc Ls : Nat) (xs : Nat → Int32) (n d km : Nat) (as : List Value) (R : Value → j_H → Prop) (T : Value → Prop) (o : j_O) (h : j_H) : Prop := (∃ v, R v h ∧ T v ∧ o = .inl (some (.int 0)) ∧ AN l D E bs x sc Ls xs n d km as 0 (fun b => b = v) h) ∨ ∃ c : Int32, c ≠ 0 ∧ o = .inl (some (.int c)) ∧ AN l D E bs x sc Ls xs n d km as c T h
def TI : Value → Prop := fun v => ∃ a, v = .int a
def TL : Value → Prop := fun v => ∃ a, v = .long a
def TD : Value → Prop := fun v => ∃ a, v = .double a
def TF : Value → Prop := fun v => ∃ a, v = .float a
def RI (x : Nat) : Value → j_H → Prop := fun v h => ∃ a, v = .int a ∧ j_L h (x + 67) 0 = a.toInt64
def RZ (x : Nat) : Value → j_H → Prop := fun v h => ∃ a, v = .int a ∧ j_L h (x + 67) 0 = if a = 0 then 0 else 1
def RL2 (x : Nat) : Value → j_H → Prop := fun v h => ∃ a, v = .long a ∧ j_L h (x + 67) 0 = a
def RD (x : Nat) : Value → j_H → Prop := fun v h => ∃ a, v = .double a ∧ j_D h (x + 68) 0 = a
def RF (x : Nat) : Value → j_H → Prop := fun v h => ∃ a, v = .float a ∧ vf_n32 a ∧ j_D h (x + 68) 0 = FP.f2d a
theorem oL (h : j_H) (q : Nat) (v : Int64) : j_L (j_setL h q 0 v) q 0 = v := by
  show (if q = q ∧ 0 = 0 then v else _) = v
  rw [if_pos ⟨rfl, rfl⟩]
theorem oD (h : j_H) (q : Nat) (v : UInt64) : j_D (j_setD h q 0 v) q 0 = v := by
  show (if q = q ∧ 0 = 0 then v else _) = v
  rw [if_pos ⟨rfl, rfl⟩]
theorem e_00 : Int32.toNatClampNeg 0 = 0 := by decide
theorem v_01 : vp_in 0 1 := show vp_in (nI 0) 1 from vp_in_nI (show 0 < 1 by omega) (by omega)
def q_L_load_0 : List j_N := [(.aload_n 2, 1, 2, 0, .null), (.iconst 0, 1, 0, 0, .int (0)), (.aload_n 0, 1, 0, 0, .null), (.iload_n 1, 1, 1, 0, .null)]
def q_L_load_7 : List j_N := [(.i2l, 1, 0, 0, .null), (.lastore, 1, 0, 0, .null), (.goto 6, 3, 15, 0, .null)]
def q_L_load_12 : List j_N := [(.astore_n 3, 1, 3, 0, .null), (.iconst 1, 1, 0, 0, .int (1)), (.ireturn, 1, 0, 0, .null)]
def q_L_load_15 : List j_N := [(.iconst 0, 1, 0, 0, .int (0)), (.ireturn, 1, 0, 0, .null)]
def m_L_load : List (Nat × List j_N) := [(0, q_L_load_0), (7, q_L_load_7), (12, q_L_load_12), (15, q_L_load_15)]
abbrev i_L_load : j_Wi := (yL_load, cL_load, 4, [(0, 9, 12, 13)])
theorem g_L_load : j_goodW i_L_load m_L_load 4 7 n_X8_load (yX8_load, cX8_load, 3, (some .int), 10) := ⟨by decide +kernel, rfl, by decide +kernel, by decide +kernel, rfl, by decide +kernel, rfl, j_wI_in (is := [619, 83, 616, 617, 618]) (by decide +kernel)⟩
theorem t_L_load_1 : j_ct [(0, 9, 12, 13)] 4 1 12 := ⟨[], ⟨0, 9, 12, 13⟩, [], rfl, (fun z hz => by cases hz), by decide, by decide, w_in 615 (by decide +kernel), w_in 624 (by decide +kernel), rfl⟩
theorem sp_L_load (hl : l.stackTraces = false) (j : JJ E bs x sc Ls xs (n + 1) h) {v0 : Int32} (H : ∀ o h1, WP l D E bs x sc Ls xs n (d + 60) n_X9_load [.int v0] (RI x) TI o h1 → Q o h1) : j_MetW l D bs E (d + 61) i_L_load [.ref x, .int v0, .ref (x + 67)] h Q := by
  have hB : j_bd E h := by
    obtain ⟨V, M, U, uc, Sn, w, b, cap, g1, g2, -⟩ := j
    exact g2.1.2.2.2
  refine j_methW g_L_load (n := 1) (by decide +kernel) (Nat.le_of_ble_eq_true rfl) hB.1 hB.2 (fun G hG => ?_)
  obtain ⟨hb, hcall⟩ := hG
  refine (hb (0, q_L_load_0) (List.mem_of_getElem? (i := 0) rfl) _ _ _ ?_)
  dsimp only [q_L_load_0, j_wp, j_opB, j_opA, j_nth, j_i1, j_i2, j_l1, j_l2, j_li, j_f1, j_f2, j_d1, j_d2, j_r1, j_ai, j_aii, j_ail, j_aid, j_air, j_st1, j_st2, j_stu, j_kl, j_cond, j_args, j_out, j_few, j_cw, j_nat, j_pad, j_exp, Nat.reduceAdd]
  refine hcall _ [.int v0] [.int 0, .ref (x + 67)] x h rfl rfl ?_
  refine op_load hl j (fun a h1 an => ?_) (fun h1 an => ?_)
  · show G 7 _ [.int a, .int 0, .ref (x + 67)] h1
    refine (hb (7, q_L_load_7) (List.mem_of_getElem? (i := 1) rfl) _ _ _ ?_)
    dsimp only [q_L_load_7, j_wp, j_opB, j_opA, j_nth, j_i1, j_i2, j_l1, j_l2, j_li, j_f1, j_f2, j_d1, j_d2, j_r1, j_ai, j_aii, j_ail, j_aid, j_air, j_st1, j_st2, j_stu, j_kl, j_cond, j_args, j_out, j_few, j_cw, j_nat, j_pad, j_exp, Nat.reduceAdd]
    rw [an.1.1]
    refine ⟨rfl, v_01, ?_⟩
    rw [e_00]
    refine (hb (15, q_L_load_15) (List.mem_of_getElem? (i := 3) rfl) _ _ _ ?_)
    dsimp only [q_L_load_15, j_wp, j_opB, j_opA, j_nth, j_i1, j_i2, j_l1, j_l2, j_li, j_f1, j_f2, j_d1, j_d2, j_r1, j_ai, j_aii, j_ail, j_aid, j_air, j_st1, j_st2, j_stu, j_kl, j_cond, j_args, j_out, j_few, j_cw, j_nat, j_pad, j_exp, Nat.reduceAdd]
    exact ⟨trivial, H _ _ (Or.inl ⟨.int a, ⟨a, rfl, oL _ _ _⟩, ⟨_, rfl⟩, rfl, AN_ow an OW_L⟩)⟩
  · refine ⟨12, t_L_load_1, fun q => ?_⟩
    refine (hb (12, q_L_load_12) (List.mem_of_getElem? (i := 2) rfl) _ _ _ ?_)
    dsimp only [q_L_load_12, j_wp, j_opB, j_opA, j_nth, j_i1, j_i2, j_l1, j_l2, j_li, j_f1, j_f2, j_d1, j_d2, j_r1, j_ai, j_aii, j_ail, j_aid, j_air, j_st1, j_st2, j_stu, j_kl, j_cond, j_args, j_out, j_few, j_cw, j_nat, j_pad, j_exp, Nat.reduceAdd]
    exact ⟨trivial, H _ _ (Or.inr ⟨1, by decide, rfl, an⟩)⟩
def q_L_classify_0 : List j_N := [(.aload 4, 2, 4, 0, .null), (.iconst 0, 1, 0, 0, .int (0)), (.aload_n 0, 1, 0, 0, .null), (.iload_n 1, 1, 1, 0, .null), (.iload_n 2, 1, 2, 0, .null), (.iload_n 3, 1, 3, 0, .null)]
def q_L_classify_10 : List j_N := [(.i2l, 1, 0, 0, .null), (.lastore, 1, 0, 0, .null), (.goto 7, 3, 19, 0, .null)]
def q_L_classify_15 : List j_N := [(.astore 5, 2, 5, 0, .null), (.iconst 1, 1, 0, 0, .int (1)), (.ireturn, 1, 0, 0, .null)]
def q_L_classify_19 : List j_N := [(.iconst 0, 1, 0, 0, .int (0)), (.ireturn, 1, 0, 0, .null)]
def m_L_classify : List (Nat × List j_N) := [(0, q_L_classify_0), (10, q_L_classify_10), (15, q_L_classify_15), (19, q_L_classify_19)]
abbrev i_L_classify : j_Wi := (yL_classify, cL_classify, 6, [(0, 12, 15, 13)])
theorem g_L_classify : j_goodW i_L_classify m_L_classify 7 15 n_X8_classify (yX8_classify, cX8_classify, 4, (some .int), 10) := ⟨by decide +kernel, rfl, by decide +kernel, by decide +kernel, rfl, by decide +kernel, rfl, j_wI_in (is := [824, 83, 821, 822, 823]) (by decide +kernel)⟩
theorem t_L_classify_1 : j_ct [(0, 12, 15, 13)] 7 1 15 := ⟨[], ⟨0, 12, 15, 13⟩, [], rfl, (fun z hz => by cases hz), by decide, by decide, w_in 615 (by decide +kernel), w_in 624 (by decide +kernel), rfl⟩
theorem sp_L_classify (hl : l.stackTraces = false) (j : JJ E bs x sc Ls xs (n + 1) h) {v0 v1 v2 : Int32} (H : ∀ o h1, WP l D E bs x sc Ls xs n (d + 60) n_X9_classify [.int v0, .int v1, .int v2] (RI x) TI o h1 → Q o h1) : j_MetW l D bs E (d + 61) i_L_classify [.ref x, .int v0, .int v1, .int v2, .ref (x + 67)] h Q := by
  have hB : j_bd E h := by
    obtain ⟨V, M, U, uc, Sn, w, b, cap, g1, g2, -⟩ := j
    exact g2.1.2.2.2
  refine j_methW g_L_classify (n := 3) (by decide +kernel) (Nat.le_of_ble_eq_true rfl) hB.1 hB.2 (fun G hG => ?_)
  obtain ⟨hb, hcall⟩ := hG
  refine (hb (0, q_L_classify_0) (List.mem_of_getElem? (i := 0) rfl) _ _ _ ?_)
  dsimp only [q_L_classify_0, j_wp, j_opB, j_opA, j_nth, j_i1, j_i2, j_l1, j_l2, j_li, j_f1, j_f2, j_d1, j_d2, j_r1, j_ai, j_aii, j_ail, j_aid, j_air, j_st1, j_st2, j_stu, j_kl, j_cond, j_args, j_out, j_few, j_cw, j_nat, j_pad, j_exp, Nat.reduceAdd]
  refine hcall _ [.int v0, .int v1, .int v2] [.int 0, .ref (x + 67)] x h rfl rfl ?_
  refine op_classify hl j (fun a h1 an => ?_) (fun h1 an => ?_)
  · show G 10 _ [.int a, .int 0, .ref (x + 67)] h1
    refine (hb (10, q_L_classify_10) (List.mem_of_getElem? (i := 1) rfl) _ _ _ ?_)
    dsimp only [q_L_classify_10, j_wp, j_opB, j_opA, j_nth, j_i1, j_i2, j_l1, j_l2, j_li, j_f1, j_f2, j_d1, j_d2, j_r1, j_ai, j_aii, j_ail, j_aid, j_air, j_st1, j_st2, j_stu, j_kl, j_cond, j_args, j_out, j_few, j_cw, j_nat, j_pad, j_exp, Nat.reduceAdd]
    rw [an.1.1]
    refine ⟨rfl, v_01, ?_⟩
    rw [e_00]
    refine (hb (19, q_L_classify_19) (List.mem_of_getElem? (i := 3) rfl) _ _ _ ?_)
    dsimp only [q_L_classify_19, j_wp, j_opB, j_opA, j_nth, j_i1, j_i2, j_l1, j_l2, j_li, j_f1, j_f2, j_d1, j_d2, j_r1, j_ai, j_aii, j_ail, j_aid, j_air, j_st1, j_st2, j_stu, j_kl, j_cond, j_args, j_out, j_few, j_cw, j_nat, j_pad, j_exp, Nat.reduceAdd]
    exact ⟨trivial, H _ _ (Or.inl ⟨.int a, ⟨a, rfl, oL _ _ _⟩, ⟨_, rfl⟩, rfl, AN_ow an OW_L⟩)⟩
  · refine ⟨15, t_L_classify_1, fun q => ?_⟩
    refine (hb (15, q_L_classify_15) (List.mem_of_getElem? (i := 2) rfl) _ _ _ ?_)
    dsimp only [q_L_classify_15, j_wp, j_opB, j_opA, j_nth, j_i1, j_i2, j_l1, j_l2, j_li, j_f1, j_f2, j_d1, j_d2, j_r1, j_ai, j_aii, j_ail, j_aid, j_air, j_st1, j_st2, j_stu, j_kl, j_cond, j_args, j_out, j_few, j_cw, j_nat, j_pad, j_exp, Nat.reduceAdd]
    exact ⟨trivial, H _ _ (Or.inr ⟨1, by decide, rfl, an⟩)⟩
def q_L_flow_0 : List j_N := [(.aload_n 3, 1, 3, 0, .null), (.iconst 0, 1, 0, 0, .int (0)), (.aload_n 0, 1, 0, 0, .null), (.iload_n 1, 1, 1, 0, .null), (.iload_n 2, 1, 2, 0, .null)]
def q_L_flow_8 : List j_N := [(.i2l, 1, 0, 0, .null), (.lastore, 1, 0, 0, .null), (.goto 7, 3, 17, 0, .null)]
def q_L_flow_13 : List j_N := [(.astore 4, 2, 4, 0, .null), (.iconst 1, 1, 0, 0, .int (1)), (.ireturn, 1, 0, 0, .null)]
def q_L_flow_17 : List j_N := [(.iconst 0, 1, 0, 0, .int (0)), (.ireturn, 1, 0, 0, .null)]
def m_L_flow : List (Nat × List j_N) := [(0, q_L_flow_0), (8, q_L_flow_8), (13, q_L_flow_13), (17, q_L_flow_17)]
abbrev i_L_flow : j_Wi := (yL_flow, cL_flow, 5, [(0, 10, 13, 23)])
theorem g_L_flow : j_goodW i_L_flow m_L_flow 5 19 n_X8_flow (yX8_flow, cX8_flow, 3, (some .int), 10) := ⟨by decide +kernel, rfl, by decide +kernel, by decide +kernel, rfl, by decide +kernel, rfl, j_wI_in (is := [844, 83, 841, 842, 843]) (by decide +kernel)⟩
theorem t_L_flow_0 : j_ct [(0, 10, 13, 23)] 5 0 13 := ⟨[], ⟨0, 10, 13, 23⟩, [], rfl, (fun z hz => by cases hz), by decide, by decide, w_in 840 (by decide +kernel), w_in 850 (by decide +kernel), rfl⟩
theorem sp_L_flow (hl : l.stackTraces = false) (j : JJ E bs x sc Ls xs (n + 1) h) {v0 v1 : Int32} (H : ∀ o h1, WP l D E bs x sc Ls xs n (d + 60) n_X9_flow [.int v0, .int v1] (RI x) TI o h1 → Q o h1) : j_MetW l D bs E (d + 61) i_L_flow [.ref x, .int v0, .int v1, .ref (x + 67)] h Q := by
  have hB : j_bd E h := by
    obtain ⟨V, M, U, uc, Sn, w, b, cap, g1, g2, -⟩ := j
    exact g2.1.2.2.2
  refine j_methW g_L_flow (n := 2) (by decide +kernel) (Nat.le_of_ble_eq_true rfl) hB.1 hB.2 (fun G hG => ?_)
  obtain ⟨hb, hcall⟩ := hG
  refine (hb (0, q_L_flow_0) (List.mem_of_getElem? (i := 0) rfl) _ _ _ ?_)
  dsimp only [q_L_flow_0, j_wp, j_opB, j_opA, j_nth, j_i1, j_i2, j_l1, j_l2, j_li, j_f1, j_f2, j_d1, j_d2, j_r1, j_ai, j_aii, j_ail, j_aid, j_air, j_st1, j_st2, j_stu, j_kl, j_cond, j_args, j_out, j_few, j_cw, j_nat, j_pad, j_exp, Nat.reduceAdd]
  refine hcall _ [.int v0, .int v1] [.int 0, .ref (x + 67)] x h rfl rfl ?_
  refine op_flow hl j (fun a h1 an => ?_) (fun h1 an => ?_)
  · show G 8 _ [.int a, .int 0, .ref (x + 67)] h1
    refine (hb (8, q_L_flow_8) (List.mem_of_getElem? (i := 1) rfl) _ _ _ ?_)
    dsimp only [q_L_flow_8, j_wp, j_opB, j_opA, j_nth, j_i1, j_i2, j_l1, j_l2, j_li, j_f1, j_f2, j_d1, j_d2, j_r1, j_ai, j_aii, j_ail, j_aid, j_air, j_st1, j_st2, j_stu, j_kl, j_cond, j_args, j_out, j_few, j_cw, j_nat, j_pad, j_exp, Nat.reduceAdd]
    rw [an.1.1]
    refine ⟨rfl, v_01, ?_⟩
    rw [e_00]
    refine (hb (17, q_L_flow_17) (List.mem_of_getElem? (i := 3) rfl) _ _ _ ?_)
    dsimp only [q_L_flow_17, j_wp, j_opB, j_opA, j_nth, j_i1, j_i2, j_l1, j_l2, j_li, j_f1, j_f2, j_d1, j_d2, j_r1, j_ai, j_aii, j_ail, j_aid, j_air, j_st1, j_st2, j_stu, j_kl, j_cond, j_args, j_out, j_few, j_cw, j_nat, j_pad, j_exp, Nat.reduceAdd]
    exact ⟨trivial, H _ _ (Or.inl ⟨.int a, ⟨a, rfl, oL _ _ _⟩, ⟨_, rfl⟩, rfl, AN_ow an OW_L⟩)⟩
  · refine ⟨13, t_L_flow_0, fun q => ?_⟩
    refine (hb (13, q_L_flow_13) (List.mem_of_getElem? (i := 2) rfl) _ _ _ ?_)
    dsimp only [q_L_flow_13, j_wp, j_opB, j_opA, j_nth, j_i1, j_i2, j_l1, j_l2, j_li, j_f1, j_f2, j_d1, j_d2, j_r1, j_ai, j_aii, j_ail, j_aid, j_air, j_st1, j_st2, j_stu, j_kl, j_cond, j_args, j_out, j_few, j_cw, j_nat, j_pad, j_exp, Nat.reduceAdd]
    exact ⟨trivial, H _ _ (Or.inr ⟨1, by decide, rfl, an⟩)⟩
def q_L_virtualTime_0 : List j_N := [(.aload_n 2, 1, 2, 0, .null), (.iconst 0, 1, 0, 0, .int (0)), (.aload_n 0, 1, 0, 0, .null), (.iload_n 1, 1, 1, 0, .null)]
def q_L_virtualTime_7 : List j_N := [(.lastore, 1, 0, 0, .null), (.goto 6, 3, 14, 0, .null)]
def q_L_virtualTime_11 : List j_N := [(.astore_n 3, 1, 3, 0, .null), (.iconst 1, 1, 0, 0, .int (1)), (.ireturn, 1, 0, 0, .null)]
def q_L_virtualTime_14 : List j_N := [(.iconst 0, 1, 0, 0, .int (0)), (.ireturn, 1, 0, 0, .null)]
def m_L_virtualTime : List (Nat × List j_N) := [(0, q_L_virtualTime_0), (7, q_L_virtualTime_7), (11, q_L_virtualTime_11), (14, q_L_virtualTime_14)]
abbrev i_L_virtualTime : j_Wi := (yL_virtualTime, cL_virtualTime, 4, [(0, 8, 11, 23)])
theorem g_L_virtualTime : j_goodW i_L_virtualTime m_L_virtualTime 4 25 n_X8_virtualTime (yX8_virtualTime, cX8_virtualTime, 2, (some .long), 10) := ⟨by decide +kernel, rfl, by decide +kernel, by decide +kernel, rfl, by decide +kernel, rfl, j_wI_in (is := [876, 83, 873, 874, 875]) (by decide +kernel)⟩
theorem t_L_virtualTime_0 : j_ct [(0, 8, 11, 23)] 4 0 11 := ⟨[], ⟨0, 8, 11, 23⟩, [], rfl, (fun z hz => by cases hz), by decide, by decide, w_in 840 (by decide +kernel), w_in 850 (by decide +kernel), rfl⟩
theorem sp_L_virtualTime (hl : l.stackTraces = false) (j : JJ E bs x sc Ls xs (n + 1) h) {v0 : Int32} (H : ∀ o h1, WP l D E bs x sc Ls xs n (d + 60) n_X9_virtualTime [.int v0] (RL2 x) TL o h1 → Q o h1) : j_MetW l D bs E (d + 61) i_L_virtualTime [.ref x, .int v0, .ref (x + 67)] h Q := by
  have hB : j_bd E h := by
    obtain ⟨V, M, U, uc, Sn, w, b, cap, g1, g2, -⟩ := j
    exact g2.1.2.2.2
  refine j_methW g_L_virtualTime (n := 1) (by decide +kernel) (Nat.le_of_ble_eq_true rfl) hB.1 hB.2 (fun G hG => ?_)
  obtain ⟨hb, hcall⟩ := hG
  refine (hb (0, q_L_virtualTime_0) (List.mem_of_getElem? (i := 0) rfl) _ _ _ ?_)
  dsimp only [q_L_virtualTime_0, j_wp, j_opB, j_opA, j_nth, j_i1, j_i2, j_l1, j_l2, j_li, j_f1, j_f2, j_d1, j_d2, j_r1, j_ai, j_aii, j_ail, j_aid, j_air, j_st1, j_st2, j_stu, j_kl, j_cond, j_args, j_out, j_few, j_cw, j_nat, j_pad, j_exp, Nat.reduceAdd]
  refine hcall _ [.int v0] [.int 0, .ref (x + 67)] x h rfl rfl ?_
  refine op_virtualTime hl j (fun a h1 an => ?_) (fun h1 an => ?_)
  · show G 7 _ [.long a, .int 0, .ref (x + 67)] h1
    refine (hb (7, q_L_virtualTime_7) (List.mem_of_getElem? (i := 1) rfl) _ _ _ ?_)
    dsimp only [q_L_virtualTime_7, j_wp, j_opB, j_opA, j_nth, j_i1, j_i2, j_l1, j_l2, j_li, j_f1, j_f2, j_d1, j_d2, j_r1, j_ai, j_aii, j_ail, j_aid, j_air, j_st1, j_st2, j_stu, j_kl, j_cond, j_args, j_out, j_few, j_cw, j_nat, j_pad, j_exp, Nat.reduceAdd]
    rw [an.1.1]
    refine ⟨rfl, v_01, ?_⟩
    rw [e_00]
    refine (hb (14, q_L_virtualTime_14) (List.mem_of_getElem? (i := 3) rfl) _ _ _ ?_)
    dsimp only [q_L_virtualTime_14, j_wp, j_opB, j_opA, j_nth, j_i1, j_i2, j_l1, j_l2, j_li, j_f1, j_f2, j_d1, j_d2, j_r1, j_ai, j_aii, j_ail, j_aid, j_air, j_st1, j_st2, j_stu, j_kl, j_cond, j_args, j_out, j_few, j_cw, j_nat, j_pad, j_exp, Nat.reduceAdd]
    exact ⟨trivial, H _ _ (Or.inl ⟨.long a, ⟨a, rfl, oL _ _ _⟩, ⟨_, rfl⟩, rfl, AN_ow an OW_L⟩)⟩
  · refine ⟨11, t_L_virtualTime_0, fun q => ?_⟩
    refine (hb (11, q_L_virtualTime_11) (List.mem_of_getElem? (i := 2) rfl) _ _ _ ?_)
    dsimp only [q_L_virtualTime_11, j_wp, j_opB, j_opA, j_nth, j_i1, j_i2, j_l1, j_l2, j_li, j_f1, j_f2, j_d1, j_d2, j_r1, j_ai, j_aii, j_ail, j_aid, j_air, j_st1, j_st2, j_stu, j_kl, j_cond, j_args, j_out, j_few, j_cw, j_nat, j_pad, j_exp, Nat.reduceAdd]
    exact ⟨trivial, H _ _ (Or.inr ⟨1, by decide, rfl, an⟩)⟩
def q_L_isIdle_0 : List j_N := [(.aload_n 2, 1, 2, 0, .null), (.iconst 0, 1, 0, 0, .int (0)), (.aload_n 0, 1, 0, 0, .null), (.iload_n 1, 1, 1, 0, .null)]
def q_L_isIdle_7 : List j_N := [(.ifCond .eq 7, 3, 14, 0, .null), (.lconst 1, 1, 0, 0, .long 1), (.goto 4, 3, 15, 0, .null)]
def q_L_isIdle_14 : List j_N := [(.lconst 0, 1, 0, 0, .long 0)]
def q_L_isIdle_15 : List j_N := [(.lastore, 1, 0, 0, .null), (.goto 6, 3, 22, 0, .null)]
def q_L_isIdle_19 : List j_N := [(.astore_n 3, 1, 3, 0, .null), (.iconst 1, 1, 0, 0, .int (1)), (.ireturn, 1, 0, 0, .null)]
def q_L_isIdle_22 : List j_N := [(.iconst 0, 1, 0, 0, .int (0)), (.ireturn, 1, 0, 0, .null)]
def m_L_isIdle : List (Nat × List j_N) := [(0, q_L_isIdle_0), (7, q_L_isIdle_7), (14, q_L_isIdle_14), (15, q_L_isIdle_15), (19, q_L_isIdle_19), (22, q_L_isIdle_22)]
abbrev i_L_isIdle : j_Wi := (yL_isIdle, cL_isIdle, 4, [(0, 16, 19, 23)])
theorem g_L_isIdle : j_goodW i_L_isIdle m_L_isIdle 4 29 n_X8_isIdle (yX8_isIdle, cX8_isIdle, 2, (some .boolean), 10) := ⟨by decide +kernel, rfl, by decide +kernel, by decide +kernel, rfl, by decide +kernel, rfl, j_wI_in (is := [883, 83, 880, 881, 882]) (by decide +kernel)⟩
theorem t_L_isIdle_0 : j_ct [(0, 16, 19, 23)] 4 0 19 := ⟨[], ⟨0, 16, 19, 23⟩, [], rfl, (fun z hz => by cases hz), by decide, by decide, w_in 840 (by decide +kernel), w_in 850 (by decide +kernel), rfl⟩
theorem sp_L_isIdle (hl : l.stackTraces = false) (j : JJ E bs x sc Ls xs (n + 1) h) {v0 : Int32} (H : ∀ o h1, WP l D E bs x sc Ls xs n (d + 60) n_X9_isIdle [.int v0] (RZ x) TI o h1 → Q o h1) : j_MetW l D bs E (d + 61) i_L_isIdle [.ref x, .int v0, .ref (x + 67)] h Q := by
  have hB : j_bd E h := by
    obtain ⟨V, M, U, uc, Sn, w, b, cap, g1, g2, -⟩ := j
    exact g2.1.2.2.2
  refine j_methW g_L_isIdle (n := 1) (by decide +kernel) (Nat.le_of_ble_eq_true rfl) hB.1 hB.2 (fun G hG => ?_)
  obtain ⟨hb, hcall⟩ := hG
  refine (hb (0, q_L_isIdle_0) (List.mem_of_getElem? (i := 0) rfl) _ _ _ ?_)
  dsimp only [q_L_isIdle_0, j_wp, j_opB, j_opA, j_nth, j_i1, j_i2, j_l1, j_l2, j_li, j_f1, j_f2, j_d1, j_d2, j_r1, j_ai, j_aii, j_ail, j_aid, j_air, j_st1, j_st2, j_stu, j_kl, j_cond, j_args, j_out, j_few, j_cw, j_nat, j_pad, j_exp, Nat.reduceAdd]
  refine hcall _ [.int v0] [.int 0, .ref (x + 67)] x h rfl rfl ?_
  refine op_isIdle hl j (fun a h1 an => ?_) (fun h1 an => ?_)
  · show G 7 _ [.int a, .int 0, .ref (x + 67)] h1
    refine (hb (7, q_L_isIdle_7) (List.mem_of_getElem? (i := 1) rfl) _ _ _ ?_)
    dsimp only [q_L_isIdle_7, j_wp, j_opB, j_opA, j_nth, j_i1, j_i2, j_l1, j_l2, j_li, j_f1, j_f2, j_d1, j_d2, j_r1, j_ai, j_aii, j_ail, j_aid, j_air, j_st1, j_st2, j_stu, j_kl, j_cond, j_args, j_out, j_few, j_cw, j_nat, j_pad, j_exp, Nat.reduceAdd]
    by_cases g : a = 0
    · rw [if_pos g]
      refine (hb (14, q_L_isIdle_14) (List.mem_of_getElem? (i := 2) rfl) _ _ _ ?_)
      dsimp only [q_L_isIdle_14, j_wp, j_opB, j_opA, j_nth, j_i1, j_i2, j_l1, j_l2, j_li, j_f1, j_f2, j_d1, j_d2, j_r1, j_ai, j_aii, j_ail, j_aid, j_air, j_st1, j_st2, j_stu, j_kl, j_cond, j_args, j_out, j_few, j_cw, j_nat, j_pad, j_exp, Nat.reduceAdd]
      refine (hb (15, q_L_isIdle_15) (List.mem_of_getElem? (i := 3) rfl) _ _ _ ?_)
      dsimp only [q_L_isIdle_15, j_wp, j_opB, j_opA, j_nth, j_i1, j_i2, j_l1, j_l2, j_li, j_f1, j_f2, j_d1, j_d2, j_r1, j_ai, j_aii, j_ail, j_aid, j_air, j_st1, j_st2, j_stu, j_kl, j_cond, j_args, j_out, j_few, j_cw, j_nat, j_pad, j_exp, Nat.reduceAdd]
      rw [an.1.1]
      refine ⟨rfl, v_01, ?_⟩
      rw [e_00]
      refine (hb (22, q_L_isIdle_22) (List.mem_of_getElem? (i := 5) rfl) _ _ _ ?_)
      dsimp only [q_L_isIdle_22, j_wp, j_opB, j_opA, j_nth, j_i1, j_i2, j_l1, j_l2, j_li, j_f1, j_f2, j_d1, j_d2, j_r1, j_ai, j_aii, j_ail, j_aid, j_air, j_st1, j_st2, j_stu, j_kl, j_cond, j_args, j_out, j_few, j_cw, j_nat, j_pad, j_exp, Nat.reduceAdd]
      exact ⟨trivial, H _ _ (Or.inl ⟨.int a, ⟨a, rfl, by rw [oL, if_pos g]⟩, ⟨_, rfl⟩, rfl, AN_ow an OW_L⟩)⟩
    · rw [if_neg g]
      refine (hb (15, q_L_isIdle_15) (List.mem_of_getElem? (i := 3) rfl) _ _ _ ?_)
      dsimp only [q_L_isIdle_15, j_wp, j_opB, j_opA, j_nth, j_i1, j_i2, j_l1, j_l2, j_li, j_f1, j_f2, j_d1, j_d2, j_r1, j_ai, j_aii, j_ail, j_aid, j_air, j_st1, j_st2, j_stu, j_kl, j_cond, j_args, j_out, j_few, j_cw, j_nat, j_pad, j_exp, Nat.reduceAdd]
      rw [an.1.1]
      refine ⟨rfl, v_01, ?_⟩
      rw [e_00]
      refine (hb (22, q_L_isIdle_22) (List.mem_of_getElem? (i := 5) rfl) _ _ _ ?_)
      dsimp only [q_L_isIdle_22, j_wp, j_opB, j_opA, j_nth, j_i1, j_i2, j_l1, j_l2, j_li, j_f1, j_f2, j_d1, j_d2, j_r1, j_ai, j_aii, j_ail, j_aid, j_air, j_st1, j_st2, j_stu, j_kl, j_cond, j_args, j_out, j_few, j_cw, j_nat, j_pad, j_exp, Nat.reduceAdd]
      exact ⟨trivial, H _ _ (Or.inl ⟨.int a, ⟨a, rfl, by rw [oL, if_neg g]⟩, ⟨_, rfl⟩, rfl, AN_ow an OW_L⟩)⟩
  · refine ⟨19, t_L_isIdle_0, fun q => ?_⟩
    refine (hb (19, q_L_isIdle_19) (List.mem_of_getElem? (i := 4) rfl) _ _ _ ?_)
    dsimp only [q_L_isIdle_19, j_wp, j_opB, j_opA, j_nth, j_i1, j_i2, j_l1, j_l2, j_li, j_f1, j_f2, j_d1, j_d2, j_r1, j_ai, j_aii, j_ail, j_aid, j_air, j_st1, j_st2, j_stu, j_kl, j_cond, j_args, j_out, j_few, j_cw, j_nat, j_pad, j_exp, Nat.reduceAdd]
    exact ⟨trivial, H _ _ (Or.inr ⟨1, by decide, rfl, an⟩)⟩
def q_L_queued_0 : List j_N := [(.aload_n 3, 1, 3, 0, .null), (.iconst 0, 1, 0, 0, .int (0)), (.aload_n 0, 1, 0, 0, .null), (.iload_n 1, 1, 1, 0, .null), (.iload_n 2, 1, 2, 0, .null)]
def q_L_queued_8 : List j_N := [(.i2l, 1, 0, 0, .null), (.lastore, 1, 0, 0, .null), (.goto 7, 3, 17, 0, .null)]
def q_L_queued_13 : List j_N := [(.astore 4, 2, 4, 0, .null), (.iconst 1, 1, 0, 0, .int (1)), (.ireturn, 1, 0, 0, .null)]
def q_L_queued_17 : List j_N := [(.iconst 0, 1, 0, 0, .int (0)), (.ireturn, 1, 0, 0, .null)]
def m_L_queued : List (Nat × List j_N) := [(0, q_L_queued_0), (8, q_L_queued_8), (13, q_L_queued_13), (17, q_L_queued_17)]
abbrev i_L_queued : j_Wi := (yL_queued, cL_queued, 5, [(0, 10, 13, 23)])
theorem g_L_queued : j_goodW i_L_queued m_L_queued 5 33 n_X8_queued (yX8_queued, cX8_queued, 3, (some .int), 10) := ⟨by decide +kernel, rfl, by decide +kernel, by decide +kernel, rfl, by decide +kernel, rfl, j_wI_in (is := [890, 83, 887, 888, 889]) (by decide +kernel)⟩
theorem t_L_queued_0 : j_ct [(0, 10, 13, 23)] 5 0 13 := ⟨[], ⟨0, 10, 13, 23⟩, [], rfl, (fun z hz => by cases hz), by decide, by decide, w_in 840 (by decide +kernel), w_in 850 (by decide +kernel), rfl⟩
theorem sp_L_queued (hl : l.stackTraces = false) (j : JJ E bs x sc Ls xs (n + 1) h) {v0 v1 : Int32} (H : ∀ o h1, WP l D E bs x sc Ls xs n (d + 60) n_X9_queued [.int v0, .int v1] (RI x) TI o h1 → Q o h1) : j_MetW l D bs E (d + 61) i_L_queued [.ref x, .int v0, .int v1, .ref (x + 67)] h Q := by
  have hB : j_bd E h := by
    obtain ⟨V, M, U, uc, Sn, w, b, cap, g1, g2, -⟩ := j
    exact g2.1.2.2.2
  refine j_methW g_L_queued (n := 2) (by decide +kernel) (Nat.le_of_ble_eq_true rfl) hB.1 hB.2 (fun G hG => ?_)
  obtain ⟨hb, hcall⟩ := hG
  refine (hb (0, q_L_queued_0) (List.mem_of_getElem? (i := 0) rfl) _ _ _ ?_)
  dsimp only [q_L_queued_0, j_wp, j_opB, j_opA, j_nth, j_i1, j_i2, j_l1, j_l2, j_li, j_f1, j_f2, j_d1, j_d2, j_r1, j_ai, j_aii, j_ail, j_aid, j_air, j_st1, j_st2, j_stu, j_kl, j_cond, j_args, j_out, j_few, j_cw, j_nat, j_pad, j_exp, Nat.reduceAdd]
  refine hcall _ [.int v0, .int v1] [.int 0, .ref (x + 67)] x h rfl rfl ?_
  refine op_queued hl j (fun a h1 an => ?_) (fun h1 an => ?_)
  · show G 8 _ [.int a, .int 0, .ref (x + 67)] h1
    refine (hb (8, q_L_queued_8) (List.mem_of_getElem? (i := 1) rfl) _ _ _ ?_)
    dsimp only [q_L_queued_8, j_wp, j_opB, j_opA, j_nth, j_i1, j_i2, j_l1, j_l2, j_li, j_f1, j_f2, j_d1, j_d2, j_r1, j_ai, j_aii, j_ail, j_aid, j_air, j_st1, j_st2, j_stu, j_kl, j_cond, j_args, j_out, j_few, j_cw, j_nat, j_pad, j_exp, Nat.reduceAdd]
    rw [an.1.1]
    refine ⟨rfl, v_01, ?_⟩
    rw [e_00]
    refine (hb (17, q_L_queued_17) (List.mem_of_getElem? (i := 3) rfl) _ _ _ ?_)
    dsimp only [q_L_queued_17, j_wp, j_opB, j_opA, j_nth, j_i1, j_i2, j_l1, j_l2, j_li, j_f1, j_f2, j_d1, j_d2, j_r1, j_ai, j_aii, j_ail, j_aid, j_air, j_st1, j_st2, j_stu, j_kl, j_cond, j_args, j_out, j_few, j_cw, j_nat, j_pad, j_exp, Nat.reduceAdd]
    exact ⟨trivial, H _ _ (Or.inl ⟨.int a, ⟨a, rfl, oL _ _ _⟩, ⟨_, rfl⟩, rfl, AN_ow an OW_L⟩)⟩
  · refine ⟨13, t_L_queued_0, fun q => ?_⟩
    refine (hb (13, q_L_queued_13) (List.mem_of_getElem? (i := 2) rfl) _ _ _ ?_)
    dsimp only [q_L_queued_13, j_wp, j_opB, j_opA, j_nth, j_i1, j_i2, j_l1, j_l2, j_li, j_f1, j_f2, j_d1, j_d2, j_r1, j_ai, j_aii, j_ail, j_aid, j_air, j_st1, j_st2, j_stu, j_kl, j_cond, j_args, j_out, j_few, j_cw, j_nat, j_pad, j_exp, Nat.reduceAdd]
    exact ⟨trivial, H _ _ (Or.inr ⟨1, by decide, rfl, an⟩)⟩
def q_L_packet_0 : List j_N := [(.aload_n 3, 1, 3, 0, .null), (.iconst 0, 1, 0, 0, .int (0)), (.aload_n 0, 1, 0, 0, .null), (.iload_n 1, 1, 1, 0, .null), (.iload_n 2, 1, 2, 0, .null)]
def q_L_packet_8 : List j_N := [(.i2l, 1, 0, 0, .null), (.lastore, 1, 0, 0, .null), (.goto 7, 3, 17, 0, .null)]
def q_L_packet_13 : List j_N := [(.astore 4, 2, 4, 0, .null), (.iconst 1, 1, 0, 0, .int (1)), (.ireturn, 1, 0, 0, .null)]
def q_L_packet_17 : List j_N := [(.iconst 0, 1, 0, 0, .int (0)), (.ireturn, 1, 0, 0, .null)]
def m_L_packet : List (Nat × List j_N) := [(0, q_L_packet_0), (8, q_L_packet_8), (13, q_L_packet_13), (17, q_L_packet_17)]
abbrev i_L_packet : j_Wi := (yL_packet, cL_packet, 5, [(0, 10, 13, 23)])
theorem g_L_packet : j_goodW i_L_packet m_L_packet 5 36 n_X8_packet (yX8_packet, cX8_packet, 3, (some .int), 10) := ⟨by decide +kernel, rfl, by decide +kernel, by decide +kernel, rfl, by decide +kernel, rfl, j_wI_in (is := [902, 83, 899, 900, 901]) (by decide +kernel)⟩
theorem t_L_packet_0 : j_ct [(0, 10, 13, 23)] 5 0 13 := ⟨[], ⟨0, 10, 13, 23⟩, [], rfl, (fun z hz => by cases hz), by decide, by decide, w_in 840 (by decide +kernel), w_in 850 (by decide +kernel), rfl⟩
theorem sp_L_packet (hl : l.stackTraces = false) (j : JJ E bs x sc Ls xs (n + 1) h) {v0 v1 : Int32} (H : ∀ o h1, WP l D E bs x sc Ls xs n (d + 60) n_X9_packet [.int v0, .int v1] (RI x) TI o h1 → Q o h1) : j_MetW l D bs E (d + 61) i_L_packet [.ref x, .int v0, .int v1, .ref (x + 67)] h Q := by
  have hB : j_bd E h := by
    obtain ⟨V, M, U, uc, Sn, w, b, cap, g1, g2, -⟩ := j
    exact g2.1.2.2.2
  refine j_methW g_L_packet (n := 2) (by decide +kernel) (Nat.le_of_ble_eq_true rfl) hB.1 hB.2 (fun G hG => ?_)
  obtain ⟨hb, hcall⟩ := hG
  refine (hb (0, q_L_packet_0) (List.mem_of_getElem? (i := 0) rfl) _ _ _ ?_)
  dsimp only [q_L_packet_0, j_wp, j_opB, j_opA, j_nth, j_i1, j_i2, j_l1, j_l2, j_li, j_f1, j_f2, j_d1, j_d2, j_r1, j_ai, j_aii, j_ail, j_aid, j_air, j_st1, j_st2, j_stu, j_kl, j_cond, j_args, j_out, j_few, j_cw, j_nat, j_pad, j_exp, Nat.reduceAdd]
  refine hcall _ [.int v0, .int v1] [.int 0, .ref (x + 67)] x h rfl rfl ?_
  refine op_packet hl j (fun a h1 an => ?_) (fun h1 an => ?_)
  · show G 8 _ [.int a, .int 0, .ref (x + 67)] h1
    refine (hb (8, q_L_packet_8) (List.mem_of_getElem? (i := 1) rfl) _ _ _ ?_)
    dsimp only [q_L_packet_8, j_wp, j_opB, j_opA, j_nth, j_i1, j_i2, j_l1, j_l2, j_li, j_f1, j_f2, j_d1, j_d2, j_r1, j_ai, j_aii, j_ail, j_aid, j_air, j_st1, j_st2, j_stu, j_kl, j_cond, j_args, j_out, j_few, j_cw, j_nat, j_pad, j_exp, Nat.reduceAdd]
    rw [an.1.1]
    refine ⟨rfl, v_01, ?_⟩
    rw [e_00]
    refine (hb (17, q_L_packet_17) (List.mem_of_getElem? (i := 3) rfl) _ _ _ ?_)
    dsimp only [q_L_packet_17, j_wp, j_opB, j_opA, j_nth, j_i1, j_i2, j_l1, j_l2, j_li, j_f1, j_f2, j_d1, j_d2, j_r1, j_ai, j_aii, j_ail, j_aid, j_air, j_st1, j_st2, j_stu, j_kl, j_cond, j_args, j_out, j_few, j_cw, j_nat, j_pad, j_exp, Nat.reduceAdd]
    exact ⟨trivial, H _ _ (Or.inl ⟨.int a, ⟨a, rfl, oL _ _ _⟩, ⟨_, rfl⟩, rfl, AN_ow an OW_L⟩)⟩
  · refine ⟨13, t_L_packet_0, fun q => ?_⟩
    refine (hb (13, q_L_packet_13) (List.mem_of_getElem? (i := 2) rfl) _ _ _ ?_)
    dsimp only [q_L_packet_13, j_wp, j_opB, j_opA, j_nth, j_i1, j_i2, j_l1, j_l2, j_li, j_f1, j_f2, j_d1, j_d2, j_r1, j_ai, j_aii, j_ail, j_aid, j_air, j_st1, j_st2, j_stu, j_kl, j_cond, j_args, j_out, j_few, j_cw, j_nat, j_pad, j_exp, Nat.reduceAdd]
    exact ⟨trivial, H _ _ (Or.inr ⟨1, by decide, rfl, an⟩)⟩
def q_L_transmission_0 : List j_N := [(.aload_n 3, 1, 3, 0, .null), (.iconst 0, 1, 0, 0, .int (0)), (.aload_n 0, 1, 0, 0, .null), (.iload_n 1, 1, 1, 0, .null), (.iload_n 2, 1, 2, 0, .null)]
def q_L_transmission_8 : List j_N := [(.i2l, 1, 0, 0, .null), (.lastore, 1, 0, 0, .null), (.goto 7, 3, 17, 0, .null)]
def q_L_transmission_13 : List j_N := [(.astore 4, 2, 4, 0, .null), (.iconst 1, 1, 0, 0, .int (1)), (.ireturn, 1, 0, 0, .null)]
def q_L_transmission_17 : List j_N := [(.iconst 0, 1, 0, 0, .int (0)), (.ireturn, 1, 0, 0, .null)]
def m_L_transmission : List (Nat × List j_N) := [(0, q_L_transmission_0), (8, q_L_transmission_8), (13, q_L_transmission_13), (17, q_L_transmission_17)]
abbrev i_L_transmission : j_Wi := (yL_transmission, cL_transmission, 5, [(0, 10, 13, 23)])
theorem g_L_transmission : j_goodW i_L_transmission m_L_transmission 5 39 n_X8_transmission (yX8_transmission, cX8_transmission, 3, (some .int), 10) := ⟨by decide +kernel, rfl, by decide +kernel, by decide +kernel, rfl, by decide +kernel, rfl, j_wI_in (is := [914, 83, 911, 912, 913]) (by decide +kernel)⟩
theorem t_L_transmission_0 : j_ct [(0, 10, 13, 23)] 5 0 13 := ⟨[], ⟨0, 10, 13, 23⟩, [], rfl, (fun z hz => by cases hz), by decide, by decide, w_in 840 (by decide +kernel), w_in 850 (by decide +kernel), rfl⟩
theorem sp_L_transmission (hl : l.stackTraces = false) (j : JJ E bs x sc Ls xs (n + 1) h) {v0 v1 : Int32} (H : ∀ o h1, WP l D E bs x sc Ls xs n (d + 60) n_X9_transmission [.int v0, .int v1] (RI x) TI o h1 → Q o h1) : j_MetW l D bs E (d + 61) i_L_transmission [.ref x, .int v0, .int v1, .ref (x + 67)] h Q := by
  have hB : j_bd E h := by
    obtain ⟨V, M, U, uc, Sn, w, b, cap, g1, g2, -⟩ := j
    exact g2.1.2.2.2
  refine j_methW g_L_transmission (n := 2) (by decide +kernel) (Nat.le_of_ble_eq_true rfl) hB.1 hB.2 (fun G hG => ?_)
  obtain ⟨hb, hcall⟩ := hG
  refine (hb (0, q_L_transmission_0) (List.mem_of_getElem? (i := 0) rfl) _ _ _ ?_)
  dsimp only [q_L_transmission_0, j_wp, j_opB, j_opA, j_nth, j_i1, j_i2, j_l1, j_l2, j_li, j_f1, j_f2, j_d1, j_d2, j_r1, j_ai, j_aii, j_ail, j_aid, j_air, j_st1, j_st2, j_stu, j_kl, j_cond, j_args, j_out, j_few, j_cw, j_nat, j_pad, j_exp, Nat.reduceAdd]
  refine hcall _ [.int v0, .int v1] [.int 0, .ref (x + 67)] x h rfl rfl ?_
  refine op_transmission hl j (fun a h1 an => ?_) (fun h1 an => ?_)
  · show G 8 _ [.int a, .int 0, .ref (x + 67)] h1
    refine (hb (8, q_L_transmission_8) (List.mem_of_getElem? (i := 1) rfl) _ _ _ ?_)
    dsimp only [q_L_transmission_8, j_wp, j_opB, j_opA, j_nth, j_i1, j_i2, j_l1, j_l2, j_li, j_f1, j_f2, j_d1, j_d2, j_r1, j_ai, j_aii, j_ail, j_aid, j_air, j_st1, j_st2, j_stu, j_kl, j_cond, j_args, j_out, j_few, j_cw, j_nat, j_pad, j_exp, Nat.reduceAdd]
    rw [an.1.1]
    refine ⟨rfl, v_01, ?_⟩
    rw [e_00]
    refine (hb (17, q_L_transmission_17) (List.mem_of_getElem? (i := 3) rfl) _ _ _ ?_)
    dsimp only [q_L_transmission_17, j_wp, j_opB, j_opA, j_nth, j_i1, j_i2, j_l1, j_l2, j_li, j_f1, j_f2, j_d1, j_d2, j_r1, j_ai, j_aii, j_ail, j_aid, j_air, j_st1, j_st2, j_stu, j_kl, j_cond, j_args, j_out, j_few, j_cw, j_nat, j_pad, j_exp, Nat.reduceAdd]
    exact ⟨trivial, H _ _ (Or.inl ⟨.int a, ⟨a, rfl, oL _ _ _⟩, ⟨_, rfl⟩, rfl, AN_ow an OW_L⟩)⟩
  · refine ⟨13, t_L_transmission_0, fun q => ?_⟩
    refine (hb (13, q_L_transmission_13) (List.mem_of_getElem? (i := 2) rfl) _ _ _ ?_)
    dsimp only [q_L_transmission_13, j_wp, j_opB, j_opA, j_nth, j_i1, j_i2, j_l1, j_l2, j_li, j_f1, j_f2, j_d1, j_d2, j_r1, j_ai, j_aii, j_ail, j_aid, j_air, j_st1, j_st2, j_stu, j_kl, j_cond, j_args, j_out, j_few, j_cw, j_nat, j_pad, j_exp, Nat.reduceAdd]
    exact ⟨trivial, H _ _ (Or.inr ⟨1, by decide, rfl, an⟩)⟩
def q_L_charge_0 : List j_N := [(.aload_n 2, 1, 2, 0, .null), (.iconst 0, 1, 0, 0, .int (0)), (.aload_n 0, 1, 0, 0, .null), (.iload_n 1, 1, 1, 0, .null)]
def q_L_charge_7 : List j_N := [(.lastore, 1, 0, 0, .null), (.goto 6, 3, 14, 0, .null)]
def q_L_charge_11 : List j_N := [(.astore_n 3, 1, 3, 0, .null), (.iconst 1, 1, 0, 0, .int (1)), (.ireturn, 1, 0, 0, .null)]
def q_L_charge_14 : List j_N := [(.iconst 0, 1, 0, 0, .int (0)), (.ireturn, 1, 0, 0, .null)]
def m_L_charge : List (Nat × List j_N) := [(0, q_L_charge_0), (7, q_L_charge_7), (11, q_L_charge_11), (14, q_L_charge_14)]
abbrev i_L_charge : j_Wi := (yL_charge, cL_charge, 4, [(0, 8, 11, 23)])
theorem g_L_charge : j_goodW i_L_charge m_L_charge 4 42 n_X8_charge (yX8_charge, cX8_charge, 2, (some .long), 10) := ⟨by decide +kernel, rfl, by decide +kernel, by decide +kernel, rfl, by decide +kernel, rfl, j_wI_in (is := [926, 83, 923, 924, 925]) (by decide +kernel)⟩
theorem t_L_charge_0 : j_ct [(0, 8, 11, 23)] 4 0 11 := ⟨[], ⟨0, 8, 11, 23⟩, [], rfl, (fun z hz => by cases hz), by decide, by decide, w_in 840 (by decide +kernel), w_in 850 (by decide +kernel), rfl⟩
theorem sp_L_charge (hl : l.stackTraces = false) (j : JJ E bs x sc Ls xs (n + 1) h) {v0 : Int32} (H : ∀ o h1, WP l D E bs x sc Ls xs n (d + 60) n_X9_charge [.int v0] (RL2 x) TL o h1 → Q o h1) : j_MetW l D bs E (d + 61) i_L_charge [.ref x, .int v0, .ref (x + 67)] h Q := by
  have hB : j_bd E h := by
    obtain ⟨V, M, U, uc, Sn, w, b, cap, g1, g2, -⟩ := j
    exact g2.1.2.2.2
  refine j_methW g_L_charge (n := 1) (by decide +kernel) (Nat.le_of_ble_eq_true rfl) hB.1 hB.2 (fun G hG => ?_)
  obtain ⟨hb, hcall⟩ := hG
  refine (hb (0, q_L_charge_0) (List.mem_of_getElem? (i := 0) rfl) _ _ _ ?_)
  dsimp only [q_L_charge_0, j_wp, j_opB, j_opA, j_nth, j_i1, j_i2, j_l1, j_l2, j_li, j_f1, j_f2, j_d1, j_d2, j_r1, j_ai, j_aii, j_ail, j_aid, j_air, j_st1, j_st2, j_stu, j_kl, j_cond, j_args, j_out, j_few, j_cw, j_nat, j_pad, j_exp, Nat.reduceAdd]
  refine hcall _ [.int v0] [.int 0, .ref (x + 67)] x h rfl rfl ?_
  refine op_charge hl j (fun a h1 an => ?_) (fun h1 an => ?_)
  · show G 7 _ [.long a, .int 0, .ref (x + 67)] h1
    refine (hb (7, q_L_charge_7) (List.mem_of_getElem? (i := 1) rfl) _ _ _ ?_)
    dsimp only [q_L_charge_7, j_wp, j_opB, j_opA, j_nth, j_i1, j_i2, j_l1, j_l2, j_li, j_f1, j_f2, j_d1, j_d2, j_r1, j_ai, j_aii, j_ail, j_aid, j_air, j_st1, j_st2, j_stu, j_kl, j_cond, j_args, j_out, j_few, j_cw, j_nat, j_pad, j_exp, Nat.reduceAdd]
    rw [an.1.1]
    refine ⟨rfl, v_01, ?_⟩
    rw [e_00]
    refine (hb (14, q_L_charge_14) (List.mem_of_getElem? (i := 3) rfl) _ _ _ ?_)
    dsimp only [q_L_charge_14, j_wp, j_opB, j_opA, j_nth, j_i1, j_i2, j_l1, j_l2, j_li, j_f1, j_f2, j_d1, j_d2, j_r1, j_ai, j_aii, j_ail, j_aid, j_air, j_st1, j_st2, j_stu, j_kl, j_cond, j_args, j_out, j_few, j_cw, j_nat, j_pad, j_exp, Nat.reduceAdd]
    exact ⟨trivial, H _ _ (Or.inl ⟨.long a, ⟨a, rfl, oL _ _ _⟩, ⟨_, rfl⟩, rfl, AN_ow an OW_L⟩)⟩
  · refine ⟨11, t_L_charge_0, fun q => ?_⟩
    refine (hb (11, q_L_charge_11) (List.mem_of_getElem? (i := 2) rfl) _ _ _ ?_)
    dsimp only [q_L_charge_11, j_wp, j_opB, j_opA, j_nth, j_i1, j_i2, j_l1, j_l2, j_li, j_f1, j_f2, j_d1, j_d2, j_r1, j_ai, j_aii, j_ail, j_aid, j_air, j_st1, j_st2, j_stu, j_kl, j_cond, j_args, j_out, j_few, j_cw, j_nat, j_pad, j_exp, Nat.reduceAdd]
    exact ⟨trivial, H _ _ (Or.inr ⟨1, by decide, rfl, an⟩)⟩
def q_L_outstanding_0 : List j_N := [(.aload_n 2, 1, 2, 0, .null), (.iconst 0, 1, 0, 0, .int (0)), (.aload_n 0, 1, 0, 0, .null), (.iload_n 1, 1, 1, 0, .null)]
def q_L_outstanding_7 : List j_N := [(.i2l, 1, 0, 0, .null), (.lastore, 1, 0, 0, .null), (.goto 6, 3, 15, 0, .null)]
def q_L_outstanding_12 : List j_N := [(.astore_n 3, 1, 3, 0, .null), (.iconst 1, 1, 0, 0, .int (1)), (.ireturn, 1, 0, 0, .null)]
def q_L_outstanding_15 : List j_N := [(.iconst 0, 1, 0, 0, .int (0)), (.ireturn, 1, 0, 0, .null)]
def m_L_outstanding : List (Nat × List j_N) := [(0, q_L_outstanding_0), (7, q_L_outstanding_7), (12, q_L_outstanding_12), (15, q_L_outstanding_15)]
abbrev i_L_outstanding : j_Wi := (yL_outstanding, cL_outstanding, 4, [(0, 9, 12, 23)])
theorem g_L_outstanding : j_goodW i_L_outstanding m_L_outstanding 4 45 n_X8_outstanding (yX8_outstanding, cX8_outstanding, 2, (some .int), 10) := ⟨by decide +kernel, rfl, by decide +kernel, by decide +kernel, rfl, by decide +kernel, rfl, j_wI_in (is := [933, 83, 930, 931, 932]) (by decide +kernel)⟩
theorem t_L_outstanding_0 : j_ct [(0, 9, 12, 23)] 4 0 12 := ⟨[], ⟨0, 9, 12, 23⟩, [], rfl, (fun z hz => by cases hz), by decide, by decide, w_in 840 (by decide +kernel), w_in 850 (by decide +kernel), rfl⟩
theorem sp_L_outstanding (hl : l.stackTraces = false) (j : JJ E bs x sc Ls xs (n + 1) h) {v0 : Int32} (H : ∀ o h1, WP l D E bs x sc Ls xs n (d + 60) n_X9_outstanding [.int v0] (RI x) TI o h1 → Q o h1) : j_MetW l D bs E (d + 61) i_L_outstanding [.ref x, .int v0, .ref (x + 67)] h Q := by
  have hB : j_bd E h := by
    obtain ⟨V, M, U, uc, Sn, w, b, cap, g1, g2, -⟩ := j
    exact g2.1.2.2.2
  refine j_methW g_L_outstanding (n := 1) (by decide +kernel) (Nat.le_of_ble_eq_true rfl) hB.1 hB.2 (fun G hG => ?_)
  obtain ⟨hb, hcall⟩ := hG
  refine (hb (0, q_L_outstanding_0) (List.mem_of_getElem? (i := 0) rfl) _ _ _ ?_)
  dsimp only [q_L_outstanding_0, j_wp, j_opB, j_opA, j_nth, j_i1, j_i2, j_l1, j_l2, j_li, j_f1, j_f2, j_d1, j_d2, j_r1, j_ai, j_aii, j_ail, j_aid, j_air, j_st1, j_st2, j_stu, j_kl, j_cond, j_args, j_out, j_few, j_cw, j_nat, j_pad, j_exp, Nat.reduceAdd]
  refine hcall _ [.int v0] [.int 0, .ref (x + 67)] x h rfl rfl ?_
  refine op_outstanding hl j (fun a h1 an => ?_) (fun h1 an => ?_)
  · show G 7 _ [.int a, .int 0, .ref (x + 67)] h1
    refine (hb (7, q_L_outstanding_7) (List.mem_of_getElem? (i := 1) rfl) _ _ _ ?_)
    dsimp only [q_L_outstanding_7, j_wp, j_opB, j_opA, j_nth, j_i1, j_i2, j_l1, j_l2, j_li, j_f1, j_f2, j_d1, j_d2, j_r1, j_ai, j_aii, j_ail, j_aid, j_air, j_st1, j_st2, j_stu, j_kl, j_cond, j_args, j_out, j_few, j_cw, j_nat, j_pad, j_exp, Nat.reduceAdd]
    rw [an.1.1]
    refine ⟨rfl, v_01, ?_⟩
    rw [e_00]
    refine (hb (15, q_L_outstanding_15) (List.mem_of_getElem? (i := 3) rfl) _ _ _ ?_)
    dsimp only [q_L_outstanding_15, j_wp, j_opB, j_opA, j_nth, j_i1, j_i2, j_l1, j_l2, j_li, j_f1, j_f2, j_d1, j_d2, j_r1, j_ai, j_aii, j_ail, j_aid, j_air, j_st1, j_st2, j_stu, j_kl, j_cond, j_args, j_out, j_few, j_cw, j_nat, j_pad, j_exp, Nat.reduceAdd]
    exact ⟨trivial, H _ _ (Or.inl ⟨.int a, ⟨a, rfl, oL _ _ _⟩, ⟨_, rfl⟩, rfl, AN_ow an OW_L⟩)⟩
  · refine ⟨12, t_L_outstanding_0, fun q => ?_⟩
    refine (hb (12, q_L_outstanding_12) (List.mem_of_getElem? (i := 2) rfl) _ _ _ ?_)
    dsimp only [q_L_outstanding_12, j_wp, j_opB, j_opA, j_nth, j_i1, j_i2, j_l1, j_l2, j_li, j_f1, j_f2, j_d1, j_d2, j_r1, j_ai, j_aii, j_ail, j_aid, j_air, j_st1, j_st2, j_stu, j_kl, j_cond, j_args, j_out, j_few, j_cw, j_nat, j_pad, j_exp, Nat.reduceAdd]
    exact ⟨trivial, H _ _ (Or.inr ⟨1, by decide, rfl, an⟩)⟩
def q_L_arrive_0 : List j_N := [(.aload 5, 2, 5, 0, .null), (.iconst 0, 1, 0, 0, .int (0)), (.aload_n 0, 1, 0, 0, .null), (.iload_n 1, 1, 1, 0, .null), (.iload_n 2, 1, 2, 0, .null), (.iload_n 3, 1, 3, 0, .null), (.iload 4, 2, 4, 0, .null)]
def q_L_arrive_12 : List j_N := [(.i2l, 1, 0, 0, .null), (.lastore, 1, 0, 0, .null), (.goto 7, 3, 21, 0, .null)]
def q_L_arrive_17 : List j_N := [(.astore 6, 2, 6, 0, .null), (.iconst 1, 1, 0, 0, .int (1)), (.ireturn, 1, 0, 0, .null)]
def q_L_arrive_21 : List j_N := [(.iconst 0, 1, 0, 0, .int (0)), (.ireturn, 1, 0, 0, .null)]
def m_L_arrive : List (Nat × List j_N) := [(0, q_L_arrive_0), (12, q_L_arrive_12), (17, q_L_arrive_17), (21, q_L_arrive_21)]
abbrev i_L_arrive : j_Wi := (yL_arrive, cL_arrive, 7, [(0, 14, 17, 13)])
theorem g_L_arrive : j_goodW i_L_arrive m_L_arrive 9 48 n_X8_arrive (yX8_arrive, cX8_arrive, 7, (some .int), 10) := ⟨by decide +kernel, rfl, by decide +kernel, by decide +kernel, rfl, by decide +kernel, rfl, j_wI_in (is := [940, 83, 937, 938, 939]) (by decide +kernel)⟩
theorem t_L_arrive_1 : j_ct [(0, 14, 17, 13)] 9 1 17 := ⟨[], ⟨0, 14, 17, 13⟩, [], rfl, (fun z hz => by cases hz), by decide, by decide, w_in 615 (by decide +kernel), w_in 624 (by decide +kernel), rfl⟩
theorem sp_L_arrive (hl : l.stackTraces = false) (j : JJ E bs x sc Ls xs (n + 1) h) {v0 v1 v2 v3 : Int32} (H : ∀ o h1, WP l D E bs x sc Ls xs n (d + 60) n_X9_arrive [.int v0, .int v1, .int v2, .int v3] (RI x) TI o h1 → Q o h1) : j_MetW l D bs E (d + 61) i_L_arrive [.ref x, .int v0, .int v1, .int v2, .int v3, .ref (x + 67)] h Q := by
  have hB : j_bd E h := by
    obtain ⟨V, M, U, uc, Sn, w, b, cap, g1, g2, -⟩ := j
    exact g2.1.2.2.2
  refine j_methW g_L_arrive (n := 4) (by decide +kernel) (Nat.le_of_ble_eq_true rfl) hB.1 hB.2 (fun G hG => ?_)
  obtain ⟨hb, hcall⟩ := hG
  refine (hb (0, q_L_arrive_0) (List.mem_of_getElem? (i := 0) rfl) _ _ _ ?_)
  dsimp only [q_L_arrive_0, j_wp, j_opB, j_opA, j_nth, j_i1, j_i2, j_l1, j_l2, j_li, j_f1, j_f2, j_d1, j_d2, j_r1, j_ai, j_aii, j_ail, j_aid, j_air, j_st1, j_st2, j_stu, j_kl, j_cond, j_args, j_out, j_few, j_cw, j_nat, j_pad, j_exp, Nat.reduceAdd]
  refine hcall _ [.int v0, .int v1, .int v2, .int v3] [.int 0, .ref (x + 67)] x h rfl rfl ?_
  refine op_arrive hl j (fun a h1 an => ?_) (fun h1 an => ?_)
  · show G 12 _ [.int a, .int 0, .ref (x + 67)] h1
    refine (hb (12, q_L_arrive_12) (List.mem_of_getElem? (i := 1) rfl) _ _ _ ?_)
    dsimp only [q_L_arrive_12, j_wp, j_opB, j_opA, j_nth, j_i1, j_i2, j_l1, j_l2, j_li, j_f1, j_f2, j_d1, j_d2, j_r1, j_ai, j_aii, j_ail, j_aid, j_air, j_st1, j_st2, j_stu, j_kl, j_cond, j_args, j_out, j_few, j_cw, j_nat, j_pad, j_exp, Nat.reduceAdd]
    rw [an.1.1]
    refine ⟨rfl, v_01, ?_⟩
    rw [e_00]
    refine (hb (21, q_L_arrive_21) (List.mem_of_getElem? (i := 3) rfl) _ _ _ ?_)
    dsimp only [q_L_arrive_21, j_wp, j_opB, j_opA, j_nth, j_i1, j_i2, j_l1, j_l2, j_li, j_f1, j_f2, j_d1, j_d2, j_r1, j_ai, j_aii, j_ail, j_aid, j_air, j_st1, j_st2, j_stu, j_kl, j_cond, j_args, j_out, j_few, j_cw, j_nat, j_pad, j_exp, Nat.reduceAdd]
    exact ⟨trivial, H _ _ (Or.inl ⟨.int a, ⟨a, rfl, oL _ _ _⟩, ⟨_, rfl⟩, rfl, AN_ow an OW_L⟩)⟩
  · refine ⟨17, t_L_arrive_1, fun q => ?_⟩
    refine (hb (17, q_L_arrive_17) (List.mem_of_getElem? (i := 2) rfl) _ _ _ ?_)
    dsimp only [q_L_arrive_17, j_wp, j_opB, j_opA, j_nth, j_i1, j_i2, j_l1, j_l2, j_li, j_f1, j_f2, j_d1, j_d2, j_r1, j_ai, j_aii, j_ail, j_aid, j_air, j_st1, j_st2, j_stu, j_kl, j_cond, j_args, j_out, j_few, j_cw, j_nat, j_pad, j_exp, Nat.reduceAdd]
    exact ⟨trivial, H _ _ (Or.inr ⟨1, by decide, rfl, an⟩)⟩
def q_L_run_0 : List j_N := [(.aload_n 2, 1, 2, 0, .null), (.iconst 0, 1, 0, 0, .int (0)), (.aload_n 0, 1, 0, 0, .null), (.iload_n 1, 1, 1, 0, .null)]
def q_L_run_7 : List j_N := [(.i2l, 1, 0, 0, .null), (.lastore, 1, 0, 0, .null), (.goto 6, 3, 15, 0, .null)]
def q_L_run_12 : List j_N := [(.astore_n 3, 1, 3, 0, .null), (.iconst 1, 1, 0, 0, .int (1)), (.ireturn, 1, 0, 0, .null)]
def q_L_run_15 : List j_N := [(.iconst 0, 1, 0, 0, .int (0)), (.ireturn, 1, 0, 0, .null)]
def m_L_run : List (Nat × List j_N) := [(0, q_L_run_0), (7, q_L_run_7), (12, q_L_run_12), (15, q_L_run_15)]
abbrev i_L_run : j_Wi := (yL_run, cL_run, 4, [(0, 9, 12, 13)])
theorem g_L_run : j_goodW i_L_run m_L_run 4 52 n_X8_run (yX8_run, cX8_run, 4, (some .int), 10) := ⟨by decide +kernel, rfl, by decide +kernel, by decide +kernel, rfl, by decide +kernel, rfl, j_wI_in (is := [975, 83, 972, 973, 974]) (by decide +kernel)⟩
theorem t_L_run_1 : j_ct [(0, 9, 12, 13)] 4 1 12 := ⟨[], ⟨0, 9, 12, 13⟩, [], rfl, (fun z hz => by cases hz), by decide, by decide, w_in 615 (by decide +kernel), w_in 624 (by decide +kernel), rfl⟩
theorem sp_L_run (hl : l.stackTraces = false) (j : JJ E bs x sc Ls xs (n + 1) h) {v0 : Int32} (H : ∀ o h1, WP l D E bs x sc Ls xs n (d + 60) n_X9_run [.int v0] (RI x) TI o h1 → Q o h1) : j_MetW l D bs E (d + 61) i_L_run [.ref x, .int v0, .ref (x + 67)] h Q := by
  have hB : j_bd E h := by
    obtain ⟨V, M, U, uc, Sn, w, b, cap, g1, g2, -⟩ := j
    exact g2.1.2.2.2
  refine j_methW g_L_run (n := 1) (by decide +kernel) (Nat.le_of_ble_eq_true rfl) hB.1 hB.2 (fun G hG => ?_)
  obtain ⟨hb, hcall⟩ := hG
  refine (hb (0, q_L_run_0) (List.mem_of_getElem? (i := 0) rfl) _ _ _ ?_)
  dsimp only [q_L_run_0, j_wp, j_opB, j_opA, j_nth, j_i1, j_i2, j_l1, j_l2, j_li, j_f1, j_f2, j_d1, j_d2, j_r1, j_ai, j_aii, j_ail, j_aid, j_air, j_st1, j_st2, j_stu, j_kl, j_cond, j_args, j_out, j_few, j_cw, j_nat, j_pad, j_exp, Nat.reduceAdd]
  refine hcall _ [.int v0] [.int 0, .ref (x + 67)] x h rfl rfl ?_
  refine op_run hl j (fun a h1 an => ?_) (fun h1 an => ?_)
  · show G 7 _ [.int a, .int 0, .ref (x + 67)] h1
    refine (hb (7, q_L_run_7) (List.mem_of_getElem? (i := 1) rfl) _ _ _ ?_)
    dsimp only [q_L_run_7, j_wp, j_opB, j_opA, j_nth, j_i1, j_i2, j_l1, j_l2, j_li, j_f1, j_f2, j_d1, j_d2, j_r1, j_ai, j_aii, j_ail, j_aid, j_air, j_st1, j_st2, j_stu, j_kl, j_cond, j_args, j_out, j_few, j_cw, j_nat, j_pad, j_exp, Nat.reduceAdd]
    rw [an.1.1]
    refine ⟨rfl, v_01, ?_⟩
    rw [e_00]
    refine (hb (15, q_L_run_15) (List.mem_of_getElem? (i := 3) rfl) _ _ _ ?_)
    dsimp only [q_L_run_15, j_wp, j_opB, j_opA, j_nth, j_i1, j_i2, j_l1, j_l2, j_li, j_f1, j_f2, j_d1, j_d2, j_r1, j_ai, j_aii, j_ail, j_aid, j_air, j_st1, j_st2, j_stu, j_kl, j_cond, j_args, j_out, j_few, j_cw, j_nat, j_pad, j_exp, Nat.reduceAdd]
    exact ⟨trivial, H _ _ (Or.inl ⟨.int a, ⟨a, rfl, oL _ _ _⟩, ⟨_, rfl⟩, rfl, AN_ow an OW_L⟩)⟩
  · refine ⟨12, t_L_run_1, fun q => ?_⟩
    refine (hb (12, q_L_run_12) (List.mem_of_getElem? (i := 2) rfl) _ _ _ ?_)
    dsimp only [q_L_run_12, j_wp, j_opB, j_opA, j_nth, j_i1, j_i2, j_l1, j_l2, j_li, j_f1, j_f2, j_d1, j_d2, j_r1, j_ai, j_aii, j_ail, j_aid, j_air, j_st1, j_st2, j_stu, j_kl, j_cond, j_args, j_out, j_few, j_cw, j_nat, j_pad, j_exp, Nat.reduceAdd]
    exact ⟨trivial, H _ _ (Or.inr ⟨1, by decide, rfl, an⟩)⟩
def q_L_setWeight_0 : List j_N := [(.aload_n 3, 1, 3, 0, .null), (.iconst 0, 1, 0, 0, .int (0)), (.aload_n 0, 1, 0, 0, .null), (.iload_n 1, 1, 1, 0, .null), (.iload_n 2, 1, 2, 0, .null)]
def q_L_setWeight_8 : List j_N := [(.i2l, 1, 0, 0, .null), (.lastore, 1, 0, 0, .null), (.goto 11, 3, 21, 0, .null)]
def q_L_setWeight_13 : List j_N := [(.astore 4, 2, 4, 0, .null), (.iconst 1, 1, 0, 0, .int (1)), (.ireturn, 1, 0, 0, .null)]
def q_L_setWeight_17 : List j_N := [(.astore 4, 2, 4, 0, .null), (.iconst 2, 1, 0, 0, .int (2)), (.ireturn, 1, 0, 0, .null)]
def q_L_setWeight_21 : List j_N := [(.iconst 0, 1, 0, 0, .int (0)), (.ireturn, 1, 0, 0, .null)]
def m_L_setWeight : List (Nat × List j_N) := [(0, q_L_setWeight_0), (8, q_L_setWeight_8), (13, q_L_setWeight_13), (17, q_L_setWeight_17), (21, q_L_setWeight_21)]
abbrev i_L_setWeight : j_Wi := (yL_setWeight, cL_setWeight, 5, [(0, 10, 13, 23), (0, 10, 17, 13)])
theorem g_L_setWeight : j_goodW i_L_setWeight m_L_setWeight 5 55 n_X8_setWeight (yX8_setWeight, cX8_setWeight, 4, (some .int), 10) := ⟨by decide +kernel, rfl, by decide +kernel, by decide +kernel, rfl, by decide +kernel, rfl, j_wI_in (is := [1043, 83, 1040, 1041, 1042]) (by decide +kernel)⟩
theorem t_L_setWeight_0 : j_ct [(0, 10, 13, 23), (0, 10, 17, 13)] 5 0 13 := ⟨[], ⟨0, 10, 13, 23⟩, [⟨0, 10, 17, 13⟩], rfl, (fun z hz => by cases hz), by decide, by decide, w_in 840 (by decide +kernel), w_in 850 (by decide +kernel), rfl⟩
theorem t_L_setWeight_1 : j_ct [(0, 10, 13, 23), (0, 10, 17, 13)] 5 1 17 := ⟨[⟨0, 10, 13, 23⟩], ⟨0, 10, 17, 13⟩, [], rfl, (fun z hz => by
  rw [List.mem_singleton.mp hz]
  exact ⟨by decide, w_in 840 (by decide +kernel), by decide⟩), by decide, by decide, w_in 615 (by decide +kernel), w_in 624 (by decide +kernel), rfl⟩
theorem sp_L_setWeight (hl : l.stackTraces = false) (j : JJ E bs x sc Ls xs (n + 1) h) {v0 v1 : Int32} (H : ∀ o h1, WP l D E bs x sc Ls xs n (d + 60) n_X9_setWeight [.int v0, .int v1] (RI x) TI o h1 → Q o h1) : j_MetW l D bs E (d + 61) i_L_setWeight [.ref x, .int v0, .int v1, .ref (x + 67)] h Q := by
  have hB : j_bd E h := by
    obtain ⟨V, M, U, uc, Sn, w, b, cap, g1, g2, -⟩ := j
    exact g2.1.2.2.2
  refine j_methW g_L_setWeight (n := 2) (by decide +kernel) (Nat.le_of_ble_eq_true rfl) hB.1 hB.2 (fun G hG => ?_)
  obtain ⟨hb, hcall⟩ := hG
  refine (hb (0, q_L_setWeight_0) (List.mem_of_getElem? (i := 0) rfl) _ _ _ ?_)
  dsimp only [q_L_setWeight_0, j_wp, j_opB, j_opA, j_nth, j_i1, j_i2, j_l1, j_l2, j_li, j_f1, j_f2, j_d1, j_d2, j_r1, j_ai, j_aii, j_ail, j_aid, j_air, j_st1, j_st2, j_stu, j_kl, j_cond, j_args, j_out, j_few, j_cw, j_nat, j_pad, j_exp, Nat.reduceAdd]
  refine hcall _ [.int v0, .int v1] [.int 0, .ref (x + 67)] x h rfl rfl ?_
  refine op_setWeight hl j (fun a h1 an => ?_) (fun h1 an => ?_) (fun h1 an => ?_)
  · show G 8 _ [.int a, .int 0, .ref (x + 67)] h1
    refine (hb (8, q_L_setWeight_8) (List.mem_of_getElem? (i := 1) rfl) _ _ _ ?_)
    dsimp only [q_L_setWeight_8, j_wp, j_opB, j_opA, j_nth, j_i1, j_i2, j_l1, j_l2, j_li, j_f1, j_f2, j_d1, j_d2, j_r1, j_ai, j_aii, j_ail, j_aid, j_air, j_st1, j_st2, j_stu, j_kl, j_cond, j_args, j_out, j_few, j_cw, j_nat, j_pad, j_exp, Nat.reduceAdd]
    rw [an.1.1]
    refine ⟨rfl, v_01, ?_⟩
    rw [e_00]
    refine (hb (21, q_L_setWeight_21) (List.mem_of_getElem? (i := 4) rfl) _ _ _ ?_)
    dsimp only [q_L_setWeight_21, j_wp, j_opB, j_opA, j_nth, j_i1, j_i2, j_l1, j_l2, j_li, j_f1, j_f2, j_d1, j_d2, j_r1, j_ai, j_aii, j_ail, j_aid, j_air, j_st1, j_st2, j_stu, j_kl, j_cond, j_args, j_out, j_few, j_cw, j_nat, j_pad, j_exp, Nat.reduceAdd]
    exact ⟨trivial, H _ _ (Or.inl ⟨.int a, ⟨a, rfl, oL _ _ _⟩, ⟨_, rfl⟩, rfl, AN_ow an OW_L⟩)⟩
  · refine ⟨13, t_L_setWeight_0, fun q => ?_⟩
    refine (hb (13, q_L_setWeight_13) (List.mem_of_getElem? (i := 2) rfl) _ _ _ ?_)
    dsimp only [q_L_setWeight_13, j_wp, j_opB, j_opA, j_nth, j_i1, j_i2, j_l1, j_l2, j_li, j_f1, j_f2, j_d1, j_d2, j_r1, j_ai, j_aii, j_ail, j_aid, j_air, j_st1, j_st2, j_stu, j_kl, j_cond, j_args, j_out, j_few, j_cw, j_nat, j_pad, j_exp, Nat.reduceAdd]
    exact ⟨trivial, H _ _ (Or.inr ⟨1, by decide, rfl, an⟩)⟩
  · refine ⟨17, t_L_setWeight_1, fun q => ?_⟩
    refine (hb (17, q_L_setWeight_17) (List.mem_of_getElem? (i := 3) rfl) _ _ _ ?_)
    dsimp only [q_L_setWeight_17, j_wp, j_opB, j_opA, j_nth, j_i1, j_i2, j_l1, j_l2, j_li, j_f1, j_f2, j_d1, j_d2, j_r1, j_ai, j_aii, j_ail, j_aid, j_air, j_st1, j_st2, j_stu, j_kl, j_cond, j_args, j_out, j_few, j_cw, j_nat, j_pad, j_exp, Nat.reduceAdd]
    exact ⟨trivial, H _ _ (Or.inr ⟨2, by decide, rfl, an⟩)⟩
def q_L_audit_0 : List j_N := [(.aload 4, 2, 4, 0, .null), (.iconst 0, 1, 0, 0, .int (0)), (.aload_n 0, 1, 0, 0, .null), (.iload_n 1, 1, 1, 0, .null), (.iload_n 2, 1, 2, 0, .null), (.iload_n 3, 1, 3, 0, .null)]
def q_L_audit_10 : List j_N := [(.lastore, 1, 0, 0, .null), (.goto 11, 3, 22, 0, .null)]
def q_L_audit_14 : List j_N := [(.astore 5, 2, 5, 0, .null), (.iconst 1, 1, 0, 0, .int (1)), (.ireturn, 1, 0, 0, .null)]
def q_L_audit_18 : List j_N := [(.astore 5, 2, 5, 0, .null), (.iconst 2, 1, 0, 0, .int (2)), (.ireturn, 1, 0, 0, .null)]
def q_L_audit_22 : List j_N := [(.iconst 0, 1, 0, 0, .int (0)), (.ireturn, 1, 0, 0, .null)]
def m_L_audit : List (Nat × List j_N) := [(0, q_L_audit_0), (10, q_L_audit_10), (14, q_L_audit_14), (18, q_L_audit_18), (22, q_L_audit_22)]
abbrev i_L_audit : j_Wi := (yL_audit, cL_audit, 6, [(0, 11, 14, 23), (0, 11, 18, 13)])
theorem g_L_audit : j_goodW i_L_audit m_L_audit 7 58 n_X8_audit (yX8_audit, cX8_audit, 4, (some .long), 10) := ⟨by decide +kernel, rfl, by decide +kernel, by decide +kernel, rfl, by decide +kernel, rfl, j_wI_in (is := [1050, 83, 1047, 1048, 1049]) (by decide +kernel)⟩
theorem t_L_audit_0 : j_ct [(0, 11, 14, 23), (0, 11, 18, 13)] 7 0 14 := ⟨[], ⟨0, 11, 14, 23⟩, [⟨0, 11, 18, 13⟩], rfl, (fun z hz => by cases hz), by decide, by decide, w_in 840 (by decide +kernel), w_in 850 (by decide +kernel), rfl⟩
theorem t_L_audit_1 : j_ct [(0, 11, 14, 23), (0, 11, 18, 13)] 7 1 18 := ⟨[⟨0, 11, 14, 23⟩], ⟨0, 11, 18, 13⟩, [], rfl, (fun z hz => by
  rw [List.mem_singleton.mp hz]
  exact ⟨by decide, w_in 840 (by decide +kernel), by decide⟩), by decide, by decide, w_in 615 (by decide +kernel), w_in 624 (by decide +kernel), rfl⟩
theorem sp_L_audit (hl : l.stackTraces = false) (j : JJ E bs x sc Ls xs (n + 1) h) {v0 v1 v2 : Int32} (H : ∀ o h1, WP l D E bs x sc Ls xs n (d + 60) n_X9_audit [.int v0, .int v1, .int v2] (RL2 x) TL o h1 → Q o h1) : j_MetW l D bs E (d + 61) i_L_audit [.ref x, .int v0, .int v1, .int v2, .ref (x + 67)] h Q := by
  have hB : j_bd E h := by
    obtain ⟨V, M, U, uc, Sn, w, b, cap, g1, g2, -⟩ := j
    exact g2.1.2.2.2
  refine j_methW g_L_audit (n := 3) (by decide +kernel) (Nat.le_of_ble_eq_true rfl) hB.1 hB.2 (fun G hG => ?_)
  obtain ⟨hb, hcall⟩ := hG
  refine (hb (0, q_L_audit_0) (List.mem_of_getElem? (i := 0) rfl) _ _ _ ?_)
  dsimp only [q_L_audit_0, j_wp, j_opB, j_opA, j_nth, j_i1, j_i2, j_l1, j_l2, j_li, j_f1, j_f2, j_d1, j_d2, j_r1, j_ai, j_aii, j_ail, j_aid, j_air, j_st1, j_st2, j_stu, j_kl, j_cond, j_args, j_out, j_few, j_cw, j_nat, j_pad, j_exp, Nat.reduceAdd]
  refine hcall _ [.int v0, .int v1, .int v2] [.int 0, .ref (x + 67)] x h rfl rfl ?_
  refine op_audit hl j (fun a h1 an => ?_) (fun h1 an => ?_) (fun h1 an => ?_)
  · show G 10 _ [.long a, .int 0, .ref (x + 67)] h1
    refine (hb (10, q_L_audit_10) (List.mem_of_getElem? (i := 1) rfl) _ _ _ ?_)
    dsimp only [q_L_audit_10, j_wp, j_opB, j_opA, j_nth, j_i1, j_i2, j_l1, j_l2, j_li, j_f1, j_f2, j_d1, j_d2, j_r1, j_ai, j_aii, j_ail, j_aid, j_air, j_st1, j_st2, j_stu, j_kl, j_cond, j_args, j_out, j_few, j_cw, j_nat, j_pad, j_exp, Nat.reduceAdd]
    rw [an.1.1]
    refine ⟨rfl, v_01, ?_⟩
    rw [e_00]
    refine (hb (22, q_L_audit_22) (List.mem_of_getElem? (i := 4) rfl) _ _ _ ?_)
    dsimp only [q_L_audit_22, j_wp, j_opB, j_opA, j_nth, j_i1, j_i2, j_l1, j_l2, j_li, j_f1, j_f2, j_d1, j_d2, j_r1, j_ai, j_aii, j_ail, j_aid, j_air, j_st1, j_st2, j_stu, j_kl, j_cond, j_args, j_out, j_few, j_cw, j_nat, j_pad, j_exp, Nat.reduceAdd]
    exact ⟨trivial, H _ _ (Or.inl ⟨.long a, ⟨a, rfl, oL _ _ _⟩, ⟨_, rfl⟩, rfl, AN_ow an OW_L⟩)⟩
  · refine ⟨14, t_L_audit_0, fun q => ?_⟩
    refine (hb (14, q_L_audit_14) (List.mem_of_getElem? (i := 2) rfl) _ _ _ ?_)
    dsimp only [q_L_audit_14, j_wp, j_opB, j_opA, j_nth, j_i1, j_i2, j_l1, j_l2, j_li, j_f1, j_f2, j_d1, j_d2, j_r1, j_ai, j_aii, j_ail, j_aid, j_air, j_st1, j_st2, j_stu, j_kl, j_cond, j_args, j_out, j_few, j_cw, j_nat, j_pad, j_exp, Nat.reduceAdd]
    exact ⟨trivial, H _ _ (Or.inr ⟨1, by decide, rfl, an⟩)⟩
  · refine ⟨18, t_L_audit_1, fun q => ?_⟩
    refine (hb (18, q_L_audit_18) (List.mem_of_getElem? (i := 3) rfl) _ _ _ ?_)
    dsimp only [q_L_audit_18, j_wp, j_opB, j_opA, j_nth, j_i1, j_i2, j_l1, j_l2, j_li, j_f1, j_f2, j_d1, j_d2, j_r1, j_ai, j_aii, j_ail, j_aid, j_air, j_st1, j_st2, j_stu, j_kl, j_cond, j_args, j_out, j_few, j_cw, j_nat, j_pad, j_exp, Nat.reduceAdd]
    exact ⟨trivial, H _ _ (Or.inr ⟨2, by decide, rfl, an⟩)⟩
def q_L_share_0 : List j_N := [(.aload_n 2, 1, 2, 0, .null), (.iconst 0, 1, 0, 0, .int (0)), (.aload_n 0, 1, 0, 0, .null), (.iload_n 1, 1, 1, 0, .null)]
def q_L_share_7 : List j_N := [(.dastore, 1, 0, 0, .null), (.goto 6, 3, 14, 0, .null)]
def q_L_share_11 : List j_N := [(.astore_n 3, 1, 3, 0, .null), (.iconst 1, 1, 0, 0, .int (1)), (.ireturn, 1, 0, 0, .null)]
def q_L_share_14 : List j_N := [(.iconst 0, 1, 0, 0, .int (0)), (.ireturn, 1, 0, 0, .null)]
def m_L_share : List (Nat × List j_N) := [(0, q_L_share_0), (7, q_L_share_7), (11, q_L_share_11), (14, q_L_share_14)]
abbrev i_L_share : j_Wi := (yL_share, cL_share, 4, [(0, 8, 11, 23)])
theorem g_L_share : j_goodW i_L_share m_L_share 4 62 n_X8_share (yX8_share, cX8_share, 4, (some .double), 10) := ⟨by decide +kernel, rfl, by decide +kernel, by decide +kernel, rfl, by decide +kernel, rfl, j_wI_in (is := [1066, 83, 1063, 1064, 1065]) (by decide +kernel)⟩
theorem t_L_share_0 : j_ct [(0, 8, 11, 23)] 4 0 11 := ⟨[], ⟨0, 8, 11, 23⟩, [], rfl, (fun z hz => by cases hz), by decide, by decide, w_in 840 (by decide +kernel), w_in 850 (by decide +kernel), rfl⟩
theorem sp_L_share (hl : l.stackTraces = false) (j : JJ E bs x sc Ls xs (n + 1) h) {v0 : Int32} (H : ∀ o h1, WP l D E bs x sc Ls xs n (d + 60) n_X9_share [.int v0] (RD x) TD o h1 → Q o h1) : j_MetW l D bs E (d + 61) i_L_share [.ref x, .int v0, .ref (x + 68)] h Q := by
  have hB : j_bd E h := by
    obtain ⟨V, M, U, uc, Sn, w, b, cap, g1, g2, -⟩ := j
    exact g2.1.2.2.2
  refine j_methW g_L_share (n := 1) (by decide +kernel) (Nat.le_of_ble_eq_true rfl) hB.1 hB.2 (fun G hG => ?_)
  obtain ⟨hb, hcall⟩ := hG
  refine (hb (0, q_L_share_0) (List.mem_of_getElem? (i := 0) rfl) _ _ _ ?_)
  dsimp only [q_L_share_0, j_wp, j_opB, j_opA, j_nth, j_i1, j_i2, j_l1, j_l2, j_li, j_f1, j_f2, j_d1, j_d2, j_r1, j_ai, j_aii, j_ail, j_aid, j_air, j_st1, j_st2, j_stu, j_kl, j_cond, j_args, j_out, j_few, j_cw, j_nat, j_pad, j_exp, Nat.reduceAdd]
  refine hcall _ [.int v0] [.int 0, .ref (x + 68)] x h rfl rfl ?_
  refine op_share hl j (fun a h1 an => ?_) (fun h1 an => ?_)
  · show G 7 _ [.double a, .int 0, .ref (x + 68)] h1
    refine (hb (7, q_L_share_7) (List.mem_of_getElem? (i := 1) rfl) _ _ _ ?_)
    dsimp only [q_L_share_7, j_wp, j_opB, j_opA, j_nth, j_i1, j_i2, j_l1, j_l2, j_li, j_f1, j_f2, j_d1, j_d2, j_r1, j_ai, j_aii, j_ail, j_aid, j_air, j_st1, j_st2, j_stu, j_kl, j_cond, j_args, j_out, j_few, j_cw, j_nat, j_pad, j_exp, Nat.reduceAdd]
    rw [an.1.2]
    refine ⟨rfl, v_01, ?_⟩
    rw [e_00]
    refine (hb (14, q_L_share_14) (List.mem_of_getElem? (i := 3) rfl) _ _ _ ?_)
    dsimp only [q_L_share_14, j_wp, j_opB, j_opA, j_nth, j_i1, j_i2, j_l1, j_l2, j_li, j_f1, j_f2, j_d1, j_d2, j_r1, j_ai, j_aii, j_ail, j_aid, j_air, j_st1, j_st2, j_stu, j_kl, j_cond, j_args, j_out, j_few, j_cw, j_nat, j_pad, j_exp, Nat.reduceAdd]
    exact ⟨trivial, H _ _ (Or.inl ⟨.double a, ⟨a, rfl, oD _ _ _⟩, ⟨_, rfl⟩, rfl, AN_ow an OW_D⟩)⟩
  · refine ⟨11, t_L_share_0, fun q => ?_⟩
    refine (hb (11, q_L_share_11) (List.mem_of_getElem? (i := 2) rfl) _ _ _ ?_)
    dsimp only [q_L_share_11, j_wp, j_opB, j_opA, j_nth, j_i1, j_i2, j_l1, j_l2, j_li, j_f1, j_f2, j_d1, j_d2, j_r1, j_ai, j_aii, j_ail, j_aid, j_air, j_st1, j_st2, j_stu, j_kl, j_cond, j_args, j_out, j_few, j_cw, j_nat, j_pad, j_exp, Nat.reduceAdd]
    exact ⟨trivial, H _ _ (Or.inr ⟨1, by decide, rfl, an⟩)⟩
def q_L_meanDelay_0 : List j_N := [(.aload_n 2, 1, 2, 0, .null), (.iconst 0, 1, 0, 0, .int (0)), (.aload_n 0, 1, 0, 0, .null), (.iload_n 1, 1, 1, 0, .null)]
def q_L_meanDelay_7 : List j_N := [(.f2d, 1, 0, 0, .null), (.dastore, 1, 0, 0, .null), (.goto 6, 3, 15, 0, .null)]
def q_L_meanDelay_12 : List j_N := [(.astore_n 3, 1, 3, 0, .null), (.iconst 1, 1, 0, 0, .int (1)), (.ireturn, 1, 0, 0, .null)]
def q_L_meanDelay_15 : List j_N := [(.iconst 0, 1, 0, 0, .int (0)), (.ireturn, 1, 0, 0, .null)]
def m_L_meanDelay : List (Nat × List j_N) := [(0, q_L_meanDelay_0), (7, q_L_meanDelay_7), (12, q_L_meanDelay_12), (15, q_L_meanDelay_15)]
abbrev i_L_meanDelay : j_Wi := (yL_meanDelay, cL_meanDelay, 4, [(0, 9, 12, 23)])
theorem g_L_meanDelay : j_goodW i_L_meanDelay m_L_meanDelay 4 66 n_X8_meanDelay (yX8_meanDelay, cX8_meanDelay, 5, (some .float), 10) := ⟨by decide +kernel, rfl, by decide +kernel, by decide +kernel, rfl, by decide +kernel, rfl, j_wI_in (is := [1073, 83, 1070, 1071, 1072]) (by decide +kernel)⟩
theorem t_L_meanDelay_0 : j_ct [(0, 9, 12, 23)] 4 0 12 := ⟨[], ⟨0, 9, 12, 23⟩, [], rfl, (fun z hz => by cases hz), by decide, by decide, w_in 840 (by decide +kernel), w_in 850 (by decide +kernel), rfl⟩
theorem sp_L_meanDelay (hl : l.stackTraces = false) (j : JJ E bs x sc Ls xs (n + 1) h) {v0 : Int32} (H : ∀ o h1, WP l D E bs x sc Ls xs n (d + 60) n_X9_meanDelay [.int v0] (RF x) TF o h1 → Q o h1) : j_MetW l D bs E (d + 61) i_L_meanDelay [.ref x, .int v0, .ref (x + 68)] h Q := by
  have hB : j_bd E h := by
    obtain ⟨V, M, U, uc, Sn, w, b, cap, g1, g2, -⟩ := j
    exact g2.1.2.2.2
  refine j_methW g_L_meanDelay (n := 1) (by decide +kernel) (Nat.le_of_ble_eq_true rfl) hB.1 hB.2 (fun G hG => ?_)
  obtain ⟨hb, hcall⟩ := hG
  refine (hb (0, q_L_meanDelay_0) (List.mem_of_getElem? (i := 0) rfl) _ _ _ ?_)
  dsimp only [q_L_meanDelay_0, j_wp, j_opB, j_opA, j_nth, j_i1, j_i2, j_l1, j_l2, j_li, j_f1, j_f2, j_d1, j_d2, j_r1, j_ai, j_aii, j_ail, j_aid, j_air, j_st1, j_st2, j_stu, j_kl, j_cond, j_args, j_out, j_few, j_cw, j_nat, j_pad, j_exp, Nat.reduceAdd]
  refine hcall _ [.int v0] [.int 0, .ref (x + 68)] x h rfl rfl ?_
  refine op_meanDelay hl j (fun a h1 hn an => ?_) (fun h1 an => ?_)
  · show G 7 _ [.float a, .int 0, .ref (x + 68)] h1
    refine (hb (7, q_L_meanDelay_7) (List.mem_of_getElem? (i := 1) rfl) _ _ _ ?_)
    dsimp only [q_L_meanDelay_7, j_wp, j_opB, j_opA, j_nth, j_i1, j_i2, j_l1, j_l2, j_li, j_f1, j_f2, j_d1, j_d2, j_r1, j_ai, j_aii, j_ail, j_aid, j_air, j_st1, j_st2, j_stu, j_kl, j_cond, j_args, j_out, j_few, j_cw, j_nat, j_pad, j_exp, Nat.reduceAdd]
    refine ⟨f_f2d hn, ?_⟩
    rw [an.1.2]
    refine ⟨rfl, v_01, ?_⟩
    rw [e_00]
    refine (hb (15, q_L_meanDelay_15) (List.mem_of_getElem? (i := 3) rfl) _ _ _ ?_)
    dsimp only [q_L_meanDelay_15, j_wp, j_opB, j_opA, j_nth, j_i1, j_i2, j_l1, j_l2, j_li, j_f1, j_f2, j_d1, j_d2, j_r1, j_ai, j_aii, j_ail, j_aid, j_air, j_st1, j_st2, j_stu, j_kl, j_cond, j_args, j_out, j_few, j_cw, j_nat, j_pad, j_exp, Nat.reduceAdd]
    exact ⟨trivial, H _ _ (Or.inl ⟨.float a, ⟨a, rfl, hn, oD _ _ _⟩, ⟨_, rfl⟩, rfl, AN_ow an OW_D⟩)⟩
  · refine ⟨12, t_L_meanDelay_0, fun q => ?_⟩
    refine (hb (12, q_L_meanDelay_12) (List.mem_of_getElem? (i := 2) rfl) _ _ _ ?_)
    dsimp only [q_L_meanDelay_12, j_wp, j_opB, j_opA, j_nth, j_i1, j_i2, j_l1, j_l2, j_li, j_f1, j_f2, j_d1, j_d2, j_r1, j_ai, j_aii, j_ail, j_aid, j_air, j_st1, j_st2, j_stu, j_kl, j_cond, j_args, j_out, j_few, j_cw, j_nat, j_pad, j_exp, Nat.reduceAdd]
    exact ⟨trivial, H _ _ (Or.inr ⟨1, by decide, rfl, an⟩)⟩
def q_L_forecast_0 : List j_N := [(.aload_n 3, 1, 3, 0, .null), (.iconst 0, 1, 0, 0, .int (0)), (.aload_n 0, 1, 0, 0, .null), (.iload_n 1, 1, 1, 0, .null), (.iload_n 2, 1, 2, 0, .null)]
def q_L_forecast_8 : List j_N := [(.i2l, 1, 0, 0, .null), (.lastore, 1, 0, 0, .null), (.goto 11, 3, 21, 0, .null)]
def q_L_forecast_13 : List j_N := [(.astore 4, 2, 4, 0, .null), (.iconst 1, 1, 0, 0, .int (1)), (.ireturn, 1, 0, 0, .null)]
def q_L_forecast_17 : List j_N := [(.astore 4, 2, 4, 0, .null), (.iconst 2, 1, 0, 0, .int (2)), (.ireturn, 1, 0, 0, .null)]
def q_L_forecast_21 : List j_N := [(.iconst 0, 1, 0, 0, .int (0)), (.ireturn, 1, 0, 0, .null)]
def m_L_forecast : List (Nat × List j_N) := [(0, q_L_forecast_0), (8, q_L_forecast_8), (13, q_L_forecast_13), (17, q_L_forecast_17), (21, q_L_forecast_21)]
abbrev i_L_forecast : j_Wi := (yL_forecast, cL_forecast, 5, [(0, 10, 13, 23), (0, 10, 17, 13)])
theorem g_L_forecast : j_goodW i_L_forecast m_L_forecast 5 70 n_X8_forecast (yX8_forecast, cX8_forecast, 3, (some .int), 10) := ⟨by decide +kernel, rfl, by decide +kernel, by decide +kernel, rfl, by decide +kernel, rfl, j_wI_in (is := [1084, 83, 1081, 1082, 1083]) (by decide +kernel)⟩
theorem t_L_forecast_0 : j_ct [(0, 10, 13, 23), (0, 10, 17, 13)] 5 0 13 := ⟨[], ⟨0, 10, 13, 23⟩, [⟨0, 10, 17, 13⟩], rfl, (fun z hz => by cases hz), by decide, by decide, w_in 840 (by decide +kernel), w_in 850 (by decide +kernel), rfl⟩
theorem t_L_forecast_1 : j_ct [(0, 10, 13, 23), (0, 10, 17, 13)] 5 1 17 := ⟨[⟨0, 10, 13, 23⟩], ⟨0, 10, 17, 13⟩, [], rfl, (fun z hz => by
  rw [List.mem_singleton.mp hz]
  exact ⟨by decide, w_in 840 (by decide +kernel), by decide⟩), by decide, by decide, w_in 615 (by decide +kernel), w_in 624 (by decide +kernel), rfl⟩
theorem sp_L_forecast (hl : l.stackTraces = false) (j : JJ E bs x sc Ls xs (n + 1) h) {v0 v1 : Int32} (H : ∀ o h1, WP l D E bs x sc Ls xs n (d + 60) n_X9_forecast [.int v0, .int v1] (RI x) TI o h1 → Q o h1) : j_MetW l D bs E (d + 61) i_L_forecast [.ref x, .int v0, .int v1, .ref (x + 67)] h Q := by
  have hB : j_bd E h := by
    obtain ⟨V, M, U, uc, Sn, w, b, cap, g1, g2, -⟩ := j
    exact g2.1.2.2.2
  refine j_methW g_L_forecast (n := 2) (by decide +kernel) (Nat.le_of_ble_eq_true rfl) hB.1 hB.2 (fun G hG => ?_)
  obtain ⟨hb, hcall⟩ := hG
  refine (hb (0, q_L_forecast_0) (List.mem_of_getElem? (i := 0) rfl) _ _ _ ?_)
  dsimp only [q_L_forecast_0, j_wp, j_opB, j_opA, j_nth, j_i1, j_i2, j_l1, j_l2, j_li, j_f1, j_f2, j_d1, j_d2, j_r1, j_ai, j_aii, j_ail, j_aid, j_air, j_st1, j_st2, j_stu, j_kl, j_cond, j_args, j_out, j_few, j_cw, j_nat, j_pad, j_exp, Nat.reduceAdd]
  refine hcall _ [.int v0, .int v1] [.int 0, .ref (x + 67)] x h rfl rfl ?_
  refine op_forecast hl j (fun a h1 an => ?_) (fun h1 an => ?_) (fun h1 an => ?_)
  · show G 8 _ [.int a, .int 0, .ref (x + 67)] h1
    refine (hb (8, q_L_forecast_8) (List.mem_of_getElem? (i := 1) rfl) _ _ _ ?_)
    dsimp only [q_L_forecast_8, j_wp, j_opB, j_opA, j_nth, j_i1, j_i2, j_l1, j_l2, j_li, j_f1, j_f2, j_d1, j_d2, j_r1, j_ai, j_aii, j_ail, j_aid, j_air, j_st1, j_st2, j_stu, j_kl, j_cond, j_args, j_out, j_few, j_cw, j_nat, j_pad, j_exp, Nat.reduceAdd]
    rw [an.1.1]
    refine ⟨rfl, v_01, ?_⟩
    rw [e_00]
    refine (hb (21, q_L_forecast_21) (List.mem_of_getElem? (i := 4) rfl) _ _ _ ?_)
    dsimp only [q_L_forecast_21, j_wp, j_opB, j_opA, j_nth, j_i1, j_i2, j_l1, j_l2, j_li, j_f1, j_f2, j_d1, j_d2, j_r1, j_ai, j_aii, j_ail, j_aid, j_air, j_st1, j_st2, j_stu, j_kl, j_cond, j_args, j_out, j_few, j_cw, j_nat, j_pad, j_exp, Nat.reduceAdd]
    exact ⟨trivial, H _ _ (Or.inl ⟨.int a, ⟨a, rfl, oL _ _ _⟩, ⟨_, rfl⟩, rfl, AN_ow an OW_L⟩)⟩
  · refine ⟨13, t_L_forecast_0, fun q => ?_⟩
    refine (hb (13, q_L_forecast_13) (List.mem_of_getElem? (i := 2) rfl) _ _ _ ?_)
    dsimp only [q_L_forecast_13, j_wp, j_opB, j_opA, j_nth, j_i1, j_i2, j_l1, j_l2, j_li, j_f1, j_f2, j_d1, j_d2, j_r1, j_ai, j_aii, j_ail, j_aid, j_air, j_st1, j_st2, j_stu, j_kl, j_cond, j_args, j_out, j_few, j_cw, j_nat, j_pad, j_exp, Nat.reduceAdd]
    exact ⟨trivial, H _ _ (Or.inr ⟨1, by decide, rfl, an⟩)⟩
  · refine ⟨17, t_L_forecast_1, fun q => ?_⟩
    refine (hb (17, q_L_forecast_17) (List.mem_of_getElem? (i := 3) rfl) _ _ _ ?_)
    dsimp only [q_L_forecast_17, j_wp, j_opB, j_opA, j_nth, j_i1, j_i2, j_l1, j_l2, j_li, j_f1, j_f2, j_d1, j_d2, j_r1, j_ai, j_aii, j_ail, j_aid, j_air, j_st1, j_st2, j_stu, j_kl, j_cond, j_args, j_out, j_few, j_cw, j_nat, j_pad, j_exp, Nat.reduceAdd]
    exact ⟨trivial, H _ _ (Or.inr ⟨2, by decide, rfl, an⟩)⟩
def q_L_weightFor_0 : List j_N := [(.aload_n 3, 1, 3, 0, .null), (.iconst 0, 1, 0, 0, .int (0)), (.aload_n 0, 1, 0, 0, .null), (.iload_n 1, 1, 1, 0, .null), (.iload_n 2, 1, 2, 0, .null)]
def q_L_weightFor_8 : List j_N := [(.i2l, 1, 0, 0, .null), (.lastore, 1, 0, 0, .null), (.goto 11, 3, 21, 0, .null)]
def q_L_weightFor_13 : List j_N := [(.astore 4, 2, 4, 0, .null), (.iconst 1, 1, 0, 0, .int (1)), (.ireturn, 1, 0, 0, .null)]
def q_L_weightFor_17 : List j_N := [(.astore 4, 2, 4, 0, .null), (.iconst 2, 1, 0, 0, .int (2)), (.ireturn, 1, 0, 0, .null)]
def q_L_weightFor_21 : List j_N := [(.iconst 0, 1, 0, 0, .int (0)), (.ireturn, 1, 0, 0, .null)]
def m_L_weightFor : List (Nat × List j_N) := [(0, q_L_weightFor_0), (8, q_L_weightFor_8), (13, q_L_weightFor_13), (17, q_L_weightFor_17), (21, q_L_weightFor_21)]
abbrev i_L_weightFor : j_Wi := (yL_weightFor, cL_weightFor, 5, [(0, 10, 13, 23), (0, 10, 17, 13)])
theorem g_L_weightFor : j_goodW i_L_weightFor m_L_weightFor 5 73 n_X8_weightFor (yX8_weightFor, cX8_weightFor, 5, (some .int), 10) := ⟨by decide +kernel, rfl, by decide +kernel, by decide +kernel, rfl, by decide +kernel, rfl, j_wI_in (is := [1102, 83, 1099, 1100, 1101]) (by decide +kernel)⟩
theorem t_L_weightFor_0 : j_ct [(0, 10, 13, 23), (0, 10, 17, 13)] 5 0 13 := ⟨[], ⟨0, 10, 13, 23⟩, [⟨0, 10, 17, 13⟩], rfl, (fun z hz => by cases hz), by decide, by decide, w_in 840 (by decide +kernel), w_in 850 (by decide +kernel), rfl⟩
theorem t_L_weightFor_1 : j_ct [(0, 10, 13, 23), (0, 10, 17, 13)] 5 1 17 := ⟨[⟨0, 10, 13, 23⟩], ⟨0, 10, 17, 13⟩, [], rfl, (fun z hz => by
  rw [List.mem_singleton.mp hz]
  exact ⟨by decide, w_in 840 (by decide +kernel), by decide⟩), by decide, by decide, w_in 615 (by decide +kernel), w_in 624 (by decide +kernel), rfl⟩
theorem sp_L_weightFor (hl : l.stackTraces = false) (j : JJ E bs x sc Ls xs (n + 1) h) {v0 v1 : Int32} (H : ∀ o h1, WP l D E bs x sc Ls xs n (d + 60) n_X9_weightFor [.int v0, .int v1] (RI x) TI o h1 → Q o h1) : j_MetW l D bs E (d + 61) i_L_weightFor [.ref x, .int v0, .int v1, .ref (x + 67)] h Q := by
  have hB : j_bd E h := by
    obtain ⟨V, M, U, uc, Sn, w, b, cap, g1, g2, -⟩ := j
    exact g2.1.2.2.2
  refine j_methW g_L_weightFor (n := 2) (by decide +kernel) (Nat.le_of_ble_eq_true rfl) hB.1 hB.2 (fun G hG => ?_)
  obtain ⟨hb, hcall⟩ := hG
  refine (hb (0, q_L_weightFor_0) (List.mem_of_getElem? (i := 0) rfl) _ _ _ ?_)
  dsimp only [q_L_weightFor_0, j_wp, j_opB, j_opA, j_nth, j_i1, j_i2, j_l1, j_l2, j_li, j_f1, j_f2, j_d1, j_d2, j_r1, j_ai, j_aii, j_ail, j_aid, j_air, j_st1, j_st2, j_stu, j_kl, j_cond, j_args, j_out, j_few, j_cw, j_nat, j_pad, j_exp, Nat.reduceAdd]
  refine hcall _ [.int v0, .int v1] [.int 0, .ref (x + 67)] x h rfl rfl ?_
  refine op_weightFor hl j (fun a h1 an => ?_) (fun h1 an => ?_) (fun h1 an => ?_)
  · show G 8 _ [.int a, .int 0, .ref (x + 67)] h1
    refine (hb (8, q_L_weightFor_8) (List.mem_of_getElem? (i := 1) rfl) _ _ _ ?_)
    dsimp only [q_L_weightFor_8, j_wp, j_opB, j_opA, j_nth, j_i1, j_i2, j_l1, j_l2, j_li, j_f1, j_f2, j_d1, j_d2, j_r1, j_ai, j_aii, j_ail, j_aid, j_air, j_st1, j_st2, j_stu, j_kl, j_cond, j_args, j_out, j_few, j_cw, j_nat, j_pad, j_exp, Nat.reduceAdd]
    rw [an.1.1]
    refine ⟨rfl, v_01, ?_⟩
    rw [e_00]
    refine (hb (21, q_L_weightFor_21) (List.mem_of_getElem? (i := 4) rfl) _ _ _ ?_)
    dsimp only [q_L_weightFor_21, j_wp, j_opB, j_opA, j_nth, j_i1, j_i2, j_l1, j_l2, j_li, j_f1, j_f2, j_d1, j_d2, j_r1, j_ai, j_aii, j_ail, j_aid, j_air, j_st1, j_st2, j_stu, j_kl, j_cond, j_args, j_out, j_few, j_cw, j_nat, j_pad, j_exp, Nat.reduceAdd]
    exact ⟨trivial, H _ _ (Or.inl ⟨.int a, ⟨a, rfl, oL _ _ _⟩, ⟨_, rfl⟩, rfl, AN_ow an OW_L⟩)⟩
  · refine ⟨13, t_L_weightFor_0, fun q => ?_⟩
    refine (hb (13, q_L_weightFor_13) (List.mem_of_getElem? (i := 2) rfl) _ _ _ ?_)
    dsimp only [q_L_weightFor_13, j_wp, j_opB, j_opA, j_nth, j_i1, j_i2, j_l1, j_l2, j_li, j_f1, j_f2, j_d1, j_d2, j_r1, j_ai, j_aii, j_ail, j_aid, j_air, j_st1, j_st2, j_stu, j_kl, j_cond, j_args, j_out, j_few, j_cw, j_nat, j_pad, j_exp, Nat.reduceAdd]
    exact ⟨trivial, H _ _ (Or.inr ⟨1, by decide, rfl, an⟩)⟩
  · refine ⟨17, t_L_weightFor_1, fun q => ?_⟩
    refine (hb (17, q_L_weightFor_17) (List.mem_of_getElem? (i := 3) rfl) _ _ _ ?_)
    dsimp only [q_L_weightFor_17, j_wp, j_opB, j_opA, j_nth, j_i1, j_i2, j_l1, j_l2, j_li, j_f1, j_f2, j_d1, j_d2, j_r1, j_ai, j_aii, j_ail, j_aid, j_air, j_st1, j_st2, j_stu, j_kl, j_cond, j_args, j_out, j_few, j_cw, j_nat, j_pad, j_exp, Nat.reduceAdd]
    exact ⟨trivial, H _ _ (Or.inr ⟨2, by decide, rfl, an⟩)⟩
def q_L_format_0 : List j_N := [(.aload_n 2, 1, 2, 0, .null), (.iconst 0, 1, 0, 0, .int (0)), (.aload_n 0, 1, 0, 0, .null), (.iload_n 1, 1, 1, 0, .null)]
def q_L_format_7 : List j_N := [(.i2l, 1, 0, 0, .null), (.lastore, 1, 0, 0, .null), (.goto 6, 3, 15, 0, .null)]
def q_L_format_12 : List j_N := [(.astore_n 3, 1, 3, 0, .null), (.iconst 1, 1, 0, 0, .int (1)), (.ireturn, 1, 0, 0, .null)]
def q_L_format_15 : List j_N := [(.iconst 0, 1, 0, 0, .int (0)), (.ireturn, 1, 0, 0, .null)]
def m_L_format : List (Nat × List j_N) := [(0, q_L_format_0), (7, q_L_format_7), (12, q_L_format_12), (15, q_L_format_15)]
abbrev i_L_format : j_Wi := (yL_format, cL_format, 4, [(0, 9, 12, 23)])
theorem g_L_format : j_goodW i_L_format m_L_format 4 76 n_X8_format (yX8_format, cX8_format, 3, (some .int), 10) := ⟨by decide +kernel, rfl, by decide +kernel, by decide +kernel, rfl, by decide +kernel, rfl, j_wI_in (is := [1109, 83, 1106, 1107, 1108]) (by decide +kernel)⟩
theorem t_L_format_0 : j_ct [(0, 9, 12, 23)] 4 0 12 := ⟨[], ⟨0, 9, 12, 23⟩, [], rfl, (fun z hz => by cases hz), by decide, by decide, w_in 840 (by decide +kernel), w_in 850 (by decide +kernel), rfl⟩
theorem sp_L_format (hl : l.stackTraces = false) (j : JJ E bs x sc Ls xs (n + 1) h) {v0 : Int32} (H : ∀ o h1, WP l D E bs x sc Ls xs n (d + 60) n_X9_format [.int v0] (RI x) TI o h1 → Q o h1) : j_MetW l D bs E (d + 61) i_L_format [.ref x, .int v0, .ref (x + 67)] h Q := by
  have hB : j_bd E h := by
    obtain ⟨V, M, U, uc, Sn, w, b, cap, g1, g2, -⟩ := j
    exact g2.1.2.2.2
  refine j_methW g_L_format (n := 1) (by decide +kernel) (Nat.le_of_ble_eq_true rfl) hB.1 hB.2 (fun G hG => ?_)
  obtain ⟨hb, hcall⟩ := hG
  refine (hb (0, q_L_format_0) (List.mem_of_getElem? (i := 0) rfl) _ _ _ ?_)
  dsimp only [q_L_format_0, j_wp, j_opB, j_opA, j_nth, j_i1, j_i2, j_l1, j_l2, j_li, j_f1, j_f2, j_d1, j_d2, j_r1, j_ai, j_aii, j_ail, j_aid, j_air, j_st1, j_st2, j_stu, j_kl, j_cond, j_args, j_out, j_few, j_cw, j_nat, j_pad, j_exp, Nat.reduceAdd]
  refine hcall _ [.int v0] [.int 0, .ref (x + 67)] x h rfl rfl ?_
  refine op_format hl j (fun a h1 an => ?_) (fun h1 an => ?_)
  · show G 7 _ [.int a, .int 0, .ref (x + 67)] h1
    refine (hb (7, q_L_format_7) (List.mem_of_getElem? (i := 1) rfl) _ _ _ ?_)
    dsimp only [q_L_format_7, j_wp, j_opB, j_opA, j_nth, j_i1, j_i2, j_l1, j_l2, j_li, j_f1, j_f2, j_d1, j_d2, j_r1, j_ai, j_aii, j_ail, j_aid, j_air, j_st1, j_st2, j_stu, j_kl, j_cond, j_args, j_out, j_few, j_cw, j_nat, j_pad, j_exp, Nat.reduceAdd]
    rw [an.1.1]
    refine ⟨rfl, v_01, ?_⟩
    rw [e_00]
    refine (hb (15, q_L_format_15) (List.mem_of_getElem? (i := 3) rfl) _ _ _ ?_)
    dsimp only [q_L_format_15, j_wp, j_opB, j_opA, j_nth, j_i1, j_i2, j_l1, j_l2, j_li, j_f1, j_f2, j_d1, j_d2, j_r1, j_ai, j_aii, j_ail, j_aid, j_air, j_st1, j_st2, j_stu, j_kl, j_cond, j_args, j_out, j_few, j_cw, j_nat, j_pad, j_exp, Nat.reduceAdd]
    exact ⟨trivial, H _ _ (Or.inl ⟨.int a, ⟨a, rfl, oL _ _ _⟩, ⟨_, rfl⟩, rfl, AN_ow an OW_L⟩)⟩
  · refine ⟨12, t_L_format_0, fun q => ?_⟩
    refine (hb (12, q_L_format_12) (List.mem_of_getElem? (i := 2) rfl) _ _ _ ?_)
    dsimp only [q_L_format_12, j_wp, j_opB, j_opA, j_nth, j_i1, j_i2, j_l1, j_l2, j_li, j_f1, j_f2, j_d1, j_d2, j_r1, j_ai, j_aii, j_ail, j_aid, j_air, j_st1, j_st2, j_stu, j_kl, j_cond, j_args, j_out, j_few, j_cw, j_nat, j_pad, j_exp, Nat.reduceAdd]
    exact ⟨trivial, H _ _ (Or.inr ⟨1, by decide, rfl, an⟩)⟩
def q_L_query_0 : List j_N := [(.aload_n 2, 1, 2, 0, .null), (.iconst 0, 1, 0, 0, .int (0)), (.aload_n 0, 1, 0, 0, .null), (.iload_n 1, 1, 1, 0, .null)]
def q_L_query_7 : List j_N := [(.i2l, 1, 0, 0, .null), (.lastore, 1, 0, 0, .null), (.goto 6, 3, 15, 0, .null)]
def q_L_query_12 : List j_N := [(.astore_n 3, 1, 3, 0, .null), (.iconst 1, 1, 0, 0, .int (1)), (.ireturn, 1, 0, 0, .null)]
def q_L_query_15 : List j_N := [(.iconst 0, 1, 0, 0, .int (0)), (.ireturn, 1, 0, 0, .null)]
def m_L_query : List (Nat × List j_N) := [(0, q_L_query_0), (7, q_L_query_7), (12, q_L_query_12), (15, q_L_query_15)]
abbrev i_L_query : j_Wi := (yL_query, cL_query, 4, [(0, 9, 12, 13)])
theorem g_L_query : j_goodW i_L_query m_L_query 4 79 n_X8_query (yX8_query, cX8_query, 4, (some .int), 10) := ⟨by decide +kernel, rfl, by decide +kernel, by decide +kernel, rfl, by decide +kernel, rfl, j_wI_in (is := [1334, 83, 1331, 1332, 1333]) (by decide +kernel)⟩
theorem t_L_query_1 : j_ct [(0, 9, 12, 13)] 4 1 12 := ⟨[], ⟨0, 9, 12, 13⟩, [], rfl, (fun z hz => by cases hz), by decide, by decide, w_in 615 (by decide +kernel), w_in 624 (by decide +kernel), rfl⟩
theorem sp_L_query (hl : l.stackTraces = false) (j : JJ E bs x sc Ls xs (n + 1) h) {v0 : Int32} (H : ∀ o h1, WP l D E bs x sc Ls xs n (d + 60) n_X9_query [.int v0] (RI x) TI o h1 → Q o h1) : j_MetW l D bs E (d + 61) i_L_query [.ref x, .int v0, .ref (x + 67)] h Q := by
  have hB : j_bd E h := by
    obtain ⟨V, M, U, uc, Sn, w, b, cap, g1, g2, -⟩ := j
    exact g2.1.2.2.2
  refine j_methW g_L_query (n := 1) (by decide +kernel) (Nat.le_of_ble_eq_true rfl) hB.1 hB.2 (fun G hG => ?_)
  obtain ⟨hb, hcall⟩ := hG
  refine (hb (0, q_L_query_0) (List.mem_of_getElem? (i := 0) rfl) _ _ _ ?_)
  dsimp only [q_L_query_0, j_wp, j_opB, j_opA, j_nth, j_i1, j_i2, j_l1, j_l2, j_li, j_f1, j_f2, j_d1, j_d2, j_r1, j_ai, j_aii, j_ail, j_aid, j_air, j_st1, j_st2, j_stu, j_kl, j_cond, j_args, j_out, j_few, j_cw, j_nat, j_pad, j_exp, Nat.reduceAdd]
  refine hcall _ [.int v0] [.int 0, .ref (x + 67)] x h rfl rfl ?_
  refine op_query hl j (fun a h1 an => ?_) (fun h1 an => ?_)
  · show G 7 _ [.int a, .int 0, .ref (x + 67)] h1
    refine (hb (7, q_L_query_7) (List.mem_of_getElem? (i := 1) rfl) _ _ _ ?_)
    dsimp only [q_L_query_7, j_wp, j_opB, j_opA, j_nth, j_i1, j_i2, j_l1, j_l2, j_li, j_f1, j_f2, j_d1, j_d2, j_r1, j_ai, j_aii, j_ail, j_aid, j_air, j_st1, j_st2, j_stu, j_kl, j_cond, j_args, j_out, j_few, j_cw, j_nat, j_pad, j_exp, Nat.reduceAdd]
    rw [an.1.1]
    refine ⟨rfl, v_01, ?_⟩
    rw [e_00]
    refine (hb (15, q_L_query_15) (List.mem_of_getElem? (i := 3) rfl) _ _ _ ?_)
    dsimp only [q_L_query_15, j_wp, j_opB, j_opA, j_nth, j_i1, j_i2, j_l1, j_l2, j_li, j_f1, j_f2, j_d1, j_d2, j_r1, j_ai, j_aii, j_ail, j_aid, j_air, j_st1, j_st2, j_stu, j_kl, j_cond, j_args, j_out, j_few, j_cw, j_nat, j_pad, j_exp, Nat.reduceAdd]
    exact ⟨trivial, H _ _ (Or.inl ⟨.int a, ⟨a, rfl, oL _ _ _⟩, ⟨_, rfl⟩, rfl, AN_ow an OW_L⟩)⟩
  · refine ⟨12, t_L_query_1, fun q => ?_⟩
    refine (hb (12, q_L_query_12) (List.mem_of_getElem? (i := 2) rfl) _ _ _ ?_)
    dsimp only [q_L_query_12, j_wp, j_opB, j_opA, j_nth, j_i1, j_i2, j_l1, j_l2, j_li, j_f1, j_f2, j_d1, j_d2, j_r1, j_ai, j_aii, j_ail, j_aid, j_air, j_st1, j_st2, j_stu, j_kl, j_cond, j_args, j_out, j_few, j_cw, j_nat, j_pad, j_exp, Nat.reduceAdd]
    exact ⟨trivial, H _ _ (Or.inr ⟨1, by decide, rfl, an⟩)⟩
end LWr
