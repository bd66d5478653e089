/-! ===== Link: the queue's ends, due ticks ===== -/
/-- -1, or a number below n -/
def ix (n : Nat) (v : Int32) : Prop := v = -1 ∨ ∃ q, q < n ∧ v = nI q
theorem nI_ne1 {q : Nat} (h : q < 2 ^ 31) : ¬ nI q = -1 := by
  intro e
  have h1 := nI_toInt h
  rw [e] at h1
  have h2 : (-1 : Int32).toInt = -1 := by decide
  omega
section LnkB
variable {l : Launch} {D : va_G} {bs : Nat} {E : j_E} {h0 h : j_H} {a : Nat} {L : Lnk} {d : Nat} {Q : j_O → j_H → Prop}
def lJoinEnd (L : Lnk) (f p : Nat) : Lnk :=
  let z := lF L f 18
  let L1 := lsP L p 9 (-1)
  let L2 := if z = -1 then lsF L1 f 17 (nI p) else lsP L1 z.toNatClampNeg 9 (nI p)
  let L3 := lsF L2 f 18 (nI p)
  lCount L3 f p 1
theorem sp_X1_joinEnd (hl : l.stackTraces = false) (s : LQ E h0 a L h) {f p : Nat} (hf : f < 6) (hp : p < 100) (hz : ix 100 (lF L f 18)) (H : ∀ h', LQ E h0 a (lJoinEnd L f p) h' → Q (.inl none) h') : j_Met l D bs E (d + 3) n_X1_joinEnd [.ref a, .int (nI f), .int (nI p)] h Q := by
  have hB := s.2.2
  dsimp only [lJoinEnd] at H
  refine j_meth hl rfl g_X1_joinEnd (Nat.le_of_ble_eq_true rfl) (fun _ => ⟨_, _, rfl, (LQ_sh s)⟩) hB.1 hB.2 (fun G hG => ?_)
  refine b_X1_joinEnd_0 hG ?_
  dsimp only [q_X1_joinEnd_0, j_wp, j_opB, j_opA, j_nth, j_i1, j_i2, j_l1, j_l2, j_li, j_f1, j_f2, j_d1, j_d2, j_r1, j_ai, j_aii, j_ail, j_aid, j_air, j_st1, j_st2, j_stu, j_kl, j_cond, j_args, j_out, j_few, j_cw, j_nat, j_pad, j_exp, Nat.reduceAdd]
  simp only [LQ_sh s, LQ_R0 s, LQ_R1 s, LQ_R2 s, LQ_R3 s, LQ_R4 s, j_ref, j_ari, j_arb, j_arr, j_len, j_nar, j_oi, j_ol, j_of, j_od, j_or, j_ov, true_and, and_true]
  refine lf_get hl s hf (k := 18) (by omega) ?_
  simp only [LQ_sh s, LQ_R0 s, LQ_R1 s, LQ_R2 s, LQ_R3 s, LQ_R4 s, j_ref, j_ari, j_arb, j_arr, j_len, j_nar, j_oi, j_ol, j_of, j_od, j_or, j_ov, true_and, and_true]
  refine lp_set hl s hp (k := 9) (by omega) (fun h1 s1 => ?_)
  simp only [LQ_sh s1, LQ_R0 s1, LQ_R1 s1, LQ_R2 s1, LQ_R3 s1, LQ_R4 s1, j_ref, j_ari, j_arb, j_arr, j_len, j_nar, j_oi, j_ol, j_of, j_od, j_or, j_ov, true_and, and_true]
  rcases hz with hz | ⟨q, hq, hz⟩
  · rw [if_pos hz]
    rw [if_pos hz] at H
    refine lf_set hl s1 hf (k := 17) (by omega) (fun h2 s2 => ?_)
    simp only [LQ_sh s2, LQ_R0 s2, LQ_R1 s2, LQ_R2 s2, LQ_R3 s2, LQ_R4 s2, j_ref, j_ari, j_arb, j_arr, j_len, j_nar, j_oi, j_ol, j_of, j_od, j_or, j_ov, true_and, and_true]
    refine b_X1_joinEnd_52 hG ?_
    dsimp only [q_X1_joinEnd_52, j_wp, j_opB, j_opA, j_nth, j_i1, j_i2, j_l1, j_l2, j_li, j_f1, j_f2, j_d1, j_d2, j_r1, j_ai, j_aii, j_ail, j_aid, j_air, j_st1, j_st2, j_stu, j_kl, j_cond, j_args, j_out, j_few, j_cw, j_nat, j_pad, j_exp, Nat.reduceAdd]
    simp only [LQ_sh s2, LQ_R0 s2, LQ_R1 s2, LQ_R2 s2, LQ_R3 s2, LQ_R4 s2, j_ref, j_ari, j_arb, j_arr, j_len, j_nar, j_oi, j_ol, j_of, j_od, j_or, j_ov, true_and, and_true]
    refine lf_set hl s2 hf (k := 18) (by omega) (fun h3 s3 => ?_)
    simp only [LQ_sh s3, LQ_R0 s3, LQ_R1 s3, LQ_R2 s3, LQ_R3 s3, LQ_R4 s3, j_ref, j_ari, j_arb, j_arr, j_len, j_nar, j_oi, j_ol, j_of, j_od, j_or, j_ov, true_and, and_true]
    exact sp_X1_countQueued hl s3 hf hp (fun h4 s4 => H h4 s4)
  · have hz1 : ¬ lF L f 18 = -1 := by rw [hz]; exact nI_ne1 (by omega)
    rw [if_neg hz1]
    rw [if_neg hz1] at H
    refine b_X1_joinEnd_41 hG ?_
    dsimp only [q_X1_joinEnd_41, j_wp, j_opB, j_opA, j_nth, j_i1, j_i2, j_l1, j_l2, j_li, j_f1, j_f2, j_d1, j_d2, j_r1, j_ai, j_aii, j_ail, j_aid, j_air, j_st1, j_st2, j_stu, j_kl, j_cond, j_args, j_out, j_few, j_cw, j_nat, j_pad, j_exp, Nat.reduceAdd]
    simp only [LQ_sh s1, LQ_R0 s1, LQ_R1 s1, LQ_R2 s1, LQ_R3 s1, LQ_R4 s1, j_ref, j_ari, j_arb, j_arr, j_len, j_nar, j_oi, j_ol, j_of, j_od, j_or, j_ov, true_and, and_true]
    rw [hz] at H ⊢
    rw [nI_clamp (by omega)] at H
    refine lp_set hl s1 hq (k := 9) (by omega) (fun h2 s2 => ?_)
    simp only [LQ_sh s2, LQ_R0 s2, LQ_R1 s2, LQ_R2 s2, LQ_R3 s2, LQ_R4 s2, j_ref, j_ari, j_arb, j_arr, j_len, j_nar, j_oi, j_ol, j_of, j_od, j_or, j_ov, true_and, and_true]
    refine b_X1_joinEnd_52 hG ?_
    dsimp only [q_X1_joinEnd_52, j_wp, j_opB, j_opA, j_nth, j_i1, j_i2, j_l1, j_l2, j_li, j_f1, j_f2, j_d1, j_d2, j_r1, j_ai, j_aii, j_ail, j_aid, j_air, j_st1, j_st2, j_stu, j_kl, j_cond, j_args, j_out, j_few, j_cw, j_nat, j_pad, j_exp, Nat.reduceAdd]
    simp only [LQ_sh s2, LQ_R0 s2, LQ_R1 s2, LQ_R2 s2, LQ_R3 s2, LQ_R4 s2, j_ref, j_ari, j_arb, j_arr, j_len, j_nar, j_oi, j_ol, j_of, j_od, j_or, j_ov, true_and, and_true]
    refine lf_set hl s2 hf (k := 18) (by omega) (fun h3 s3 => ?_)
    simp only [LQ_sh s3, LQ_R0 s3, LQ_R1 s3, LQ_R2 s3, LQ_R3 s3, LQ_R4 s3, j_ref, j_ari, j_arb, j_arr, j_len, j_nar, j_oi, j_ol, j_of, j_od, j_or, j_ov, true_and, and_true]
    exact sp_X1_countQueued hl s3 hf hp (fun h4 s4 => H h4 s4)
def lJoinHead (L : Lnk) (f p : Nat) : Lnk :=
  let L1 := lsP L p 9 (lF L f 17)
  let L2 := lsF L1 f 17 (nI p)
  let L3 := if lF L2 f 18 = -1 then lsF L2 f 18 (nI p) else L2
  lCount L3 f p 1
theorem sp_X1_joinHead (hl : l.stackTraces = false) (s : LQ E h0 a L h) {f p : Nat} (hf : f < 6) (hp : p < 100) (H : ∀ h', LQ E h0 a (lJoinHead L f p) h' → Q (.inl none) h') : j_Met l D bs E (d + 3) n_X1_joinHead [.ref a, .int (nI f), .int (nI p)] h Q := by
  have hB := s.2.2
  dsimp only [lJoinHead] at H
  refine j_meth hl rfl g_X1_joinHead (Nat.le_of_ble_eq_true rfl) (fun _ => ⟨_, _, rfl, (LQ_sh s)⟩) hB.1 hB.2 (fun G hG => ?_)
  refine b_X1_joinHead_0 hG ?_
  dsimp only [q_X1_joinHead_0, j_wp, j_opB, j_opA, j_nth, j_i1, j_i2, j_l1, j_l2, j_li, j_f1, j_f2, j_d1, j_d2, j_r1, j_ai, j_aii, j_ail, j_aid, j_air, j_st1, j_st2, j_stu, j_kl, j_cond, j_args, j_out, j_few, j_cw, j_nat, j_pad, j_exp, Nat.reduceAdd]
  simp only [LQ_sh s, LQ_R0 s, LQ_R1 s, LQ_R2 s, LQ_R3 s, LQ_R4 s, j_ref, j_ari, j_arb, j_arr, j_len, j_nar, j_oi, j_ol, j_of, j_od, j_or, j_ov, true_and, and_true]
  refine lf_get hl s hf (k := 17) (by omega) ?_
  simp only [LQ_sh s, LQ_R0 s, LQ_R1 s, LQ_R2 s, LQ_R3 s, LQ_R4 s, j_ref, j_ari, j_arb, j_arr, j_len, j_nar, j_oi, j_ol, j_of, j_od, j_or, j_ov, true_and, and_true]
  refine lp_set hl s hp (k := 9) (by omega) (fun h1 s1 => ?_)
  simp only [LQ_sh s1, LQ_R0 s1, LQ_R1 s1, LQ_R2 s1, LQ_R3 s1, LQ_R4 s1, j_ref, j_ari, j_arb, j_arr, j_len, j_nar, j_oi, j_ol, j_of, j_od, j_or, j_ov, true_and, and_true]
  refine lf_set hl s1 hf (k := 17) (by omega) (fun h2 s2 => ?_)
  simp only [LQ_sh s2, LQ_R0 s2, LQ_R1 s2, LQ_R2 s2, LQ_R3 s2, LQ_R4 s2, j_ref, j_ari, j_arb, j_arr, j_len, j_nar, j_oi, j_ol, j_of, j_od, j_or, j_ov, true_and, and_true]
  refine lf_get hl s2 hf (k := 18) (by omega) ?_
  simp only [LQ_sh s2, LQ_R0 s2, LQ_R1 s2, LQ_R2 s2, LQ_R3 s2, LQ_R4 s2, j_ref, j_ari, j_arb, j_arr, j_len, j_nar, j_oi, j_ol, j_of, j_od, j_or, j_ov, true_and, and_true]
  split
  · rename_i g
    rw [if_pos g] at H
    refine lf_set hl s2 hf (k := 18) (by omega) (fun h3 s3 => ?_)
    simp only [LQ_sh s3, LQ_R0 s3, LQ_R1 s3, LQ_R2 s3, LQ_R3 s3, LQ_R4 s3, j_ref, j_ari, j_arb, j_arr, j_len, j_nar, j_oi, j_ol, j_of, j_od, j_or, j_ov, true_and, and_true]
    refine b_X1_joinHead_56 hG ?_
    dsimp only [q_X1_joinHead_56, j_wp, j_opB, j_opA, j_nth, j_i1, j_i2, j_l1, j_l2, j_li, j_f1, j_f2, j_d1, j_d2, j_r1, j_ai, j_aii, j_ail, j_aid, j_air, j_st1, j_st2, j_stu, j_kl, j_cond, j_args, j_out, j_few, j_cw, j_nat, j_pad, j_exp, Nat.reduceAdd]
    exact sp_X1_countQueued hl s3 hf hp (fun h4 s4 => H h4 s4)
  · rename_i g
    rw [if_neg g] at H
    refine b_X1_joinHead_56 hG ?_
    dsimp only [q_X1_joinHead_56, j_wp, j_opB, j_opA, j_nth, j_i1, j_i2, j_l1, j_l2, j_li, j_f1, j_f2, j_d1, j_d2, j_r1, j_ai, j_aii, j_ail, j_aid, j_air, j_st1, j_st2, j_stu, j_kl, j_cond, j_args, j_out, j_few, j_cw, j_nat, j_pad, j_exp, Nat.reduceAdd]
    exact sp_X1_countQueued hl s2 hf hp (fun h4 s4 => H h4 s4)
def lDeliver (L : Lnk) (f p : Nat) : Lnk :=
  let L1 := lsP L p 3 2
  let L2 := lsP L1 p 5 (lX L1 11)
  let L3 := lsF L2 f 10 (lF L2 f 10 + lP L2 p 1)
  lsX L3 14 (lX L3 14 + 1)
theorem sp_X1_deliver (hl : l.stackTraces = false) (s : LQ E h0 a L h) {f p : Nat} (hf : f < 6) (hp : p < 100) (H : ∀ h', LQ E h0 a (lDeliver L f p) h' → Q (.inl none) h') : j_Met l D bs E (d + 2) n_X1_deliver [.ref a, .int (nI f), .int (nI p)] h Q := by
  have hB := s.2.2
  refine j_meth hl rfl g_X1_deliver (Nat.le_of_ble_eq_true rfl) (fun _ => ⟨_, _, rfl, (LQ_sh s)⟩) hB.1 hB.2 (fun G hG => ?_)
  refine b_X1_deliver_0 hG ?_
  dsimp only [q_X1_deliver_0, j_wp, j_opB, j_opA, j_nth, j_i1, j_i2, j_l1, j_l2, j_li, j_f1, j_f2, j_d1, j_d2, j_r1, j_ai, j_aii, j_ail, j_aid, j_air, j_st1, j_st2, j_stu, j_kl, j_cond, j_args, j_out, j_few, j_cw, j_nat, j_pad, j_exp, Nat.reduceAdd]
  simp only [LQ_sh s, LQ_R0 s, LQ_R1 s, LQ_R2 s, LQ_R3 s, LQ_R4 s, j_ref, j_ari, j_arb, j_arr, j_len, j_nar, j_oi, j_ol, j_of, j_od, j_or, j_ov, true_and, and_true]
  refine lp_set hl s hp (k := 3) (by omega) (fun h1 s1 => ?_)
  simp only [LQ_sh s1, LQ_R0 s1, LQ_R1 s1, LQ_R2 s1, LQ_R3 s1, LQ_R4 s1, j_ref, j_ari, j_arb, j_arr, j_len, j_nar, j_oi, j_ol, j_of, j_od, j_or, j_ov, true_and, and_true, LQ_x11 s1]
  refine lp_set hl s1 hp (k := 5) (by omega) (fun h2 s2 => ?_)
  simp only [LQ_sh s2, LQ_R0 s2, LQ_R1 s2, LQ_R2 s2, LQ_R3 s2, LQ_R4 s2, j_ref, j_ari, j_arb, j_arr, j_len, j_nar, j_oi, j_ol, j_of, j_od, j_or, j_ov, true_and, and_true]
  refine lp_get hl s2 hp (k := 1) (by omega) ?_
  simp only [LQ_sh s2, LQ_R0 s2, LQ_R1 s2, LQ_R2 s2, LQ_R3 s2, LQ_R4 s2, j_ref, j_ari, j_arb, j_arr, j_len, j_nar, j_oi, j_ol, j_of, j_od, j_or, j_ov, true_and, and_true]
  refine lf_add hl s2 hf (k := 10) (by omega) (fun h3 s3 => ?_)
  simp only [LQ_sh s3, LQ_R0 s3, LQ_R1 s3, LQ_R2 s3, LQ_R3 s3, LQ_R4 s3, j_ref, j_ari, j_arb, j_arr, j_len, j_nar, j_oi, j_ol, j_of, j_od, j_or, j_ov, true_and, and_true, LQ_x14 s3]
  exact H _ (LQ_X s3 14 _)
/-- when a transmission is acknowledged or declared lost next -/
def lDue0 (L : Lnk) (n : Nat) : Int32 := if ¬ lS L n 2 = -1 ∧ (lS L n 3 = 0 ∨ lS L n 3 = 2) then lS L n 2 else 2000000000
def lDue (L : Lnk) (n : Nat) : Int32 := if lS L n 3 = 0 then (if lS L n 1 + lX L 8 < lDue0 L n then lS L n 1 + lX L 8 else lDue0 L n) else lDue0 L n
theorem sp_X1_dueTick (hl : l.stackTraces = false) (s : LQ E h0 a L h) {n : Nat} (hn : n < 300) (H : Q (.inl (some (.int (lDue L n)))) h) : j_Met l D bs E (d + 2) n_X1_dueTick [.ref a, .int (nI n)] h Q := by
  have hB := s.2.2
  have fin : ∀ {G : j_G} {x3 x4 : Int32}, j_clo (j_Met l D bs E (d + 1)) E Q m_X1_dueTick G → (x3 = lS L n 3) → (Q (.inl (some (.int (if lS L n 3 = 0 then (if lS L n 1 + lX L 8 < x4 then lS L n 1 + lX L 8 else x4) else x4)))) h) → ∀ x2 : Int32, G 41 [.ref a, .int (nI n), .int x3, .int x2, .int x4] [] h := by
    intro G x3 x4 hG e H x2
    subst e
    refine b_X1_dueTick_41 hG ?_
    dsimp only [q_X1_dueTick_41, j_wp, j_opB, j_opA, j_nth, j_i1, j_i2, j_l1, j_l2, j_li, j_f1, j_f2, j_d1, j_d2, j_r1, j_ai, j_aii, j_ail, j_aid, j_air, j_st1, j_st2, j_stu, j_kl, j_cond, j_args, j_out, j_few, j_cw, j_nat, j_pad, j_exp, Nat.reduceAdd]
    simp only [LQ_sh s, LQ_R0 s, LQ_R1 s, LQ_R2 s, LQ_R3 s, LQ_R4 s, j_ref, j_ari, j_arb, j_arr, j_len, j_nar, j_oi, j_ol, j_of, j_od, j_or, j_ov, true_and, and_true]
    split
    · rename_i g
      rw [if_pos g] at H
      refine ls_get hl s hn (k := 1) (by omega) ?_
      simp only [LQ_sh s, LQ_R0 s, LQ_R1 s, LQ_R2 s, LQ_R3 s, LQ_R4 s, j_ref, j_ari, j_arb, j_arr, j_len, j_nar, j_oi, j_ol, j_of, j_od, j_or, j_ov, true_and, and_true, LQ_x8 s]
      refine b_X1_dueTick_66 hG ?_
      dsimp only [q_X1_dueTick_66, j_wp, j_opB, j_opA, j_nth, j_i1, j_i2, j_l1, j_l2, j_li, j_f1, j_f2, j_d1, j_d2, j_r1, j_ai, j_aii, j_ail, j_aid, j_air, j_st1, j_st2, j_stu, j_kl, j_cond, j_args, j_out, j_few, j_cw, j_nat, j_pad, j_exp, Nat.reduceAdd]
      simp only [LQ_sh s, LQ_R0 s, LQ_R1 s, LQ_R2 s, LQ_R3 s, LQ_R4 s, j_ref, j_ari, j_arb, j_arr, j_len, j_nar, j_oi, j_ol, j_of, j_od, j_or, j_ov, true_and, and_true]
      exact H
    · rename_i g
      rw [if_neg g] at H
      refine b_X1_dueTick_66 hG ?_
      dsimp only [q_X1_dueTick_66, j_wp, j_opB, j_opA, j_nth, j_i1, j_i2, j_l1, j_l2, j_li, j_f1, j_f2, j_d1, j_d2, j_r1, j_ai, j_aii, j_ail, j_aid, j_air, j_st1, j_st2, j_stu, j_kl, j_cond, j_args, j_out, j_few, j_cw, j_nat, j_pad, j_exp, Nat.reduceAdd]
      simp only [LQ_sh s, LQ_R0 s, LQ_R1 s, LQ_R2 s, LQ_R3 s, LQ_R4 s, j_ref, j_ari, j_arb, j_arr, j_len, j_nar, j_oi, j_ol, j_of, j_od, j_or, j_ov, true_and, and_true]
      exact H
  dsimp only [lDue] at H
  refine j_meth hl rfl g_X1_dueTick (Nat.le_of_ble_eq_true rfl) (fun _ => ⟨_, _, rfl, (LQ_sh s)⟩) hB.1 hB.2 (fun G hG => ?_)
  refine b_X1_dueTick_0 hG ?_
  dsimp only [q_X1_dueTick_0, j_wp, j_opB, j_opA, j_nth, j_i1, j_i2, j_l1, j_l2, j_li, j_f1, j_f2, j_d1, j_d2, j_r1, j_ai, j_aii, j_ail, j_aid, j_air, j_st1, j_st2, j_stu, j_kl, j_cond, j_args, j_out, j_few, j_cw, j_nat, j_pad, j_exp, Nat.reduceAdd]
  simp only [LQ_sh s, LQ_R0 s, LQ_R1 s, LQ_R2 s, LQ_R3 s, LQ_R4 s, j_ref, j_ari, j_arb, j_arr, j_len, j_nar, j_oi, j_ol, j_of, j_od, j_or, j_ov, true_and, and_true]
  refine ls_get hl s hn (k := 3) (by omega) ?_
  simp only [LQ_sh s, LQ_R0 s, LQ_R1 s, LQ_R2 s, LQ_R3 s, LQ_R4 s, j_ref, j_ari, j_arb, j_arr, j_len, j_nar, j_oi, j_ol, j_of, j_od, j_or, j_ov, true_and, and_true]
  refine ls_get hl s hn (k := 2) (by omega) ?_
  simp only [LQ_sh s, LQ_R0 s, LQ_R1 s, LQ_R2 s, LQ_R3 s, LQ_R4 s, j_ref, j_ari, j_arb, j_arr, j_len, j_nar, j_oi, j_ol, j_of, j_od, j_or, j_ov, true_and, and_true]
  split
  · rename_i g
    have e : lDue0 L n = 2000000000 := if_neg (fun z => z.1 g)
    rw [e] at H
    exact fin hG rfl H _
  · rename_i g
    split
    · rename_i g2
      have e : lDue0 L n = lS L n 2 := if_pos ⟨g, Or.inl g2⟩
      rw [e] at H
      refine b_X1_dueTick_38 hG ?_
      dsimp only [q_X1_dueTick_38, j_wp, j_opB, j_opA, j_nth, j_i1, j_i2, j_l1, j_l2, j_li, j_f1, j_f2, j_d1, j_d2, j_r1, j_ai, j_aii, j_ail, j_aid, j_air, j_st1, j_st2, j_stu, j_kl, j_cond, j_args, j_out, j_few, j_cw, j_nat, j_pad, j_exp, Nat.reduceAdd]
      exact fin hG rfl H _
    · rename_i g2
      split
      · rename_i g3
        have e : lDue0 L n = lS L n 2 := if_pos ⟨g, Or.inr g3⟩
        rw [e] at H
        refine b_X1_dueTick_38 hG ?_
        dsimp only [q_X1_dueTick_38, j_wp, j_opB, j_opA, j_nth, j_i1, j_i2, j_l1, j_l2, j_li, j_f1, j_f2, j_d1, j_d2, j_r1, j_ai, j_aii, j_ail, j_aid, j_air, j_st1, j_st2, j_stu, j_kl, j_cond, j_args, j_out, j_few, j_cw, j_nat, j_pad, j_exp, Nat.reduceAdd]
        exact fin hG rfl H _
      · rename_i g3
        have e : lDue0 L n = 2000000000 := if_neg (fun z => z.2.elim g2 g3)
        rw [e] at H
        exact fin hG rfl H _
end LnkB
