/-! ===== Link: leaving the queue, acknowledging, losing, sending ===== -/
section LnkC
variable {l : Launch} {D : va_G} {bs : Nat} {E : j_E} {h0 h : j_H} {a : Nat} {L : Lnk} {d : Nat} {Q : j_O → j_H → Prop}
def irm (n m : Int32) : Int32 := n - n / m * m
def lDvd (m n : Int32) : Bool := decide (0 < m) && decide (irm n m = 0)
def lAckT (L : Lnk) (f : Nat) : Int32 := if lDvd (lF L f 4) (lF L f 9) = true then -1 else lX L 11 + lX L 7 + (if lDvd (lF L f 5) (lF L f 9) = true then lF L f 6 else 0)
theorem lDvd_t {m n : Int32} (h1 : 0 < m) (h2 : n - n / m * m = 0) : lDvd m n = true := by
  have h3 : irm n m = 0 := h2
  simp [lDvd, h1, h3]
theorem lDvd_f1 {m n : Int32} (h1 : ¬ 0 < m) : lDvd m n = false := by simp [lDvd, h1]
theorem lDvd_f2 {m n : Int32} (h2 : ¬ n - n / m * m = 0) : lDvd m n = false := by
  have h3 : ¬ irm n m = 0 := h2
  simp [lDvd, h3]
theorem sp_X1_acknowledgmentTick (hl : l.stackTraces = false) (s : LQ E h0 a L h) {f : Nat} (hf : f < 6) (H : Q (.inl (some (.int (lAckT L f)))) h) : j_Met l D bs E (d + 2) n_X1_acknowledgmentTick [.ref a, .int (nI f)] h Q := by
  have hB := s.2.2
  unfold lAckT at H
  have fin : ∀ {G : j_G} {x2 x3 x4 b : Int32}, j_clo (j_Met l D bs E (d + 1)) E Q m_X1_acknowledgmentTick G → Q (.inl (some (.int (lX L 11 + lX L 7 + (if b = 0 then 0 else lF L f 6))))) h → G 61 [.ref a, .int (nI f), .int x2, .int x3, .int x4, j_u] [.int b] h := by
    intro G x2 x3 x4 b hG H
    refine b_X1_acknowledgmentTick_61 hG ?_
    dsimp only [q_X1_acknowledgmentTick_61, j_wp, j_opB, j_opA, j_nth, j_i1, j_i2, j_l1, j_l2, j_li, j_f1, j_f2, j_d1, j_d2, j_r1, j_ai, j_aii, j_ail, j_aid, j_air, j_st1, j_st2, j_stu, j_kl, j_cond, j_args, j_out, j_few, j_cw, j_nat, j_pad, j_exp, Nat.reduceAdd]
    simp only [LQ_sh s, LQ_R0 s, LQ_R1 s, LQ_R2 s, LQ_R3 s, LQ_R4 s, j_ref, j_ari, j_arb, j_arr, j_len, j_nar, j_oi, j_ol, j_of, j_od, j_or, j_ov, true_and, and_true, LQ_x11 s, LQ_x7 s]
    split
    · rename_i g
      rw [if_pos g] at H
      refine b_X1_acknowledgmentTick_90 hG ?_
      dsimp only [q_X1_acknowledgmentTick_90, j_wp, j_opB, j_opA, j_nth, j_i1, j_i2, j_l1, j_l2, j_li, j_f1, j_f2, j_d1, j_d2, j_r1, j_ai, j_aii, j_ail, j_aid, j_air, j_st1, j_st2, j_stu, j_kl, j_cond, j_args, j_out, j_few, j_cw, j_nat, j_pad, j_exp, Nat.reduceAdd]
      refine b_X1_acknowledgmentTick_91 hG ?_
      dsimp only [q_X1_acknowledgmentTick_91, j_wp, j_opB, j_opA, j_nth, j_i1, j_i2, j_l1, j_l2, j_li, j_f1, j_f2, j_d1, j_d2, j_r1, j_ai, j_aii, j_ail, j_aid, j_air, j_st1, j_st2, j_stu, j_kl, j_cond, j_args, j_out, j_few, j_cw, j_nat, j_pad, j_exp, Nat.reduceAdd]
      simp only [LQ_sh s, LQ_R0 s, LQ_R1 s, LQ_R2 s, LQ_R3 s, LQ_R4 s, j_ref, j_ari, j_arb, j_arr, j_len, j_nar, j_oi, j_ol, j_of, j_od, j_or, j_ov, true_and, and_true]
      exact H
    · rename_i g
      rw [if_neg g] at H
      refine lf_get hl s hf (k := 6) (by omega) ?_
      simp only [LQ_sh s, LQ_R0 s, LQ_R1 s, LQ_R2 s, LQ_R3 s, LQ_R4 s, j_ref, j_ari, j_arb, j_arr, j_len, j_nar, j_oi, j_ol, j_of, j_od, j_or, j_ov, true_and, and_true]
      refine b_X1_acknowledgmentTick_91 hG ?_
      dsimp only [q_X1_acknowledgmentTick_91, j_wp, j_opB, j_opA, j_nth, j_i1, j_i2, j_l1, j_l2, j_li, j_f1, j_f2, j_d1, j_d2, j_r1, j_ai, j_aii, j_ail, j_aid, j_air, j_st1, j_st2, j_stu, j_kl, j_cond, j_args, j_out, j_few, j_cw, j_nat, j_pad, j_exp, Nat.reduceAdd]
      simp only [LQ_sh s, LQ_R0 s, LQ_R1 s, LQ_R2 s, LQ_R3 s, LQ_R4 s, j_ref, j_ari, j_arb, j_arr, j_len, j_nar, j_oi, j_ol, j_of, j_od, j_or, j_ov, true_and, and_true]
      exact H
  have mid : ∀ {G : j_G} {x3 : Int32}, j_clo (j_Met l D bs E (d + 1)) E Q m_X1_acknowledgmentTick G → Q (.inl (some (.int (lX L 11 + lX L 7 + (if lDvd (lF L f 5) (lF L f 9) = true then lF L f 6 else 0))))) h → G 44 [.ref a, .int (nI f), .int (lF L f 9), .int x3, .int (lF L f 5), j_u] [] h := by
    intro G x3 hG H
    refine b_X1_acknowledgmentTick_44 hG ?_
    dsimp only [q_X1_acknowledgmentTick_44, j_wp, j_opB, j_opA, j_nth, j_i1, j_i2, j_l1, j_l2, j_li, j_f1, j_f2, j_d1, j_d2, j_r1, j_ai, j_aii, j_ail, j_aid, j_air, j_st1, j_st2, j_stu, j_kl, j_cond, j_args, j_out, j_few, j_cw, j_nat, j_pad, j_exp, Nat.reduceAdd]
    split
    · rename_i g
      refine ⟨fun z => by rw [z] at g; exact absurd g (by decide), ?_⟩
      split
      · rename_i g2
        rw [lDvd_t g g2, if_pos rfl] at H
        exact fin hG (by rw [if_neg (by decide)]; exact H)
      · rename_i g2
        rw [lDvd_f2 g2, if_neg (by decide)] at H
        refine b_X1_acknowledgmentTick_60 hG ?_
        dsimp only [q_X1_acknowledgmentTick_60, j_wp, j_opB, j_opA, j_nth, j_i1, j_i2, j_l1, j_l2, j_li, j_f1, j_f2, j_d1, j_d2, j_r1, j_ai, j_aii, j_ail, j_aid, j_air, j_st1, j_st2, j_stu, j_kl, j_cond, j_args, j_out, j_few, j_cw, j_nat, j_pad, j_exp, Nat.reduceAdd]
        exact fin hG (by rw [if_pos rfl]; exact H)
    · rename_i g
      rw [lDvd_f1 g, if_neg (by decide)] at H
      refine b_X1_acknowledgmentTick_60 hG ?_
      dsimp only [q_X1_acknowledgmentTick_60, j_wp, j_opB, j_opA, j_nth, j_i1, j_i2, j_l1, j_l2, j_li, j_f1, j_f2, j_d1, j_d2, j_r1, j_ai, j_aii, j_ail, j_aid, j_air, j_st1, j_st2, j_stu, j_kl, j_cond, j_args, j_out, j_few, j_cw, j_nat, j_pad, j_exp, Nat.reduceAdd]
      exact fin hG (by rw [if_pos rfl]; exact H)
  refine j_meth hl rfl g_X1_acknowledgmentTick (Nat.le_of_ble_eq_true rfl) (fun _ => ⟨_, _, rfl, (LQ_sh s)⟩) hB.1 hB.2 (fun G hG => ?_)
  refine b_X1_acknowledgmentTick_0 hG ?_
  dsimp only [q_X1_acknowledgmentTick_0, j_wp, j_opB, j_opA, j_nth, j_i1, j_i2, j_l1, j_l2, j_li, j_f1, j_f2, j_d1, j_d2, j_r1, j_ai, j_aii, j_ail, j_aid, j_air, j_st1, j_st2, j_stu, j_kl, j_cond, j_args, j_out, j_few, j_cw, j_nat, j_pad, j_exp, Nat.reduceAdd]
  simp only [LQ_sh s, LQ_R0 s, LQ_R1 s, LQ_R2 s, LQ_R3 s, LQ_R4 s, j_ref, j_ari, j_arb, j_arr, j_len, j_nar, j_oi, j_ol, j_of, j_od, j_or, j_ov, true_and, and_true]
  refine lf_get hl s hf (k := 9) (by omega) ?_
  simp only [LQ_sh s, LQ_R0 s, LQ_R1 s, LQ_R2 s, LQ_R3 s, LQ_R4 s, j_ref, j_ari, j_arb, j_arr, j_len, j_nar, j_oi, j_ol, j_of, j_od, j_or, j_ov, true_and, and_true]
  refine lf_get hl s hf (k := 4) (by omega) ?_
  simp only [LQ_sh s, LQ_R0 s, LQ_R1 s, LQ_R2 s, LQ_R3 s, LQ_R4 s, j_ref, j_ari, j_arb, j_arr, j_len, j_nar, j_oi, j_ol, j_of, j_od, j_or, j_ov, true_and, and_true]
  refine lf_get hl s hf (k := 5) (by omega) ?_
  simp only [LQ_sh s, LQ_R0 s, LQ_R1 s, LQ_R2 s, LQ_R3 s, LQ_R4 s, j_ref, j_ari, j_arb, j_arr, j_len, j_nar, j_oi, j_ol, j_of, j_od, j_or, j_ov, true_and, and_true]
  split
  · rename_i g
    refine ⟨fun z => by rw [z] at g; exact absurd g (by decide), ?_⟩
    split
    · rename_i g2
      rw [lDvd_t g g2, if_pos rfl] at H
      exact H
    · rename_i g2
      rw [lDvd_f2 g2, if_neg (by decide)] at H
      exact mid hG H
  · rename_i g
    rw [lDvd_f1 g, if_neg (by decide)] at H
    exact mid hG H
/-- the packet before p in the queue that begins at x; b is before x -/
def lWalk (L : Lnk) (p : Nat) : Nat → Int32 → Int32 → Int32
  | 0, b, _ => b
  | n + 1, b, x => if x = nI p then b else lWalk L p n x (lP L x.toNatClampNeg 9)
/-- the queue from x on is in order up to p -/
def lOk (L : Lnk) (p : Nat) : Nat → Int32 → Prop
  | 0, _ => True
  | n + 1, x => x = nI p ∨ ∃ q, q < 100 ∧ x = nI q ∧ lOk L p n (lP L q 9)
theorem lWalk_ix {L : Lnk} {p : Nat} : ∀ {n : Nat} {b x : Int32}, ix 100 b → lOk L p n x → ix 100 (lWalk L p n b x) := by
  intro n
  induction n with
  | zero => intro b x hb _; exact hb
  | succ n ih =>
    intro b x hb hx
    unfold lWalk
    split
    · exact hb
    · rename_i g
      rcases hx with hx | ⟨q, hq, rfl, hx⟩
      · exact absurd hx g
      · rw [nI_clamp (by omega)]
        exact ih (Or.inr ⟨q, hq, rfl⟩) hx
def lLeave (L : Lnk) (f p : Nat) : Lnk :=
  let b := lWalk L p 100 (-1) (lF L f 17)
  let z := lP L p 9
  let L1 := if b = -1 then lsF L f 17 z else lsP L b.toNatClampNeg 9 z
  let L2 := if z = -1 then lsF L1 f 18 b else L1
  lCount L2 f p (-1)
theorem sp_X1_leaveQueue (hl : l.stackTraces = false) (s : LQ E h0 a L h) {f p : Nat} (hf : f < 6) (hp : p < 100) (hok : lOk L p 100 (lF L f 17)) (H : ∀ h', LQ E h0 a (lLeave L f p) h' → Q (.inl none) h') : j_Met l D bs E (d + 3) n_X1_leaveQueue [.ref a, .int (nI f), .int (nI p)] h Q := by
  have hB := s.2.2
  dsimp only [lLeave] at H
  have hbx : ix 100 (lWalk L p 100 (-1) (lF L f 17)) := lWalk_ix (Or.inl rfl) hok
  generalize hbb : lWalk L p 100 (-1) (lF L f 17) = bb at H hbx
  have last : ∀ {G : j_G} {x4 : Int32} {L2 : Lnk} {h2 : j_H}, j_clo (j_Met l D bs E (d + 2)) E Q m_X1_leaveQueue G → LQ E h0 a L2 h2 → (∀ h', LQ E h0 a (lCount (if lP L p 9 = -1 then lsF L2 f 18 bb else L2) f p (-1)) h' → Q (.inl none) h') → G 96 [.ref a, .int (nI f), .int (nI p), .int bb, .int x4, .int (lP L p 9)] [] h2 := by
    intro G x4 L2 h2 hG s2 H
    refine b_X1_leaveQueue_96 hG ?_
    dsimp only [q_X1_leaveQueue_96, j_wp, j_opB, j_opA, j_nth, j_i1, j_i2, j_l1, j_l2, j_li, j_f1, j_f2, j_d1, j_d2, j_r1, j_ai, j_aii, j_ail, j_aid, j_air, j_st1, j_st2, j_stu, j_kl, j_cond, j_args, j_out, j_few, j_cw, j_nat, j_pad, j_exp, Nat.reduceAdd]
    split
    · rename_i g
      rw [if_pos g] at H
      simp only [LQ_sh s2, LQ_R0 s2, LQ_R1 s2, LQ_R2 s2, LQ_R3 s2, LQ_R4 s2, j_ref, j_ari, j_arb, j_arr, j_len, j_nar, j_oi, j_ol, j_of, j_od, j_or, j_ov, true_and, and_true]
      refine lf_set hl s2 hf (k := 18) (by omega) (fun h3 s3 => ?_)
      simp only [LQ_sh s3, LQ_R0 s3, LQ_R1 s3, LQ_R2 s3, LQ_R3 s3, LQ_R4 s3, j_ref, j_ari, j_arb, j_arr, j_len, j_nar, j_oi, j_ol, j_of, j_od, j_or, j_ov, true_and, and_true]
      refine b_X1_leaveQueue_113 hG ?_
      dsimp only [q_X1_leaveQueue_113, j_wp, j_opB, j_opA, j_nth, j_i1, j_i2, j_l1, j_l2, j_li, j_f1, j_f2, j_d1, j_d2, j_r1, j_ai, j_aii, j_ail, j_aid, j_air, j_st1, j_st2, j_stu, j_kl, j_cond, j_args, j_out, j_few, j_cw, j_nat, j_pad, j_exp, Nat.reduceAdd]
      exact sp_X1_countQueued hl s3 hf hp (fun h4 s4 => H h4 s4)
    · rename_i g
      rw [if_neg g] at H
      refine b_X1_leaveQueue_113 hG ?_
      dsimp only [q_X1_leaveQueue_113, j_wp, j_opB, j_opA, j_nth, j_i1, j_i2, j_l1, j_l2, j_li, j_f1, j_f2, j_d1, j_d2, j_r1, j_ai, j_aii, j_ail, j_aid, j_air, j_st1, j_st2, j_stu, j_kl, j_cond, j_args, j_out, j_few, j_cw, j_nat, j_pad, j_exp, Nat.reduceAdd]
      exact sp_X1_countQueued hl s2 hf hp (fun h4 s4 => H h4 s4)
  have behind : ∀ {G : j_G} {x4 x5 : Int32}, j_clo (j_Met l D bs E (d + 2)) E Q m_X1_leaveQueue G → G 52 [.ref a, .int (nI f), .int (nI p), .int bb, .int x4, .int x5] [] h := by
    intro G x4 x5 hG
    refine b_X1_leaveQueue_52 hG ?_
    dsimp only [q_X1_leaveQueue_52, j_wp, j_opB, j_opA, j_nth, j_i1, j_i2, j_l1, j_l2, j_li, j_f1, j_f2, j_d1, j_d2, j_r1, j_ai, j_aii, j_ail, j_aid, j_air, j_st1, j_st2, j_stu, j_kl, j_cond, j_args, j_out, j_few, j_cw, j_nat, j_pad, j_exp, Nat.reduceAdd]
    simp only [LQ_sh s, LQ_R0 s, LQ_R1 s, LQ_R2 s, LQ_R3 s, LQ_R4 s, j_ref, j_ari, j_arb, j_arr, j_len, j_nar, j_oi, j_ol, j_of, j_od, j_or, j_ov, true_and, and_true]
    refine lp_get hl s hp (k := 9) (by omega) ?_
    simp only [LQ_sh s, LQ_R0 s, LQ_R1 s, LQ_R2 s, LQ_R3 s, LQ_R4 s, j_ref, j_ari, j_arb, j_arr, j_len, j_nar, j_oi, j_ol, j_of, j_od, j_or, j_ov, true_and, and_true]
    rcases hbx with hb | ⟨q, hq, hb⟩
    · rw [if_pos hb]
      rw [if_pos hb] at H
      refine lf_set hl s hf (k := 17) (by omega) (fun h2 s2 => ?_)
      simp only [LQ_sh s2, LQ_R0 s2, LQ_R1 s2, LQ_R2 s2, LQ_R3 s2, LQ_R4 s2, j_ref, j_ari, j_arb, j_arr, j_len, j_nar, j_oi, j_ol, j_of, j_od, j_or, j_ov, true_and, and_true]
      exact last hG s2 H
    · have hb1 : ¬ bb = -1 := by rw [hb]; exact nI_ne1 (by omega)
      rw [if_neg hb1]
      rw [if_neg hb1, show bb.toNatClampNeg = q by rw [hb]; exact nI_clamp (by omega)] at H
      refine b_X1_leaveQueue_84 hG ?_
      dsimp only [q_X1_leaveQueue_84, j_wp, j_opB, j_opA, j_nth, j_i1, j_i2, j_l1, j_l2, j_li, j_f1, j_f2, j_d1, j_d2, j_r1, j_ai, j_aii, j_ail, j_aid, j_air, j_st1, j_st2, j_stu, j_kl, j_cond, j_args, j_out, j_few, j_cw, j_nat, j_pad, j_exp, Nat.reduceAdd]
      simp only [LQ_sh s, LQ_R0 s, LQ_R1 s, LQ_R2 s, LQ_R3 s, LQ_R4 s, j_ref, j_ari, j_arb, j_arr, j_len, j_nar, j_oi, j_ol, j_of, j_od, j_or, j_ov, true_and, and_true]
      have e : (Value.int bb) = .int (nI q) := by rw [hb]
      rw [e]
      refine lp_set hl s hq (k := 9) (by omega) (fun h2 s2 => ?_)
      simp only [LQ_sh s2, LQ_R0 s2, LQ_R1 s2, LQ_R2 s2, LQ_R3 s2, LQ_R4 s2, j_ref, j_ari, j_arb, j_arr, j_len, j_nar, j_oi, j_ol, j_of, j_od, j_or, j_ov, true_and, and_true]
      rw [← e]
      exact last hG s2 H
  have loop : ∀ {G : j_G}, j_clo (j_Met l D bs E (d + 2)) E Q m_X1_leaveQueue G → ∀ (n i : Nat) (b x : Int32), i + n = 100 → lOk L p n x → lWalk L p n b x = bb → G 17 [.ref a, .int (nI f), .int (nI p), .int b, .int x, .int (nI i)] [] h := by
    intro G hG n
    induction n with
    | zero =>
      intro i b x hi _ hw
      have e : b = bb := hw
      subst e
      refine b_X1_leaveQueue_17 hG ?_
      dsimp only [q_X1_leaveQueue_17, j_wp, j_opB, j_opA, j_nth, j_i1, j_i2, j_l1, j_l2, j_li, j_f1, j_f2, j_d1, j_d2, j_r1, j_ai, j_aii, j_ail, j_aid, j_air, j_st1, j_st2, j_stu, j_kl, j_cond, j_args, j_out, j_few, j_cw, j_nat, j_pad, j_exp, Nat.reduceAdd]
      rw [if_neg (show ¬ nI i < 100 from nI_nlt (b := 100) (by omega) (by omega))]
      exact behind hG
    | succ n ih =>
      intro i b x hi hx hw
      refine b_X1_leaveQueue_17 hG ?_
      dsimp only [q_X1_leaveQueue_17, j_wp, j_opB, j_opA, j_nth, j_i1, j_i2, j_l1, j_l2, j_li, j_f1, j_f2, j_d1, j_d2, j_r1, j_ai, j_aii, j_ail, j_aid, j_air, j_st1, j_st2, j_stu, j_kl, j_cond, j_args, j_out, j_few, j_cw, j_nat, j_pad, j_exp, Nat.reduceAdd]
      rw [if_pos (show nI i < 100 from nI_lt (b := 100) (by omega) (by omega))]
      unfold lWalk at hw
      split
      · rename_i g
        rw [if_pos g] at hw
        rw [hw]
        exact behind hG
      · rename_i g
        rw [if_neg g] at hw
        rcases hx with hx | ⟨q, hq, rfl, hx⟩
        · exact absurd hx g
        · simp only [LQ_sh s, LQ_R0 s, LQ_R1 s, LQ_R2 s, LQ_R3 s, LQ_R4 s, j_ref, j_ari, j_arb, j_arr, j_len, j_nar, j_oi, j_ol, j_of, j_od, j_or, j_ov, true_and, and_true]
          rw [nI_clamp (by omega)] at hw
          refine lp_get hl s hq (k := 9) (by omega) ?_
          simp only [LQ_sh s, LQ_R0 s, LQ_R1 s, LQ_R2 s, LQ_R3 s, LQ_R4 s, j_ref, j_ari, j_arb, j_arr, j_len, j_nar, j_oi, j_ol, j_of, j_od, j_or, j_ov, true_and, and_true]
          rw [nI_1]
          exact ih (i + 1) _ _ (by omega) hx hw
  refine j_meth hl rfl g_X1_leaveQueue (Nat.le_of_ble_eq_true rfl) (fun _ => ⟨_, _, rfl, (LQ_sh s)⟩) hB.1 hB.2 (fun G hG => ?_)
  refine b_X1_leaveQueue_0 hG ?_
  dsimp only [q_X1_leaveQueue_0, j_wp, j_opB, j_opA, j_nth, j_i1, j_i2, j_l1, j_l2, j_li, j_f1, j_f2, j_d1, j_d2, j_r1, j_ai, j_aii, j_ail, j_aid, j_air, j_st1, j_st2, j_stu, j_kl, j_cond, j_args, j_out, j_few, j_cw, j_nat, j_pad, j_exp, Nat.reduceAdd]
  simp only [LQ_sh s, LQ_R0 s, LQ_R1 s, LQ_R2 s, LQ_R3 s, LQ_R4 s, j_ref, j_ari, j_arb, j_arr, j_len, j_nar, j_oi, j_ol, j_of, j_od, j_or, j_ov, true_and, and_true]
  refine lf_get hl s hf (k := 17) (by omega) ?_
  simp only [LQ_sh s, LQ_R0 s, LQ_R1 s, LQ_R2 s, LQ_R3 s, LQ_R4 s, j_ref, j_ari, j_arb, j_arr, j_len, j_nar, j_oi, j_ol, j_of, j_od, j_or, j_ov, true_and, and_true]
  exact loop hG 100 0 (-1) _ rfl hok hbb
def lAck (L : Lnk) (n p f : Nat) : Lnk :=
  let L1 := if lS L n 3 = 2 then lsS L n 3 3 else lsF (lsS L n 3 1) f 16 (lF (lsS L n 3 1) f 16 + (-1))
  if lP L p 3 = 2 then lRefund (lsF L1 f 12 (lF L1 f 12 + 1)) f n
  else
    let L2 := if lP L p 3 = 0 then lLeave L1 f p else if lP L p 3 = 3 then lsF L1 f 14 (lF L1 f 14 + (-1)) else L1
    let L3 := lDeliver L2 f p
    if lS L3 n 4 = 0 then
      let L4 := lsF L3 f 13 (lF L3 f 13 + 1)
      let L5 := lsS L4 n 4 1
      lsV L5 f (lV L5 f + (lS L5 n 5).toInt64)
    else L3
theorem lOk_lS {L : Lnk} {p n r k : Nat} {v : Int32} : ∀ {x : Int32}, lOk L p n x → lOk (lsS L r k v) p n x := by
  induction n with
  | zero => intro x _; trivial
  | succ n ih =>
    intro x hx
    rcases hx with hx | ⟨q, hq, rfl, hx⟩
    · exact Or.inl hx
    · exact Or.inr ⟨q, hq, rfl, ih hx⟩
theorem lOk_lF {L : Lnk} {p n r k : Nat} {v : Int32} : ∀ {x : Int32}, lOk L p n x → lOk (lsF L r k v) p n x := by
  induction n with
  | zero => intro x _; trivial
  | succ n ih =>
    intro x hx
    rcases hx with hx | ⟨q, hq, rfl, hx⟩
    · exact Or.inl hx
    · exact Or.inr ⟨q, hq, rfl, ih hx⟩
theorem sp_X1_acknowledge (hl : l.stackTraces = false) (s : LQ E h0 a L h) {n p f : Nat} (hn : n < 300) (hp : p < 100) (hf : f < 6) (hpn : lS L n 0 = nI p) (hfp : lP L p 0 = nI f) (hok : lP L p 3 = 0 → lOk L p 100 (lF L f 17)) (H : ∀ h', LQ E h0 a (lAck L n p f) h' → Q (.inl none) h') : j_Met l D bs E (d + 4) n_X1_acknowledge [.ref a, .int (nI n)] h Q := by
  have hB := s.2.2
  dsimp only [lAck] at H
  have fin : ∀ {G : j_G} {L2 : Lnk} {h2 : j_H}, j_clo (j_Met l D bs E (d + 3)) E Q m_X1_acknowledge G → LQ E h0 a L2 h2 → (∀ h', LQ E h0 a (if lS (lDeliver L2 f p) n 4 = 0 then lsV (lsS (lsF (lDeliver L2 f p) f 13 (lF (lDeliver L2 f p) f 13 + 1)) n 4 1) f (lV (lsS (lsF (lDeliver L2 f p) f 13 (lF (lDeliver L2 f p) f 13 + 1)) n 4 1) f + (lS (lsS (lsF (lDeliver L2 f p) f 13 (lF (lDeliver L2 f p) f 13 + 1)) n 4 1) n 5).toInt64) else lDeliver L2 f p) h' → Q (.inl none) h') → G 133 [.ref a, .int (nI n), .int (nI p), .int (nI f), .int (lP L p 3)] [] h2 := by
    intro G L2 h2 hG s2 H
    refine b_X1_acknowledge_133 hG ?_
    dsimp only [q_X1_acknowledge_133, j_wp, j_opB, j_opA, j_nth, j_i1, j_i2, j_l1, j_l2, j_li, j_f1, j_f2, j_d1, j_d2, j_r1, j_ai, j_aii, j_ail, j_aid, j_air, j_st1, j_st2, j_stu, j_kl, j_cond, j_args, j_out, j_few, j_cw, j_nat, j_pad, j_exp, Nat.reduceAdd]
    refine sp_X1_deliver hl s2 hf hp (fun h3 s3 => ?_)
    simp only [LQ_sh s3, LQ_R0 s3, LQ_R1 s3, LQ_R2 s3, LQ_R3 s3, LQ_R4 s3, j_ref, j_ari, j_arb, j_arr, j_len, j_nar, j_oi, j_ol, j_of, j_od, j_or, j_ov, true_and, and_true]
    refine ls_get hl s3 hn (k := 4) (by omega) ?_
    simp only [LQ_sh s3, LQ_R0 s3, LQ_R1 s3, LQ_R2 s3, LQ_R3 s3, LQ_R4 s3, j_ref, j_ari, j_arb, j_arr, j_len, j_nar, j_oi, j_ol, j_of, j_od, j_or, j_ov, true_and, and_true]
    split
    · rename_i g
      rw [if_pos g] at H
      refine lf_add hl s3 hf (k := 13) (by omega) (fun h4 s4 => ?_)
      simp only [LQ_sh s4, LQ_R0 s4, LQ_R1 s4, LQ_R2 s4, LQ_R3 s4, LQ_R4 s4, j_ref, j_ari, j_arb, j_arr, j_len, j_nar, j_oi, j_ol, j_of, j_od, j_or, j_ov, true_and, and_true]
      refine ls_set hl s4 hn (k := 4) (by omega) (fun h5 s5 => ?_)
      simp only [LQ_sh s5, LQ_R0 s5, LQ_R1 s5, LQ_R2 s5, LQ_R3 s5, LQ_R4 s5, j_ref, j_ari, j_arb, j_arr, j_len, j_nar, j_oi, j_ol, j_of, j_od, j_or, j_ov, true_and, and_true]
      refine lz_get hl s5 hf ?_
      simp only [LQ_sh s5, LQ_R0 s5, LQ_R1 s5, LQ_R2 s5, LQ_R3 s5, LQ_R4 s5, j_ref, j_ari, j_arb, j_arr, j_len, j_nar, j_oi, j_ol, j_of, j_od, j_or, j_ov, true_and, and_true]
      refine ls_get hl s5 hn (k := 5) (by omega) ?_
      simp only [LQ_sh s5, LQ_R0 s5, LQ_R1 s5, LQ_R2 s5, LQ_R3 s5, LQ_R4 s5, j_ref, j_ari, j_arb, j_arr, j_len, j_nar, j_oi, j_ol, j_of, j_od, j_or, j_ov, true_and, and_true]
      refine lz_put hl s5 hf (fun h6 s6 => ?_)
      simp only [LQ_sh s6, LQ_R0 s6, LQ_R1 s6, LQ_R2 s6, LQ_R3 s6, LQ_R4 s6, j_ref, j_ari, j_arb, j_arr, j_len, j_nar, j_oi, j_ol, j_of, j_od, j_or, j_ov, true_and, and_true]
      refine b_X1_acknowledge_193 hG ?_
      dsimp only [q_X1_acknowledge_193, j_wp, j_opB, j_opA, j_nth, j_i1, j_i2, j_l1, j_l2, j_li, j_f1, j_f2, j_d1, j_d2, j_r1, j_ai, j_aii, j_ail, j_aid, j_air, j_st1, j_st2, j_stu, j_kl, j_cond, j_args, j_out, j_few, j_cw, j_nat, j_pad, j_exp, Nat.reduceAdd]
      exact H h6 s6
    · rename_i g
      rw [if_neg g] at H
      refine b_X1_acknowledge_193 hG ?_
      dsimp only [q_X1_acknowledge_193, j_wp, j_opB, j_opA, j_nth, j_i1, j_i2, j_l1, j_l2, j_li, j_f1, j_f2, j_d1, j_d2, j_r1, j_ai, j_aii, j_ail, j_aid, j_air, j_st1, j_st2, j_stu, j_kl, j_cond, j_args, j_out, j_few, j_cw, j_nat, j_pad, j_exp, Nat.reduceAdd]
      exact H h3 s3
  have mid : ∀ {G : j_G} {L1 : Lnk} {h1 : j_H}, j_clo (j_Met l D bs E (d + 3)) E Q m_X1_acknowledge G → LQ E h0 a L1 h1 → (lP L p 3 = 0 → lOk L1 p 100 (lF L1 f 17)) → (∀ h', LQ E h0 a (if lP L p 3 = 2 then lRefund (lsF L1 f 12 (lF L1 f 12 + 1)) f n else (let L2 := if lP L p 3 = 0 then lLeave L1 f p else if lP L p 3 = 3 then lsF L1 f 14 (lF L1 f 14 + (-1)) else L1
      if lS (lDeliver L2 f p) n 4 = 0 then lsV (lsS (lsF (lDeliver L2 f p) f 13 (lF (lDeliver L2 f p) f 13 + 1)) n 4 1) f (lV (lsS (lsF (lDeliver L2 f p) f 13 (lF (lDeliver L2 f p) f 13 + 1)) n 4 1) f + (lS (lsS (lsF (lDeliver L2 f p) f 13 (lF (lDeliver L2 f p) f 13 + 1)) n 4 1) n 5).toInt64) else lDeliver L2 f p)) h' → Q (.inl none) h') → G 78 [.ref a, .int (nI n), .int (nI p), .int (nI f), .int (lP L p 3)] [] h1 := by
    intro G L1 h1 hG s1 hok1 H
    dsimp only at H
    refine b_X1_acknowledge_78 hG ?_
    dsimp only [q_X1_acknowledge_78, j_wp, j_opB, j_opA, j_nth, j_i1, j_i2, j_l1, j_l2, j_li, j_f1, j_f2, j_d1, j_d2, j_r1, j_ai, j_aii, j_ail, j_aid, j_air, j_st1, j_st2, j_stu, j_kl, j_cond, j_args, j_out, j_few, j_cw, j_nat, j_pad, j_exp, Nat.reduceAdd]
    split
    · rename_i g
      rw [if_pos g] at H
      simp only [LQ_sh s1, LQ_R0 s1, LQ_R1 s1, LQ_R2 s1, LQ_R3 s1, LQ_R4 s1, j_ref, j_ari, j_arb, j_arr, j_len, j_nar, j_oi, j_ol, j_of, j_od, j_or, j_ov, true_and, and_true]
      refine lf_add hl s1 hf (k := 12) (by omega) (fun h2 s2 => ?_)
      simp only [LQ_sh s2, LQ_R0 s2, LQ_R1 s2, LQ_R2 s2, LQ_R3 s2, LQ_R4 s2, j_ref, j_ari, j_arb, j_arr, j_len, j_nar, j_oi, j_ol, j_of, j_od, j_or, j_ov, true_and, and_true]
      exact sp_X1_refund hl s2 hf hn (fun h3 s3 => H h3 s3)
    · rename_i g
      rw [if_neg g] at H
      refine b_X1_acknowledge_102 hG ?_
      dsimp only [q_X1_acknowledge_102, j_wp, j_opB, j_opA, j_nth, j_i1, j_i2, j_l1, j_l2, j_li, j_f1, j_f2, j_d1, j_d2, j_r1, j_ai, j_aii, j_ail, j_aid, j_air, j_st1, j_st2, j_stu, j_kl, j_cond, j_args, j_out, j_few, j_cw, j_nat, j_pad, j_exp, Nat.reduceAdd]
      split
      · rename_i g2
        rw [if_pos g2] at H
        refine sp_X1_leaveQueue hl s1 hf hp (hok1 g2) (fun h2 s2 => ?_)
        simp only [LQ_sh s2, LQ_R0 s2, LQ_R1 s2, LQ_R2 s2, LQ_R3 s2, LQ_R4 s2, j_ref, j_ari, j_arb, j_arr, j_len, j_nar, j_oi, j_ol, j_of, j_od, j_or, j_ov, true_and, and_true]
        exact fin hG s2 H
      · rename_i g2
        rw [if_neg g2] at H
        refine b_X1_acknowledge_116 hG ?_
        dsimp only [q_X1_acknowledge_116, j_wp, j_opB, j_opA, j_nth, j_i1, j_i2, j_l1, j_l2, j_li, j_f1, j_f2, j_d1, j_d2, j_r1, j_ai, j_aii, j_ail, j_aid, j_air, j_st1, j_st2, j_stu, j_kl, j_cond, j_args, j_out, j_few, j_cw, j_nat, j_pad, j_exp, Nat.reduceAdd]
        split
        · rename_i g3
          rw [if_pos g3] at H
          simp only [LQ_sh s1, LQ_R0 s1, LQ_R1 s1, LQ_R2 s1, LQ_R3 s1, LQ_R4 s1, j_ref, j_ari, j_arb, j_arr, j_len, j_nar, j_oi, j_ol, j_of, j_od, j_or, j_ov, true_and, and_true]
          refine lf_add hl s1 hf (k := 14) (by omega) (fun h2 s2 => ?_)
          simp only [LQ_sh s2, LQ_R0 s2, LQ_R1 s2, LQ_R2 s2, LQ_R3 s2, LQ_R4 s2, j_ref, j_ari, j_arb, j_arr, j_len, j_nar, j_oi, j_ol, j_of, j_od, j_or, j_ov, true_and, and_true]
          exact fin hG s2 H
        · rename_i g3
          rw [if_neg g3] at H
          exact fin hG s1 H
  refine j_meth hl rfl g_X1_acknowledge (Nat.le_of_ble_eq_true rfl) (fun _ => ⟨_, _, rfl, (LQ_sh s)⟩) hB.1 hB.2 (fun G hG => ?_)
  refine b_X1_acknowledge_0 hG ?_
  dsimp only [q_X1_acknowledge_0, j_wp, j_opB, j_opA, j_nth, j_i1, j_i2, j_l1, j_l2, j_li, j_f1, j_f2, j_d1, j_d2, j_r1, j_ai, j_aii, j_ail, j_aid, j_air, j_st1, j_st2, j_stu, j_kl, j_cond, j_args, j_out, j_few, j_cw, j_nat, j_pad, j_exp, Nat.reduceAdd]
  simp only [LQ_sh s, LQ_R0 s, LQ_R1 s, LQ_R2 s, LQ_R3 s, LQ_R4 s, j_ref, j_ari, j_arb, j_arr, j_len, j_nar, j_oi, j_ol, j_of, j_od, j_or, j_ov, true_and, and_true]
  refine ls_get hl s hn (k := 0) (by omega) ?_
  simp only [LQ_sh s, LQ_R0 s, LQ_R1 s, LQ_R2 s, LQ_R3 s, LQ_R4 s, j_ref, j_ari, j_arb, j_arr, j_len, j_nar, j_oi, j_ol, j_of, j_od, j_or, j_ov, true_and, and_true, hpn]
  refine lp_get hl s hp (k := 0) (by omega) ?_
  simp only [LQ_sh s, LQ_R0 s, LQ_R1 s, LQ_R2 s, LQ_R3 s, LQ_R4 s, j_ref, j_ari, j_arb, j_arr, j_len, j_nar, j_oi, j_ol, j_of, j_od, j_or, j_ov, true_and, and_true, hfp]
  refine lp_get hl s hp (k := 3) (by omega) ?_
  simp only [LQ_sh s, LQ_R0 s, LQ_R1 s, LQ_R2 s, LQ_R3 s, LQ_R4 s, j_ref, j_ari, j_arb, j_arr, j_len, j_nar, j_oi, j_ol, j_of, j_od, j_or, j_ov, true_and, and_true]
  refine ls_get hl s hn (k := 3) (by omega) ?_
  simp only [LQ_sh s, LQ_R0 s, LQ_R1 s, LQ_R2 s, LQ_R3 s, LQ_R4 s, j_ref, j_ari, j_arb, j_arr, j_len, j_nar, j_oi, j_ol, j_of, j_od, j_or, j_ov, true_and, and_true]
  split
  · rename_i g
    rw [if_pos g] at H
    refine ls_set hl s hn (k := 3) (by omega) (fun h1 s1 => ?_)
    simp only [LQ_sh s1, LQ_R0 s1, LQ_R1 s1, LQ_R2 s1, LQ_R3 s1, LQ_R4 s1, j_ref, j_ari, j_arb, j_arr, j_len, j_nar, j_oi, j_ol, j_of, j_od, j_or, j_ov, true_and, and_true]
    exact mid hG s1 (fun z => lOk_lS (hok z)) H
  · rename_i g
    rw [if_neg g] at H
    refine b_X1_acknowledge_57 hG ?_
    dsimp only [q_X1_acknowledge_57, j_wp, j_opB, j_opA, j_nth, j_i1, j_i2, j_l1, j_l2, j_li, j_f1, j_f2, j_d1, j_d2, j_r1, j_ai, j_aii, j_ail, j_aid, j_air, j_st1, j_st2, j_stu, j_kl, j_cond, j_args, j_out, j_few, j_cw, j_nat, j_pad, j_exp, Nat.reduceAdd]
    simp only [LQ_sh s, LQ_R0 s, LQ_R1 s, LQ_R2 s, LQ_R3 s, LQ_R4 s, j_ref, j_ari, j_arb, j_arr, j_len, j_nar, j_oi, j_ol, j_of, j_od, j_or, j_ov, true_and, and_true]
    refine ls_set hl s hn (k := 3) (by omega) (fun h1 s1 => ?_)
    simp only [LQ_sh s1, LQ_R0 s1, LQ_R1 s1, LQ_R2 s1, LQ_R3 s1, LQ_R4 s1, j_ref, j_ari, j_arb, j_arr, j_len, j_nar, j_oi, j_ol, j_of, j_od, j_or, j_ov, true_and, and_true]
    refine lf_add hl s1 hf (k := 16) (by omega) (fun h2 s2 => ?_)
    simp only [LQ_sh s2, LQ_R0 s2, LQ_R1 s2, LQ_R2 s2, LQ_R3 s2, LQ_R4 s2, j_ref, j_ari, j_arb, j_arr, j_len, j_nar, j_oi, j_ol, j_of, j_od, j_or, j_ov, true_and, and_true]
    exact mid hG s2 (fun z => by
      have h1 := lOk_lF (r := f) (k := 16) (v := lF (lsS L n 3 1) f 16 + (-1)) (lOk_lS (r := n) (k := 3) (v := 1) (hok z))
      have e : lF (lsF (lsS L n 3 1) f 16 (lF (lsS L n 3 1) f 16 + (-1))) f 17 = lF L f 17 := by simp [lF, lsF, lsS, j_up]
      rw [e]
      exact h1) H
def lLose (L : Lnk) (n p f : Nat) : Lnk :=
  let L1 := lsS L n 3 2
  let L2 := lsF L1 f 16 (lF L1 f 16 + (-1))
  let L3 := lsF L2 f 11 (lF L2 f 11 + 1)
  let L4 := lRefund L3 f n
  if lP L4 p 3 = 1 ∧ lP L4 p 10 = nI n then
    if lF L4 f 3 < lP L4 p 4 then lsF (lsP L4 p 3 3) f 14 (lF (lsP L4 p 3 3) f 14 + 1) else lJoinHead (lsP L4 p 3 0) f p
  else L4
theorem sp_X1_declareLost (hl : l.stackTraces = false) (s : LQ E h0 a L h) {n p f : Nat} (hn : n < 300) (hp : p < 100) (hf : f < 6) (hpn : lS L n 0 = nI p) (hfp : lP L p 0 = nI f) (H : ∀ h', LQ E h0 a (lLose L n p f) h' → Q (.inl none) h') : j_Met l D bs E (d + 4) n_X1_declareLost [.ref a, .int (nI n)] h Q := by
  have hB := s.2.2
  dsimp only [lLose] at H
  refine j_meth hl rfl g_X1_declareLost (Nat.le_of_ble_eq_true rfl) (fun _ => ⟨_, _, rfl, (LQ_sh s)⟩) hB.1 hB.2 (fun G hG => ?_)
  refine b_X1_declareLost_0 hG ?_
  dsimp only [q_X1_declareLost_0, j_wp, j_opB, j_opA, j_nth, j_i1, j_i2, j_l1, j_l2, j_li, j_f1, j_f2, j_d1, j_d2, j_r1, j_ai, j_aii, j_ail, j_aid, j_air, j_st1, j_st2, j_stu, j_kl, j_cond, j_args, j_out, j_few, j_cw, j_nat, j_pad, j_exp, Nat.reduceAdd]
  simp only [LQ_sh s, LQ_R0 s, LQ_R1 s, LQ_R2 s, LQ_R3 s, LQ_R4 s, j_ref, j_ari, j_arb, j_arr, j_len, j_nar, j_oi, j_ol, j_of, j_od, j_or, j_ov, true_and, and_true]
  refine ls_get hl s hn (k := 0) (by omega) ?_
  simp only [LQ_sh s, LQ_R0 s, LQ_R1 s, LQ_R2 s, LQ_R3 s, LQ_R4 s, j_ref, j_ari, j_arb, j_arr, j_len, j_nar, j_oi, j_ol, j_of, j_od, j_or, j_ov, true_and, and_true, hpn]
  refine lp_get hl s hp (k := 0) (by omega) ?_
  simp only [LQ_sh s, LQ_R0 s, LQ_R1 s, LQ_R2 s, LQ_R3 s, LQ_R4 s, j_ref, j_ari, j_arb, j_arr, j_len, j_nar, j_oi, j_ol, j_of, j_od, j_or, j_ov, true_and, and_true, hfp]
  refine ls_set hl s hn (k := 3) (by omega) (fun h1 s1 => ?_)
  simp only [LQ_sh s1, LQ_R0 s1, LQ_R1 s1, LQ_R2 s1, LQ_R3 s1, LQ_R4 s1, j_ref, j_ari, j_arb, j_arr, j_len, j_nar, j_oi, j_ol, j_of, j_od, j_or, j_ov, true_and, and_true]
  refine lf_add hl s1 hf (k := 16) (by omega) (fun h2 s2 => ?_)
  simp only [LQ_sh s2, LQ_R0 s2, LQ_R1 s2, LQ_R2 s2, LQ_R3 s2, LQ_R4 s2, j_ref, j_ari, j_arb, j_arr, j_len, j_nar, j_oi, j_ol, j_of, j_od, j_or, j_ov, true_and, and_true]
  refine lf_add hl s2 hf (k := 11) (by omega) (fun h3 s3 => ?_)
  simp only [LQ_sh s3, LQ_R0 s3, LQ_R1 s3, LQ_R2 s3, LQ_R3 s3, LQ_R4 s3, j_ref, j_ari, j_arb, j_arr, j_len, j_nar, j_oi, j_ol, j_of, j_od, j_or, j_ov, true_and, and_true]
  refine sp_X1_refund hl s3 hf hn (fun h4 s4 => ?_)
  generalize lRefund _ f n = L4 at H s4
  simp only [LQ_sh s4, LQ_R0 s4, LQ_R1 s4, LQ_R2 s4, LQ_R3 s4, LQ_R4 s4, j_ref, j_ari, j_arb, j_arr, j_len, j_nar, j_oi, j_ol, j_of, j_od, j_or, j_ov, true_and, and_true]
  refine lp_get hl s4 hp (k := 3) (by omega) ?_
  simp only [LQ_sh s4, LQ_R0 s4, LQ_R1 s4, LQ_R2 s4, LQ_R3 s4, LQ_R4 s4, j_ref, j_ari, j_arb, j_arr, j_len, j_nar, j_oi, j_ol, j_of, j_od, j_or, j_ov, true_and, and_true]
  split
  · rename_i g
    refine lp_get hl s4 hp (k := 10) (by omega) ?_
    simp only [LQ_sh s4, LQ_R0 s4, LQ_R1 s4, LQ_R2 s4, LQ_R3 s4, LQ_R4 s4, j_ref, j_ari, j_arb, j_arr, j_len, j_nar, j_oi, j_ol, j_of, j_od, j_or, j_ov, true_and, and_true]
    split
    · rename_i g2
      rw [if_pos ⟨g, g2⟩] at H
      refine b_X1_declareLost_86 hG ?_
      dsimp only [q_X1_declareLost_86, j_wp, j_opB, j_opA, j_nth, j_i1, j_i2, j_l1, j_l2, j_li, j_f1, j_f2, j_d1, j_d2, j_r1, j_ai, j_aii, j_ail, j_aid, j_air, j_st1, j_st2, j_stu, j_kl, j_cond, j_args, j_out, j_few, j_cw, j_nat, j_pad, j_exp, Nat.reduceAdd]
      simp only [LQ_sh s4, LQ_R0 s4, LQ_R1 s4, LQ_R2 s4, LQ_R3 s4, LQ_R4 s4, j_ref, j_ari, j_arb, j_arr, j_len, j_nar, j_oi, j_ol, j_of, j_od, j_or, j_ov, true_and, and_true]
      refine lp_get hl s4 hp (k := 4) (by omega) ?_
      simp only [LQ_sh s4, LQ_R0 s4, LQ_R1 s4, LQ_R2 s4, LQ_R3 s4, LQ_R4 s4, j_ref, j_ari, j_arb, j_arr, j_len, j_nar, j_oi, j_ol, j_of, j_od, j_or, j_ov, true_and, and_true]
      refine lf_get hl s4 hf (k := 3) (by omega) ?_
      simp only [LQ_sh s4, LQ_R0 s4, LQ_R1 s4, LQ_R2 s4, LQ_R3 s4, LQ_R4 s4, j_ref, j_ari, j_arb, j_arr, j_len, j_nar, j_oi, j_ol, j_of, j_od, j_or, j_ov, true_and, and_true]
      split
      · rename_i g3
        rw [if_pos g3] at H
        refine b_X1_declareLost_126 hG ?_
        dsimp only [q_X1_declareLost_126, j_wp, j_opB, j_opA, j_nth, j_i1, j_i2, j_l1, j_l2, j_li, j_f1, j_f2, j_d1, j_d2, j_r1, j_ai, j_aii, j_ail, j_aid, j_air, j_st1, j_st2, j_stu, j_kl, j_cond, j_args, j_out, j_few, j_cw, j_nat, j_pad, j_exp, Nat.reduceAdd]
        simp only [LQ_sh s4, LQ_R0 s4, LQ_R1 s4, LQ_R2 s4, LQ_R3 s4, LQ_R4 s4, j_ref, j_ari, j_arb, j_arr, j_len, j_nar, j_oi, j_ol, j_of, j_od, j_or, j_ov, true_and, and_true]
        refine lp_set hl s4 hp (k := 3) (by omega) (fun h5 s5 => ?_)
        simp only [LQ_sh s5, LQ_R0 s5, LQ_R1 s5, LQ_R2 s5, LQ_R3 s5, LQ_R4 s5, j_ref, j_ari, j_arb, j_arr, j_len, j_nar, j_oi, j_ol, j_of, j_od, j_or, j_ov, true_and, and_true]
        refine lf_add hl s5 hf (k := 14) (by omega) (fun h6 s6 => ?_)
        simp only [LQ_sh s6, LQ_R0 s6, LQ_R1 s6, LQ_R2 s6, LQ_R3 s6, LQ_R4 s6, j_ref, j_ari, j_arb, j_arr, j_len, j_nar, j_oi, j_ol, j_of, j_od, j_or, j_ov, true_and, and_true]
        refine b_X1_declareLost_147 hG ?_
        dsimp only [q_X1_declareLost_147, j_wp, j_opB, j_opA, j_nth, j_i1, j_i2, j_l1, j_l2, j_li, j_f1, j_f2, j_d1, j_d2, j_r1, j_ai, j_aii, j_ail, j_aid, j_air, j_st1, j_st2, j_stu, j_kl, j_cond, j_args, j_out, j_few, j_cw, j_nat, j_pad, j_exp, Nat.reduceAdd]
        exact H h6 s6
      · rename_i g3
        rw [if_neg g3] at H
        refine lp_set hl s4 hp (k := 3) (by omega) (fun h5 s5 => ?_)
        simp only [LQ_sh s5, LQ_R0 s5, LQ_R1 s5, LQ_R2 s5, LQ_R3 s5, LQ_R4 s5, j_ref, j_ari, j_arb, j_arr, j_len, j_nar, j_oi, j_ol, j_of, j_od, j_or, j_ov, true_and, and_true]
        refine sp_X1_joinHead hl s5 hf hp (fun h6 s6 => ?_)
        simp only [LQ_sh s6, LQ_R0 s6, LQ_R1 s6, LQ_R2 s6, LQ_R3 s6, LQ_R4 s6, j_ref, j_ari, j_arb, j_arr, j_len, j_nar, j_oi, j_ol, j_of, j_od, j_or, j_ov, true_and, and_true]
        refine b_X1_declareLost_147 hG ?_
        dsimp only [q_X1_declareLost_147, j_wp, j_opB, j_opA, j_nth, j_i1, j_i2, j_l1, j_l2, j_li, j_f1, j_f2, j_d1, j_d2, j_r1, j_ai, j_aii, j_ail, j_aid, j_air, j_st1, j_st2, j_stu, j_kl, j_cond, j_args, j_out, j_few, j_cw, j_nat, j_pad, j_exp, Nat.reduceAdd]
        exact H h6 s6
    · rename_i g2
      rw [if_neg (fun z => g2 z.2)] at H
      refine b_X1_declareLost_85 hG ?_
      dsimp only [q_X1_declareLost_85, j_wp, j_opB, j_opA, j_nth, j_i1, j_i2, j_l1, j_l2, j_li, j_f1, j_f2, j_d1, j_d2, j_r1, j_ai, j_aii, j_ail, j_aid, j_air, j_st1, j_st2, j_stu, j_kl, j_cond, j_args, j_out, j_few, j_cw, j_nat, j_pad, j_exp, Nat.reduceAdd]
      exact H h4 s4
  · rename_i g
    rw [if_neg (fun z => g z.1)] at H
    refine b_X1_declareLost_85 hG ?_
    dsimp only [q_X1_declareLost_85, j_wp, j_opB, j_opA, j_nth, j_i1, j_i2, j_l1, j_l2, j_li, j_f1, j_f2, j_d1, j_d2, j_r1, j_ai, j_aii, j_ail, j_aid, j_air, j_st1, j_st2, j_stu, j_kl, j_cond, j_args, j_out, j_few, j_cw, j_nat, j_pad, j_exp, Nat.reduceAdd]
    exact H h4 s4
end LnkC
