/-! ===== Link: sending all, a tick, ticks ===== -/
section LnkF
variable {l : Launch} {D : va_G} {bs : Nat} {E : j_E} {h0 h : j_H} {a : Nat} {L : Lnk} {d : Nat} {Q : j_O → j_H → Prop}
def lSend1 (L : Lnk) (n f p : Nat) : Lnk := lSend (lLeave (lsX L 12 (lX L 12 - lP L p 1)) f p) n f p
def lSendQ (nf : Nat) : Nat → Nat → Lnk → Lnk
  | 0, _, L => L
  | k + 1, n, L => if 0 < lX L 13 then
      (if lX L 12 < lP L (tn (lF L (tn (lServe L nf)) 17)) 1 then L else lSendQ nf k (n + 1) (lSend1 L n (tn (lServe L nf)) (tn (lF L (tn (lServe L nf)) 17))))
    else L
/-- what sending asks of an invariant J (at the number of transmissions) -/
def lSendOk (nf : Nat) (J : Nat → Lnk → Prop) : Prop := ∀ n L, J n L → lX L 5 = nI nf ∧ (n < 300 → 0 < lX L 13 → ∃ f p, f < 6 ∧ p < 100 ∧ lServe L nf = nI f ∧ lF L f 17 = nI p ∧ (¬ lX L 12 < lP L p 1 → J (n + 1) (lSend1 L n f p)))
theorem sp_X1_sendQueued (hl : l.stackTraces = false) (s : LQ E h0 a L h) {J : Nat → Lnk → Prop} {nf nt : Nat} (hnf : nf ≤ 6) (hnt : nt ≤ 300) (hJ : J nt L) (hok : lSendOk nf J) (hx : lX L 10 = nI nt) (H : ∀ h', LQ E h0 a (lSendQ nf (300 - nt) nt L) h' → Q (.inl none) h') : j_Met l D bs E (d + 4) n_X1_sendQueued [.ref a] h Q := by
  have hB := s.2.2
  have loop : ∀ {G : j_G}, j_clo (j_Met l D bs E (d + 3)) E Q m_X1_sendQueued G → ∀ (k n : Nat) (L1 : Lnk) (h1 : j_H) (x2 x3 x4 : Value), n + k = 300 → J n L1 → LQ E h0 a L1 h1 → (∀ h', LQ E h0 a (lSendQ nf k n L1) h' → Q (.inl none) h') → G 5 [.ref a, .int (nI n), x2, x3, x4] [] h1 := by
    intro G hG k
    induction k with
    | zero =>
      intro n L1 h1 x2 x3 x4 hn _ s1 H
      have e : n = 300 := by omega
      subst e
      refine b_X1_sendQueued_5 hG ?_
      dsimp only [q_X1_sendQueued_5, j_wp, j_opB, j_opA, j_nth, j_i1, j_i2, j_l1, j_l2, j_li, j_f1, j_f2, j_d1, j_d2, j_r1, j_ai, j_aii, j_ail, j_aid, j_air, j_st1, j_st2, j_stu, j_kl, j_cond, j_args, j_out, j_few, j_cw, j_nat, j_pad, j_exp, Nat.reduceAdd]
      rw [if_neg (show ¬ nI 300 < 300 by decide)]
      refine b_X1_sendQueued_86 hG ?_
      dsimp only [q_X1_sendQueued_86, j_wp, j_opB, j_opA, j_nth, j_i1, j_i2, j_l1, j_l2, j_li, j_f1, j_f2, j_d1, j_d2, j_r1, j_ai, j_aii, j_ail, j_aid, j_air, j_st1, j_st2, j_stu, j_kl, j_cond, j_args, j_out, j_few, j_cw, j_nat, j_pad, j_exp, Nat.reduceAdd]
      exact H h1 s1
    | succ k ih =>
      intro n L1 h1 x2 x3 x4 hn hJ s1 H
      obtain ⟨hx5, hst⟩ := hok n L1 hJ
      unfold lSendQ at H
      refine b_X1_sendQueued_5 hG ?_
      dsimp only [q_X1_sendQueued_5, j_wp, j_opB, j_opA, j_nth, j_i1, j_i2, j_l1, j_l2, j_li, j_f1, j_f2, j_d1, j_d2, j_r1, j_ai, j_aii, j_ail, j_aid, j_air, j_st1, j_st2, j_stu, j_kl, j_cond, j_args, j_out, j_few, j_cw, j_nat, j_pad, j_exp, Nat.reduceAdd]
      rw [if_pos (show nI n < 300 from nI_lt (b := 300) (by omega) (by omega))]
      simp only [LQ_sh s1, LQ_R0 s1, LQ_R1 s1, LQ_R2 s1, LQ_R3 s1, LQ_R4 s1, j_ref, j_ari, j_arb, j_arr, j_len, j_nar, j_oi, j_ol, j_of, j_od, j_or, j_ov, true_and, and_true, LQ_x13 s1]
      split
      · rename_i g
        rw [if_pos g] at H
        obtain ⟨f, p, hf, hp, e1, e2, hJ'⟩ := hst (by omega) g
        have t1 : tn (lServe L1 nf) = f := by rw [e1]; exact nI_clamp (by omega)
        rw [t1] at H
        have t2 : tn (lF L1 f 17) = p := by rw [e2]; exact nI_clamp (by omega)
        rw [t2] at H
        refine sp_X1_flowToServe hl s1 hnf hx5 ?_
        rw [e1]
        simp only [LQ_sh s1, LQ_R0 s1, LQ_R1 s1, LQ_R2 s1, LQ_R3 s1, LQ_R4 s1, j_ref, j_ari, j_arb, j_arr, j_len, j_nar, j_oi, j_ol, j_of, j_od, j_or, j_ov, true_and, and_true, j_st1]
        refine lf_get hl s1 hf (k := 17) (by omega) ?_
        rw [e2]
        simp only [LQ_sh s1, LQ_R0 s1, LQ_R1 s1, LQ_R2 s1, LQ_R3 s1, LQ_R4 s1, j_ref, j_ari, j_arb, j_arr, j_len, j_nar, j_oi, j_ol, j_of, j_od, j_or, j_ov, true_and, and_true, j_st1]
        refine lp_get hl s1 hp (k := 1) (by omega) ?_
        simp only [LQ_sh s1, LQ_R0 s1, LQ_R1 s1, LQ_R2 s1, LQ_R3 s1, LQ_R4 s1, j_ref, j_ari, j_arb, j_arr, j_len, j_nar, j_oi, j_ol, j_of, j_od, j_or, j_ov, true_and, and_true, LQ_x12 s1, j_st1]
        split
        · rename_i g2
          rw [if_pos g2] at H
          exact H h1 s1
        · rename_i g2
          rw [if_neg g2] at H
          refine b_X1_sendQueued_56 hG ?_
          dsimp only [q_X1_sendQueued_56, j_wp, j_opB, j_opA, j_nth, j_i1, j_i2, j_l1, j_l2, j_li, j_f1, j_f2, j_d1, j_d2, j_r1, j_ai, j_aii, j_ail, j_aid, j_air, j_st1, j_st2, j_stu, j_kl, j_cond, j_args, j_out, j_few, j_cw, j_nat, j_pad, j_exp, Nat.reduceAdd]
          simp only [LQ_sh s1, LQ_R0 s1, LQ_R1 s1, LQ_R2 s1, LQ_R3 s1, LQ_R4 s1, j_ref, j_ari, j_arb, j_arr, j_len, j_nar, j_oi, j_ol, j_of, j_od, j_or, j_ov, true_and, and_true, LQ_x12 s1]
          have s2 := LQ_X s1 12 (lX L1 12 - lP L1 p 1)
          refine sp_X1_leaveQueue hl s2 hf hp (Or.inl e2) (fun h3 s3 => ?_)
          simp only [LQ_sh s3, LQ_R0 s3, LQ_R1 s3, LQ_R2 s3, LQ_R3 s3, LQ_R4 s3, j_ref, j_ari, j_arb, j_arr, j_len, j_nar, j_oi, j_ol, j_of, j_od, j_or, j_ov, true_and, and_true]
          refine sp_X1_send hl s3 (n := n) (by omega) hp hf (fun h4 s4 => ?_)
          simp only [LQ_sh s4, LQ_R0 s4, LQ_R1 s4, LQ_R2 s4, LQ_R3 s4, LQ_R4 s4, j_ref, j_ari, j_arb, j_arr, j_len, j_nar, j_oi, j_ol, j_of, j_od, j_or, j_ov, true_and, and_true]
          rw [nI_1]
          exact ih (n + 1) _ h4 _ _ _ (by omega) (hJ' g2) s4 H
      · rename_i g
        rw [if_neg g] at H
        refine b_X1_sendQueued_86 hG ?_
        dsimp only [q_X1_sendQueued_86, j_wp, j_opB, j_opA, j_nth, j_i1, j_i2, j_l1, j_l2, j_li, j_f1, j_f2, j_d1, j_d2, j_r1, j_ai, j_aii, j_ail, j_aid, j_air, j_st1, j_st2, j_stu, j_kl, j_cond, j_args, j_out, j_few, j_cw, j_nat, j_pad, j_exp, Nat.reduceAdd]
        exact H h1 s1
  refine j_meth hl rfl g_X1_sendQueued (Nat.le_of_ble_eq_true rfl) (fun _ => ⟨_, _, rfl, (LQ_sh s)⟩) hB.1 hB.2 (fun G hG => ?_)
  refine b_X1_sendQueued_0 hG ?_
  dsimp only [q_X1_sendQueued_0, j_wp, j_opB, j_opA, j_nth, j_i1, j_i2, j_l1, j_l2, j_li, j_f1, j_f2, j_d1, j_d2, j_r1, j_ai, j_aii, j_ail, j_aid, j_air, j_st1, j_st2, j_stu, j_kl, j_cond, j_args, j_out, j_few, j_cw, j_nat, j_pad, j_exp, Nat.reduceAdd]
  simp only [LQ_sh s, LQ_R0 s, LQ_R1 s, LQ_R2 s, LQ_R3 s, LQ_R4 s, j_ref, j_ari, j_arb, j_arr, j_len, j_nar, j_oi, j_ol, j_of, j_od, j_or, j_ov, true_and, and_true, LQ_x10 s, hx]
  exact loop hG (300 - nt) nt L h _ _ _ (by omega) hJ s H
def lTick (nf : Nat) (L : Lnk) : Lnk :=
  let L1 := if lX L 11 < lX L 16 then L else lSettle L (tn (lX L 15)) (tn (lX L 10))
  let L2 := lsX L1 12 (if 100000 < lX L1 12 + lX L1 6 then 100000 else lX L1 12 + lX L1 6)
  let L3 := lSendQ nf (300 - tn (lX L2 10)) (tn (lX L2 10)) L2
  let L4 := if lX L3 13 = 0 then lsX L3 12 0 else L3
  lsX L4 11 (lX L4 11 + 1)
/-- what a tick asks of the link -/
def lSettleOk (L : Lnk) : Prop := ∃ (I : Lnk → Prop) (fo nt : Nat), fo ≤ nt ∧ nt ≤ 300 ∧ I L ∧ (∀ L, I L → lX L 10 = nI nt ∧ lX L 15 = nI fo) ∧
    (∀ L n, I L → fo ≤ n → n < nt → lS L n 2 = lX L 11 → ∃ p f, lRef L n p f ∧ I (lAck L n p f)) ∧ (∀ L n, I L → fo ≤ n → n < nt → lS L n 3 = 0 → ¬ lX L 11 - lX L 8 < lS L n 1 → ∃ p f, lRef L n p f ∧ I (lLose L n p f))
def lTickOk (nf : Nat) (L : Lnk) : Prop := nf ≤ 6 ∧ (¬ lX L 11 < lX L 16 → lSettleOk L) ∧
  ∃ (J : Nat → Lnk → Prop) (nt : Nat), nt ≤ 300 ∧ lSendOk nf J ∧ (let L1 := if lX L 11 < lX L 16 then L else lSettle L (tn (lX L 15)) (tn (lX L 10))
    let L2 := lsX L1 12 (if 100000 < lX L1 12 + lX L1 6 then 100000 else lX L1 12 + lX L1 6)
    lX L2 10 = nI nt ∧ J nt L2)
theorem sp_X1_tick (hl : l.stackTraces = false) (s : LQ E h0 a L h) {nf : Nat} (ok : lTickOk nf L) (H : ∀ h', LQ E h0 a (lTick nf L) h' → Q (.inl none) h') : j_Met l D bs E (d + 6) n_X1_tick [.ref a] h Q := by
  have hB := s.2.2
  obtain ⟨hnf, hset, J, nt, hnt, hsok, hx, hJ⟩ := ok
  dsimp only [lTick] at H
  generalize hL1 : (if lX L 11 < lX L 16 then L else lSettle L (tn (lX L 15)) (tn (lX L 10))) = L1 at hx hJ H
  have rest : ∀ {G : j_G} {h1 : j_H}, j_clo (j_Met l D bs E (d + 5)) E Q m_X1_tick G → LQ E h0 a L1 h1 → G 15 [.ref a] [] h1 := by
    intro G h1 hG s1
    refine b_X1_tick_15 hG ?_
    dsimp only [q_X1_tick_15, j_wp, j_opB, j_opA, j_nth, j_i1, j_i2, j_l1, j_l2, j_li, j_f1, j_f2, j_d1, j_d2, j_r1, j_ai, j_aii, j_ail, j_aid, j_air, j_st1, j_st2, j_stu, j_kl, j_cond, j_args, j_out, j_few, j_cw, j_nat, j_pad, j_exp, Nat.reduceAdd]
    simp only [LQ_sh s1, LQ_R0 s1, LQ_R1 s1, LQ_R2 s1, LQ_R3 s1, LQ_R4 s1, j_ref, j_ari, j_arb, j_arr, j_len, j_nar, j_oi, j_ol, j_of, j_od, j_or, j_ov, true_and, and_true, LQ_x12 s1, LQ_x6 s1]
    have s2 := LQ_X s1 12 (if 100000 < lX L1 12 + lX L1 6 then 100000 else lX L1 12 + lX L1 6)
    generalize hL2 : lsX L1 12 (if 100000 < lX L1 12 + lX L1 6 then 100000 else lX L1 12 + lX L1 6) = L2 at s2 hx hJ H
    have t : tn (lX L2 10) = nt := by rw [hx]; exact nI_clamp (by omega)
    rw [t] at H
    refine sp_X1_sendQueued hl s2 hnf hnt hJ hsok hx (fun h3 s3 => ?_)
    simp only [LQ_sh s3, LQ_R0 s3, LQ_R1 s3, LQ_R2 s3, LQ_R3 s3, LQ_R4 s3, j_ref, j_ari, j_arb, j_arr, j_len, j_nar, j_oi, j_ol, j_of, j_od, j_or, j_ov, true_and, and_true, LQ_x13 s3]
    generalize lSendQ nf (300 - nt) nt L2 = L3 at s3 H
    split
    · rename_i g
      rw [if_pos g] at H
      have s4 := LQ_X s3 12 0
      refine b_X1_tick_49 hG ?_
      dsimp only [q_X1_tick_49, j_wp, j_opB, j_opA, j_nth, j_i1, j_i2, j_l1, j_l2, j_li, j_f1, j_f2, j_d1, j_d2, j_r1, j_ai, j_aii, j_ail, j_aid, j_air, j_st1, j_st2, j_stu, j_kl, j_cond, j_args, j_out, j_few, j_cw, j_nat, j_pad, j_exp, Nat.reduceAdd]
      simp only [LQ_sh s4, LQ_R0 s4, LQ_R1 s4, LQ_R2 s4, LQ_R3 s4, LQ_R4 s4, j_ref, j_ari, j_arb, j_arr, j_len, j_nar, j_oi, j_ol, j_of, j_od, j_or, j_ov, true_and, and_true, LQ_x11 s4]
      exact H _ (LQ_X s4 11 _)
    · rename_i g
      rw [if_neg g] at H
      refine b_X1_tick_49 hG ?_
      dsimp only [q_X1_tick_49, j_wp, j_opB, j_opA, j_nth, j_i1, j_i2, j_l1, j_l2, j_li, j_f1, j_f2, j_d1, j_d2, j_r1, j_ai, j_aii, j_ail, j_aid, j_air, j_st1, j_st2, j_stu, j_kl, j_cond, j_args, j_out, j_few, j_cw, j_nat, j_pad, j_exp, Nat.reduceAdd]
      simp only [LQ_sh s3, LQ_R0 s3, LQ_R1 s3, LQ_R2 s3, LQ_R3 s3, LQ_R4 s3, j_ref, j_ari, j_arb, j_arr, j_len, j_nar, j_oi, j_ol, j_of, j_od, j_or, j_ov, true_and, and_true, LQ_x11 s3]
      exact H _ (LQ_X s3 11 _)
  refine j_meth hl rfl g_X1_tick (Nat.le_of_ble_eq_true rfl) (fun _ => ⟨_, _, rfl, (LQ_sh s)⟩) hB.1 hB.2 (fun G hG => ?_)
  refine b_X1_tick_0 hG ?_
  dsimp only [q_X1_tick_0, j_wp, j_opB, j_opA, j_nth, j_i1, j_i2, j_l1, j_l2, j_li, j_f1, j_f2, j_d1, j_d2, j_r1, j_ai, j_aii, j_ail, j_aid, j_air, j_st1, j_st2, j_stu, j_kl, j_cond, j_args, j_out, j_few, j_cw, j_nat, j_pad, j_exp, Nat.reduceAdd]
  simp only [LQ_sh s, LQ_R0 s, LQ_R1 s, LQ_R2 s, LQ_R3 s, LQ_R4 s, j_ref, j_ari, j_arb, j_arr, j_len, j_nar, j_oi, j_ol, j_of, j_od, j_or, j_ov, true_and, and_true, LQ_x11 s, LQ_x16 s]
  split
  · rename_i g
    rw [if_pos g] at hL1
    subst hL1
    exact rest hG s
  · rename_i g
    rw [if_neg g] at hL1
    obtain ⟨I, fo, nt', q1, q2, q3, q4, q5, q6⟩ := hset g
    obtain ⟨e1, e2⟩ := q4 L q3
    have t1 : tn (lX L 10) = nt' := by rw [e1]; exact nI_clamp (by omega)
    have t2 : tn (lX L 15) = fo := by rw [e2]; exact nI_clamp (by omega)
    rw [t1, t2] at hL1
    refine sp_X1_settleDue hl s q1 q2 q3 q4 q5 q6 (fun h1 s1 => ?_)
    rw [hL1] at s1
    simp only [LQ_sh s1, LQ_R0 s1, LQ_R1 s1, LQ_R2 s1, LQ_R3 s1, LQ_R4 s1, j_ref, j_ari, j_arb, j_arr, j_len, j_nar, j_oi, j_ol, j_of, j_od, j_or, j_ov, true_and, and_true]
    exact rest hG s1
/-- how many ticks until the packet is delivered: at most k more, c so far -/
def lTicks (nf p : Nat) : Nat → Nat → Lnk → Int32
  | 0, _, _ => -1
  | k + 1, c, L => if lP L p 3 = 2 then nI c else if lRest L = true then -1 else lTicks nf p k (c + 1) (lTick nf L)
theorem sp_X1_ticksToDeliver (hl : l.stackTraces = false) (s : LQ E h0 a L h) {T : Nat → Lnk → Prop} {nf p lim : Nat} (hp : p < 100) (hlim : lim < 100000) (hT : T (lim + 1) L) (hok : ∀ n L, T (n + 1) L → lTickOk nf L ∧ T n (lTick nf L)) (H : ∀ h' L', LQ E h0 a L' h' → Q (.inl (some (.int (lTicks nf p (lim + 1) 0 L)))) h') : j_Met l D bs E (d + 7) n_X1_ticksToDeliver [.ref a, .int (nI p), .int (nI lim)] h Q := by
  have hB := s.2.2
  have loop : ∀ {G : j_G}, j_clo (j_Met l D bs E (d + 6)) E Q m_X1_ticksToDeliver G → ∀ (k c : Nat) (L1 : Lnk) (h1 : j_H), c + k = lim + 1 → T k L1 → LQ E h0 a L1 h1 → (∀ h' L', LQ E h0 a L' h' → Q (.inl (some (.int (lTicks nf p k c L1)))) h') → G 2 [.ref a, .int (nI p), .int (nI lim), .int (nI c)] [] h1 := by
    intro G hG k
    induction k with
    | zero =>
      intro c L1 h1 hc _ s1 H
      refine b_X1_ticksToDeliver_2 hG ?_
      dsimp only [q_X1_ticksToDeliver_2, j_wp, j_opB, j_opA, j_nth, j_i1, j_i2, j_l1, j_l2, j_li, j_f1, j_f2, j_d1, j_d2, j_r1, j_ai, j_aii, j_ail, j_aid, j_air, j_st1, j_st2, j_stu, j_kl, j_cond, j_args, j_out, j_few, j_cw, j_nat, j_pad, j_exp, Nat.reduceAdd]
      rw [if_pos (nI_lt (by omega) (by omega))]
      refine b_X1_ticksToDeliver_36 hG ?_
      dsimp only [q_X1_ticksToDeliver_36, j_wp, j_opB, j_opA, j_nth, j_i1, j_i2, j_l1, j_l2, j_li, j_f1, j_f2, j_d1, j_d2, j_r1, j_ai, j_aii, j_ail, j_aid, j_air, j_st1, j_st2, j_stu, j_kl, j_cond, j_args, j_out, j_few, j_cw, j_nat, j_pad, j_exp, Nat.reduceAdd]
      exact ⟨trivial, H h1 L1 s1⟩
    | succ k ih =>
      intro c L1 h1 hc hT s1 H
      unfold lTicks at H
      refine b_X1_ticksToDeliver_2 hG ?_
      dsimp only [q_X1_ticksToDeliver_2, j_wp, j_opB, j_opA, j_nth, j_i1, j_i2, j_l1, j_l2, j_li, j_f1, j_f2, j_d1, j_d2, j_r1, j_ai, j_aii, j_ail, j_aid, j_air, j_st1, j_st2, j_stu, j_kl, j_cond, j_args, j_out, j_few, j_cw, j_nat, j_pad, j_exp, Nat.reduceAdd]
      rw [if_neg (nI_nlt (by omega) (by omega))]
      refine sp_X1_isDelivered hl s1 hp ?_
      simp only [LQ_sh s1, LQ_R0 s1, LQ_R1 s1, LQ_R2 s1, LQ_R3 s1, LQ_R4 s1, j_ref, j_ari, j_arb, j_arr, j_len, j_nar, j_oi, j_ol, j_of, j_od, j_or, j_ov, true_and, and_true]
      by_cases g : lP L1 p 3 = 2
      · simp only [g, if_true] at H ⊢
        rw [if_neg (by decide)]
        exact H h1 L1 s1
      · simp only [g, if_false, if_true] at H ⊢
        refine b_X1_ticksToDeliver_17 hG ?_
        dsimp only [q_X1_ticksToDeliver_17, j_wp, j_opB, j_opA, j_nth, j_i1, j_i2, j_l1, j_l2, j_li, j_f1, j_f2, j_d1, j_d2, j_r1, j_ai, j_aii, j_ail, j_aid, j_air, j_st1, j_st2, j_stu, j_kl, j_cond, j_args, j_out, j_few, j_cw, j_nat, j_pad, j_exp, Nat.reduceAdd]
        refine sp_X1_isAtRest hl s1 ?_
        simp only [LQ_sh s1, LQ_R0 s1, LQ_R1 s1, LQ_R2 s1, LQ_R3 s1, LQ_R4 s1, j_ref, j_ari, j_arb, j_arr, j_len, j_nar, j_oi, j_ol, j_of, j_od, j_or, j_ov, true_and, and_true]
        by_cases g2 : lRest L1 = true
        · simp only [g2, if_true] at H ⊢
          rw [if_neg (by decide)]
          exact H h1 L1 s1
        · simp only [g2, if_false, if_true] at H ⊢
          refine b_X1_ticksToDeliver_26 hG ?_
          dsimp only [q_X1_ticksToDeliver_26, j_wp, j_opB, j_opA, j_nth, j_i1, j_i2, j_l1, j_l2, j_li, j_f1, j_f2, j_d1, j_d2, j_r1, j_ai, j_aii, j_ail, j_aid, j_air, j_st1, j_st2, j_stu, j_kl, j_cond, j_args, j_out, j_few, j_cw, j_nat, j_pad, j_exp, Nat.reduceAdd]
          refine sp_X1_tick hl s1 (hok k L1 hT).1 (fun h2 s2 => ?_)
          simp only [LQ_sh s2, LQ_R0 s2, LQ_R1 s2, LQ_R2 s2, LQ_R3 s2, LQ_R4 s2, j_ref, j_ari, j_arb, j_arr, j_len, j_nar, j_oi, j_ol, j_of, j_od, j_or, j_ov, true_and, and_true]
          rw [nI_1]
          exact ih (c + 1) _ h2 (by omega) (hok k L1 hT).2 s2 H
  refine j_meth hl rfl g_X1_ticksToDeliver (Nat.le_of_ble_eq_true rfl) (fun _ => ⟨_, _, rfl, (LQ_sh s)⟩) hB.1 hB.2 (fun G hG => ?_)
  refine b_X1_ticksToDeliver_0 hG ?_
  dsimp only [q_X1_ticksToDeliver_0, j_wp, j_opB, j_opA, j_nth, j_i1, j_i2, j_l1, j_l2, j_li, j_f1, j_f2, j_d1, j_d2, j_r1, j_ai, j_aii, j_ail, j_aid, j_air, j_st1, j_st2, j_stu, j_kl, j_cond, j_args, j_out, j_few, j_cw, j_nat, j_pad, j_exp, Nat.reduceAdd]
  exact loop hG (lim + 1) 0 L h (by omega) hT s H
/-- the packet i places behind x -/
def lNth (L : Lnk) : Nat → Int32 → Int32
  | 0, x => x
  | i + 1, x => lNth L i (lP L (tn x) 9)
/-- the queue from x on has i places more that are packets -/
def lNthOk (L : Lnk) : Nat → Int32 → Prop
  | 0, _ => True
  | i + 1, x => ∃ q, q < 100 ∧ x = nI q ∧ lNthOk L i (lP L q 9)
theorem sp_X1_packetInQueue (hl : l.stackTraces = false) (s : LQ E h0 a L h) {f i : Nat} (hf : f < 6) (hi : i < 2 ^ 31) (hok : nI i < lF L f 7 → lNthOk L i (lF L f 17)) (H : Q (.inl (some (.int (if nI i < lF L f 7 then lNth L i (lF L f 17) else -1)))) h) : j_Met l D bs E (d + 2) n_X1_packetInQueue [.ref a, .int (nI f), .int (nI i)] h Q := by
  have hB := s.2.2
  have loop : ∀ {G : j_G} {res : Int32}, Q (.inl (some (.int res))) h → j_clo (j_Met l D bs E (d + 1)) E Q m_X1_packetInQueue G → ∀ (k c : Nat) (x : Int32), c + k = i → lNthOk L k x → lNth L k x = res → G 30 [.ref a, .int (nI f), .int (nI i), .int x, .int (nI c)] [] h := by
    intro G res H hG k
    induction k with
    | zero =>
      intro c x hc _ e
      refine b_X1_packetInQueue_30 hG ?_
      dsimp only [q_X1_packetInQueue_30, j_wp, j_opB, j_opA, j_nth, j_i1, j_i2, j_l1, j_l2, j_li, j_f1, j_f2, j_d1, j_d2, j_r1, j_ai, j_aii, j_ail, j_aid, j_air, j_st1, j_st2, j_stu, j_kl, j_cond, j_args, j_out, j_few, j_cw, j_nat, j_pad, j_exp, Nat.reduceAdd]
      rw [if_neg (nI_nlt (by omega) (by omega))]
      refine b_X1_packetInQueue_53 hG ?_
      dsimp only [q_X1_packetInQueue_53, j_wp, j_opB, j_opA, j_nth, j_i1, j_i2, j_l1, j_l2, j_li, j_f1, j_f2, j_d1, j_d2, j_r1, j_ai, j_aii, j_ail, j_aid, j_air, j_st1, j_st2, j_stu, j_kl, j_cond, j_args, j_out, j_few, j_cw, j_nat, j_pad, j_exp, Nat.reduceAdd]
      have e' : x = res := e
      rw [e']
      exact ⟨trivial, H⟩
    | succ k ih =>
      intro c x hc hk e
      obtain ⟨q, hq, rfl, hk'⟩ := hk
      have t : tn (nI q) = q := nI_clamp (by omega)
      unfold lNth at e
      rw [t] at e
      refine b_X1_packetInQueue_30 hG ?_
      dsimp only [q_X1_packetInQueue_30, j_wp, j_opB, j_opA, j_nth, j_i1, j_i2, j_l1, j_l2, j_li, j_f1, j_f2, j_d1, j_d2, j_r1, j_ai, j_aii, j_ail, j_aid, j_air, j_st1, j_st2, j_stu, j_kl, j_cond, j_args, j_out, j_few, j_cw, j_nat, j_pad, j_exp, Nat.reduceAdd]
      rw [if_pos (nI_lt (by omega) (by omega))]
      simp only [LQ_sh s, LQ_R0 s, LQ_R1 s, LQ_R2 s, LQ_R3 s, LQ_R4 s, j_ref, j_ari, j_arb, j_arr, j_len, j_nar, j_oi, j_ol, j_of, j_od, j_or, j_ov, true_and, and_true]
      refine lp_get hl s hq (k := 9) (by omega) ?_
      simp only [LQ_sh s, LQ_R0 s, LQ_R1 s, LQ_R2 s, LQ_R3 s, LQ_R4 s, j_ref, j_ari, j_arb, j_arr, j_len, j_nar, j_oi, j_ol, j_of, j_od, j_or, j_ov, true_and, and_true, j_st1]
      rw [nI_1]
      exact ih (c + 1) _ (by omega) hk' e
  refine j_meth hl rfl g_X1_packetInQueue (Nat.le_of_ble_eq_true rfl) (fun _ => ⟨_, _, rfl, (LQ_sh s)⟩) hB.1 hB.2 (fun G hG => ?_)
  refine b_X1_packetInQueue_0 hG ?_
  dsimp only [q_X1_packetInQueue_0, j_wp, j_opB, j_opA, j_nth, j_i1, j_i2, j_l1, j_l2, j_li, j_f1, j_f2, j_d1, j_d2, j_r1, j_ai, j_aii, j_ail, j_aid, j_air, j_st1, j_st2, j_stu, j_kl, j_cond, j_args, j_out, j_few, j_cw, j_nat, j_pad, j_exp, Nat.reduceAdd]
  simp only [LQ_sh s, LQ_R0 s, LQ_R1 s, LQ_R2 s, LQ_R3 s, LQ_R4 s, j_ref, j_ari, j_arb, j_arr, j_len, j_nar, j_oi, j_ol, j_of, j_od, j_or, j_ov, true_and, and_true]
  refine lf_get hl s hf (k := 7) (by omega) ?_
  simp only [LQ_sh s, LQ_R0 s, LQ_R1 s, LQ_R2 s, LQ_R3 s, LQ_R4 s, j_ref, j_ari, j_arb, j_arr, j_len, j_nar, j_oi, j_ol, j_of, j_od, j_or, j_ov, true_and, and_true]
  split
  · rename_i g
    rw [if_pos g] at H
    refine b_X1_packetInQueue_16 hG ?_
    dsimp only [q_X1_packetInQueue_16, j_wp, j_opB, j_opA, j_nth, j_i1, j_i2, j_l1, j_l2, j_li, j_f1, j_f2, j_d1, j_d2, j_r1, j_ai, j_aii, j_ail, j_aid, j_air, j_st1, j_st2, j_stu, j_kl, j_cond, j_args, j_out, j_few, j_cw, j_nat, j_pad, j_exp, Nat.reduceAdd]
    simp only [LQ_sh s, LQ_R0 s, LQ_R1 s, LQ_R2 s, LQ_R3 s, LQ_R4 s, j_ref, j_ari, j_arb, j_arr, j_len, j_nar, j_oi, j_ol, j_of, j_od, j_or, j_ov, true_and, and_true]
    refine lf_get hl s hf (k := 17) (by omega) ?_
    simp only [LQ_sh s, LQ_R0 s, LQ_R1 s, LQ_R2 s, LQ_R3 s, LQ_R4 s, j_ref, j_ari, j_arb, j_arr, j_len, j_nar, j_oi, j_ol, j_of, j_od, j_or, j_ov, true_and, and_true, j_st1]
    exact loop H hG i 0 _ (by omega) (hok g) rfl
  · rename_i g
    rw [if_neg g] at H
    exact H
end LnkF
