/-! ===== Link: a new packet, what is due, the tick ===== -/
theorem lsX_lsX (L : Lnk) (k : Nat) (v w : Int32) : lsX (lsX L k v) k w = lsX L k w := by
  have e : up1 (up1 L.1 k v) k w = up1 L.1 k w := by
    funext j
    simp only [up1]
    split <;> rfl
  unfold lsX
  rw [e]
theorem lsX_same (L : Lnk) (k : Nat) : lsX L k (lX L k) = L := by
  have e : up1 L.1 k (lX L k) = L.1 := by
    funext j
    simp only [up1, lX]
    split
    · rename_i h; rw [h]
    · rfl
  unfold lsX
  rw [e]
theorem lX_s (L : Lnk) (k j : Nat) (v : Int32) : lX (lsX L k v) j = if j = k then v else lX L j := rfl
theorem lDue_X15 (L : Lnk) (v : Int32) (n : Nat) : lDue (lsX L 15 v) n = lDue L n := by
  have hx : lX (lsX L 15 v) 8 = lX L 8 := by rw [lX_s, if_neg (by omega)]
  have hs : lS (lsX L 15 v) = lS L := rfl
  unfold lDue lDue0
  first | rfl | (rw [hs, hx]; done) | (simp only [hs, hx]; congr)
theorem lDue_X16 (L : Lnk) (v : Int32) (n : Nat) : lDue (lsX L 16 v) n = lDue L n := by
  have hx : lX (lsX L 16 v) 8 = lX L 8 := by rw [lX_s, if_neg (by omega)]
  have hs : lS (lsX L 16 v) = lS L := rfl
  unfold lDue lDue0
  first | rfl | (rw [hs, hx]; done) | (simp only [hs, hx]; congr)
section LnkE
variable {l : Launch} {D : va_G} {bs : Nat} {E : j_E} {h0 h : j_H} {a : Nat} {L : Lnk} {d : Nat} {Q : j_O → j_H → Prop}
def lRest (L : Lnk) : Bool := decide (lX L 16 = 2000000000) && (decide (lX L 13 = 0) || !decide (lX L 10 < 300))
theorem sp_X1_isAtRest (hl : l.stackTraces = false) (s : LQ E h0 a L h) (H : Q (.inl (some (.int (if lRest L = true then 1 else 0)))) h) : j_Met l D bs E (d + 1) n_X1_isAtRest [.ref a] h Q := by
  have hB := s.2.2
  unfold lRest at H
  refine j_meth hl rfl g_X1_isAtRest (Nat.le_of_ble_eq_true rfl) (fun _ => ⟨_, _, rfl, (LQ_sh s)⟩) hB.1 hB.2 (fun G hG => ?_)
  refine b_X1_isAtRest_0 hG ?_
  dsimp only [q_X1_isAtRest_0, j_wp, j_opB, j_opA, j_nth, j_i1, j_i2, j_l1, j_l2, j_li, j_f1, j_f2, j_d1, j_d2, j_r1, j_ai, j_aii, j_ail, j_aid, j_air, j_st1, j_st2, j_stu, j_kl, j_cond, j_args, j_out, j_few, j_cw, j_nat, j_pad, j_exp, Nat.reduceAdd]
  simp only [LQ_sh s, LQ_R0 s, LQ_R1 s, LQ_R2 s, LQ_R3 s, LQ_R4 s, j_ref, j_ari, j_arb, j_arr, j_len, j_nar, j_oi, j_ol, j_of, j_od, j_or, j_ov, true_and, and_true, LQ_x16 s, LQ_x13 s, LQ_x10 s]
  split
  · rename_i g
    split
    · rename_i g2
      simp only [g, g2, decide_true, Bool.true_or, Bool.and_true, if_true] at H
      refine b_X1_isAtRest_26 hG ?_
      dsimp only [q_X1_isAtRest_26, j_wp, j_opB, j_opA, j_nth, j_i1, j_i2, j_l1, j_l2, j_li, j_f1, j_f2, j_d1, j_d2, j_r1, j_ai, j_aii, j_ail, j_aid, j_air, j_st1, j_st2, j_stu, j_kl, j_cond, j_args, j_out, j_few, j_cw, j_nat, j_pad, j_exp, Nat.reduceAdd]
      refine b_X1_isAtRest_31 hG ?_
      dsimp only [q_X1_isAtRest_31, j_wp, j_opB, j_opA, j_nth, j_i1, j_i2, j_l1, j_l2, j_li, j_f1, j_f2, j_d1, j_d2, j_r1, j_ai, j_aii, j_ail, j_aid, j_air, j_st1, j_st2, j_stu, j_kl, j_cond, j_args, j_out, j_few, j_cw, j_nat, j_pad, j_exp, Nat.reduceAdd]
      exact ⟨Or.inr rfl, H⟩
    · rename_i g2
      split
      · rename_i g3
        simp only [g, g2, g3, decide_true, decide_false, Bool.not_true, Bool.or_false, Bool.and_false, Bool.false_eq_true, if_false] at H
        refine b_X1_isAtRest_30 hG ?_
        dsimp only [q_X1_isAtRest_30, j_wp, j_opB, j_opA, j_nth, j_i1, j_i2, j_l1, j_l2, j_li, j_f1, j_f2, j_d1, j_d2, j_r1, j_ai, j_aii, j_ail, j_aid, j_air, j_st1, j_st2, j_stu, j_kl, j_cond, j_args, j_out, j_few, j_cw, j_nat, j_pad, j_exp, Nat.reduceAdd]
        refine b_X1_isAtRest_31 hG ?_
        dsimp only [q_X1_isAtRest_31, j_wp, j_opB, j_opA, j_nth, j_i1, j_i2, j_l1, j_l2, j_li, j_f1, j_f2, j_d1, j_d2, j_r1, j_ai, j_aii, j_ail, j_aid, j_air, j_st1, j_st2, j_stu, j_kl, j_cond, j_args, j_out, j_few, j_cw, j_nat, j_pad, j_exp, Nat.reduceAdd]
        exact ⟨Or.inl rfl, H⟩
      · rename_i g3
        simp only [g, g2, g3, decide_true, decide_false, Bool.not_false, Bool.or_true, Bool.and_true, if_true] at H
        refine b_X1_isAtRest_26 hG ?_
        dsimp only [q_X1_isAtRest_26, j_wp, j_opB, j_opA, j_nth, j_i1, j_i2, j_l1, j_l2, j_li, j_f1, j_f2, j_d1, j_d2, j_r1, j_ai, j_aii, j_ail, j_aid, j_air, j_st1, j_st2, j_stu, j_kl, j_cond, j_args, j_out, j_few, j_cw, j_nat, j_pad, j_exp, Nat.reduceAdd]
        refine b_X1_isAtRest_31 hG ?_
        dsimp only [q_X1_isAtRest_31, j_wp, j_opB, j_opA, j_nth, j_i1, j_i2, j_l1, j_l2, j_li, j_f1, j_f2, j_d1, j_d2, j_r1, j_ai, j_aii, j_ail, j_aid, j_air, j_st1, j_st2, j_stu, j_kl, j_cond, j_args, j_out, j_few, j_cw, j_nat, j_pad, j_exp, Nat.reduceAdd]
        exact ⟨Or.inr rfl, H⟩
  · rename_i g
    simp only [g, decide_false, Bool.false_and, Bool.false_eq_true, if_false] at H
    refine b_X1_isAtRest_30 hG ?_
    dsimp only [q_X1_isAtRest_30, j_wp, j_opB, j_opA, j_nth, j_i1, j_i2, j_l1, j_l2, j_li, j_f1, j_f2, j_d1, j_d2, j_r1, j_ai, j_aii, j_ail, j_aid, j_air, j_st1, j_st2, j_stu, j_kl, j_cond, j_args, j_out, j_few, j_cw, j_nat, j_pad, j_exp, Nat.reduceAdd]
    refine b_X1_isAtRest_31 hG ?_
    dsimp only [q_X1_isAtRest_31, j_wp, j_opB, j_opA, j_nth, j_i1, j_i2, j_l1, j_l2, j_li, j_f1, j_f2, j_d1, j_d2, j_r1, j_ai, j_aii, j_ail, j_aid, j_air, j_st1, j_st2, j_stu, j_kl, j_cond, j_args, j_out, j_few, j_cw, j_nat, j_pad, j_exp, Nat.reduceAdd]
    exact ⟨Or.inl rfl, H⟩
def lAdd0 (L : Lnk) (f np : Nat) (sz : Int32) : Lnk :=
  let L1 := lsX L 9 (lX L 9 + 1)
  let L2 := lsP L1 np 0 (nI f)
  let L3 := lsP L2 np 1 sz
  let L4 := lsP L3 np 2 (lX L3 11)
  let L5 := lsP L4 np 3 0
  let L6 := lsP L5 np 4 0
  let L7 := lsP L6 np 5 (-1)
  let L8 := lsP L7 np 10 (-1)
  lJoinEnd L8 f np
def lAdd (L : Lnk) (nf f np : Nat) (sz : Int32) : Lnk := lAdd0 (if lBusy L f = true then L else lRaise L nf f) f np sz
theorem lRaise_F (L : Lnk) (nf f r k : Nat) (hk : k ≠ 15) : lF (lRaise L nf f) r k = lF L r k := by
  dsimp only [lRaise]
  split
  · rfl
  · split
    · simp [lF, lsF, lsV, j_up, hk]
    · rfl
theorem lRaise_X (L : Lnk) (nf f k : Nat) : lX (lRaise L nf f) k = lX L k := by
  dsimp only [lRaise]
  split
  · rfl
  · split <;> rfl
set_option maxRecDepth 8000 in
theorem sp_X1_addPacket (hl : l.stackTraces = false) (s : LQ E h0 a L h) {nf f np : Nat} {sz : Int32} (hnf : nf ≤ 6) (hx : lX L 5 = nI nf) (hf : f < 6) (hnp : np < 100) (hx9 : lX L 9 = nI np) (hz : ix 100 (lF L f 18)) (H : ∀ h', LQ E h0 a (lAdd L nf f np sz) h' → Q (.inl (some (.int (nI np)))) h') : j_Met l D bs E (d + 5) n_X1_addPacket [.ref a, .int (nI f), .int sz] h Q := by
  have hB := s.2.2
  unfold lAdd at H
  have fin : ∀ {G : j_G} {L0 : Lnk} {h1 : j_H}, j_clo (j_Met l D bs E (d + 4)) E Q m_X1_addPacket G → LQ E h0 a L0 h1 → lX L0 9 = nI np → ix 100 (lF L0 f 18) → (∀ h', LQ E h0 a (lAdd0 L0 f np sz) h' → Q (.inl (some (.int (nI np)))) h') → G 13 [.ref a, .int (nI f), .int sz, j_u] [] h1 := by
    intro G L0 h1 hG s1 hx9 hz H
    refine b_X1_addPacket_13 hG ?_
    dsimp only [q_X1_addPacket_13, j_wp, j_opB, j_opA, j_nth, j_i1, j_i2, j_l1, j_l2, j_li, j_f1, j_f2, j_d1, j_d2, j_r1, j_ai, j_aii, j_ail, j_aid, j_air, j_st1, j_st2, j_stu, j_kl, j_cond, j_args, j_out, j_few, j_cw, j_nat, j_pad, j_exp, Nat.reduceAdd]
    simp only [LQ_sh s1, LQ_R0 s1, LQ_R1 s1, LQ_R2 s1, LQ_R3 s1, LQ_R4 s1, j_ref, j_ari, j_arb, j_arr, j_len, j_nar, j_oi, j_ol, j_of, j_od, j_or, j_ov, true_and, and_true, LQ_x9 s1, hx9]
    have s2 := LQ_X s1 9 (lX L0 9 + 1)
    rw [hx9] at s2
    simp only [LQ_sh s2, LQ_R0 s2, LQ_R1 s2, LQ_R2 s2, LQ_R3 s2, LQ_R4 s2, j_ref, j_ari, j_arb, j_arr, j_len, j_nar, j_oi, j_ol, j_of, j_od, j_or, j_ov, true_and, and_true]
    refine lp_set hl s2 hnp (k := 0) (by omega) (fun h3 s3 => ?_)
    simp only [LQ_sh s3, LQ_R0 s3, LQ_R1 s3, LQ_R2 s3, LQ_R3 s3, LQ_R4 s3, j_ref, j_ari, j_arb, j_arr, j_len, j_nar, j_oi, j_ol, j_of, j_od, j_or, j_ov, true_and, and_true]
    refine lp_set hl s3 hnp (k := 1) (by omega) (fun h4 s4 => ?_)
    simp only [LQ_sh s4, LQ_R0 s4, LQ_R1 s4, LQ_R2 s4, LQ_R3 s4, LQ_R4 s4, j_ref, j_ari, j_arb, j_arr, j_len, j_nar, j_oi, j_ol, j_of, j_od, j_or, j_ov, true_and, and_true, LQ_x11 s4]
    refine lp_set hl s4 hnp (k := 2) (by omega) (fun h5 s5 => ?_)
    simp only [LQ_sh s5, LQ_R0 s5, LQ_R1 s5, LQ_R2 s5, LQ_R3 s5, LQ_R4 s5, j_ref, j_ari, j_arb, j_arr, j_len, j_nar, j_oi, j_ol, j_of, j_od, j_or, j_ov, true_and, and_true]
    refine lp_set hl s5 hnp (k := 3) (by omega) (fun h6 s6 => ?_)
    simp only [LQ_sh s6, LQ_R0 s6, LQ_R1 s6, LQ_R2 s6, LQ_R3 s6, LQ_R4 s6, j_ref, j_ari, j_arb, j_arr, j_len, j_nar, j_oi, j_ol, j_of, j_od, j_or, j_ov, true_and, and_true]
    refine lp_set hl s6 hnp (k := 4) (by omega) (fun h7 s7 => ?_)
    simp only [LQ_sh s7, LQ_R0 s7, LQ_R1 s7, LQ_R2 s7, LQ_R3 s7, LQ_R4 s7, j_ref, j_ari, j_arb, j_arr, j_len, j_nar, j_oi, j_ol, j_of, j_od, j_or, j_ov, true_and, and_true]
    refine lp_set hl s7 hnp (k := 5) (by omega) (fun h8 s8 => ?_)
    simp only [LQ_sh s8, LQ_R0 s8, LQ_R1 s8, LQ_R2 s8, LQ_R3 s8, LQ_R4 s8, j_ref, j_ari, j_arb, j_arr, j_len, j_nar, j_oi, j_ol, j_of, j_od, j_or, j_ov, true_and, and_true]
    refine lp_set hl s8 hnp (k := 10) (by omega) (fun h9 s9 => ?_)
    simp only [LQ_sh s9, LQ_R0 s9, LQ_R1 s9, LQ_R2 s9, LQ_R3 s9, LQ_R4 s9, j_ref, j_ari, j_arb, j_arr, j_len, j_nar, j_oi, j_ol, j_of, j_od, j_or, j_ov, true_and, and_true]
    refine sp_X1_joinEnd hl s9 hf hnp hz (fun h10 s10 => ?_)
    simp only [LQ_sh s10, LQ_R0 s10, LQ_R1 s10, LQ_R2 s10, LQ_R3 s10, LQ_R4 s10, j_ref, j_ari, j_arb, j_arr, j_len, j_nar, j_oi, j_ol, j_of, j_od, j_or, j_ov, true_and, and_true]
    dsimp only [lAdd0] at H
    rw [hx9] at H
    exact H h10 s10
  refine j_meth hl rfl g_X1_addPacket (Nat.le_of_ble_eq_true rfl) (fun _ => ⟨_, _, rfl, (LQ_sh s)⟩) hB.1 hB.2 (fun G hG => ?_)
  refine b_X1_addPacket_0 hG ?_
  dsimp only [q_X1_addPacket_0, j_wp, j_opB, j_opA, j_nth, j_i1, j_i2, j_l1, j_l2, j_li, j_f1, j_f2, j_d1, j_d2, j_r1, j_ai, j_aii, j_ail, j_aid, j_air, j_st1, j_st2, j_stu, j_kl, j_cond, j_args, j_out, j_few, j_cw, j_nat, j_pad, j_exp, Nat.reduceAdd]
  refine sp_X1_isBusy hl s hf ?_
  simp only [LQ_sh s, LQ_R0 s, LQ_R1 s, LQ_R2 s, LQ_R3 s, LQ_R4 s, j_ref, j_ari, j_arb, j_arr, j_len, j_nar, j_oi, j_ol, j_of, j_od, j_or, j_ov, true_and, and_true]
  by_cases g : lBusy L f = true
  · simp only [g, if_true] at H ⊢
    rw [if_neg (by decide)]
    exact fin hG s hx9 hz H
  · simp only [g, Bool.false_eq_true, if_false, if_true] at H ⊢
    refine sp_X1_raiseVirtual hl s hnf hx hf (fun h1 s1 => ?_)
    simp only [LQ_sh s1, LQ_R0 s1, LQ_R1 s1, LQ_R2 s1, LQ_R3 s1, LQ_R4 s1, j_ref, j_ari, j_arb, j_arr, j_len, j_nar, j_oi, j_ol, j_of, j_od, j_or, j_ov, true_and, and_true]
    exact fin hG s1 (by rw [lRaise_X]; exact hx9) (by rw [lRaise_F _ _ _ _ _ (by omega)]; exact hz) H
def tn (v : Int32) : Nat := v.toNatClampNeg
def lAckAt (L : Lnk) (n : Nat) : Lnk := lAck L n (tn (lS L n 0)) (tn (lP L (tn (lS L n 0)) 0))
def lLoseAt (L : Lnk) (n : Nat) : Lnk := lLose L n (tn (lS L n 0)) (tn (lP L (tn (lS L n 0)) 0))
def lAckLoop : Nat → Nat → Lnk → Lnk
  | 0, _, L => L
  | k + 1, n, L => lAckLoop k (n + 1) (if lS L n 2 = lX L 11 then lAckAt L n else L)
def lLoseLoop : Nat → Nat → Lnk → Lnk
  | 0, _, L => L
  | k + 1, n, L => lLoseLoop k (n + 1) (if lS L n 3 = 0 ∧ ¬ lX L 11 - lX L 8 < lS L n 1 then lLoseAt L n else L)
def lOpenLoop (L : Lnk) : Nat → Nat → Nat
  | 0, n => n
  | k + 1, n => if lDue L n = 2000000000 then lOpenLoop L k (n + 1) else n
def lMinLoop (L : Lnk) : Nat → Nat → Int32 → Int32
  | 0, _, m => m
  | k + 1, n, m => lMinLoop L k (n + 1) (if lDue L n < m then lDue L n else m)
theorem lOpenLoop_le {L : Lnk} : ∀ {k n : Nat}, n ≤ lOpenLoop L k n ∧ lOpenLoop L k n ≤ n + k := by
  intro k
  induction k with
  | zero => intro n; exact ⟨Nat.le_refl _, Nat.le_refl _⟩
  | succ k ih =>
    intro n
    unfold lOpenLoop
    split
    · have := ih (n := n + 1)
      omega
    · omega
def lSettle (L : Lnk) (fo nt : Nat) : Lnk :=
  let L2 := lLoseLoop (nt - fo) fo (lAckLoop (nt - fo) fo L)
  let fo' := lOpenLoop L2 (nt - fo) fo
  lsX (lsX L2 15 (nI fo')) 16 (lMinLoop L2 (nt - fo') fo' 2000000000)
/-- what an invariant must give at a transmission: its packet and flow are there, the packet is in its flow's queue if it is queued -/
def lRef (L : Lnk) (n : Nat) (p f : Nat) : Prop := p < 100 ∧ f < 6 ∧ lS L n 0 = nI p ∧ lP L p 0 = nI f ∧ (lP L p 3 = 0 → lOk L p 100 (lF L f 17))
theorem lRef_at {L : Lnk} {n p f : Nat} (h : lRef L n p f) : tn (lS L n 0) = p ∧ tn (lP L (tn (lS L n 0)) 0) = f := by
  obtain ⟨h1, h2, h3, h4, -⟩ := h
  have e1 : tn (lS L n 0) = p := by rw [h3]; exact nI_clamp (by omega)
  rw [e1, h4]
  exact ⟨rfl, nI_clamp (by omega)⟩
theorem sp_X1_settleDue (hl : l.stackTraces = false) (s : LQ E h0 a L h) {I : Lnk → Prop} {fo nt : Nat} (hfo : fo ≤ nt) (hnt : nt ≤ 300) (hI : I L) (hx : ∀ L, I L → lX L 10 = nI nt ∧ lX L 15 = nI fo)
    (hA : ∀ L n, I L → fo ≤ n → n < nt → lS L n 2 = lX L 11 → ∃ p f, lRef L n p f ∧ I (lAck L n p f)) (hLo : ∀ L n, I L → fo ≤ n → n < nt → lS L n 3 = 0 → ¬ lX L 11 - lX L 8 < lS L n 1 → ∃ p f, lRef L n p f ∧ I (lLose L n p f))
    (H : ∀ h', LQ E h0 a (lSettle L fo nt) h' → Q (.inl none) h') : j_Met l D bs E (d + 5) n_X1_settleDue [.ref a] h Q := by
  have hB := s.2.2
  -- the fourth loop
  have four : ∀ {G : j_G} {L2 : Lnk}, j_clo (j_Met l D bs E (d + 4)) E Q m_X1_settleDue G → lX L2 10 = nI nt → ∀ (k n : Nat) (m : Int32) (L3 : Lnk) (h3 : j_H), n + k = nt → L3 = lsX L2 16 m → LQ E h0 a L3 h3 → (∀ h', LQ E h0 a (lsX L2 16 (lMinLoop L2 k n m)) h' → Q (.inl none) h') → G 145 [.ref a, .int (nI n)] [] h3 := by
    intro G L2 hG hx2 k
    induction k with
    | zero =>
      intro n m L3 h3 hn e s3 H
      subst e
      have e10 : lX (lsX L2 16 m) 10 = nI nt := by rw [lX_s, if_neg (by omega)]; exact hx2
      refine b_X1_settleDue_145 hG ?_
      dsimp only [q_X1_settleDue_145, j_wp, j_opB, j_opA, j_nth, j_i1, j_i2, j_l1, j_l2, j_li, j_f1, j_f2, j_d1, j_d2, j_r1, j_ai, j_aii, j_ail, j_aid, j_air, j_st1, j_st2, j_stu, j_kl, j_cond, j_args, j_out, j_few, j_cw, j_nat, j_pad, j_exp, Nat.reduceAdd]
      simp only [LQ_sh s3, LQ_R0 s3, LQ_R1 s3, LQ_R2 s3, LQ_R3 s3, LQ_R4 s3, j_ref, j_ari, j_arb, j_arr, j_len, j_nar, j_oi, j_ol, j_of, j_od, j_or, j_ov, true_and, and_true, LQ_x10 s3, e10]
      rw [if_neg (nI_nlt (by omega) (by omega))]
      refine b_X1_settleDue_175 hG ?_
      dsimp only [q_X1_settleDue_175, j_wp, j_opB, j_opA, j_nth, j_i1, j_i2, j_l1, j_l2, j_li, j_f1, j_f2, j_d1, j_d2, j_r1, j_ai, j_aii, j_ail, j_aid, j_air, j_st1, j_st2, j_stu, j_kl, j_cond, j_args, j_out, j_few, j_cw, j_nat, j_pad, j_exp, Nat.reduceAdd]
      exact H h3 s3
    | succ k ih =>
      intro n m L3 h3 hn e s3 H
      subst e
      have e10 : lX (lsX L2 16 m) 10 = nI nt := by rw [lX_s, if_neg (by omega)]; exact hx2
      have e16 : lX (lsX L2 16 m) 16 = m := by rw [lX_s, if_pos rfl]
      refine b_X1_settleDue_145 hG ?_
      dsimp only [q_X1_settleDue_145, j_wp, j_opB, j_opA, j_nth, j_i1, j_i2, j_l1, j_l2, j_li, j_f1, j_f2, j_d1, j_d2, j_r1, j_ai, j_aii, j_ail, j_aid, j_air, j_st1, j_st2, j_stu, j_kl, j_cond, j_args, j_out, j_few, j_cw, j_nat, j_pad, j_exp, Nat.reduceAdd]
      simp only [LQ_sh s3, LQ_R0 s3, LQ_R1 s3, LQ_R2 s3, LQ_R3 s3, LQ_R4 s3, j_ref, j_ari, j_arb, j_arr, j_len, j_nar, j_oi, j_ol, j_of, j_od, j_or, j_ov, true_and, and_true, LQ_x10 s3, LQ_x16 s3, e10, e16]
      rw [if_pos (nI_lt (by omega) (by omega))]
      refine sp_X1_dueTick hl s3 (n := n) (by omega) ?_
      simp only [LQ_sh s3, LQ_R0 s3, LQ_R1 s3, LQ_R2 s3, LQ_R3 s3, LQ_R4 s3, j_ref, j_ari, j_arb, j_arr, j_len, j_nar, j_oi, j_ol, j_of, j_od, j_or, j_ov, true_and, and_true, lDue_X16]
      have s4 := LQ_X s3 16 (if lDue L2 n < m then lDue L2 n else m)
      rw [lsX_lsX] at s4
      rw [nI_1]
      exact ih (n + 1) _ _ _ (by omega) rfl s4 H
  have three : ∀ {G : j_G} {L2 : Lnk}, j_clo (j_Met l D bs E (d + 4)) E Q m_X1_settleDue G → lX L2 10 = nI nt → ∀ (k n : Nat) (L3 : Lnk) (h3 : j_H) (x1 : Int32), n + k = nt → L3 = lsX L2 15 (nI n) → LQ E h0 a L3 h3 → (∀ h', LQ E h0 a (lsX (lsX L2 15 (nI (lOpenLoop L2 k n))) 16 (lMinLoop L2 (nt - lOpenLoop L2 k n) (lOpenLoop L2 k n) 2000000000)) h' → Q (.inl none) h') → G 97 [.ref a, .int x1] [] h3 := by
    intro G L2 hG hx2 k
    have behind : ∀ (n : Nat) (h3 : j_H) (x1 : Int32), n ≤ nt → LQ E h0 a (lsX L2 15 (nI n)) h3 → (∀ h', LQ E h0 a (lsX (lsX L2 15 (nI n)) 16 (lMinLoop L2 (nt - n) n 2000000000)) h' → Q (.inl none) h') → G 134 [.ref a, .int x1] [] h3 := by
      intro n h3 x1 hn s3 H
      refine b_X1_settleDue_134 hG ?_
      dsimp only [q_X1_settleDue_134, j_wp, j_opB, j_opA, j_nth, j_i1, j_i2, j_l1, j_l2, j_li, j_f1, j_f2, j_d1, j_d2, j_r1, j_ai, j_aii, j_ail, j_aid, j_air, j_st1, j_st2, j_stu, j_kl, j_cond, j_args, j_out, j_few, j_cw, j_nat, j_pad, j_exp, Nat.reduceAdd]
      simp only [LQ_sh s3, LQ_R0 s3, LQ_R1 s3, LQ_R2 s3, LQ_R3 s3, LQ_R4 s3, j_ref, j_ari, j_arb, j_arr, j_len, j_nar, j_oi, j_ol, j_of, j_od, j_or, j_ov, true_and, and_true]
      have s4 := LQ_X s3 16 2000000000
      have e15 : lX (lsX (lsX L2 15 (nI n)) 16 2000000000) 15 = nI n := by rw [lX_s, if_neg (by omega), lX_s, if_pos rfl]
      simp only [LQ_sh s4, LQ_R0 s4, LQ_R1 s4, LQ_R2 s4, LQ_R3 s4, LQ_R4 s4, j_ref, j_ari, j_arb, j_arr, j_len, j_nar, j_oi, j_ol, j_of, j_od, j_or, j_ov, true_and, and_true, LQ_x15 s4, e15]
      refine four hG (L2 := lsX L2 15 (nI n)) (by rw [lX_s, if_neg (by omega)]; exact hx2) (nt - n) n _ _ _ (by omega) rfl s4 ?_
      have e : ∀ (k n : Nat) (m v : Int32), lMinLoop (lsX L2 15 v) k n m = lMinLoop L2 k n m := by
        intro k
        induction k with
        | zero => intro n m v; rfl
        | succ k ih => intro n m v; simp only [lMinLoop, lDue_X15, ih]
      rw [e]
      exact H
    induction k with
    | zero =>
      intro n L3 h3 x1 hn e s3 H
      subst e
      have e10 : lX (lsX L2 15 (nI n)) 10 = nI nt := by rw [lX_s, if_neg (by omega)]; exact hx2
      have e15 : lX (lsX L2 15 (nI n)) 15 = nI n := by rw [lX_s, if_pos rfl]
      refine b_X1_settleDue_97 hG ?_
      dsimp only [q_X1_settleDue_97, j_wp, j_opB, j_opA, j_nth, j_i1, j_i2, j_l1, j_l2, j_li, j_f1, j_f2, j_d1, j_d2, j_r1, j_ai, j_aii, j_ail, j_aid, j_air, j_st1, j_st2, j_stu, j_kl, j_cond, j_args, j_out, j_few, j_cw, j_nat, j_pad, j_exp, Nat.reduceAdd]
      simp only [LQ_sh s3, LQ_R0 s3, LQ_R1 s3, LQ_R2 s3, LQ_R3 s3, LQ_R4 s3, j_ref, j_ari, j_arb, j_arr, j_len, j_nar, j_oi, j_ol, j_of, j_od, j_or, j_ov, true_and, and_true, LQ_x10 s3, LQ_x15 s3, e10, e15]
      rw [if_neg (nI_nlt (by omega) (by omega))]
      exact behind n h3 x1 (by omega) s3 H
    | succ k ih =>
      intro n L3 h3 x1 hn e s3 H
      subst e
      have e10 : lX (lsX L2 15 (nI n)) 10 = nI nt := by rw [lX_s, if_neg (by omega)]; exact hx2
      have e15 : lX (lsX L2 15 (nI n)) 15 = nI n := by rw [lX_s, if_pos rfl]
      unfold lOpenLoop at H
      refine b_X1_settleDue_97 hG ?_
      dsimp only [q_X1_settleDue_97, j_wp, j_opB, j_opA, j_nth, j_i1, j_i2, j_l1, j_l2, j_li, j_f1, j_f2, j_d1, j_d2, j_r1, j_ai, j_aii, j_ail, j_aid, j_air, j_st1, j_st2, j_stu, j_kl, j_cond, j_args, j_out, j_few, j_cw, j_nat, j_pad, j_exp, Nat.reduceAdd]
      simp only [LQ_sh s3, LQ_R0 s3, LQ_R1 s3, LQ_R2 s3, LQ_R3 s3, LQ_R4 s3, j_ref, j_ari, j_arb, j_arr, j_len, j_nar, j_oi, j_ol, j_of, j_od, j_or, j_ov, true_and, and_true, LQ_x10 s3, LQ_x15 s3, e10, e15]
      rw [if_pos (nI_lt (by omega) (by omega))]
      refine sp_X1_dueTick hl s3 (n := n) (by omega) ?_
      simp only [LQ_sh s3, LQ_R0 s3, LQ_R1 s3, LQ_R2 s3, LQ_R3 s3, LQ_R4 s3, j_ref, j_ari, j_arb, j_arr, j_len, j_nar, j_oi, j_ol, j_of, j_od, j_or, j_ov, true_and, and_true, lDue_X15, LQ_x15 s3, e15]
      split
      · rename_i g
        simp only [g, if_true] at H
        have s4 := LQ_X s3 15 (nI n + 1)
        rw [lsX_lsX, nI_1] at s4
        rw [nI_1]
        exact ih (n + 1) _ _ x1 (by omega) rfl s4 H
      · rename_i g
        simp only [g, if_false] at H
        exact behind n h3 x1 (by omega) s3 H
  have two : ∀ {G : j_G}, j_clo (j_Met l D bs E (d + 4)) E Q m_X1_settleDue G → ∀ (k n : Nat) (L1 : Lnk) (h1 : j_H), n + k = nt → fo ≤ n → I L1 → LQ E h0 a L1 h1 → (∀ h', LQ E h0 a (let L2 := lLoseLoop k n L1
      lsX (lsX L2 15 (nI (lOpenLoop L2 (nt - fo) fo))) 16 (lMinLoop L2 (nt - lOpenLoop L2 (nt - fo) fo) (lOpenLoop L2 (nt - fo) fo) 2000000000)) h' → Q (.inl none) h') → G 45 [.ref a, .int (nI n)] [] h1 := by
    intro G hG k
    induction k with
    | zero =>
      intro n L1 h1 hn hfn hI1 s1 H
      dsimp only [lLoseLoop] at H
      obtain ⟨e10, e15⟩ := hx L1 hI1
      refine b_X1_settleDue_45 hG ?_
      dsimp only [q_X1_settleDue_45, j_wp, j_opB, j_opA, j_nth, j_i1, j_i2, j_l1, j_l2, j_li, j_f1, j_f2, j_d1, j_d2, j_r1, j_ai, j_aii, j_ail, j_aid, j_air, j_st1, j_st2, j_stu, j_kl, j_cond, j_args, j_out, j_few, j_cw, j_nat, j_pad, j_exp, Nat.reduceAdd]
      simp only [LQ_sh s1, LQ_R0 s1, LQ_R1 s1, LQ_R2 s1, LQ_R3 s1, LQ_R4 s1, j_ref, j_ari, j_arb, j_arr, j_len, j_nar, j_oi, j_ol, j_of, j_od, j_or, j_ov, true_and, and_true, LQ_x10 s1, e10]
      rw [if_neg (nI_nlt (by omega) (by omega))]
      have e : L1 = lsX L1 15 (nI fo) := by rw [← e15, lsX_same]
      exact three hG e10 (nt - fo) fo L1 h1 _ (by omega) e s1 H
    | succ k ih =>
      intro n L1 h1 hn hfn hI1 s1 H
      dsimp only [lLoseLoop] at H
      obtain ⟨e10, e15⟩ := hx L1 hI1
      have nxt : ∀ (L2 : Lnk) (h2 : j_H), I L2 → LQ E h0 a L2 h2 → L2 = (if lS L1 n 3 = 0 ∧ ¬ lX L1 11 - lX L1 8 < lS L1 n 1 then lLoseAt L1 n else L1) → G 91 [.ref a, .int (nI n)] [] h2 := by
        intro L2 h2 hI2 s2 e
        refine b_X1_settleDue_91 hG ?_
        dsimp only [q_X1_settleDue_91, j_wp, j_opB, j_opA, j_nth, j_i1, j_i2, j_l1, j_l2, j_li, j_f1, j_f2, j_d1, j_d2, j_r1, j_ai, j_aii, j_ail, j_aid, j_air, j_st1, j_st2, j_stu, j_kl, j_cond, j_args, j_out, j_few, j_cw, j_nat, j_pad, j_exp, Nat.reduceAdd]
        rw [nI_1]
        exact ih (n + 1) L2 h2 (by omega) (by omega) hI2 s2 (by rw [e]; exact H)
      refine b_X1_settleDue_45 hG ?_
      dsimp only [q_X1_settleDue_45, j_wp, j_opB, j_opA, j_nth, j_i1, j_i2, j_l1, j_l2, j_li, j_f1, j_f2, j_d1, j_d2, j_r1, j_ai, j_aii, j_ail, j_aid, j_air, j_st1, j_st2, j_stu, j_kl, j_cond, j_args, j_out, j_few, j_cw, j_nat, j_pad, j_exp, Nat.reduceAdd]
      simp only [LQ_sh s1, LQ_R0 s1, LQ_R1 s1, LQ_R2 s1, LQ_R3 s1, LQ_R4 s1, j_ref, j_ari, j_arb, j_arr, j_len, j_nar, j_oi, j_ol, j_of, j_od, j_or, j_ov, true_and, and_true, LQ_x10 s1, e10]
      rw [if_pos (nI_lt (by omega) (by omega))]
      refine ls_get hl s1 (f := n) (by omega) (k := 3) (by omega) ?_
      simp only [LQ_sh s1, LQ_R0 s1, LQ_R1 s1, LQ_R2 s1, LQ_R3 s1, LQ_R4 s1, j_ref, j_ari, j_arb, j_arr, j_len, j_nar, j_oi, j_ol, j_of, j_od, j_or, j_ov, true_and, and_true]
      split
      · rename_i g
        refine ls_get hl s1 (f := n) (by omega) (k := 1) (by omega) ?_
        simp only [LQ_sh s1, LQ_R0 s1, LQ_R1 s1, LQ_R2 s1, LQ_R3 s1, LQ_R4 s1, j_ref, j_ari, j_arb, j_arr, j_len, j_nar, j_oi, j_ol, j_of, j_od, j_or, j_ov, true_and, and_true, LQ_x11 s1, LQ_x8 s1]
        split
        · rename_i g2
          exact nxt L1 h1 hI1 s1 (by rw [if_neg (fun z => z.2 g2)])
        · rename_i g2
          obtain ⟨p, f, hr, hI2⟩ := hLo L1 n hI1 hfn (by omega) g g2
          refine sp_X1_declareLost hl s1 (n := n) (by omega) hr.1 hr.2.1 hr.2.2.1 hr.2.2.2.1 (fun h2 s2 => ?_)
          simp only [LQ_sh s2, LQ_R0 s2, LQ_R1 s2, LQ_R2 s2, LQ_R3 s2, LQ_R4 s2, j_ref, j_ari, j_arb, j_arr, j_len, j_nar, j_oi, j_ol, j_of, j_od, j_or, j_ov, true_and, and_true]
          refine nxt _ h2 hI2 s2 ?_
          rw [if_pos ⟨g, g2⟩]
          unfold lLoseAt
          rw [(lRef_at hr).2, (lRef_at hr).1]
      · rename_i g
        exact nxt L1 h1 hI1 s1 (by rw [if_neg (fun z => g z.1)])
  have one : ∀ {G : j_G}, j_clo (j_Met l D bs E (d + 4)) E Q m_X1_settleDue G → ∀ (k n : Nat) (L1 : Lnk) (h1 : j_H), n + k = nt → fo ≤ n → I L1 → LQ E h0 a L1 h1 → (∀ h', LQ E h0 a (let L2 := lLoseLoop (nt - fo) fo (lAckLoop k n L1)
      lsX (lsX L2 15 (nI (lOpenLoop L2 (nt - fo) fo))) 16 (lMinLoop L2 (nt - lOpenLoop L2 (nt - fo) fo) (lOpenLoop L2 (nt - fo) fo) 2000000000)) h' → Q (.inl none) h') → G 5 [.ref a, .int (nI n)] [] h1 := by
    intro G hG k
    induction k with
    | zero =>
      intro n L1 h1 hn hfn hI1 s1 H
      dsimp only [lAckLoop] at H
      obtain ⟨e10, e15⟩ := hx L1 hI1
      refine b_X1_settleDue_5 hG ?_
      dsimp only [q_X1_settleDue_5, j_wp, j_opB, j_opA, j_nth, j_i1, j_i2, j_l1, j_l2, j_li, j_f1, j_f2, j_d1, j_d2, j_r1, j_ai, j_aii, j_ail, j_aid, j_air, j_st1, j_st2, j_stu, j_kl, j_cond, j_args, j_out, j_few, j_cw, j_nat, j_pad, j_exp, Nat.reduceAdd]
      simp only [LQ_sh s1, LQ_R0 s1, LQ_R1 s1, LQ_R2 s1, LQ_R3 s1, LQ_R4 s1, j_ref, j_ari, j_arb, j_arr, j_len, j_nar, j_oi, j_ol, j_of, j_od, j_or, j_ov, true_and, and_true, LQ_x10 s1, e10]
      rw [if_neg (nI_nlt (by omega) (by omega))]
      refine b_X1_settleDue_40 hG ?_
      dsimp only [q_X1_settleDue_40, j_wp, j_opB, j_opA, j_nth, j_i1, j_i2, j_l1, j_l2, j_li, j_f1, j_f2, j_d1, j_d2, j_r1, j_ai, j_aii, j_ail, j_aid, j_air, j_st1, j_st2, j_stu, j_kl, j_cond, j_args, j_out, j_few, j_cw, j_nat, j_pad, j_exp, Nat.reduceAdd]
      simp only [LQ_sh s1, LQ_R0 s1, LQ_R1 s1, LQ_R2 s1, LQ_R3 s1, LQ_R4 s1, j_ref, j_ari, j_arb, j_arr, j_len, j_nar, j_oi, j_ol, j_of, j_od, j_or, j_ov, true_and, and_true, LQ_x15 s1, e15]
      exact two hG (nt - fo) fo L1 h1 (by omega) (Nat.le_refl _) hI1 s1 H
    | succ k ih =>
      intro n L1 h1 hn hfn hI1 s1 H
      dsimp only [lAckLoop] at H
      obtain ⟨e10, e15⟩ := hx L1 hI1
      have nxt : ∀ (L2 : Lnk) (h2 : j_H), I L2 → LQ E h0 a L2 h2 → L2 = (if lS L1 n 2 = lX L1 11 then lAckAt L1 n else L1) → G 34 [.ref a, .int (nI n)] [] h2 := by
        intro L2 h2 hI2 s2 e
        refine b_X1_settleDue_34 hG ?_
        dsimp only [q_X1_settleDue_34, j_wp, j_opB, j_opA, j_nth, j_i1, j_i2, j_l1, j_l2, j_li, j_f1, j_f2, j_d1, j_d2, j_r1, j_ai, j_aii, j_ail, j_aid, j_air, j_st1, j_st2, j_stu, j_kl, j_cond, j_args, j_out, j_few, j_cw, j_nat, j_pad, j_exp, Nat.reduceAdd]
        rw [nI_1]
        exact ih (n + 1) L2 h2 (by omega) (by omega) hI2 s2 (by rw [e]; exact H)
      refine b_X1_settleDue_5 hG ?_
      dsimp only [q_X1_settleDue_5, j_wp, j_opB, j_opA, j_nth, j_i1, j_i2, j_l1, j_l2, j_li, j_f1, j_f2, j_d1, j_d2, j_r1, j_ai, j_aii, j_ail, j_aid, j_air, j_st1, j_st2, j_stu, j_kl, j_cond, j_args, j_out, j_few, j_cw, j_nat, j_pad, j_exp, Nat.reduceAdd]
      simp only [LQ_sh s1, LQ_R0 s1, LQ_R1 s1, LQ_R2 s1, LQ_R3 s1, LQ_R4 s1, j_ref, j_ari, j_arb, j_arr, j_len, j_nar, j_oi, j_ol, j_of, j_od, j_or, j_ov, true_and, and_true, LQ_x10 s1, e10]
      rw [if_pos (nI_lt (by omega) (by omega))]
      refine ls_get hl s1 (f := n) (by omega) (k := 2) (by omega) ?_
      simp only [LQ_sh s1, LQ_R0 s1, LQ_R1 s1, LQ_R2 s1, LQ_R3 s1, LQ_R4 s1, j_ref, j_ari, j_arb, j_arr, j_len, j_nar, j_oi, j_ol, j_of, j_od, j_or, j_ov, true_and, and_true, LQ_x11 s1]
      split
      · rename_i g
        obtain ⟨p, f, hr, hI2⟩ := hA L1 n hI1 hfn (by omega) g
        refine sp_X1_acknowledge hl s1 (n := n) (by omega) hr.1 hr.2.1 hr.2.2.1 hr.2.2.2.1 hr.2.2.2.2 (fun h2 s2 => ?_)
        simp only [LQ_sh s2, LQ_R0 s2, LQ_R1 s2, LQ_R2 s2, LQ_R3 s2, LQ_R4 s2, j_ref, j_ari, j_arb, j_arr, j_len, j_nar, j_oi, j_ol, j_of, j_od, j_or, j_ov, true_and, and_true]
        refine nxt _ h2 hI2 s2 ?_
        rw [if_pos g]
        unfold lAckAt
        rw [(lRef_at hr).2, (lRef_at hr).1]
      · rename_i g
        exact nxt L1 h1 hI1 s1 (by rw [if_neg g])
  obtain ⟨e10, e15⟩ := hx L hI
  refine j_meth hl rfl g_X1_settleDue (Nat.le_of_ble_eq_true rfl) (fun _ => ⟨_, _, rfl, (LQ_sh s)⟩) hB.1 hB.2 (fun G hG => ?_)
  refine b_X1_settleDue_0 hG ?_
  dsimp only [q_X1_settleDue_0, j_wp, j_opB, j_opA, j_nth, j_i1, j_i2, j_l1, j_l2, j_li, j_f1, j_f2, j_d1, j_d2, j_r1, j_ai, j_aii, j_ail, j_aid, j_air, j_st1, j_st2, j_stu, j_kl, j_cond, j_args, j_out, j_few, j_cw, j_nat, j_pad, j_exp, Nat.reduceAdd]
  simp only [LQ_sh s, LQ_R0 s, LQ_R1 s, LQ_R2 s, LQ_R3 s, LQ_R4 s, j_ref, j_ari, j_arb, j_arr, j_len, j_nar, j_oi, j_ol, j_of, j_od, j_or, j_ov, true_and, and_true, LQ_x15 s, e15]
  exact one hG (nt - fo) fo L h (by omega) (Nat.le_refl _) hI s H
end LnkE
