/-! ===== the reference: queues, charges, deliveries, losses, sending ===== -/
section RefB
variable {l : Launch} {D : va_G} {bs : Nat} {E : j_E} {h0 h : j_H} {m : Nat} {M : Rf} {d : Nat} {Q : j_O → j_H → Prop}
def rChg (M : Rf) (n f : Nat) (v : Int32) : Rf := rsS (rsV M f (rV M f + (if v = 0 then -rC M n else rC M n))) n 4 (if v = 0 then 0 else 1)
theorem sp_X9_putCharge (hl : l.stackTraces = false) (s : ME E h0 m M h) {n p f : Nat} {v : Int32} (hn : n < 300) (hp : p < 100) (hf : f < 6) (hpn : rS M n 0 = nI p) (hfp : rP M p 0 = nI f) (H : ∀ h', ME E h0 m (rChg M n f v) h' → Q (.inl none) h') : j_Met l D bs E (d + 3) n_X9_putCharge [.ref m, .int (nI n), .int v] h Q := by
  have hB := ME_b s
  unfold rChg at H
  refine j_meth hl rfl g_X9_putCharge (Nat.le_of_ble_eq_true rfl) (fun _ => ⟨_, _, rfl, (ME_sh s)⟩) hB.1 hB.2 (fun G hG => ?_)
  have fin : ∀ (x : Int64), x = (if v = 0 then -rC M n else rC M n) → G 37 [.ref m, .int (nI n), .int v] [.long x, .long (rV M f), .int (nI f), .ref (m + 6)] h := by
    intro x e
    rw [← e] at H
    refine b_X9_putCharge_37 hG ?_
    dsimp only [q_X9_putCharge_37, j_wp, j_opB, j_opA, j_nth, j_i1, j_i2, j_l1, j_l2, j_li, j_f1, j_f2, j_d1, j_d2, j_r1, j_ai, j_aii, j_ail, j_aid, j_air, j_st1, j_st2, j_stu, j_kl, j_cond, j_args, j_out, j_few, j_cw, j_nat, j_pad, j_exp, Nat.reduceAdd]
    simp only [ME_sh s, ME_r0 s, ME_a0 s, ME_r5 s, ME_a5 s, j_ref, j_ari, j_arb, j_arr, j_len, j_nar, j_oi, j_ol, j_of, j_od, j_or, j_ov, true_and, and_true]
    refine ⟨vp_in_nI (by omega) (by omega), ?_⟩
    rw [nI_clamp (by omega)]
    have s1 := ME_V s hf (rV M f + x)
    split
    · rename_i g
      rw [if_pos g] at H
      refine b_X9_putCharge_50 hG ?_
      dsimp only [q_X9_putCharge_50, j_wp, j_opB, j_opA, j_nth, j_i1, j_i2, j_l1, j_l2, j_li, j_f1, j_f2, j_d1, j_d2, j_r1, j_ai, j_aii, j_ail, j_aid, j_air, j_st1, j_st2, j_stu, j_kl, j_cond, j_args, j_out, j_few, j_cw, j_nat, j_pad, j_exp, Nat.reduceAdd]
      refine b_X9_putCharge_51 hG ?_
      dsimp only [q_X9_putCharge_51, j_wp, j_opB, j_opA, j_nth, j_i1, j_i2, j_l1, j_l2, j_li, j_f1, j_f2, j_d1, j_d2, j_r1, j_ai, j_aii, j_ail, j_aid, j_air, j_st1, j_st2, j_stu, j_kl, j_cond, j_args, j_out, j_few, j_cw, j_nat, j_pad, j_exp, Nat.reduceAdd]
      refine sp_X9_putSending hl s1 hn (k := 4) (by omega) (fun h2 s2 => ?_)
      simp only [j_ref, j_ari, j_arb, j_arr, j_len, j_nar, j_oi, j_ol, j_of, j_od, j_or, j_ov, true_and, and_true]
      exact H h2 s2
    · rename_i g
      rw [if_neg g] at H
      refine b_X9_putCharge_51 hG ?_
      dsimp only [q_X9_putCharge_51, j_wp, j_opB, j_opA, j_nth, j_i1, j_i2, j_l1, j_l2, j_li, j_f1, j_f2, j_d1, j_d2, j_r1, j_ai, j_aii, j_ail, j_aid, j_air, j_st1, j_st2, j_stu, j_kl, j_cond, j_args, j_out, j_few, j_cw, j_nat, j_pad, j_exp, Nat.reduceAdd]
      refine sp_X9_putSending hl s1 hn (k := 4) (by omega) (fun h2 s2 => ?_)
      simp only [j_ref, j_ari, j_arb, j_arr, j_len, j_nar, j_oi, j_ol, j_of, j_od, j_or, j_ov, true_and, and_true]
      exact H h2 s2
  refine b_X9_putCharge_0 hG ?_
  dsimp only [q_X9_putCharge_0, j_wp, j_opB, j_opA, j_nth, j_i1, j_i2, j_l1, j_l2, j_li, j_f1, j_f2, j_d1, j_d2, j_r1, j_ai, j_aii, j_ail, j_aid, j_air, j_st1, j_st2, j_stu, j_kl, j_cond, j_args, j_out, j_few, j_cw, j_nat, j_pad, j_exp, Nat.reduceAdd]
  simp only [ME_sh s, ME_r0 s, ME_a0 s, ME_r5 s, ME_a5 s, j_ref, j_ari, j_arb, j_arr, j_len, j_nar, j_oi, j_ol, j_of, j_od, j_or, j_ov, true_and, and_true]
  refine sp_X9_flowOfSending hl s hn hp hpn ?_
  simp only [ME_sh s, ME_r0 s, ME_a0 s, ME_r5 s, ME_a5 s, j_ref, j_ari, j_arb, j_arr, j_len, j_nar, j_oi, j_ol, j_of, j_od, j_or, j_ov, true_and, and_true, hfp]
  refine ⟨vp_in_nI (by omega) (by omega), ?_⟩
  rw [nI_clamp (n := f) (by omega), ME_gV s hf]
  split
  · rename_i g
    refine b_X9_putCharge_27 hG ?_
    dsimp only [q_X9_putCharge_27, j_wp, j_opB, j_opA, j_nth, j_i1, j_i2, j_l1, j_l2, j_li, j_f1, j_f2, j_d1, j_d2, j_r1, j_ai, j_aii, j_ail, j_aid, j_air, j_st1, j_st2, j_stu, j_kl, j_cond, j_args, j_out, j_few, j_cw, j_nat, j_pad, j_exp, Nat.reduceAdd]
    simp only [ME_sh s, ME_r0 s, ME_a0 s, ME_r5 s, ME_a5 s, j_ref, j_ari, j_arb, j_arr, j_len, j_nar, j_oi, j_ol, j_of, j_od, j_or, j_ov, true_and, and_true, r_ixC]
    refine ⟨vp_in_nI (by omega) (by omega), ?_⟩
    rw [nI_clamp (by omega), ME_gC s hn]
    exact fin _ (by rw [if_pos g])
  · rename_i g
    simp only [ME_sh s, ME_r0 s, ME_a0 s, ME_r5 s, ME_a5 s, j_ref, j_ari, j_arb, j_arr, j_len, j_nar, j_oi, j_ol, j_of, j_od, j_or, j_ov, true_and, and_true, r_ixC]
    refine ⟨vp_in_nI (by omega) (by omega), ?_⟩
    rw [nI_clamp (by omega), ME_gC s hn]
    exact fin _ (by rw [if_neg g])
def rRefund (M : Rf) (n f : Nat) : Rf := if rS M n 4 = 1 then rChg M n f 0 else M
theorem sp_X9_refund (hl : l.stackTraces = false) (s : ME E h0 m M h) {n p f : Nat} (hn : n < 300) (hp : p < 100) (hf : f < 6) (hpn : rS M n 0 = nI p) (hfp : rP M p 0 = nI f) (H : ∀ h', ME E h0 m (rRefund M n f) h' → Q (.inl none) h') : j_Met l D bs E (d + 4) n_X9_refund [.ref m, .int (nI n)] h Q := by
  have hB := ME_b s
  unfold rRefund at H
  refine j_meth hl rfl g_X9_refund (Nat.le_of_ble_eq_true rfl) (fun _ => ⟨_, _, rfl, (ME_sh s)⟩) hB.1 hB.2 (fun G hG => ?_)
  refine b_X9_refund_0 hG ?_
  dsimp only [q_X9_refund_0, j_wp, j_opB, j_opA, j_nth, j_i1, j_i2, j_l1, j_l2, j_li, j_f1, j_f2, j_d1, j_d2, j_r1, j_ai, j_aii, j_ail, j_aid, j_air, j_st1, j_st2, j_stu, j_kl, j_cond, j_args, j_out, j_few, j_cw, j_nat, j_pad, j_exp, Nat.reduceAdd]
  refine sp_X9_ofSending hl s hn (k := 4) (by omega) ?_
  simp only [j_ref, j_ari, j_arb, j_arr, j_len, j_nar, j_oi, j_ol, j_of, j_od, j_or, j_ov, true_and, and_true]
  split
  · rename_i g
    rw [if_pos g] at H
    refine sp_X9_putCharge hl s hn hp hf hpn hfp (fun h1 s1 => ?_)
    simp only [j_ref, j_ari, j_arb, j_arr, j_len, j_nar, j_oi, j_ol, j_of, j_od, j_or, j_ov, true_and, and_true]
    refine b_X9_refund_16 hG ?_
    dsimp only [q_X9_refund_16, j_wp, j_opB, j_opA, j_nth, j_i1, j_i2, j_l1, j_l2, j_li, j_f1, j_f2, j_d1, j_d2, j_r1, j_ai, j_aii, j_ail, j_aid, j_air, j_st1, j_st2, j_stu, j_kl, j_cond, j_args, j_out, j_few, j_cw, j_nat, j_pad, j_exp, Nat.reduceAdd]
    exact H h1 s1
  · rename_i g
    rw [if_neg g] at H
    refine b_X9_refund_16 hG ?_
    dsimp only [q_X9_refund_16, j_wp, j_opB, j_opA, j_nth, j_i1, j_i2, j_l1, j_l2, j_li, j_f1, j_f2, j_d1, j_d2, j_r1, j_ai, j_aii, j_ail, j_aid, j_air, j_st1, j_st2, j_stu, j_kl, j_cond, j_args, j_out, j_few, j_cw, j_nat, j_pad, j_exp, Nat.reduceAdd]
    exact H h s
/-- what is left of the queue without p: k places more from i on, j are kept so far -/
def rTakeL (f : Nat) (p : Int32) : Nat → Nat → Nat → Rf → Rf × Nat
  | 0, _, j, M => (M, j)
  | k + 1, i, j, M => if rQ M f i = p then rTakeL f p k (i + 1) j M else rTakeL f p k (i + 1) (j + 1) (rsQ M f j (rQ M f i))
def rTakeE (f : Nat) (y : Rf × Nat) : Rf := rsF y.1 f 7 (rF y.1 f 7 + (nI y.2 - rF y.1 f 7))
def rTake (M : Rf) (f p : Nat) : Rf := rTakeE f (rTakeL f (nI p) (tn (rF M f 7)) 0 0 M)
theorem sp_X9_takeFrom (hl : l.stackTraces = false) (s : ME E h0 m M h) {n p f : Nat} (hn : n ≤ 100) (hf : f < 6) (hx : rF M f 7 = nI n) (H : ∀ h', ME E h0 m (rTake M f p) h' → Q (.inl none) h') : j_Met l D bs E (d + 2) n_X9_takeFrom [.ref m, .int (nI f), .int (nI p)] h Q := by
  have hB := ME_b s
  unfold rTake at H
  rw [hx, tn, nI_clamp (by omega)] at H
  refine j_meth hl rfl g_X9_takeFrom (Nat.le_of_ble_eq_true rfl) (fun _ => ⟨_, _, rfl, (ME_sh s)⟩) hB.1 hB.2 (fun G hG => ?_)
  have loop : ∀ (k i j : Nat) (y : Value) (M1 : Rf) (h1 : j_H), i + k = n → j ≤ i → ME E h0 m M1 h1 → rF M1 f 7 = nI n → (∀ h', ME E h0 m (rTakeE f (rTakeL f (nI p) k i j M1)) h' → Q (.inl none) h') → G 14 [.ref m, .int (nI f), .int (nI p), .int (93 + 100 * nI f), .int (nI j), .int (nI i), y] [] h1 := by
    intro k
    induction k with
    | zero =>
      intro i j y M1 h1 hi hj s1 hx1 H
      simp only [rTakeL] at H
      unfold rTakeE at H
      refine b_X9_takeFrom_14 hG ?_
      dsimp only [q_X9_takeFrom_14, j_wp, j_opB, j_opA, j_nth, j_i1, j_i2, j_l1, j_l2, j_li, j_f1, j_f2, j_d1, j_d2, j_r1, j_ai, j_aii, j_ail, j_aid, j_air, j_st1, j_st2, j_stu, j_kl, j_cond, j_args, j_out, j_few, j_cw, j_nat, j_pad, j_exp, Nat.reduceAdd]
      refine sp_X9_ofFlow hl s1 hf (k := 7) (by omega) ?_
      simp only [j_ref, j_ari, j_arb, j_arr, j_len, j_nar, j_oi, j_ol, j_of, j_od, j_or, j_ov, true_and, and_true, hx1]
      rw [if_neg (nI_nlt (by omega) (by omega))]
      refine b_X9_takeFrom_63 hG ?_
      dsimp only [q_X9_takeFrom_63, j_wp, j_opB, j_opA, j_nth, j_i1, j_i2, j_l1, j_l2, j_li, j_f1, j_f2, j_d1, j_d2, j_r1, j_ai, j_aii, j_ail, j_aid, j_air, j_st1, j_st2, j_stu, j_kl, j_cond, j_args, j_out, j_few, j_cw, j_nat, j_pad, j_exp, Nat.reduceAdd]
      refine sp_X9_ofFlow hl s1 hf (k := 7) (by omega) ?_
      simp only [j_ref, j_ari, j_arb, j_arr, j_len, j_nar, j_oi, j_ol, j_of, j_od, j_or, j_ov, true_and, and_true]
      refine sp_X9_addToFlow hl s1 hf (k := 7) (by omega) (fun h2 s2 => ?_)
      simp only [j_ref, j_ari, j_arb, j_arr, j_len, j_nar, j_oi, j_ol, j_of, j_od, j_or, j_ov, true_and, and_true]
      exact H h2 s2
    | succ k ih =>
      intro i j y M1 h1 hi hj s1 hx1 H
      refine b_X9_takeFrom_14 hG ?_
      dsimp only [q_X9_takeFrom_14, j_wp, j_opB, j_opA, j_nth, j_i1, j_i2, j_l1, j_l2, j_li, j_f1, j_f2, j_d1, j_d2, j_r1, j_ai, j_aii, j_ail, j_aid, j_air, j_st1, j_st2, j_stu, j_kl, j_cond, j_args, j_out, j_few, j_cw, j_nat, j_pad, j_exp, Nat.reduceAdd]
      refine sp_X9_ofFlow hl s1 hf (k := 7) (by omega) ?_
      simp only [ME_sh s1, ME_r0 s1, ME_a0 s1, ME_r5 s1, ME_a5 s1, j_ref, j_ari, j_arb, j_arr, j_len, j_nar, j_oi, j_ol, j_of, j_od, j_or, j_ov, true_and, and_true, hx1]
      rw [if_pos (nI_lt (by omega) (by omega))]
      simp only [r_ixQ]
      refine ⟨vp_in_nI (by omega) (by omega), ?_⟩
      rw [nI_clamp (by omega), ME_gQ s1 hf (by omega)]
      split
      · rename_i g
        simp only [rTakeL, if_pos g] at H
        refine b_X9_takeFrom_57 hG ?_
        dsimp only [q_X9_takeFrom_57, j_wp, j_opB, j_opA, j_nth, j_i1, j_i2, j_l1, j_l2, j_li, j_f1, j_f2, j_d1, j_d2, j_r1, j_ai, j_aii, j_ail, j_aid, j_air, j_st1, j_st2, j_stu, j_kl, j_cond, j_args, j_out, j_few, j_cw, j_nat, j_pad, j_exp, Nat.reduceAdd]
        rw [nI_1]
        exact ih (i + 1) j _ M1 h1 (by omega) (by omega) s1 hx1 H
      · rename_i g
        simp only [rTakeL, if_neg g] at H
        refine ⟨vp_in_nI (by omega) (by omega), ?_⟩
        rw [nI_clamp (by omega)]
        have s2 := ME_Q s1 hf (k := j) (by omega) (rQ M1 f i)
        refine b_X9_takeFrom_57 hG ?_
        dsimp only [q_X9_takeFrom_57, j_wp, j_opB, j_opA, j_nth, j_i1, j_i2, j_l1, j_l2, j_li, j_f1, j_f2, j_d1, j_d2, j_r1, j_ai, j_aii, j_ail, j_aid, j_air, j_st1, j_st2, j_stu, j_kl, j_cond, j_args, j_out, j_few, j_cw, j_nat, j_pad, j_exp, Nat.reduceAdd]
        rw [nI_1, nI_1]
        exact ih (i + 1) (j + 1) _ _ _ (by omega) (by omega) s2 hx1 H
  refine b_X9_takeFrom_0 hG ?_
  dsimp only [q_X9_takeFrom_0, j_wp, j_opB, j_opA, j_nth, j_i1, j_i2, j_l1, j_l2, j_li, j_f1, j_f2, j_d1, j_d2, j_r1, j_ai, j_aii, j_ail, j_aid, j_air, j_st1, j_st2, j_stu, j_kl, j_cond, j_args, j_out, j_few, j_cw, j_nat, j_pad, j_exp, Nat.reduceAdd]
  exact loop n 0 0 _ M h (by omega) (by omega) s hx H
theorem rTakeL_F (f : Nat) (p : Int32) : ∀ (k i j : Nat) (M : Rf), rF (rTakeL f p k i j M).1 = rF M ∧ rP (rTakeL f p k i j M).1 = rP M ∧ rS (rTakeL f p k i j M).1 = rS M ∧ rX (rTakeL f p k i j M).1 = rX M ∧ rV (rTakeL f p k i j M).1 = rV M ∧ rC (rTakeL f p k i j M).1 = rC M ∧ rU (rTakeL f p k i j M).1 = rU M ∧ rW (rTakeL f p k i j M).1 = rW M := by
  intro k
  induction k with
  | zero => intro i j M; exact ⟨rfl, rfl, rfl, rfl, rfl, rfl, rfl, rfl⟩
  | succ k ih =>
    intro i j M
    unfold rTakeL
    split
    · exact ih _ _ _
    · exact ih _ _ _
theorem rTake_P (M : Rf) (f p : Nat) : rP (rTake M f p) = rP M := (rTakeL_F f (nI p) _ 0 0 M).2.1
theorem rTake_S (M : Rf) (f p : Nat) : rS (rTake M f p) = rS M := (rTakeL_F f (nI p) _ 0 0 M).2.2.1
theorem rTake_X (M : Rf) (f p : Nat) : rX (rTake M f p) = rX M := (rTakeL_F f (nI p) _ 0 0 M).2.2.2.1
theorem rTake_V (M : Rf) (f p : Nat) : rV (rTake M f p) = rV M := (rTakeL_F f (nI p) _ 0 0 M).2.2.2.2.1
theorem rTake_C (M : Rf) (f p : Nat) : rC (rTake M f p) = rC M := (rTakeL_F f (nI p) _ 0 0 M).2.2.2.2.2.1
/-- the queue's first n places one further -/
def rShift (f : Nat) : Nat → Rf → Rf
  | 0, M => M
  | k + 1, M => rShift f k (rsQ M f (k + 1) (rQ M f k))
def rPutE (M : Rf) (f i p : Nat) : Rf := rsF (rsQ M f i (nI p)) f 7 (rF (rsQ M f i (nI p)) f 7 + 1)
def rPutHead (M : Rf) (f p : Nat) : Rf := rPutE (rShift f (tn (rF M f 7)) M) f 0 p
def rPutEnd (M : Rf) (f p : Nat) : Rf := rPutE M f (tn (rF M f 7)) p
theorem r_ixQ0 {f : Nat} : (93 : Int32) + 100 * nI f = nI (93 + 100 * f) := by
  show nI 93 + nI 100 * nI f = _
  rw [pk_mul, nI_add]
theorem sp_X9_putInto1 (hl : l.stackTraces = false) (s : ME E h0 m M h) {n p f : Nat} (hn : n < 100) (hf : f < 6) (hx : rF M f 7 = nI n) (H : ∀ h', ME E h0 m (rPutHead M f p) h' → Q (.inl none) h') : j_Met l D bs E (d + 2) n_X9_putInto [.ref m, .int (nI f), .int (nI p), .int 1] h Q := by
  have hB := ME_b s
  unfold rPutHead at H
  rw [hx, tn, nI_clamp (by omega)] at H
  refine j_meth hl rfl g_X9_putInto (Nat.le_of_ble_eq_true rfl) (fun _ => ⟨_, _, rfl, (ME_sh s)⟩) hB.1 hB.2 (fun G hG => ?_)
  have loop : ∀ (k : Nat) (M1 : Rf) (h1 : j_H), k ≤ n → ME E h0 m M1 h1 → rF M1 f 7 = nI n → (∀ h', ME E h0 m (rPutE (rShift f k M1) f 0 p) h' → Q (.inl none) h') → G 22 [.ref m, .int (nI f), .int (nI p), .int 1, .int (nI n), .int (93 + 100 * nI f), .int (nI k)] [] h1 := by
    intro k
    induction k with
    | zero =>
      intro M1 h1 hk s1 hx1 H
      simp only [rShift, rPutE] at H
      refine b_X9_putInto_22 hG ?_
      dsimp only [q_X9_putInto_22, j_wp, j_opB, j_opA, j_nth, j_i1, j_i2, j_l1, j_l2, j_li, j_f1, j_f2, j_d1, j_d2, j_r1, j_ai, j_aii, j_ail, j_aid, j_air, j_st1, j_st2, j_stu, j_kl, j_cond, j_args, j_out, j_few, j_cw, j_nat, j_pad, j_exp, Nat.reduceAdd]
      rw [if_neg (show ¬ (0 : Int32) < nI 0 by decide)]
      refine b_X9_putInto_59 hG ?_
      dsimp only [q_X9_putInto_59, j_wp, j_opB, j_opA, j_nth, j_i1, j_i2, j_l1, j_l2, j_li, j_f1, j_f2, j_d1, j_d2, j_r1, j_ai, j_aii, j_ail, j_aid, j_air, j_st1, j_st2, j_stu, j_kl, j_cond, j_args, j_out, j_few, j_cw, j_nat, j_pad, j_exp, Nat.reduceAdd]
      simp only [ME_sh s1, ME_r0 s1, ME_a0 s1, ME_r5 s1, ME_a5 s1, j_ref, j_ari, j_arb, j_arr, j_len, j_nar, j_oi, j_ol, j_of, j_od, j_or, j_ov, true_and, and_true]
      rw [if_neg (by decide)]
      refine b_X9_putInto_77 hG ?_
      dsimp only [q_X9_putInto_77, j_wp, j_opB, j_opA, j_nth, j_i1, j_i2, j_l1, j_l2, j_li, j_f1, j_f2, j_d1, j_d2, j_r1, j_ai, j_aii, j_ail, j_aid, j_air, j_st1, j_st2, j_stu, j_kl, j_cond, j_args, j_out, j_few, j_cw, j_nat, j_pad, j_exp, Nat.reduceAdd]
      simp only [ME_sh s1, ME_r0 s1, ME_a0 s1, ME_r5 s1, ME_a5 s1, j_ref, j_ari, j_arb, j_arr, j_len, j_nar, j_oi, j_ol, j_of, j_od, j_or, j_ov, true_and, and_true, r_ixQ0]
      refine ⟨vp_in_nI (by omega) (by omega), ?_⟩
      rw [nI_clamp (by omega)]
      have s2 := ME_Q s1 hf (k := 0) (by omega) (nI p)
      refine sp_X9_addToFlow hl s2 hf (k := 7) (by omega) (fun h3 s3 => ?_)
      simp only [j_ref, j_ari, j_arb, j_arr, j_len, j_nar, j_oi, j_ol, j_of, j_od, j_or, j_ov, true_and, and_true]
      exact H h3 s3
    | succ k ih =>
      intro M1 h1 hk s1 hx1 H
      simp only [rShift] at H
      have e : nI (93 + 100 * f + (k + 1)) - 1 = nI (93 + 100 * f + k) := nI_pred _
      refine b_X9_putInto_22 hG ?_
      dsimp only [q_X9_putInto_22, j_wp, j_opB, j_opA, j_nth, j_i1, j_i2, j_l1, j_l2, j_li, j_f1, j_f2, j_d1, j_d2, j_r1, j_ai, j_aii, j_ail, j_aid, j_air, j_st1, j_st2, j_stu, j_kl, j_cond, j_args, j_out, j_few, j_cw, j_nat, j_pad, j_exp, Nat.reduceAdd]
      rw [if_pos (show (0 : Int32) < nI (k + 1) from nI_lt (a := 0) (by omega) (by omega)), if_neg (by decide)]
      simp only [ME_sh s1, ME_r0 s1, ME_a0 s1, ME_r5 s1, ME_a5 s1, j_ref, j_ari, j_arb, j_arr, j_len, j_nar, j_oi, j_ol, j_of, j_od, j_or, j_ov, true_and, and_true, r_ixQ, e]
      refine ⟨vp_in_nI (by omega) (by omega), vp_in_nI (by omega) (by omega), ?_⟩
      rw [nI_clamp (by omega), nI_clamp (by omega), ME_gQ s1 hf (by omega)]
      have s2 := ME_Q s1 hf (k := k + 1) (by omega) (rQ M1 f k)
      have e2 : nI (k + 1) + (-1) = nI k := sb_m1 (p := k + 1) (by omega)
      rw [e2]
      exact ih _ _ (by omega) s2 hx1 H
  refine b_X9_putInto_0 hG ?_
  dsimp only [q_X9_putInto_0, j_wp, j_opB, j_opA, j_nth, j_i1, j_i2, j_l1, j_l2, j_li, j_f1, j_f2, j_d1, j_d2, j_r1, j_ai, j_aii, j_ail, j_aid, j_air, j_st1, j_st2, j_stu, j_kl, j_cond, j_args, j_out, j_few, j_cw, j_nat, j_pad, j_exp, Nat.reduceAdd]
  refine sp_X9_ofFlow hl s hf (k := 7) (by omega) ?_
  simp only [j_ref, j_ari, j_arb, j_arr, j_len, j_nar, j_oi, j_ol, j_of, j_od, j_or, j_ov, true_and, and_true, hx, j_st1, j_kl]
  exact loop n M h (Nat.le_refl _) s hx H
theorem sp_X9_putInto0 (hl : l.stackTraces = false) (s : ME E h0 m M h) {n p f : Nat} (hn : n < 100) (hf : f < 6) (hx : rF M f 7 = nI n) (H : ∀ h', ME E h0 m (rPutEnd M f p) h' → Q (.inl none) h') : j_Met l D bs E (d + 2) n_X9_putInto [.ref m, .int (nI f), .int (nI p), .int 0] h Q := by
  have hB := ME_b s
  unfold rPutEnd rPutE at H
  rw [hx, tn, nI_clamp (by omega)] at H
  refine j_meth hl rfl g_X9_putInto (Nat.le_of_ble_eq_true rfl) (fun _ => ⟨_, _, rfl, (ME_sh s)⟩) hB.1 hB.2 (fun G hG => ?_)
  refine b_X9_putInto_0 hG ?_
  dsimp only [q_X9_putInto_0, j_wp, j_opB, j_opA, j_nth, j_i1, j_i2, j_l1, j_l2, j_li, j_f1, j_f2, j_d1, j_d2, j_r1, j_ai, j_aii, j_ail, j_aid, j_air, j_st1, j_st2, j_stu, j_kl, j_cond, j_args, j_out, j_few, j_cw, j_nat, j_pad, j_exp, Nat.reduceAdd]
  refine sp_X9_ofFlow hl s hf (k := 7) (by omega) ?_
  simp only [j_ref, j_ari, j_arb, j_arr, j_len, j_nar, j_oi, j_ol, j_of, j_od, j_or, j_ov, true_and, and_true, hx, j_st1, j_kl]
  have fin : G 59 [.ref m, .int (nI f), .int (nI p), .int 0, .int (nI n), .int (93 + 100 * nI f), .int (nI n)] [] h := by
    refine b_X9_putInto_59 hG ?_
    dsimp only [q_X9_putInto_59, j_wp, j_opB, j_opA, j_nth, j_i1, j_i2, j_l1, j_l2, j_li, j_f1, j_f2, j_d1, j_d2, j_r1, j_ai, j_aii, j_ail, j_aid, j_air, j_st1, j_st2, j_stu, j_kl, j_cond, j_args, j_out, j_few, j_cw, j_nat, j_pad, j_exp, Nat.reduceAdd]
    simp only [ME_sh s, ME_r0 s, ME_a0 s, ME_r5 s, ME_a5 s, j_ref, j_ari, j_arb, j_arr, j_len, j_nar, j_oi, j_ol, j_of, j_od, j_or, j_ov, true_and, and_true]
    rw [if_pos (by decide)]
    refine b_X9_putInto_72 hG ?_
    dsimp only [q_X9_putInto_72, j_wp, j_opB, j_opA, j_nth, j_i1, j_i2, j_l1, j_l2, j_li, j_f1, j_f2, j_d1, j_d2, j_r1, j_ai, j_aii, j_ail, j_aid, j_air, j_st1, j_st2, j_stu, j_kl, j_cond, j_args, j_out, j_few, j_cw, j_nat, j_pad, j_exp, Nat.reduceAdd]
    refine b_X9_putInto_77 hG ?_
    dsimp only [q_X9_putInto_77, j_wp, j_opB, j_opA, j_nth, j_i1, j_i2, j_l1, j_l2, j_li, j_f1, j_f2, j_d1, j_d2, j_r1, j_ai, j_aii, j_ail, j_aid, j_air, j_st1, j_st2, j_stu, j_kl, j_cond, j_args, j_out, j_few, j_cw, j_nat, j_pad, j_exp, Nat.reduceAdd]
    simp only [ME_sh s, ME_r0 s, ME_a0 s, ME_r5 s, ME_a5 s, j_ref, j_ari, j_arb, j_arr, j_len, j_nar, j_oi, j_ol, j_of, j_od, j_or, j_ov, true_and, and_true, r_ixQ]
    refine ⟨vp_in_nI (by omega) (by omega), ?_⟩
    rw [nI_clamp (by omega)]
    have s2 := ME_Q s hf (k := n) (by omega) (nI p)
    refine sp_X9_addToFlow hl s2 hf (k := 7) (by omega) (fun h3 s3 => ?_)
    simp only [j_ref, j_ari, j_arb, j_arr, j_len, j_nar, j_oi, j_ol, j_of, j_od, j_or, j_ov, true_and, and_true]
    exact H h3 s3
  refine b_X9_putInto_22 hG ?_
  dsimp only [q_X9_putInto_22, j_wp, j_opB, j_opA, j_nth, j_i1, j_i2, j_l1, j_l2, j_li, j_f1, j_f2, j_d1, j_d2, j_r1, j_ai, j_aii, j_ail, j_aid, j_air, j_st1, j_st2, j_stu, j_kl, j_cond, j_args, j_out, j_few, j_cw, j_nat, j_pad, j_exp, Nat.reduceAdd]
  split
  · rw [if_pos (by decide)]
    exact fin
  · exact fin
def rDeliver0 (M : Rf) (n p f : Nat) : Rf :=
  let M2 := rsP M p 3 2
  let M3 := rsP M2 p 5 (rX M2 4)
  let M4 := rsF M3 f 9 (rF M3 f 9 + rP M3 p 1)
  if rS M4 n 4 = 0 then rsF (rChg M4 n f 1) f 12 (rF (rChg M4 n f 1) f 12 + 1) else M4
def rDeliver (M : Rf) (n p f : Nat) : Rf := rDeliver0 (if rP M p 3 = 0 then rTake M f p else M) n p f
theorem sp_X9_deliver (hl : l.stackTraces = false) (s : ME E h0 m M h) {n p f : Nat} (hn : n < 300) (hp : p < 100) (hf : f < 6) (hpn : rS M n 0 = nI p) (hfp : rP M p 0 = nI f) (hq : ∃ q, q ≤ 100 ∧ rF M f 7 = nI q) (H : ∀ h', ME E h0 m (rDeliver M n p f) h' → Q (.inl none) h') : j_Met l D bs E (d + 4) n_X9_deliver [.ref m, .int (nI n), .int (nI p), .int (nI f)] h Q := by
  have hB := ME_b s
  unfold rDeliver at H
  refine j_meth hl rfl g_X9_deliver (Nat.le_of_ble_eq_true rfl) (fun _ => ⟨_, _, rfl, (ME_sh s)⟩) hB.1 hB.2 (fun G hG => ?_)
  have fin : ∀ (M1 : Rf) (h1 : j_H), ME E h0 m M1 h1 → rS M1 n 0 = nI p → rP M1 p 0 = nI f → (∀ h', ME E h0 m (rDeliver0 M1 n p f) h' → Q (.inl none) h') → G 15 [.ref m, .int (nI n), .int (nI p), .int (nI f)] [] h1 := by
    intro M1 h1 s1 e1 e2 H
    dsimp only [rDeliver0] at H
    refine b_X9_deliver_15 hG ?_
    dsimp only [q_X9_deliver_15, j_wp, j_opB, j_opA, j_nth, j_i1, j_i2, j_l1, j_l2, j_li, j_f1, j_f2, j_d1, j_d2, j_r1, j_ai, j_aii, j_ail, j_aid, j_air, j_st1, j_st2, j_stu, j_kl, j_cond, j_args, j_out, j_few, j_cw, j_nat, j_pad, j_exp, Nat.reduceAdd]
    refine sp_X9_putPacket hl s1 hp (k := 3) (by omega) (fun h2 s2 => ?_)
    simp only [ME_sh s2, ME_r0 s2, ME_a0 s2, ME_r5 s2, ME_a5 s2, j_ref, j_ari, j_arb, j_arr, j_len, j_nar, j_oi, j_ol, j_of, j_od, j_or, j_ov, true_and, and_true, ME_x4 s2]
    refine ⟨vp_c (k := 4) (by omega) (by omega), ?_⟩
    refine sp_X9_putPacket hl s2 hp (k := 5) (by omega) (fun h3 s3 => ?_)
    simp only [j_ref, j_ari, j_arb, j_arr, j_len, j_nar, j_oi, j_ol, j_of, j_od, j_or, j_ov, true_and, and_true]
    refine sp_X9_ofPacket hl s3 hp (k := 1) (by omega) ?_
    simp only [j_ref, j_ari, j_arb, j_arr, j_len, j_nar, j_oi, j_ol, j_of, j_od, j_or, j_ov, true_and, and_true]
    refine sp_X9_addToFlow hl s3 hf (k := 9) (by omega) (fun h4 s4 => ?_)
    simp only [j_ref, j_ari, j_arb, j_arr, j_len, j_nar, j_oi, j_ol, j_of, j_od, j_or, j_ov, true_and, and_true]
    refine sp_X9_ofSending hl s4 hn (k := 4) (by omega) ?_
    simp only [j_ref, j_ari, j_arb, j_arr, j_len, j_nar, j_oi, j_ol, j_of, j_od, j_or, j_ov, true_and, and_true]
    split
    · rename_i g
      rw [if_pos g] at H
      refine sp_X9_putCharge hl s4 hn hp hf e1 ?_ (fun h5 s5 => ?_)
      · show j_up (j_up (rP M1) p 3 2) p 5 _ p 0 = nI f
        simp only [j_up]
        rw [if_neg (by omega), if_neg (by omega)]
        exact e2
      · simp only [j_ref, j_ari, j_arb, j_arr, j_len, j_nar, j_oi, j_ol, j_of, j_od, j_or, j_ov, true_and, and_true]
        refine sp_X9_addToFlow hl s5 hf (k := 12) (by omega) (fun h6 s6 => ?_)
        simp only [j_ref, j_ari, j_arb, j_arr, j_len, j_nar, j_oi, j_ol, j_of, j_od, j_or, j_ov, true_and, and_true]
        refine b_X9_deliver_70 hG ?_
        dsimp only [q_X9_deliver_70, j_wp, j_opB, j_opA, j_nth, j_i1, j_i2, j_l1, j_l2, j_li, j_f1, j_f2, j_d1, j_d2, j_r1, j_ai, j_aii, j_ail, j_aid, j_air, j_st1, j_st2, j_stu, j_kl, j_cond, j_args, j_out, j_few, j_cw, j_nat, j_pad, j_exp, Nat.reduceAdd]
        exact H h6 s6
    · rename_i g
      rw [if_neg g] at H
      refine b_X9_deliver_70 hG ?_
      dsimp only [q_X9_deliver_70, j_wp, j_opB, j_opA, j_nth, j_i1, j_i2, j_l1, j_l2, j_li, j_f1, j_f2, j_d1, j_d2, j_r1, j_ai, j_aii, j_ail, j_aid, j_air, j_st1, j_st2, j_stu, j_kl, j_cond, j_args, j_out, j_few, j_cw, j_nat, j_pad, j_exp, Nat.reduceAdd]
      exact H h4 s4
  refine b_X9_deliver_0 hG ?_
  dsimp only [q_X9_deliver_0, j_wp, j_opB, j_opA, j_nth, j_i1, j_i2, j_l1, j_l2, j_li, j_f1, j_f2, j_d1, j_d2, j_r1, j_ai, j_aii, j_ail, j_aid, j_air, j_st1, j_st2, j_stu, j_kl, j_cond, j_args, j_out, j_few, j_cw, j_nat, j_pad, j_exp, Nat.reduceAdd]
  refine sp_X9_ofPacket hl s hp (k := 3) (by omega) ?_
  simp only [j_ref, j_ari, j_arb, j_arr, j_len, j_nar, j_oi, j_ol, j_of, j_od, j_or, j_ov, true_and, and_true]
  split
  · rename_i g
    rw [if_pos g] at H
    obtain ⟨q, hq, hx⟩ := hq
    refine sp_X9_takeFrom hl s hq hf hx (fun h1 s1 => ?_)
    simp only [j_ref, j_ari, j_arb, j_arr, j_len, j_nar, j_oi, j_ol, j_of, j_od, j_or, j_ov, true_and, and_true]
    exact fin _ h1 s1 (by rw [rTake_S]; exact hpn) (by rw [rTake_P]; exact hfp) H
  · rename_i g
    rw [if_neg g] at H
    exact fin _ h s hpn hfp H
def rAck (M : Rf) (n p f : Nat) : Rf :=
  let M1 := rsS M n 3 (if rS M n 3 = 2 then 3 else 1)
  if rP M1 p 3 = 2 then rRefund (rsF M1 f 11 (rF M1 f 11 + 1)) n f else rDeliver M1 n p f
/-- what an invariant must give at a transmission -/
def rRef (M : Rf) (n p f : Nat) : Prop := p < 100 ∧ f < 6 ∧ rS M n 0 = nI p ∧ rP M p 0 = nI f ∧ ∃ q, q ≤ 100 ∧ rF M f 7 = nI q ∧ (rP M p 3 = 1 → q < 100)
theorem rRef_at {M : Rf} {n p f : Nat} (h : rRef M n p f) : tn (rS M n 0) = p ∧ tn (rP M (tn (rS M n 0)) 0) = f := by
  obtain ⟨h1, h2, h3, h4, -⟩ := h
  have e1 : tn (rS M n 0) = p := by rw [h3]; exact nI_clamp (by omega)
  rw [e1, h4]
  exact ⟨rfl, nI_clamp (by omega)⟩
theorem sp_X9_acknowledge (hl : l.stackTraces = false) (s : ME E h0 m M h) {n p f : Nat} (hn : n < 300) (hr : rRef M n p f) (H : ∀ h', ME E h0 m (rAck M n p f) h' → Q (.inl none) h') : j_Met l D bs E (d + 5) n_X9_acknowledge [.ref m, .int (nI n)] h Q := by
  have hB := ME_b s
  obtain ⟨hp, hf, hpn, hfp, q, hq, hx, -⟩ := hr
  refine j_meth hl rfl g_X9_acknowledge (Nat.le_of_ble_eq_true rfl) (fun _ => ⟨_, _, rfl, (ME_sh s)⟩) hB.1 hB.2 (fun G hG => ?_)
  have fin : ∀ v : Int32, v = (if rS M n 3 = 2 then 3 else 1) → G 32 [.ref m, .int (nI n), .int (nI p), .int (nI f)] [.int v, .int 3, .int (nI n), .ref m] h := by
    intro v e
    dsimp only [rAck] at H
    rw [← e] at H
    refine b_X9_acknowledge_32 hG ?_
    dsimp only [q_X9_acknowledge_32, j_wp, j_opB, j_opA, j_nth, j_i1, j_i2, j_l1, j_l2, j_li, j_f1, j_f2, j_d1, j_d2, j_r1, j_ai, j_aii, j_ail, j_aid, j_air, j_st1, j_st2, j_stu, j_kl, j_cond, j_args, j_out, j_few, j_cw, j_nat, j_pad, j_exp, Nat.reduceAdd]
    refine sp_X9_putSending hl s hn (k := 3) (by omega) (fun h1 s1 => ?_)
    simp only [j_ref, j_ari, j_arb, j_arr, j_len, j_nar, j_oi, j_ol, j_of, j_od, j_or, j_ov, true_and, and_true]
    have e1 : rS (rsS M n 3 v) n 0 = nI p := by
      show j_up (rS M) n 3 v n 0 = nI p
      rw [j_up, if_neg (by omega)]
      exact hpn
    refine sp_X9_ofPacket hl s1 hp (k := 3) (by omega) ?_
    simp only [j_ref, j_ari, j_arb, j_arr, j_len, j_nar, j_oi, j_ol, j_of, j_od, j_or, j_ov, true_and, and_true]
    split
    · rename_i g
      rw [if_pos g] at H
      refine sp_X9_addToFlow hl s1 hf (k := 11) (by omega) (fun h2 s2 => ?_)
      simp only [j_ref, j_ari, j_arb, j_arr, j_len, j_nar, j_oi, j_ol, j_of, j_od, j_or, j_ov, true_and, and_true]
      refine sp_X9_refund hl s2 hn hp hf e1 hfp (fun h3 s3 => ?_)
      simp only [j_ref, j_ari, j_arb, j_arr, j_len, j_nar, j_oi, j_ol, j_of, j_od, j_or, j_ov, true_and, and_true]
      refine b_X9_acknowledge_68 hG ?_
      dsimp only [q_X9_acknowledge_68, j_wp, j_opB, j_opA, j_nth, j_i1, j_i2, j_l1, j_l2, j_li, j_f1, j_f2, j_d1, j_d2, j_r1, j_ai, j_aii, j_ail, j_aid, j_air, j_st1, j_st2, j_stu, j_kl, j_cond, j_args, j_out, j_few, j_cw, j_nat, j_pad, j_exp, Nat.reduceAdd]
      exact H h3 s3
    · rename_i g
      rw [if_neg g] at H
      refine b_X9_acknowledge_61 hG ?_
      dsimp only [q_X9_acknowledge_61, j_wp, j_opB, j_opA, j_nth, j_i1, j_i2, j_l1, j_l2, j_li, j_f1, j_f2, j_d1, j_d2, j_r1, j_ai, j_aii, j_ail, j_aid, j_air, j_st1, j_st2, j_stu, j_kl, j_cond, j_args, j_out, j_few, j_cw, j_nat, j_pad, j_exp, Nat.reduceAdd]
      refine sp_X9_deliver hl s1 hn hp hf e1 hfp ⟨q, hq, hx⟩ (fun h3 s3 => ?_)
      simp only [j_ref, j_ari, j_arb, j_arr, j_len, j_nar, j_oi, j_ol, j_of, j_od, j_or, j_ov, true_and, and_true]
      refine b_X9_acknowledge_68 hG ?_
      dsimp only [q_X9_acknowledge_68, j_wp, j_opB, j_opA, j_nth, j_i1, j_i2, j_l1, j_l2, j_li, j_f1, j_f2, j_d1, j_d2, j_r1, j_ai, j_aii, j_ail, j_aid, j_air, j_st1, j_st2, j_stu, j_kl, j_cond, j_args, j_out, j_few, j_cw, j_nat, j_pad, j_exp, Nat.reduceAdd]
      exact H h3 s3
  refine b_X9_acknowledge_0 hG ?_
  dsimp only [q_X9_acknowledge_0, j_wp, j_opB, j_opA, j_nth, j_i1, j_i2, j_l1, j_l2, j_li, j_f1, j_f2, j_d1, j_d2, j_r1, j_ai, j_aii, j_ail, j_aid, j_air, j_st1, j_st2, j_stu, j_kl, j_cond, j_args, j_out, j_few, j_cw, j_nat, j_pad, j_exp, Nat.reduceAdd]
  refine sp_X9_ofSending hl s hn (k := 0) (by omega) ?_
  simp only [j_ref, j_ari, j_arb, j_arr, j_len, j_nar, j_oi, j_ol, j_of, j_od, j_or, j_ov, true_and, and_true, j_st1, hpn]
  refine sp_X9_ofPacket hl s hp (k := 0) (by omega) ?_
  simp only [j_ref, j_ari, j_arb, j_arr, j_len, j_nar, j_oi, j_ol, j_of, j_od, j_or, j_ov, true_and, and_true, j_st1, j_kl, hfp]
  refine sp_X9_ofSending hl s hn (k := 3) (by omega) ?_
  simp only [j_ref, j_ari, j_arb, j_arr, j_len, j_nar, j_oi, j_ol, j_of, j_od, j_or, j_ov, true_and, and_true]
  split
  · rename_i g
    exact fin 3 (by rw [if_pos g])
  · rename_i g
    refine b_X9_acknowledge_31 hG ?_
    dsimp only [q_X9_acknowledge_31, j_wp, j_opB, j_opA, j_nth, j_i1, j_i2, j_l1, j_l2, j_li, j_f1, j_f2, j_d1, j_d2, j_r1, j_ai, j_aii, j_ail, j_aid, j_air, j_st1, j_st2, j_stu, j_kl, j_cond, j_args, j_out, j_few, j_cw, j_nat, j_pad, j_exp, Nat.reduceAdd]
    exact fin 1 (by rw [if_neg g])
def rLose (M : Rf) (ns n p f : Nat) : Rf :=
  let M1 := rsS M n 3 2
  let M2 := rsF M1 f 10 (rF M1 f 10 + 1)
  let M3 := rRefund M2 n f
  if rP M3 p 3 = 1 ∧ rLast M3 (rS M3 n 0) (ns - (n + 1)) (n + 1) = true then
    if rF M3 f 3 < rP M3 p 4 then rsP M3 p 3 3 else rPutHead (rsP M3 p 3 0) f p
  else M3
theorem rRefund_F (M : Rf) (n f : Nat) : rF (rRefund M n f) = rF M := by unfold rRefund; split <;> rfl
theorem rRefund_P (M : Rf) (n f : Nat) : rP (rRefund M n f) = rP M := by unfold rRefund; split <;> rfl
theorem rRefund_X (M : Rf) (n f : Nat) : rX (rRefund M n f) = rX M := by unfold rRefund; split <;> rfl
theorem rRefund_S0 (M : Rf) (n f : Nat) : rS (rRefund M n f) n 0 = rS M n 0 := by
  unfold rRefund
  split
  · show j_up (rS M) n 4 _ n 0 = rS M n 0
    rw [j_up, if_neg (by omega)]
  · rfl
theorem sp_X9_declareLost (hl : l.stackTraces = false) (s : ME E h0 m M h) {n p f ns : Nat} (hn : n < ns) (hns : ns ≤ 300) (hx3 : rX M 3 = nI ns) (hr : rRef M n p f) (H : ∀ h', ME E h0 m (rLose M ns n p f) h' → Q (.inl none) h') : j_Met l D bs E (d + 5) n_X9_declareLost [.ref m, .int (nI n)] h Q := by
  have hB := ME_b s
  obtain ⟨hp, hf, hpn, hfp, q, hq, hx, hq1⟩ := hr
  dsimp only [rLose] at H
  refine j_meth hl rfl g_X9_declareLost (Nat.le_of_ble_eq_true rfl) (fun _ => ⟨_, _, rfl, (ME_sh s)⟩) hB.1 hB.2 (fun G hG => ?_)
  refine b_X9_declareLost_0 hG ?_
  dsimp only [q_X9_declareLost_0, j_wp, j_opB, j_opA, j_nth, j_i1, j_i2, j_l1, j_l2, j_li, j_f1, j_f2, j_d1, j_d2, j_r1, j_ai, j_aii, j_ail, j_aid, j_air, j_st1, j_st2, j_stu, j_kl, j_cond, j_args, j_out, j_few, j_cw, j_nat, j_pad, j_exp, Nat.reduceAdd]
  refine sp_X9_ofSending hl s (f := n) (by omega) (k := 0) (by omega) ?_
  simp only [j_ref, j_ari, j_arb, j_arr, j_len, j_nar, j_oi, j_ol, j_of, j_od, j_or, j_ov, true_and, and_true, j_st1, hpn]
  refine sp_X9_ofPacket hl s hp (k := 0) (by omega) ?_
  simp only [j_ref, j_ari, j_arb, j_arr, j_len, j_nar, j_oi, j_ol, j_of, j_od, j_or, j_ov, true_and, and_true, j_st1, j_kl, hfp]
  refine sp_X9_putSending hl s (f := n) (by omega) (k := 3) (by omega) (fun h1 s1 => ?_)
  simp only [j_ref, j_ari, j_arb, j_arr, j_len, j_nar, j_oi, j_ol, j_of, j_od, j_or, j_ov, true_and, and_true]
  refine sp_X9_addToFlow hl s1 hf (k := 10) (by omega) (fun h2 s2 => ?_)
  simp only [j_ref, j_ari, j_arb, j_arr, j_len, j_nar, j_oi, j_ol, j_of, j_od, j_or, j_ov, true_and, and_true]
  have e1 : rS (rsF (rsS M n 3 2) f 10 (rF (rsS M n 3 2) f 10 + 1)) n 0 = nI p := by
    show j_up (rS M) n 3 2 n 0 = nI p
    rw [j_up, if_neg (by omega)]
    exact hpn
  refine sp_X9_refund hl s2 (n := n) (by omega) hp hf e1 hfp (fun h3 s3 => ?_)
  simp only [j_ref, j_ari, j_arb, j_arr, j_len, j_nar, j_oi, j_ol, j_of, j_od, j_or, j_ov, true_and, and_true]
  generalize hM2 : rsF (rsS M n 3 2) f 10 (rF (rsS M n 3 2) f 10 + 1) = M2 at *
  have f1 : rF M2 f 7 = nI q := by
    rw [← hM2]
    show j_up (rF M) f 10 _ f 7 = nI q
    rw [j_up, if_neg (by omega)]
    exact hx
  have f2 : rP M2 p 3 = rP M p 3 := by rw [← hM2]; rfl
  have f3 : rX M2 3 = nI ns := by rw [← hM2]; exact hx3
  refine sp_X9_ofPacket hl s3 hp (k := 3) (by omega) ?_
  simp only [j_ref, j_ari, j_arb, j_arr, j_len, j_nar, j_oi, j_ol, j_of, j_od, j_or, j_ov, true_and, and_true]
  split
  · rename_i g
    refine sp_X9_isLatest hl s3 hn hns (by rw [rRefund_X]; exact f3) ?_
    simp only [j_ref, j_ari, j_arb, j_arr, j_len, j_nar, j_oi, j_ol, j_of, j_od, j_or, j_ov, true_and, and_true]
    by_cases g2 : rLast (rRefund M2 n f) (rS (rRefund M2 n f) n 0) (ns - (n + 1)) (n + 1) = true
    · simp only [g2, if_true]
      rw [if_neg (by decide)]
      rw [if_pos ⟨g, g2⟩] at H
      refine b_X9_declareLost_53 hG ?_
      dsimp only [q_X9_declareLost_53, j_wp, j_opB, j_opA, j_nth, j_i1, j_i2, j_l1, j_l2, j_li, j_f1, j_f2, j_d1, j_d2, j_r1, j_ai, j_aii, j_ail, j_aid, j_air, j_st1, j_st2, j_stu, j_kl, j_cond, j_args, j_out, j_few, j_cw, j_nat, j_pad, j_exp, Nat.reduceAdd]
      refine sp_X9_ofPacket hl s3 hp (k := 4) (by omega) ?_
      simp only [j_ref, j_ari, j_arb, j_arr, j_len, j_nar, j_oi, j_ol, j_of, j_od, j_or, j_ov, true_and, and_true]
      refine sp_X9_ofFlow hl s3 hf (k := 3) (by omega) ?_
      simp only [j_ref, j_ari, j_arb, j_arr, j_len, j_nar, j_oi, j_ol, j_of, j_od, j_or, j_ov, true_and, and_true]
      split
      · rename_i g3
        rw [if_pos g3] at H
        refine b_X9_declareLost_85 hG ?_
        dsimp only [q_X9_declareLost_85, j_wp, j_opB, j_opA, j_nth, j_i1, j_i2, j_l1, j_l2, j_li, j_f1, j_f2, j_d1, j_d2, j_r1, j_ai, j_aii, j_ail, j_aid, j_air, j_st1, j_st2, j_stu, j_kl, j_cond, j_args, j_out, j_few, j_cw, j_nat, j_pad, j_exp, Nat.reduceAdd]
        refine sp_X9_putPacket hl s3 hp (k := 3) (by omega) (fun h4 s4 => ?_)
        simp only [j_ref, j_ari, j_arb, j_arr, j_len, j_nar, j_oi, j_ol, j_of, j_od, j_or, j_ov, true_and, and_true]
        refine b_X9_declareLost_92 hG ?_
        dsimp only [q_X9_declareLost_92, j_wp, j_opB, j_opA, j_nth, j_i1, j_i2, j_l1, j_l2, j_li, j_f1, j_f2, j_d1, j_d2, j_r1, j_ai, j_aii, j_ail, j_aid, j_air, j_st1, j_st2, j_stu, j_kl, j_cond, j_args, j_out, j_few, j_cw, j_nat, j_pad, j_exp, Nat.reduceAdd]
        exact H h4 s4
      · rename_i g3
        rw [if_neg g3] at H
        refine sp_X9_putPacket hl s3 hp (k := 3) (by omega) (fun h4 s4 => ?_)
        simp only [j_ref, j_ari, j_arb, j_arr, j_len, j_nar, j_oi, j_ol, j_of, j_od, j_or, j_ov, true_and, and_true]
        refine sp_X9_putInto1 hl s4 (n := q) (hq1 ?_) hf ?_ (fun h5 s5 => ?_)
        · rw [rRefund_P, f2] at g
          exact g
        · show rF (rRefund M2 n f) f 7 = nI q
          rw [rRefund_F]
          exact f1
        · simp only [j_ref, j_ari, j_arb, j_arr, j_len, j_nar, j_oi, j_ol, j_of, j_od, j_or, j_ov, true_and, and_true]
          refine b_X9_declareLost_92 hG ?_
          dsimp only [q_X9_declareLost_92, j_wp, j_opB, j_opA, j_nth, j_i1, j_i2, j_l1, j_l2, j_li, j_f1, j_f2, j_d1, j_d2, j_r1, j_ai, j_aii, j_ail, j_aid, j_air, j_st1, j_st2, j_stu, j_kl, j_cond, j_args, j_out, j_few, j_cw, j_nat, j_pad, j_exp, Nat.reduceAdd]
          exact H h5 s5
    · simp only [g2, Bool.false_eq_true, if_false, if_true]
      rw [if_neg (fun z => g2 z.2)] at H
      refine b_X9_declareLost_52 hG ?_
      dsimp only [q_X9_declareLost_52, j_wp, j_opB, j_opA, j_nth, j_i1, j_i2, j_l1, j_l2, j_li, j_f1, j_f2, j_d1, j_d2, j_r1, j_ai, j_aii, j_ail, j_aid, j_air, j_st1, j_st2, j_stu, j_kl, j_cond, j_args, j_out, j_few, j_cw, j_nat, j_pad, j_exp, Nat.reduceAdd]
      exact H h3 s3
  · rename_i g
    rw [if_neg (fun z => g z.1)] at H
    refine b_X9_declareLost_52 hG ?_
    dsimp only [q_X9_declareLost_52, j_wp, j_opB, j_opA, j_nth, j_i1, j_i2, j_l1, j_l2, j_li, j_f1, j_f2, j_d1, j_d2, j_r1, j_ai, j_aii, j_ail, j_aid, j_air, j_st1, j_st2, j_stu, j_kl, j_cond, j_args, j_out, j_few, j_cw, j_nat, j_pad, j_exp, Nat.reduceAdd]
    exact H h3 s3
def rSend (M : Rf) (f p n : Nat) : Rf :=
  let M1 := rTake M f p
  let M2 := rsP M1 p 3 1
  let M3 := rsP M2 p 4 (rP M2 p 4 + 1)
  let M4 := rsF M3 f 8 (rF M3 f 8 + 1)
  let M5 := rsX M4 3 (rX M4 3 + 1)
  let M6 := rsS M5 n 0 (nI p)
  let M7 := rsS M6 n 1 (rX M6 4)
  let M8 := rsS M7 n 2 (rAckT M7 f)
  let M9 := rsS M8 n 3 0
  let M10 := rsC M9 n ((rP M9 p 1).toInt64 * 720720 / (rF M9 f 0).toInt64)
  let M11 := rChg M10 n f 1
  rsX M11 5 (rX M11 5 - rP M11 p 1)
theorem rTake_F0 (M : Rf) (f p g k : Nat) (hk : k ≠ 7) : rF (rTake M f p) g k = rF M g k := by
  show j_up (rF (rTakeL f (nI p) _ 0 0 M).1) f 7 _ g k = _
  rw [j_up, if_neg (by omega), (rTakeL_F f (nI p) _ 0 0 M).1]
set_option maxRecDepth 8000 in
theorem sp_X9_send (hl : l.stackTraces = false) (s : ME E h0 m M h) {n p f q : Nat} (hn : n < 300) (hp : p < 100) (hf : f < 6) (hx3 : rX M 3 = nI n) (hfp : rP M p 0 = nI f) (hq : q ≤ 100) (hx : rF M f 7 = nI q) (hw : ¬ (rF M f 0).toInt64 = 0) (H : ∀ h', ME E h0 m (rSend M f p n) h' → Q (.inl none) h') : j_Met l D bs E (d + 4) n_X9_send [.ref m, .int (nI f), .int (nI p)] h Q := by
  have hB := ME_b s
  dsimp only [rSend] at H
  refine j_meth hl rfl g_X9_send (Nat.le_of_ble_eq_true rfl) (fun _ => ⟨_, _, rfl, (ME_sh s)⟩) hB.1 hB.2 (fun G hG => ?_)
  refine b_X9_send_0 hG ?_
  dsimp only [q_X9_send_0, j_wp, j_opB, j_opA, j_nth, j_i1, j_i2, j_l1, j_l2, j_li, j_f1, j_f2, j_d1, j_d2, j_r1, j_ai, j_aii, j_ail, j_aid, j_air, j_st1, j_st2, j_stu, j_kl, j_cond, j_args, j_out, j_few, j_cw, j_nat, j_pad, j_exp, Nat.reduceAdd]
  refine sp_X9_takeFrom hl s hq hf hx (fun h1 s1 => ?_)
  simp only [j_ref, j_ari, j_arb, j_arr, j_len, j_nar, j_oi, j_ol, j_of, j_od, j_or, j_ov, true_and, and_true]
  have a3 : rX (rTake M f p) 3 = nI n := by rw [rTake_X]; exact hx3
  have a4 : rP (rTake M f p) p 0 = nI f := by rw [rTake_P]; exact hfp
  have a5 : ¬ (rF (rTake M f p) f 0).toInt64 = 0 := by rw [rTake_F0 _ _ _ _ _ (by omega)]; exact hw
  generalize rTake M f p = M1 at *
  refine sp_X9_putPacket hl s1 hp (k := 3) (by omega) (fun h2 s2 => ?_)
  simp only [j_ref, j_ari, j_arb, j_arr, j_len, j_nar, j_oi, j_ol, j_of, j_od, j_or, j_ov, true_and, and_true]
  refine sp_X9_ofPacket hl s2 hp (k := 4) (by omega) ?_
  simp only [j_ref, j_ari, j_arb, j_arr, j_len, j_nar, j_oi, j_ol, j_of, j_od, j_or, j_ov, true_and, and_true]
  refine sp_X9_putPacket hl s2 hp (k := 4) (by omega) (fun h3 s3 => ?_)
  simp only [j_ref, j_ari, j_arb, j_arr, j_len, j_nar, j_oi, j_ol, j_of, j_od, j_or, j_ov, true_and, and_true]
  refine sp_X9_addToFlow hl s3 hf (k := 8) (by omega) (fun h4 s4 => ?_)
  have b3 : rX (rsF (rsP (rsP M1 p 3 1) p 4 (rP (rsP M1 p 3 1) p 4 + 1)) f 8 (rF (rsP (rsP M1 p 3 1) p 4 (rP (rsP M1 p 3 1) p 4 + 1)) f 8 + 1)) 3 = nI n := a3
  have b4 : rP (rsF (rsP (rsP M1 p 3 1) p 4 (rP (rsP M1 p 3 1) p 4 + 1)) f 8 (rF (rsP (rsP M1 p 3 1) p 4 (rP (rsP M1 p 3 1) p 4 + 1)) f 8 + 1)) p 0 = nI f := by
    show j_up (j_up (rP M1) p 3 1) p 4 _ p 0 = nI f
    simp only [j_up]
    rw [if_neg (by omega), if_neg (by omega)]
    exact a4
  have b5 : ¬ (rF (rsF (rsP (rsP M1 p 3 1) p 4 (rP (rsP M1 p 3 1) p 4 + 1)) f 8 (rF (rsP (rsP M1 p 3 1) p 4 (rP (rsP M1 p 3 1) p 4 + 1)) f 8 + 1)) f 0).toInt64 = 0 := by
    show ¬ (j_up (rF M1) f 8 _ f 0).toInt64 = 0
    rw [j_up, if_neg (by omega)]
    exact a5
  generalize rsF (rsP (rsP M1 p 3 1) p 4 (rP (rsP M1 p 3 1) p 4 + 1)) f 8 (rF (rsP (rsP M1 p 3 1) p 4 (rP (rsP M1 p 3 1) p 4 + 1)) f 8 + 1) = M4 at *
  simp only [ME_sh s4, ME_r0 s4, ME_a0 s4, ME_r5 s4, ME_a5 s4, j_ref, j_ari, j_arb, j_arr, j_len, j_nar, j_oi, j_ol, j_of, j_od, j_or, j_ov, true_and, and_true, ME_x3 s4, b3, j_st1, j_kl]
  refine ⟨vp_c (k := 3) (by omega) (by omega), vp_c (k := 3) (by omega) (by omega), vp_c (k := 3) (by omega) (by omega), ?_⟩
  have s5 : ME E h0 m (rsX M4 3 (nI n + 1)) (j_setI h4 (m + 1) (Int32.toNatClampNeg 3) (nI n + 1)) := ME_X s4 (k := 3) (by omega) (nI n + 1)
  rw [b3] at H
  refine sp_X9_putSending hl s5 hn (k := 0) (by omega) (fun h6 s6 => ?_)
  simp only [ME_sh s6, ME_r0 s6, ME_a0 s6, ME_r5 s6, ME_a5 s6, j_ref, j_ari, j_arb, j_arr, j_len, j_nar, j_oi, j_ol, j_of, j_od, j_or, j_ov, true_and, and_true, ME_x4 s6]
  refine ⟨vp_c (k := 4) (by omega) (by omega), ?_⟩
  refine sp_X9_putSending hl s6 hn (k := 1) (by omega) (fun h7 s7 => ?_)
  simp only [j_ref, j_ari, j_arb, j_arr, j_len, j_nar, j_oi, j_ol, j_of, j_od, j_or, j_ov, true_and, and_true]
  refine sp_X9_acknowledgmentTick hl s7 hf ?_
  simp only [j_ref, j_ari, j_arb, j_arr, j_len, j_nar, j_oi, j_ol, j_of, j_od, j_or, j_ov, true_and, and_true]
  refine sp_X9_putSending hl s7 hn (k := 2) (by omega) (fun h8 s8 => ?_)
  simp only [j_ref, j_ari, j_arb, j_arr, j_len, j_nar, j_oi, j_ol, j_of, j_od, j_or, j_ov, true_and, and_true]
  refine sp_X9_putSending hl s8 hn (k := 3) (by omega) (fun h9 s9 => ?_)
  simp only [ME_sh s9, ME_r0 s9, ME_a0 s9, ME_r5 s9, ME_a5 s9, j_ref, j_ari, j_arb, j_arr, j_len, j_nar, j_oi, j_ol, j_of, j_od, j_or, j_ov, true_and, and_true, r_ixC]
  refine sp_X9_ofPacket hl s9 hp (k := 1) (by omega) ?_
  simp only [j_ref, j_ari, j_arb, j_arr, j_len, j_nar, j_oi, j_ol, j_of, j_od, j_or, j_ov, true_and, and_true]
  refine sp_X9_ofFlow hl s9 hf (k := 0) (by omega) ?_
  simp only [ME_sh s9, ME_r0 s9, ME_a0 s9, ME_r5 s9, ME_a5 s9, j_ref, j_ari, j_arb, j_arr, j_len, j_nar, j_oi, j_ol, j_of, j_od, j_or, j_ov, true_and, and_true]
  refine ⟨b5, vp_in_nI (by omega) (by omega), ?_⟩
  rw [nI_clamp (by omega)]
  have s10 := ME_C s9 hn ((rP (rsS (rsS (rsS (rsS (rsX M4 3 (nI n + 1)) n 0 (nI p)) n 1 (rX (rsS (rsX M4 3 (nI n + 1)) n 0 (nI p)) 4)) n 2 (rAckT (rsS (rsS (rsX M4 3 (nI n + 1)) n 0 (nI p)) n 1 (rX (rsS (rsX M4 3 (nI n + 1)) n 0 (nI p)) 4)) f)) n 3 0) p 1).toInt64 * 720720 / (rF (rsS (rsS (rsS (rsS (rsX M4 3 (nI n + 1)) n 0 (nI p)) n 1 (rX (rsS (rsX M4 3 (nI n + 1)) n 0 (nI p)) 4)) n 2 (rAckT (rsS (rsS (rsX M4 3 (nI n + 1)) n 0 (nI p)) n 1 (rX (rsS (rsX M4 3 (nI n + 1)) n 0 (nI p)) 4)) f)) n 3 0) f 0).toInt64)
  refine sp_X9_putCharge hl s10 hn hp hf ?_ b4 (fun h11 s11 => ?_)
  · show j_up (j_up (j_up (j_up (rS M4) n 0 (nI p)) n 1 _) n 2 _) n 3 0 n 0 = nI p
    simp [j_up]
  · simp only [ME_sh s11, ME_r0 s11, ME_a0 s11, ME_r5 s11, ME_a5 s11, j_ref, j_ari, j_arb, j_arr, j_len, j_nar, j_oi, j_ol, j_of, j_od, j_or, j_ov, true_and, and_true, ME_x5 s11]
    refine ⟨vp_c (k := 5) (by omega) (by omega), ?_⟩
    refine sp_X9_ofPacket hl s11 hp (k := 1) (by omega) ?_
    simp only [ME_sh s11, ME_r0 s11, ME_a0 s11, ME_r5 s11, ME_a5 s11, j_ref, j_ari, j_arb, j_arr, j_len, j_nar, j_oi, j_ol, j_of, j_od, j_or, j_ov, true_and, and_true]
    refine ⟨vp_c (k := 5) (by omega) (by omega), ?_⟩
    exact H _ (ME_X s11 (k := 5) (by omega) _)
end RefB
