/-! ===== the reference: sending all, the record, a tick, forgiving ===== -/
section RefC
variable {l : Launch} {D : va_G} {bs : Nat} {E : j_E} {h0 h : j_H} {m : Nat} {M : Rf} {d : Nat} {Q : j_O → j_H → Prop}
/-- the first packet of the flow that is served next -/
def rFirst (M : Rf) (nf : Nat) : Nat := tn (rQ M (tn (rServe M nf)) 0)
def rCan (M : Rf) (nf : Nat) : Bool := decide (¬ rServe M nf = -1) && (decide (¬ rX M 3 = 300) && decide (¬ rX M 5 < rP M (rFirst M nf) 1))
def rDo (M : Rf) (nf : Nat) : Rf := rSend M (tn (rServe M nf)) (rFirst M nf) (tn (rX M 3))
/-- what an invariant must give of the flow that is served next -/
def rHead (M : Rf) (nf : Nat) : Prop := ∃ f p q, f < 6 ∧ p < 100 ∧ rServe M nf = nI f ∧ rQ M f 0 = nI p ∧ rP M p 0 = nI f ∧ q ≤ 100 ∧ rF M f 7 = nI q ∧ ¬ (rF M f 0).toInt64 = 0
theorem sp_X9_sendNext (hl : l.stackTraces = false) (s : ME E h0 m M h) {nf ns : Nat} (hnf : nf ≤ 6) (hx : rX M 0 = nI nf) (hns : ns ≤ 300) (hx3 : rX M 3 = nI ns) (hq : ¬ rServe M nf = -1 → rHead M nf) (H : ∀ h', ME E h0 m (if rCan M nf = true then rDo M nf else M) h' → Q (.inl (some (.int (if rCan M nf = true then 1 else 0)))) h') : j_Met l D bs E (d + 5) n_X9_sendNext [.ref m] h Q := by
  have hB := ME_b s
  refine j_meth hl rfl g_X9_sendNext (Nat.le_of_ble_eq_true rfl) (fun _ => ⟨_, _, rfl, (ME_sh s)⟩) hB.1 hB.2 (fun G hG => ?_)
  have no : ∀ v : Int32, rCan M nf = false → G 42 [.ref m, .int v] [] h := by
    intro v e
    simp only [e, Bool.false_eq_true, if_false] at H
    refine b_X9_sendNext_42 hG ?_
    dsimp only [q_X9_sendNext_42, j_wp, j_opB, j_opA, j_nth, j_i1, j_i2, j_l1, j_l2, j_li, j_f1, j_f2, j_d1, j_d2, j_r1, j_ai, j_aii, j_ail, j_aid, j_air, j_st1, j_st2, j_stu, j_kl, j_cond, j_args, j_out, j_few, j_cw, j_nat, j_pad, j_exp, Nat.reduceAdd]
    exact ⟨(by first | exact Or.inl rfl | exact Or.inr rfl | decide), H h s⟩
  refine b_X9_sendNext_0 hG ?_
  dsimp only [q_X9_sendNext_0, j_wp, j_opB, j_opA, j_nth, j_i1, j_i2, j_l1, j_l2, j_li, j_f1, j_f2, j_d1, j_d2, j_r1, j_ai, j_aii, j_ail, j_aid, j_air, j_st1, j_st2, j_stu, j_kl, j_cond, j_args, j_out, j_few, j_cw, j_nat, j_pad, j_exp, Nat.reduceAdd]
  refine sp_X9_next hl s hnf hx ?_
  simp only [ME_sh s, ME_r0 s, ME_a0 s, ME_r5 s, ME_a5 s, j_ref, j_ari, j_arb, j_arr, j_len, j_nar, j_oi, j_ol, j_of, j_od, j_or, j_ov, true_and, and_true, ME_x3 s, ME_x5 s, j_st1]
  by_cases g1 : rServe M nf = -1
  · rw [if_pos g1]
    exact no _ (by simp [rCan, g1])
  · rw [if_neg g1]
    refine ⟨vp_c (k := 3) (by omega) (by omega), ?_⟩
    by_cases g2 : rX M 3 = 300
    · rw [if_pos g2]
      exact no _ (by simp [rCan, g2])
    · rw [if_neg g2]
      obtain ⟨f, p, q, hf, hp, e1, e2, e3, hq, e4, hw⟩ := hq g1
      have ef : rFirst M nf = p := by
        unfold rFirst
        rw [e1, tn, tn, nI_clamp (n := f) (by omega), e2]
        exact nI_clamp (by omega)
      rw [e1]
      refine sp_X9_inQueue hl s hf (k := 0) (by omega) ?_
      simp only [j_ref, j_ari, j_arb, j_arr, j_len, j_nar, j_oi, j_ol, j_of, j_od, j_or, j_ov, true_and, and_true, e2]
      refine sp_X9_ofPacket hl s hp (k := 1) (by omega) ?_
      simp only [ME_sh s, ME_r0 s, ME_a0 s, ME_r5 s, ME_a5 s, j_ref, j_ari, j_arb, j_arr, j_len, j_nar, j_oi, j_ol, j_of, j_od, j_or, j_ov, true_and, and_true, ME_x5 s]
      refine ⟨vp_c (k := 5) (by omega) (by omega), ?_⟩
      by_cases g3 : rX M 5 < rP M p 1
      · rw [if_pos g3]
        exact no _ (by simp [rCan, ef, g3])
      · rw [if_neg g3]
        have hc : rCan M nf = true := by simp [rCan, g1, g2, ef, g3]
        simp only [hc, if_true] at H
        unfold rDo at H
        rw [ef, e1, hx3, tn, tn, nI_clamp (n := f) (by omega), nI_clamp (n := ns) (by omega)] at H
        have hn : ns < 300 := by
          refine Nat.lt_of_le_of_ne hns (fun z => g2 ?_)
          rw [hx3, z]
          rfl
        refine b_X9_sendNext_44 hG ?_
        dsimp only [q_X9_sendNext_44, j_wp, j_opB, j_opA, j_nth, j_i1, j_i2, j_l1, j_l2, j_li, j_f1, j_f2, j_d1, j_d2, j_r1, j_ai, j_aii, j_ail, j_aid, j_air, j_st1, j_st2, j_stu, j_kl, j_cond, j_args, j_out, j_few, j_cw, j_nat, j_pad, j_exp, Nat.reduceAdd]
        refine sp_X9_inQueue hl s hf (k := 0) (by omega) ?_
        simp only [j_ref, j_ari, j_arb, j_arr, j_len, j_nar, j_oi, j_ol, j_of, j_od, j_or, j_ov, true_and, and_true, e2]
        refine sp_X9_send hl s hn hp hf hx3 e3 hq e4 hw (fun h1 s1 => ?_)
        simp only [j_ref, j_ari, j_arb, j_arr, j_len, j_nar, j_oi, j_ol, j_of, j_od, j_or, j_ov, true_and, and_true]
        exact ⟨(by first | exact Or.inl rfl | exact Or.inr rfl | decide), H h1 s1⟩
/-- another table of records -/
def rSetW (M : Rf) (W : Nat → Nat → Int32) : Rf := (M.1, M.2.1, M.2.2.1, M.2.2.2.1, M.2.2.2.2.1, M.2.2.2.2.2.1, W, M.2.2.2.2.2.2.2)
def rMask (M : Rf) (ns : Nat) : Nat → Nat → Int32 → Int32
  | 0, _, b => b
  | k + 1, f, b => rMask M ns k (f + 1) (b ||| (if rIdle M ns f = true then 0 else (1 : Int32) <<< (nI f &&& 31)))
def rRow (M : Rf) (r : Nat) : Nat → Nat → (Nat → Nat → Int32) → Nat → Nat → Int32
  | 0, _, W => W
  | k + 1, f, W => rRow M r k (f + 1) (j_up W r f (rF M f 9))
def rRecord (M : Rf) (nf ns r : Nat) : Rf := rSetW M (j_up (rRow M r nf 0 (rW M)) r 6 (rMask M ns nf 0 0))
theorem rSetW_self (M : Rf) : rSetW M (rW M) = M := rfl
theorem rSetW_F (M : Rf) (W : Nat → Nat → Int32) : rF (rSetW M W) = rF M := rfl
theorem rSetW_X (M : Rf) (W : Nat → Nat → Int32) : rX (rSetW M W) = rX M := rfl
theorem rSetW_i (M : Rf) (W : Nat → Nat → Int32) (ns f : Nat) : rIdle (rSetW M W) ns f = rIdle M ns f := rfl
theorem rSetW_s (M : Rf) (W : Nat → Nat → Int32) (r k : Nat) (v : Int32) : rsW (rSetW M W) r k v = rSetW M (j_up W r k v) := rfl
theorem sp_X9_record (hl : l.stackTraces = false) (s : ME E h0 m M h) {nf ns c : Nat} (hnf : nf ≤ 6) (hx : rX M 0 = nI nf) (hns : ns ≤ 300) (hx3 : rX M 3 = nI ns) (hq : rSok M ns) (hc : c < 2 ^ 31) (hx4 : rX M 4 = nI c) (H : ∀ h', ME E h0 m (rRecord M nf ns (c % 128)) h' → Q (.inl none) h') : j_Met l D bs E (d + 5) n_X9_record [.ref m] h Q := by
  have hB := ME_b s
  have hr : c % 128 < 128 := Nat.mod_lt _ (by omega)
  have ec : nI c - nI c / 128 * 128 = nI (c % 128) := pk_rem (d := 128) hc (by omega) (by omega)
  generalize c % 128 = r at *
  have er : (3177 : Int32) + 7 * nI r = nI (3177 + 7 * r) := by
    show nI 3177 + nI 7 * nI r = _
    rw [pk_mul, nI_add]
  unfold rRecord at H
  refine j_meth hl rfl g_X9_record (Nat.le_of_ble_eq_true rfl) (fun _ => ⟨_, _, rfl, (ME_sh s)⟩) hB.1 hB.2 (fun G hG => ?_)
  have loop : ∀ (k f : Nat) (b : Int32) (W : Nat → Nat → Int32) (h1 : j_H), f + k = nf → ME E h0 m (rSetW M W) h1 → (∀ h', ME E h0 m (rSetW M (j_up (rRow M r k f W) r 6 (rMask M ns k f b))) h' → Q (.inl none) h') → G 22 [.ref m, .int (nI (3177 + 7 * r)), .int b, .int (nI f)] [] h1 := by
    intro k
    induction k with
    | zero =>
      intro f b W h1 hf s1 H
      unfold rRow rMask at H
      refine b_X9_record_22 hG ?_
      dsimp only [q_X9_record_22, j_wp, j_opB, j_opA, j_nth, j_i1, j_i2, j_l1, j_l2, j_li, j_f1, j_f2, j_d1, j_d2, j_r1, j_ai, j_aii, j_ail, j_aid, j_air, j_st1, j_st2, j_stu, j_kl, j_cond, j_args, j_out, j_few, j_cw, j_nat, j_pad, j_exp, Nat.reduceAdd]
      simp only [ME_sh s1, ME_r0 s1, ME_a0 s1, ME_r5 s1, ME_a5 s1, j_ref, j_ari, j_arb, j_arr, j_len, j_nar, j_oi, j_ol, j_of, j_od, j_or, j_ov, true_and, and_true, ME_x0 s1, rSetW_X, hx]
      refine ⟨vp_c (k := 0) (by omega) (by omega), ?_⟩
      rw [if_neg (nI_nlt (by omega) (by omega))]
      refine b_X9_record_71 hG ?_
      dsimp only [q_X9_record_71, j_wp, j_opB, j_opA, j_nth, j_i1, j_i2, j_l1, j_l2, j_li, j_f1, j_f2, j_d1, j_d2, j_r1, j_ai, j_aii, j_ail, j_aid, j_air, j_st1, j_st2, j_stu, j_kl, j_cond, j_args, j_out, j_few, j_cw, j_nat, j_pad, j_exp, Nat.reduceAdd]
      have e6 : nI (3177 + 7 * r) + 6 = nI (3177 + 7 * r + 6) := nI_add _ 6
      simp only [ME_sh s1, ME_r0 s1, ME_a0 s1, ME_r5 s1, ME_a5 s1, j_ref, j_ari, j_arb, j_arr, j_len, j_nar, j_oi, j_ol, j_of, j_od, j_or, j_ov, true_and, and_true, e6]
      refine ⟨vp_in_nI (by omega) (by omega), ?_⟩
      rw [nI_clamp (by omega)]
      exact H _ (ME_W s1 hr (k := 6) (by omega) b)
    | succ k ih =>
      intro f b W h1 hf s1 H
      unfold rRow rMask at H
      have nx : ∀ (x : Int32) (h2 : j_H), ME E h0 m (rSetW M (j_up W r f (rF M f 9))) h2 → x = (if rIdle M ns f = true then 0 else (1 : Int32) <<< (nI f &&& 31)) → G 63 [.ref m, .int (nI (3177 + 7 * r)), .int b, .int (nI f)] [.int x, .int b] h2 := by
        intro x h2 s2 e
        refine b_X9_record_63 hG ?_
        dsimp only [q_X9_record_63, j_wp, j_opB, j_opA, j_nth, j_i1, j_i2, j_l1, j_l2, j_li, j_f1, j_f2, j_d1, j_d2, j_r1, j_ai, j_aii, j_ail, j_aid, j_air, j_st1, j_st2, j_stu, j_kl, j_cond, j_args, j_out, j_few, j_cw, j_nat, j_pad, j_exp, Nat.reduceAdd]
        rw [nI_1]
        rw [← e] at H
        exact ih (f + 1) _ _ h2 (by omega) s2 H
      refine b_X9_record_22 hG ?_
      dsimp only [q_X9_record_22, j_wp, j_opB, j_opA, j_nth, j_i1, j_i2, j_l1, j_l2, j_li, j_f1, j_f2, j_d1, j_d2, j_r1, j_ai, j_aii, j_ail, j_aid, j_air, j_st1, j_st2, j_stu, j_kl, j_cond, j_args, j_out, j_few, j_cw, j_nat, j_pad, j_exp, Nat.reduceAdd]
      simp only [ME_sh s1, ME_r0 s1, ME_a0 s1, ME_r5 s1, ME_a5 s1, j_ref, j_ari, j_arb, j_arr, j_len, j_nar, j_oi, j_ol, j_of, j_od, j_or, j_ov, true_and, and_true, ME_x0 s1, rSetW_X, hx, nI_add]
      refine ⟨vp_c (k := 0) (by omega) (by omega), ?_⟩
      rw [if_pos (nI_lt (by omega) (by omega))]
      refine sp_X9_ofFlow hl s1 (f := f) (by omega) (k := 9) (by omega) ?_
      simp only [ME_sh s1, ME_r0 s1, ME_a0 s1, ME_r5 s1, ME_a5 s1, j_ref, j_ari, j_arb, j_arr, j_len, j_nar, j_oi, j_ol, j_of, j_od, j_or, j_ov, true_and, and_true, rSetW_F]
      refine ⟨vp_in_nI (by omega) (by omega), ?_⟩
      rw [nI_clamp (by omega)]
      have s2 := ME_W s1 hr (k := f) (by omega) (rF M f 9)
      rw [rSetW_s] at s2
      refine sp_X9_isUnused hl s2 (n := ns) (f := f) (by omega) hns hx3 hq ?_
      simp only [j_ref, j_ari, j_arb, j_arr, j_len, j_nar, j_oi, j_ol, j_of, j_od, j_or, j_ov, true_and, and_true, rSetW_i]
      by_cases g : rIdle M ns f = true
      · simp only [g, if_true]
        rw [if_neg (by decide)]
        exact nx 0 _ s2 (by rw [if_pos g])
      · simp only [g, if_false, Bool.false_eq_true, if_true]
        refine b_X9_record_60 hG ?_
        dsimp only [q_X9_record_60, j_wp, j_opB, j_opA, j_nth, j_i1, j_i2, j_l1, j_l2, j_li, j_f1, j_f2, j_d1, j_d2, j_r1, j_ai, j_aii, j_ail, j_aid, j_air, j_st1, j_st2, j_stu, j_kl, j_cond, j_args, j_out, j_few, j_cw, j_nat, j_pad, j_exp, Nat.reduceAdd]
        exact nx _ _ s2 (by rw [if_neg g])
  refine b_X9_record_0 hG ?_
  dsimp only [q_X9_record_0, j_wp, j_opB, j_opA, j_nth, j_i1, j_i2, j_l1, j_l2, j_li, j_f1, j_f2, j_d1, j_d2, j_r1, j_ai, j_aii, j_ail, j_aid, j_air, j_st1, j_st2, j_stu, j_kl, j_cond, j_args, j_out, j_few, j_cw, j_nat, j_pad, j_exp, Nat.reduceAdd]
  simp only [ME_sh s, ME_r0 s, ME_a0 s, ME_r5 s, ME_a5 s, j_ref, j_ari, j_arb, j_arr, j_len, j_nar, j_oi, j_ol, j_of, j_od, j_or, j_ov, true_and, and_true, ME_x4 s, hx4]
  refine ⟨vp_c (k := 4) (by omega) (by omega), by decide, ?_⟩
  rw [ec, er]
  exact loop nf 0 0 (rW M) h (by omega) s H
def rAckAt (M : Rf) (n : Nat) : Rf := rAck M n (tn (rS M n 0)) (tn (rP M (tn (rS M n 0)) 0))
def rLoseAt (M : Rf) (ns n : Nat) : Rf := rLose M ns n (tn (rS M n 0)) (tn (rP M (tn (rS M n 0)) 0))
def rAckLoop (c : Int32) : Nat → Nat → Rf → Rf
  | 0, _, M => M
  | k + 1, n, M => rAckLoop c k (n + 1) (if rS M n 2 = c then rAckAt M n else M)
def rLoseLoop (c : Int32) (ns : Nat) : Nat → Nat → Rf → Rf
  | 0, _, M => M
  | k + 1, n, M => rLoseLoop c ns k (n + 1) (if rS M n 3 = 0 ∧ ¬ c - rX M 8 < rS M n 1 then rLoseAt M ns n else M)
def rSendL (nf : Nat) : Nat → Rf → Rf
  | 0, M => M
  | k + 1, M => if rCan M nf = true then rSendL nf k (rDo M nf) else M
def rCred (M : Rf) : Int32 := if rX M 5 + rX M 6 < 100000 then rX M 5 + rX M 6 else 100000
def rSettle (M : Rf) : Rf := rLoseLoop (rX M 4) (tn (rX M 3)) (tn (rX M 3)) 0 (rAckLoop (rX M 4) (tn (rX M 3)) 0 M)
/-- the end of a tick: credit, record, clock -/
def rEnd (nf : Nat) (M4 : Rf) : Rf :=
  let M5 := rsX M4 5 (if rServe M4 nf = -1 then 0 else rX M4 5)
  let M6 := rRecord M5 nf (tn (rX M5 3)) (tn (rX M5 4) % 128)
  rsX M6 4 (rX M6 4 + 1)
def rSend0 (M : Rf) : Rf := rsX M 5 (rCred M)
def rTick (nf : Nat) (M : Rf) : Rf := rEnd nf (rSendL nf (300 - tn (rX (rSend0 (rSettle M)) 3)) (rSend0 (rSettle M)))
/-- what sending asks of an invariant J -/
def rSendOk (nf c : Nat) (J : Rf → Prop) : Prop := ∀ M, J M → rX M 0 = nI nf ∧ rX M 4 = nI c ∧ (∃ ns, ns ≤ 300 ∧ rX M 3 = nI ns ∧ rSok M ns) ∧ (¬ rServe M nf = -1 → rHead M nf) ∧ (rCan M nf = true → J (rDo M nf))
/-- what a tick asks of the reference -/
def rTickOk (nf : Nat) (M : Rf) : Prop := ∃ (I J : Rf → Prop) (ns c : Nat), nf ≤ 6 ∧ ns ≤ 300 ∧ c < 2 ^ 31 ∧ rX M 4 = nI c ∧ I M ∧ (∀ M, I M → rX M 3 = nI ns) ∧
  (∀ M n, I M → n < ns → rS M n 2 = nI c → ∃ p f, rRef M n p f ∧ I (rAck M n p f)) ∧ (∀ M n, I M → n < ns → rS M n 3 = 0 → ¬ nI c - rX M 8 < rS M n 1 → ∃ p f, rRef M n p f ∧ I (rLose M ns n p f)) ∧ (∀ M, I M → J (rsX M 5 (rCred M))) ∧ rSendOk nf c J
theorem rX_s (M : Rf) (k j : Nat) (v : Int32) : rX (rsX M k v) j = if j = k then v else rX M j := rfl
theorem rSend_X3 (M : Rf) (f p n : Nat) : rX (rSend M f p n) 3 = rX M 3 + 1 := by
  show rX (rTake M f p) 3 + 1 = rX M 3 + 1
  rw [rTake_X]
theorem rCan_300 {M : Rf} {nf : Nat} (h : rX M 3 = 300) : rCan M nf = false := by simp [rCan, h]
set_option maxRecDepth 8000 in
theorem sp_X9_tick (hl : l.stackTraces = false) (s : ME E h0 m M h) {nf : Nat} (ok : rTickOk nf M) (H : ∀ h', ME E h0 m (rTick nf M) h' → Q (.inl none) h') : j_Met l D bs E (d + 6) n_X9_tick [.ref m] h Q := by
  have hB := ME_b s
  obtain ⟨I, J, ns, c, hnf, hns, hc, hx4, hI, hI3, hA, hL, hJ, hS⟩ := ok
  have tns : tn (rX M 3) = ns := by rw [hI3 M hI]; exact nI_clamp (by omega)
  refine j_meth hl rfl g_X9_tick (Nat.le_of_ble_eq_true rfl) (fun _ => ⟨_, _, rfl, (ME_sh s)⟩) hB.1 hB.2 (fun G hG => ?_)
  -- the end: credit, record, clock
  have four : ∀ (v : Int32) (M4 : Rf) (h4 : j_H) (x : Value), J M4 → ME E h0 m M4 h4 → (∀ h', ME E h0 m (rsX (rRecord (rsX M4 5 v) nf (tn (rX (rsX M4 5 v) 3)) (tn (rX (rsX M4 5 v) 4) % 128)) 4 (rX (rRecord (rsX M4 5 v) nf (tn (rX (rsX M4 5 v) 3)) (tn (rX (rsX M4 5 v) 4) % 128)) 4 + 1)) h' → Q (.inl none) h') → G 152 [.ref m, .int (nI c), x] [.int v, .int 5, .ref (m + 1)] h4 := by
    intro v M4 h4 x j4 s4 H
    obtain ⟨e0, e4, ⟨n4, hn4, e3, q4⟩, -, -⟩ := hS M4 j4
    have t3 : tn (rX (rsX M4 5 v) 3) = n4 := by
      rw [rX_s, if_neg (by omega), e3]
      exact nI_clamp (by omega)
    have t4 : tn (rX (rsX M4 5 v) 4) = c := by
      rw [rX_s, if_neg (by omega), e4]
      exact nI_clamp (by omega)
    rw [t3, t4] at H
    refine b_X9_tick_152 hG ?_
    dsimp only [q_X9_tick_152, j_wp, j_opB, j_opA, j_nth, j_i1, j_i2, j_l1, j_l2, j_li, j_f1, j_f2, j_d1, j_d2, j_r1, j_ai, j_aii, j_ail, j_aid, j_air, j_st1, j_st2, j_stu, j_kl, j_cond, j_args, j_out, j_few, j_cw, j_nat, j_pad, j_exp, Nat.reduceAdd]
    simp only [ME_sh s4, ME_r0 s4, ME_a0 s4, ME_r5 s4, ME_a5 s4, j_ref, j_ari, j_arb, j_arr, j_len, j_nar, j_oi, j_ol, j_of, j_od, j_or, j_ov, true_and, and_true]
    refine ⟨vp_c (k := 5) (by omega) (by omega), ?_⟩
    have s5 : ME E h0 m (rsX M4 5 v) (j_setI h4 (m + 1) (Int32.toNatClampNeg 5) v) := ME_X s4 (k := 5) (by omega) v
    refine sp_X9_record hl s5 hnf (by rw [rX_s, if_neg (by omega)]; exact e0) hn4 (by rw [rX_s, if_neg (by omega)]; exact e3) q4 hc (by rw [rX_s, if_neg (by omega)]; exact e4) (fun h6 s6 => ?_)
    simp only [ME_sh s6, ME_r0 s6, ME_a0 s6, ME_r5 s6, ME_a5 s6, j_ref, j_ari, j_arb, j_arr, j_len, j_nar, j_oi, j_ol, j_of, j_od, j_or, j_ov, true_and, and_true, ME_x4 s6]
    refine ⟨vp_c (k := 4) (by omega) (by omega), vp_c (k := 4) (by omega) (by omega), ?_⟩
    exact H _ (ME_X s6 (k := 4) (by omega) _)
  have three : ∀ (M4 : Rf) (h4 : j_H) (x : Value), J M4 → ME E h0 m M4 h4 → (∀ h', ME E h0 m (rEnd nf M4) h' → Q (.inl none) h') → G 129 [.ref m, .int (nI c), x] [] h4 := by
    intro M4 h4 x j4 s4 H
    dsimp only [rEnd] at H
    obtain ⟨e0, -, -, -, -⟩ := hS M4 j4
    refine b_X9_tick_129 hG ?_
    dsimp only [q_X9_tick_129, j_wp, j_opB, j_opA, j_nth, j_i1, j_i2, j_l1, j_l2, j_li, j_f1, j_f2, j_d1, j_d2, j_r1, j_ai, j_aii, j_ail, j_aid, j_air, j_st1, j_st2, j_stu, j_kl, j_cond, j_args, j_out, j_few, j_cw, j_nat, j_pad, j_exp, Nat.reduceAdd]
    simp only [ME_sh s4, ME_r0 s4, ME_a0 s4, ME_r5 s4, ME_a5 s4, j_ref, j_ari, j_arb, j_arr, j_len, j_nar, j_oi, j_ol, j_of, j_od, j_or, j_ov, true_and, and_true]
    refine sp_X9_next hl s4 hnf e0 ?_
    simp only [j_ref, j_ari, j_arb, j_arr, j_len, j_nar, j_oi, j_ol, j_of, j_od, j_or, j_ov, true_and, and_true]
    by_cases g : rServe M4 nf = -1
    · rw [if_pos g]
      rw [if_pos g] at H
      exact four 0 M4 h4 x j4 s4 H
    · rw [if_neg g]
      rw [if_neg g] at H
      refine b_X9_tick_146 hG ?_
      dsimp only [q_X9_tick_146, j_wp, j_opB, j_opA, j_nth, j_i1, j_i2, j_l1, j_l2, j_li, j_f1, j_f2, j_d1, j_d2, j_r1, j_ai, j_aii, j_ail, j_aid, j_air, j_st1, j_st2, j_stu, j_kl, j_cond, j_args, j_out, j_few, j_cw, j_nat, j_pad, j_exp, Nat.reduceAdd]
      simp only [ME_sh s4, ME_r0 s4, ME_a0 s4, ME_r5 s4, ME_a5 s4, j_ref, j_ari, j_arb, j_arr, j_len, j_nar, j_oi, j_ol, j_of, j_od, j_or, j_ov, true_and, and_true, ME_x5 s4]
      refine ⟨vp_c (k := 5) (by omega) (by omega), ?_⟩
      exact four (rX M4 5) M4 h4 x j4 s4 H
  have snd : ∀ (k : Nat) (M3 : Rf) (h3 : j_H), (∃ n, n + k = 300 ∧ rX M3 3 = nI n) → J M3 → ME E h0 m M3 h3 → (∀ (M4 : Rf) (h4 : j_H) (x : Value), M4 = rSendL nf k M3 → J M4 → ME E h0 m M4 h4 → G 129 [.ref m, .int (nI c), x] [] h4) → G 117 [.ref m, .int (nI c), .int 1] [] h3 := by
    intro k
    induction k with
    | zero =>
      intro M3 h3 e3 j3 s3 K
      obtain ⟨n, hn, e3⟩ := e3
      obtain ⟨e0, e4, -, hh, -⟩ := hS M3 j3
      refine b_X9_tick_117 hG ?_
      dsimp only [q_X9_tick_117, j_wp, j_opB, j_opA, j_nth, j_i1, j_i2, j_l1, j_l2, j_li, j_f1, j_f2, j_d1, j_d2, j_r1, j_ai, j_aii, j_ail, j_aid, j_air, j_st1, j_st2, j_stu, j_kl, j_cond, j_args, j_out, j_few, j_cw, j_nat, j_pad, j_exp, Nat.reduceAdd]
      rw [if_neg (by decide)]
      refine sp_X9_sendNext hl s3 hnf e0 (ns := n) (by omega) e3 hh (fun h4 s4 => ?_)
      have hc : rCan M3 nf = false := rCan_300 (by rw [e3, show n = 300 by omega]; rfl)
      simp only [hc, Bool.false_eq_true, if_false] at s4 ⊢
      simp only [j_ref, j_ari, j_arb, j_arr, j_len, j_nar, j_oi, j_ol, j_of, j_od, j_or, j_ov, true_and, and_true, j_st1]
      refine b_X9_tick_117 hG ?_
      dsimp only [q_X9_tick_117, j_wp, j_opB, j_opA, j_nth, j_i1, j_i2, j_l1, j_l2, j_li, j_f1, j_f2, j_d1, j_d2, j_r1, j_ai, j_aii, j_ail, j_aid, j_air, j_st1, j_st2, j_stu, j_kl, j_cond, j_args, j_out, j_few, j_cw, j_nat, j_pad, j_exp, Nat.reduceAdd]
      rw [if_pos rfl]
      exact K M3 h4 _ rfl j3 s4
    | succ k ih =>
      intro M3 h3 e3 j3 s3 K
      obtain ⟨n, hn, e3⟩ := e3
      obtain ⟨e0, e4, -, hh, hn3⟩ := hS M3 j3
      refine b_X9_tick_117 hG ?_
      dsimp only [q_X9_tick_117, j_wp, j_opB, j_opA, j_nth, j_i1, j_i2, j_l1, j_l2, j_li, j_f1, j_f2, j_d1, j_d2, j_r1, j_ai, j_aii, j_ail, j_aid, j_air, j_st1, j_st2, j_stu, j_kl, j_cond, j_args, j_out, j_few, j_cw, j_nat, j_pad, j_exp, Nat.reduceAdd]
      rw [if_neg (by decide)]
      refine sp_X9_sendNext hl s3 hnf e0 (ns := n) (by omega) e3 hh (fun h4 s4 => ?_)
      unfold rSendL at K
      by_cases g : rCan M3 nf = true
      · simp only [g, if_true] at s4 K ⊢
        simp only [j_ref, j_ari, j_arb, j_arr, j_len, j_nar, j_oi, j_ol, j_of, j_od, j_or, j_ov, true_and, and_true, j_st1]
        refine ih (rDo M3 nf) h4 ⟨n + 1, by omega, ?_⟩ (hn3 g) s4 K
        unfold rDo
        rw [rSend_X3, e3, nI_1]
      · simp only [g, Bool.false_eq_true, if_false] at s4 K ⊢
        simp only [j_ref, j_ari, j_arb, j_arr, j_len, j_nar, j_oi, j_ol, j_of, j_od, j_or, j_ov, true_and, and_true, j_st1]
        refine b_X9_tick_117 hG ?_
        dsimp only [q_X9_tick_117, j_wp, j_opB, j_opA, j_nth, j_i1, j_i2, j_l1, j_l2, j_li, j_f1, j_f2, j_d1, j_d2, j_r1, j_ai, j_aii, j_ail, j_aid, j_air, j_st1, j_st2, j_stu, j_kl, j_cond, j_args, j_out, j_few, j_cw, j_nat, j_pad, j_exp, Nat.reduceAdd]
        rw [if_pos rfl]
        exact K M3 h4 _ rfl j3 s4
  have two : ∀ (k n : Nat) (M1 : Rf) (h1 : j_H), n + k = ns → I M1 → ME E h0 m M1 h1 → (∀ (M2 : Rf) (h2 : j_H) (x : Value), M2 = rLoseLoop (nI c) ns k n M1 → I M2 → ME E h0 m M2 h2 → G 90 [.ref m, .int (nI c), x] [] h2) → G 42 [.ref m, .int (nI c), .int (nI n)] [] h1 := by
    intro k
    induction k with
    | zero =>
      intro n M1 h1 hn i1 s1 K
      refine b_X9_tick_42 hG ?_
      dsimp only [q_X9_tick_42, j_wp, j_opB, j_opA, j_nth, j_i1, j_i2, j_l1, j_l2, j_li, j_f1, j_f2, j_d1, j_d2, j_r1, j_ai, j_aii, j_ail, j_aid, j_air, j_st1, j_st2, j_stu, j_kl, j_cond, j_args, j_out, j_few, j_cw, j_nat, j_pad, j_exp, Nat.reduceAdd]
      simp only [ME_sh s1, ME_r0 s1, ME_a0 s1, ME_r5 s1, ME_a5 s1, j_ref, j_ari, j_arb, j_arr, j_len, j_nar, j_oi, j_ol, j_of, j_od, j_or, j_ov, true_and, and_true, ME_x3 s1, hI3 M1 i1]
      refine ⟨vp_c (k := 3) (by omega) (by omega), ?_⟩
      rw [if_neg (nI_nlt (by omega) (by omega))]
      exact K M1 h1 _ rfl i1 s1
    | succ k ih =>
      intro n M1 h1 hn i1 s1 K
      unfold rLoseLoop at K
      have nx : ∀ (M2 : Rf) (h2 : j_H), M2 = (if rS M1 n 3 = 0 ∧ ¬ nI c - rX M1 8 < rS M1 n 1 then rLoseAt M1 ns n else M1) → I M2 → ME E h0 m M2 h2 → G 84 [.ref m, .int (nI c), .int (nI n)] [] h2 := by
        intro M2 h2 e i2 s2
        rw [← e] at K
        refine b_X9_tick_84 hG ?_
        dsimp only [q_X9_tick_84, j_wp, j_opB, j_opA, j_nth, j_i1, j_i2, j_l1, j_l2, j_li, j_f1, j_f2, j_d1, j_d2, j_r1, j_ai, j_aii, j_ail, j_aid, j_air, j_st1, j_st2, j_stu, j_kl, j_cond, j_args, j_out, j_few, j_cw, j_nat, j_pad, j_exp, Nat.reduceAdd]
        rw [nI_1]
        exact ih (n + 1) M2 h2 (by omega) i2 s2 K
      refine b_X9_tick_42 hG ?_
      dsimp only [q_X9_tick_42, j_wp, j_opB, j_opA, j_nth, j_i1, j_i2, j_l1, j_l2, j_li, j_f1, j_f2, j_d1, j_d2, j_r1, j_ai, j_aii, j_ail, j_aid, j_air, j_st1, j_st2, j_stu, j_kl, j_cond, j_args, j_out, j_few, j_cw, j_nat, j_pad, j_exp, Nat.reduceAdd]
      simp only [ME_sh s1, ME_r0 s1, ME_a0 s1, ME_r5 s1, ME_a5 s1, j_ref, j_ari, j_arb, j_arr, j_len, j_nar, j_oi, j_ol, j_of, j_od, j_or, j_ov, true_and, and_true, ME_x3 s1, hI3 M1 i1]
      refine ⟨vp_c (k := 3) (by omega) (by omega), ?_⟩
      rw [if_pos (nI_lt (by omega) (by omega))]
      refine sp_X9_ofSending hl s1 (f := n) (by omega) (k := 3) (by omega) ?_
      simp only [j_ref, j_ari, j_arb, j_arr, j_len, j_nar, j_oi, j_ol, j_of, j_od, j_or, j_ov, true_and, and_true]
      by_cases g1 : rS M1 n 3 = 0
      · rw [if_pos g1]
        refine sp_X9_ofSending hl s1 (f := n) (by omega) (k := 1) (by omega) ?_
        simp only [ME_sh s1, ME_r0 s1, ME_a0 s1, ME_r5 s1, ME_a5 s1, j_ref, j_ari, j_arb, j_arr, j_len, j_nar, j_oi, j_ol, j_of, j_od, j_or, j_ov, true_and, and_true, ME_x8 s1]
        refine ⟨vp_c (k := 8) (by omega) (by omega), ?_⟩
        by_cases g2 : nI c - rX M1 8 < rS M1 n 1
        · rw [if_pos g2]
          exact nx M1 h1 (by rw [if_neg (fun z => z.2 g2)]) i1 s1
        · rw [if_neg g2]
          obtain ⟨p, f, hr, i2⟩ := hL M1 n i1 (by omega) g1 g2
          refine sp_X9_declareLost hl s1 (n := n) (ns := ns) (by omega) hns (hI3 M1 i1) hr (fun h2 s2 => ?_)
          simp only [j_ref, j_ari, j_arb, j_arr, j_len, j_nar, j_oi, j_ol, j_of, j_od, j_or, j_ov, true_and, and_true]
          refine nx _ h2 ?_ i2 s2
          rw [if_pos ⟨g1, g2⟩, rLoseAt, (rRef_at hr).2, (rRef_at hr).1]
      · rw [if_neg g1]
        exact nx M1 h1 (by rw [if_neg (fun z => g1 z.1)]) i1 s1
  have one : ∀ (k n : Nat) (M1 : Rf) (h1 : j_H), n + k = ns → I M1 → ME E h0 m M1 h1 → (∀ (M2 : Rf) (h2 : j_H) (x : Value), M2 = rAckLoop (nI c) k n M1 → I M2 → ME E h0 m M2 h2 → G 40 [.ref m, .int (nI c), x] [] h2) → G 9 [.ref m, .int (nI c), .int (nI n)] [] h1 := by
    intro k
    induction k with
    | zero =>
      intro n M1 h1 hn i1 s1 K
      refine b_X9_tick_9 hG ?_
      dsimp only [q_X9_tick_9, j_wp, j_opB, j_opA, j_nth, j_i1, j_i2, j_l1, j_l2, j_li, j_f1, j_f2, j_d1, j_d2, j_r1, j_ai, j_aii, j_ail, j_aid, j_air, j_st1, j_st2, j_stu, j_kl, j_cond, j_args, j_out, j_few, j_cw, j_nat, j_pad, j_exp, Nat.reduceAdd]
      simp only [ME_sh s1, ME_r0 s1, ME_a0 s1, ME_r5 s1, ME_a5 s1, j_ref, j_ari, j_arb, j_arr, j_len, j_nar, j_oi, j_ol, j_of, j_od, j_or, j_ov, true_and, and_true, ME_x3 s1, hI3 M1 i1]
      refine ⟨vp_c (k := 3) (by omega) (by omega), ?_⟩
      rw [if_neg (nI_nlt (by omega) (by omega))]
      exact K M1 h1 _ rfl i1 s1
    | succ k ih =>
      intro n M1 h1 hn i1 s1 K
      unfold rAckLoop at K
      have nx : ∀ (M2 : Rf) (h2 : j_H), M2 = (if rS M1 n 2 = nI c then rAckAt M1 n else M1) → I M2 → ME E h0 m M2 h2 → G 34 [.ref m, .int (nI c), .int (nI n)] [] h2 := by
        intro M2 h2 e i2 s2
        rw [← e] at K
        refine b_X9_tick_34 hG ?_
        dsimp only [q_X9_tick_34, j_wp, j_opB, j_opA, j_nth, j_i1, j_i2, j_l1, j_l2, j_li, j_f1, j_f2, j_d1, j_d2, j_r1, j_ai, j_aii, j_ail, j_aid, j_air, j_st1, j_st2, j_stu, j_kl, j_cond, j_args, j_out, j_few, j_cw, j_nat, j_pad, j_exp, Nat.reduceAdd]
        rw [nI_1]
        exact ih (n + 1) M2 h2 (by omega) i2 s2 K
      refine b_X9_tick_9 hG ?_
      dsimp only [q_X9_tick_9, j_wp, j_opB, j_opA, j_nth, j_i1, j_i2, j_l1, j_l2, j_li, j_f1, j_f2, j_d1, j_d2, j_r1, j_ai, j_aii, j_ail, j_aid, j_air, j_st1, j_st2, j_stu, j_kl, j_cond, j_args, j_out, j_few, j_cw, j_nat, j_pad, j_exp, Nat.reduceAdd]
      simp only [ME_sh s1, ME_r0 s1, ME_a0 s1, ME_r5 s1, ME_a5 s1, j_ref, j_ari, j_arb, j_arr, j_len, j_nar, j_oi, j_ol, j_of, j_od, j_or, j_ov, true_and, and_true, ME_x3 s1, hI3 M1 i1]
      refine ⟨vp_c (k := 3) (by omega) (by omega), ?_⟩
      rw [if_pos (nI_lt (by omega) (by omega))]
      refine sp_X9_ofSending hl s1 (f := n) (by omega) (k := 2) (by omega) ?_
      simp only [j_ref, j_ari, j_arb, j_arr, j_len, j_nar, j_oi, j_ol, j_of, j_od, j_or, j_ov, true_and, and_true]
      by_cases g1 : rS M1 n 2 = nI c
      · rw [if_pos g1]
        obtain ⟨p, f, hr, i2⟩ := hA M1 n i1 (by omega) g1
        refine sp_X9_acknowledge hl s1 (n := n) (by omega) hr (fun h2 s2 => ?_)
        simp only [j_ref, j_ari, j_arb, j_arr, j_len, j_nar, j_oi, j_ol, j_of, j_od, j_or, j_ov, true_and, and_true]
        refine nx _ h2 ?_ i2 s2
        rw [if_pos g1, rAckAt, (rRef_at hr).2, (rRef_at hr).1]
      · rw [if_neg g1]
        exact nx M1 h1 (by rw [if_neg g1]) i1 s1
  refine b_X9_tick_0 hG ?_
  dsimp only [q_X9_tick_0, j_wp, j_opB, j_opA, j_nth, j_i1, j_i2, j_l1, j_l2, j_li, j_f1, j_f2, j_d1, j_d2, j_r1, j_ai, j_aii, j_ail, j_aid, j_air, j_st1, j_st2, j_stu, j_kl, j_cond, j_args, j_out, j_few, j_cw, j_nat, j_pad, j_exp, Nat.reduceAdd]
  simp only [ME_sh s, ME_r0 s, ME_a0 s, ME_r5 s, ME_a5 s, j_ref, j_ari, j_arb, j_arr, j_len, j_nar, j_oi, j_ol, j_of, j_od, j_or, j_ov, true_and, and_true, ME_x4 s, hx4]
  refine ⟨vp_c (k := 4) (by omega) (by omega), ?_⟩
  refine one ns 0 M h (by omega) hI s (fun M1 h1 x1 e1 i1 s1 => ?_)
  refine b_X9_tick_40 hG ?_
  dsimp only [q_X9_tick_40, j_wp, j_opB, j_opA, j_nth, j_i1, j_i2, j_l1, j_l2, j_li, j_f1, j_f2, j_d1, j_d2, j_r1, j_ai, j_aii, j_ail, j_aid, j_air, j_st1, j_st2, j_stu, j_kl, j_cond, j_args, j_out, j_few, j_cw, j_nat, j_pad, j_exp, Nat.reduceAdd]
  refine two ns 0 M1 h1 (by omega) i1 s1 (fun M2 h2 x2 e2 i2 s2 => ?_)
  have eS : rSettle M = M2 := by
    unfold rSettle
    rw [tns, hx4, ← e1, ← e2]
  unfold rTick at H
  rw [eS] at H
  refine b_X9_tick_90 hG ?_
  dsimp only [q_X9_tick_90, j_wp, j_opB, j_opA, j_nth, j_i1, j_i2, j_l1, j_l2, j_li, j_f1, j_f2, j_d1, j_d2, j_r1, j_ai, j_aii, j_ail, j_aid, j_air, j_st1, j_st2, j_stu, j_kl, j_cond, j_args, j_out, j_few, j_cw, j_nat, j_pad, j_exp, Nat.reduceAdd]
  simp only [ME_sh s2, ME_r0 s2, ME_a0 s2, ME_r5 s2, ME_a5 s2, j_ref, j_ari, j_arb, j_arr, j_len, j_nar, j_oi, j_ol, j_of, j_od, j_or, j_ov, true_and, and_true, ME_x5 s2, ME_x6 s2]
  refine ⟨vp_c (k := 5) (by omega) (by omega), vp_c (k := 6) (by omega) (by omega), vp_c (k := 5) (by omega) (by omega), ?_⟩
  have s3 : ME E h0 m (rSend0 M2) (j_setI h2 (m + 1) (Int32.toNatClampNeg 5) (rCred M2)) := ME_X s2 (k := 5) (by omega) _
  have e3 : rX (rSend0 M2) 3 = nI ns := by unfold rSend0; rw [rX_s, if_neg (by omega)]; exact hI3 M2 i2
  have t3 : tn (rX (rSend0 M2) 3) = ns := by rw [e3]; exact nI_clamp (by omega)
  rw [t3] at H
  refine snd (300 - ns) _ _ ⟨ns, by omega, e3⟩ (hJ M2 i2) s3 (fun M4 h4 x4 e4 j4 s4 => ?_)
  rw [← e4] at H
  exact three M4 h4 x4 j4 s4 H
end RefC
