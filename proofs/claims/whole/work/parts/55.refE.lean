/-! ===== the reference: what its methods answer that change nothing ===== -/
section RefE
variable {l : Launch} {D : va_G} {bs : Nat} {E : j_E} {h0 h : j_H} {m : Nat} {M : Rf} {d : Nat} {Q : j_O → j_H → Prop}
/-- v is one of the numbers below n -/
def inx (v : Int32) (n : Nat) : Prop := ∃ p, p < n ∧ v = nI p
theorem inx_of {v : Int32} {n : Nat} (hn : n < 2 ^ 31) (h1 : ¬ v < 0) (h2 : v < nI n) : inx v n := by
  obtain ⟨p, hp, rfl⟩ := nI_of h1
  exact ⟨p, (nI_ltI hp hn).mp h2, rfl⟩
theorem inx_no {v : Int32} {n : Nat} (hn : n < 2 ^ 31) (h : ¬ inx v n) : v < 0 ∨ ¬ v < nI n := by
  by_cases h1 : v < 0
  · exact Or.inl h1
  · exact Or.inr (fun h2 => h (inx_of hn h1 h2))
theorem inx_y {v : Int32} {n : Nat} (hn : n < 2 ^ 31) (h : inx v n) : ¬ v < 0 ∧ v < nI n := by
  obtain ⟨p, hp, rfl⟩ := h
  exact ⟨nI_pos (by omega), nI_lt hp hn⟩
theorem rIn_y {v : Int32} {n : Nat} (hn : n < 2 ^ 30) (h : inx v n) : rIn v 0 (nI n - 1) = true := by
  obtain ⟨p, hp, rfl⟩ := h
  refine rIn_t (nI_pos (by omega)) (fun z => ?_)
  have z1 := Int32.lt_iff_toInt_lt.mp z
  rw [nI_toInt (by omega), show nI n - 1 = nI n - nI 1 from rfl, pk_sub_toInt hn (by omega)] at z1
  omega
theorem rIn_n {v : Int32} {n : Nat} (hn : n < 2 ^ 30) (h : ¬ inx v n) : rIn v 0 (nI n - 1) = false := by
  rcases inx_no (by omega) h with h1 | h1
  · exact rIn_f1 h1
  · by_cases h2 : v < 0
    · exact rIn_f1 h2
    · refine rIn_f2 ?_
      obtain ⟨p, hp, rfl⟩ := nI_of h2
      refine Int32.lt_iff_toInt_lt.mpr ?_
      rw [nI_toInt (by omega), show nI n - 1 = nI n - nI 1 from rfl, pk_sub_toInt hn (by omega)]
      have : ¬ p < n := fun z => h1 (nI_lt z (by omega))
      omega
/-- the reference at m holds M -/
def MB (E : j_E) (m : Nat) (M : Rf) (h : j_H) : Prop := mk h m ∧ RG (j_I h (m + 1)) M ∧ RGV (j_L h (m + 6)) M ∧ j_bd E h
theorem MB_q (s : MB E m M h) : ME E h m M h := ⟨s.1, s.2.1, s.2.2.1, FA_rf, s.2.2.2⟩
theorem MB_I (s : MB E m M h) {k : Nat} (v : Int32) : MB E m M (j_setI h m k v) := ⟨s.1, by rw [jI_off (by omega)]; exact s.2.1, s.2.2.1, s.2.2.2⟩
theorem MB_of (s : ME E h0 m M h) : MB E m M h := ⟨s.1, s.2.1, s.2.2.1, s.2.2.2.2⟩
theorem MB_sh (s : MB E m M h) : j_sh h m = some (.inr 11) := mk_sh s.1
theorem sp_X9_raise (hl : l.stackTraces = false) (s : mk h m) (hB : j_bd E h) {v : Int32} (H : Q (.inl (some (.int 0))) (j_setI h m 10 v)) : j_Met l D bs E (d + 1) n_X9_raise [.ref m, .int v] h Q := by
  refine j_meth hl rfl g_X9_raise (Nat.le_of_ble_eq_true rfl) (fun _ => ⟨_, _, rfl, (mk_sh s)⟩) hB.1 hB.2 (fun G hG => ?_)
  refine b_X9_raise_0 hG ?_
  dsimp only [q_X9_raise_0, j_wp, j_opB, j_opA, j_nth, j_i1, j_i2, j_l1, j_l2, j_li, j_f1, j_f2, j_d1, j_d2, j_r1, j_ai, j_aii, j_ail, j_aid, j_air, j_st1, j_st2, j_stu, j_kl, j_cond, j_args, j_out, j_few, j_cw, j_nat, j_pad, j_exp, Nat.reduceAdd]
  simp only [mk_sh s, j_ref, j_ari, j_arb, j_arr, j_len, j_nar, j_oi, j_ol, j_of, j_od, j_or, j_ov, true_and, and_true]
  exact H
/-- raise behind 'thrown = 0' -/
theorem raise0 (hl : l.stackTraces = false) (s : MB E m M h) {v : Int32} (H : Q (.inl (some (.int 0))) (j_setI h m 10 v)) : j_Met l D bs E (d + 1) n_X9_raise [.ref m, .int v] (j_setI h m 10 0) Q :=
  sp_X9_raise hl (mk_I s.1) (MB_I s 0).2.2.2 (by rw [jh_ss]; exact H)
theorem sp_X9_thrown (hl : l.stackTraces = false) (s : mk h m) (hB : j_bd E h) (H : Q (.inl (some (.int (j_I h m 10)))) h) : j_Met l D bs E (d + 1) n_X9_thrown [.ref m] h Q := by
  refine j_meth hl rfl g_X9_thrown (Nat.le_of_ble_eq_true rfl) (fun _ => ⟨_, _, rfl, (mk_sh s)⟩) hB.1 hB.2 (fun G hG => ?_)
  refine b_X9_thrown_0 hG ?_
  dsimp only [q_X9_thrown_0, j_wp, j_opB, j_opA, j_nth, j_i1, j_i2, j_l1, j_l2, j_li, j_f1, j_f2, j_d1, j_d2, j_r1, j_ai, j_aii, j_ail, j_aid, j_air, j_st1, j_st2, j_stu, j_kl, j_cond, j_args, j_out, j_few, j_cw, j_nat, j_pad, j_exp, Nat.reduceAdd]
  simp only [mk_sh s, j_ref, j_ari, j_arb, j_arr, j_len, j_nar, j_oi, j_ol, j_of, j_od, j_or, j_ov, true_and, and_true]
  exact H
theorem sp_X9_tell (hl : l.stackTraces = false) (s : MB E m M h) {k : Nat} (hk : k < 9) (H : Q (.inl (some (.int (rX M k)))) (j_setI h m 10 0)) : j_Met l D bs E (d + 1) n_X9_tell [.ref m, .int (nI k)] h Q := by
  have hB := s.2.2.2
  have q := MB_q (MB_I s (k := 10) 0)
  refine j_meth hl rfl g_X9_tell (Nat.le_of_ble_eq_true rfl) (fun _ => ⟨_, _, rfl, (MB_sh s)⟩) hB.1 hB.2 (fun G hG => ?_)
  refine b_X9_tell_0 hG ?_
  dsimp only [q_X9_tell_0, j_wp, j_opB, j_opA, j_nth, j_i1, j_i2, j_l1, j_l2, j_li, j_f1, j_f2, j_d1, j_d2, j_r1, j_ai, j_aii, j_ail, j_aid, j_air, j_st1, j_st2, j_stu, j_kl, j_cond, j_args, j_out, j_few, j_cw, j_nat, j_pad, j_exp, Nat.reduceAdd]
  simp only [ME_sh q, ME_r0 q, ME_a0 q, ME_r5 q, ME_a5 q, j_ref, j_ari, j_arb, j_arr, j_len, j_nar, j_oi, j_ol, j_of, j_od, j_or, j_ov, true_and, and_true, MB_sh s]
  refine ⟨vp_in_nI (by omega) (by omega), ?_⟩
  rw [nI_clamp (by omega), ME_gX q hk]
  exact H
theorem sp_X9_flowCount (hl : l.stackTraces = false) (s : MB E m M h) (H : Q (.inl (some (.int (rX M 0)))) (j_setI h m 10 0)) : j_Met l D bs E (d + 2) n_X9_flowCount [.ref m] h Q := by
  have hB := s.2.2.2
  refine j_meth hl rfl g_X9_flowCount (Nat.le_of_ble_eq_true rfl) (fun _ => ⟨_, _, rfl, (MB_sh s)⟩) hB.1 hB.2 (fun G hG => ?_)
  refine b_X9_flowCount_0 hG ?_
  dsimp only [q_X9_flowCount_0, j_wp, j_opB, j_opA, j_nth, j_i1, j_i2, j_l1, j_l2, j_li, j_f1, j_f2, j_d1, j_d2, j_r1, j_ai, j_aii, j_ail, j_aid, j_air, j_st1, j_st2, j_stu, j_kl, j_cond, j_args, j_out, j_few, j_cw, j_nat, j_pad, j_exp, Nat.reduceAdd]
  refine sp_X9_tell hl s (k := 0) (by omega) ?_
  simp only [j_ref, j_ari, j_arb, j_arr, j_len, j_nar, j_oi, j_ol, j_of, j_od, j_or, j_ov, true_and, and_true]
  exact H
theorem sp_X9_ruleCount (hl : l.stackTraces = false) (s : MB E m M h) (H : Q (.inl (some (.int (rX M 1)))) (j_setI h m 10 0)) : j_Met l D bs E (d + 2) n_X9_ruleCount [.ref m] h Q := by
  have hB := s.2.2.2
  refine j_meth hl rfl g_X9_ruleCount (Nat.le_of_ble_eq_true rfl) (fun _ => ⟨_, _, rfl, (MB_sh s)⟩) hB.1 hB.2 (fun G hG => ?_)
  refine b_X9_ruleCount_0 hG ?_
  dsimp only [q_X9_ruleCount_0, j_wp, j_opB, j_opA, j_nth, j_i1, j_i2, j_l1, j_l2, j_li, j_f1, j_f2, j_d1, j_d2, j_r1, j_ai, j_aii, j_ail, j_aid, j_air, j_st1, j_st2, j_stu, j_kl, j_cond, j_args, j_out, j_few, j_cw, j_nat, j_pad, j_exp, Nat.reduceAdd]
  refine sp_X9_tell hl s (k := 1) (by omega) ?_
  simp only [j_ref, j_ari, j_arb, j_arr, j_len, j_nar, j_oi, j_ol, j_of, j_od, j_or, j_ov, true_and, and_true]
  exact H
theorem sp_X9_packetCount (hl : l.stackTraces = false) (s : MB E m M h) (H : Q (.inl (some (.int (rX M 2)))) (j_setI h m 10 0)) : j_Met l D bs E (d + 2) n_X9_packetCount [.ref m] h Q := by
  have hB := s.2.2.2
  refine j_meth hl rfl g_X9_packetCount (Nat.le_of_ble_eq_true rfl) (fun _ => ⟨_, _, rfl, (MB_sh s)⟩) hB.1 hB.2 (fun G hG => ?_)
  refine b_X9_packetCount_0 hG ?_
  dsimp only [q_X9_packetCount_0, j_wp, j_opB, j_opA, j_nth, j_i1, j_i2, j_l1, j_l2, j_li, j_f1, j_f2, j_d1, j_d2, j_r1, j_ai, j_aii, j_ail, j_aid, j_air, j_st1, j_st2, j_stu, j_kl, j_cond, j_args, j_out, j_few, j_cw, j_nat, j_pad, j_exp, Nat.reduceAdd]
  refine sp_X9_tell hl s (k := 2) (by omega) ?_
  simp only [j_ref, j_ari, j_arb, j_arr, j_len, j_nar, j_oi, j_ol, j_of, j_od, j_or, j_ov, true_and, and_true]
  exact H
theorem sp_X9_transmissionCount (hl : l.stackTraces = false) (s : MB E m M h) (H : Q (.inl (some (.int (rX M 3)))) (j_setI h m 10 0)) : j_Met l D bs E (d + 2) n_X9_transmissionCount [.ref m] h Q := by
  have hB := s.2.2.2
  refine j_meth hl rfl g_X9_transmissionCount (Nat.le_of_ble_eq_true rfl) (fun _ => ⟨_, _, rfl, (MB_sh s)⟩) hB.1 hB.2 (fun G hG => ?_)
  refine b_X9_transmissionCount_0 hG ?_
  dsimp only [q_X9_transmissionCount_0, j_wp, j_opB, j_opA, j_nth, j_i1, j_i2, j_l1, j_l2, j_li, j_f1, j_f2, j_d1, j_d2, j_r1, j_ai, j_aii, j_ail, j_aid, j_air, j_st1, j_st2, j_stu, j_kl, j_cond, j_args, j_out, j_few, j_cw, j_nat, j_pad, j_exp, Nat.reduceAdd]
  refine sp_X9_tell hl s (k := 3) (by omega) ?_
  simp only [j_ref, j_ari, j_arb, j_arr, j_len, j_nar, j_oi, j_ol, j_of, j_od, j_or, j_ov, true_and, and_true]
  exact H
theorem sp_X9_clock (hl : l.stackTraces = false) (s : MB E m M h) (H : Q (.inl (some (.int (rX M 4)))) (j_setI h m 10 0)) : j_Met l D bs E (d + 2) n_X9_clock [.ref m] h Q := by
  have hB := s.2.2.2
  refine j_meth hl rfl g_X9_clock (Nat.le_of_ble_eq_true rfl) (fun _ => ⟨_, _, rfl, (MB_sh s)⟩) hB.1 hB.2 (fun G hG => ?_)
  refine b_X9_clock_0 hG ?_
  dsimp only [q_X9_clock_0, j_wp, j_opB, j_opA, j_nth, j_i1, j_i2, j_l1, j_l2, j_li, j_f1, j_f2, j_d1, j_d2, j_r1, j_ai, j_aii, j_ail, j_aid, j_air, j_st1, j_st2, j_stu, j_kl, j_cond, j_args, j_out, j_few, j_cw, j_nat, j_pad, j_exp, Nat.reduceAdd]
  refine sp_X9_tell hl s (k := 4) (by omega) ?_
  simp only [j_ref, j_ari, j_arb, j_arr, j_len, j_nar, j_oi, j_ol, j_of, j_od, j_or, j_ov, true_and, and_true]
  exact H
theorem sp_X9_credit (hl : l.stackTraces = false) (s : MB E m M h) (H : Q (.inl (some (.int (rX M 5)))) (j_setI h m 10 0)) : j_Met l D bs E (d + 2) n_X9_credit [.ref m] h Q := by
  have hB := s.2.2.2
  refine j_meth hl rfl g_X9_credit (Nat.le_of_ble_eq_true rfl) (fun _ => ⟨_, _, rfl, (MB_sh s)⟩) hB.1 hB.2 (fun G hG => ?_)
  refine b_X9_credit_0 hG ?_
  dsimp only [q_X9_credit_0, j_wp, j_opB, j_opA, j_nth, j_i1, j_i2, j_l1, j_l2, j_li, j_f1, j_f2, j_d1, j_d2, j_r1, j_ai, j_aii, j_ail, j_aid, j_air, j_st1, j_st2, j_stu, j_kl, j_cond, j_args, j_out, j_few, j_cw, j_nat, j_pad, j_exp, Nat.reduceAdd]
  refine sp_X9_tell hl s (k := 5) (by omega) ?_
  simp only [j_ref, j_ari, j_arb, j_arr, j_len, j_nar, j_oi, j_ol, j_of, j_od, j_or, j_ov, true_and, and_true]
  exact H
def rByt (v : Int32) : Bool := rIn v 0 255
theorem sp_X9_classify (hl : l.stackTraces = false) (s : MB E m M h) {nr : Nat} (hnr : nr ≤ 12) (hx : rX M 1 = nI nr) {a b c : Int32} (H1 : ¬ (inx a 256 ∧ inx b 256 ∧ inx c 256) → Q (.inl (some (.int 0))) (j_setI h m 10 1)) (H0 : inx a 256 ∧ inx b 256 ∧ inx c 256 → Q (.inl (some (.int (rFor M a b c nr 0)))) (j_setI h m 10 0)) : j_Met l D bs E (d + 4) n_X9_classify [.ref m, .int a, .int b, .int c] h Q := by
  have hB := s.2.2.2
  have s0 := MB_I s (k := 10) 0
  have q := MB_q s0
  have hB0 := s0.2.2.2
  refine j_meth hl rfl g_X9_classify (Nat.le_of_ble_eq_true rfl) (fun _ => ⟨_, _, rfl, (MB_sh s)⟩) hB.1 hB.2 (fun G hG => ?_)
  have bad : ¬ (inx a 256 ∧ inx b 256 ∧ inx c 256) → G 26 [.ref m, .int a, .int b, .int c] [] (j_setI h m 10 0) := by
    intro z
    refine b_X9_classify_26 hG ?_
    dsimp only [q_X9_classify_26, j_wp, j_opB, j_opA, j_nth, j_i1, j_i2, j_l1, j_l2, j_li, j_f1, j_f2, j_d1, j_d2, j_r1, j_ai, j_aii, j_ail, j_aid, j_air, j_st1, j_st2, j_stu, j_kl, j_cond, j_args, j_out, j_few, j_cw, j_nat, j_pad, j_exp, Nat.reduceAdd]
    refine raise0 hl s ?_
    simp only [j_ref, j_ari, j_arb, j_arr, j_len, j_nar, j_oi, j_ol, j_of, j_od, j_or, j_ov, true_and, and_true]
    exact H1 z
  have y : ∀ {v : Int32}, inx v 256 → rIn v 0 255 = true := fun z => rIn_y (n := 256) (by omega) z
  have n : ∀ {v : Int32}, ¬ inx v 256 → rIn v 0 255 = false := fun z => rIn_n (n := 256) (by omega) z
  refine b_X9_classify_0 hG ?_
  dsimp only [q_X9_classify_0, j_wp, j_opB, j_opA, j_nth, j_i1, j_i2, j_l1, j_l2, j_li, j_f1, j_f2, j_d1, j_d2, j_r1, j_ai, j_aii, j_ail, j_aid, j_air, j_st1, j_st2, j_stu, j_kl, j_cond, j_args, j_out, j_few, j_cw, j_nat, j_pad, j_exp, Nat.reduceAdd]
  simp only [MB_sh s, j_ref, j_ari, j_arb, j_arr, j_len, j_nar, j_oi, j_ol, j_of, j_od, j_or, j_ov, true_and, and_true]
  refine sp_X9_isByte hl hB0 ?_
  simp only [j_ref, j_ari, j_arb, j_arr, j_len, j_nar, j_oi, j_ol, j_of, j_od, j_or, j_ov, true_and, and_true]
  by_cases g1 : inx a 256
  · simp only [y g1, if_true]
    rw [if_neg (by decide)]
    refine sp_X9_isByte hl hB0 ?_
    simp only [j_ref, j_ari, j_arb, j_arr, j_len, j_nar, j_oi, j_ol, j_of, j_od, j_or, j_ov, true_and, and_true]
    by_cases g2 : inx b 256
    · simp only [y g2, if_true]
      rw [if_neg (by decide)]
      refine sp_X9_isByte hl hB0 ?_
      simp only [j_ref, j_ari, j_arb, j_arr, j_len, j_nar, j_oi, j_ol, j_of, j_od, j_or, j_ov, true_and, and_true]
      by_cases g3 : inx c 256
      · simp only [y g3, if_true]
        rw [if_neg (by decide)]
        refine b_X9_classify_32 hG ?_
        dsimp only [q_X9_classify_32, j_wp, j_opB, j_opA, j_nth, j_i1, j_i2, j_l1, j_l2, j_li, j_f1, j_f2, j_d1, j_d2, j_r1, j_ai, j_aii, j_ail, j_aid, j_air, j_st1, j_st2, j_stu, j_kl, j_cond, j_args, j_out, j_few, j_cw, j_nat, j_pad, j_exp, Nat.reduceAdd]
        refine sp_X9_flowFor hl q hnr hx ?_
        simp only [j_ref, j_ari, j_arb, j_arr, j_len, j_nar, j_oi, j_ol, j_of, j_od, j_or, j_ov, true_and, and_true]
        exact H0 ⟨g1, g2, g3⟩
      · simp only [n g3, Bool.false_eq_true, if_false, if_true]
        exact bad (fun z => g3 z.2.2)
    · simp only [n g2, Bool.false_eq_true, if_false, if_true]
      exact bad (fun z => g2 z.2.1)
  · simp only [n g1, Bool.false_eq_true, if_false, if_true]
    exact bad (fun z => g1 z.1)
theorem sp_X9_packet (hl : l.stackTraces = false) (s : MB E m M h) {n : Nat} (hn : n ≤ 100) (hx : rX M 2 = nI n) {v w : Int32} (H1 : ¬ (inx v n ∧ inx w 9) → Q (.inl (some (.int 0))) (j_setI h m 10 1)) (H0 : ∀ p k, p < n → k < 9 → v = nI p → w = nI k → Q (.inl (some (.int (rP M p k)))) (j_setI h m 10 0)) : j_Met l D bs E (d + 3) n_X9_packet [.ref m, .int v, .int w] h Q := by
  have hB := s.2.2.2
  have s0 := MB_I s (k := 10) 0
  have q := MB_q s0
  have hB0 := s0.2.2.2
  refine j_meth hl rfl g_X9_packet (Nat.le_of_ble_eq_true rfl) (fun _ => ⟨_, _, rfl, (MB_sh s)⟩) hB.1 hB.2 (fun G hG => ?_)
  have bad : ¬ (inx v n ∧ inx w 9) → G 23 [.ref m, .int v, .int w] [] (j_setI h m 10 0) := by
    intro z
    refine b_X9_packet_23 hG ?_
    dsimp only [q_X9_packet_23, j_wp, j_opB, j_opA, j_nth, j_i1, j_i2, j_l1, j_l2, j_li, j_f1, j_f2, j_d1, j_d2, j_r1, j_ai, j_aii, j_ail, j_aid, j_air, j_st1, j_st2, j_stu, j_kl, j_cond, j_args, j_out, j_few, j_cw, j_nat, j_pad, j_exp, Nat.reduceAdd]
    refine raise0 hl s ?_
    simp only [j_ref, j_ari, j_arb, j_arr, j_len, j_nar, j_oi, j_ol, j_of, j_od, j_or, j_ov, true_and, and_true]
    exact H1 z
  refine b_X9_packet_0 hG ?_
  dsimp only [q_X9_packet_0, j_wp, j_opB, j_opA, j_nth, j_i1, j_i2, j_l1, j_l2, j_li, j_f1, j_f2, j_d1, j_d2, j_r1, j_ai, j_aii, j_ail, j_aid, j_air, j_st1, j_st2, j_stu, j_kl, j_cond, j_args, j_out, j_few, j_cw, j_nat, j_pad, j_exp, Nat.reduceAdd]
  simp only [MB_sh s, j_ref, j_ari, j_arb, j_arr, j_len, j_nar, j_oi, j_ol, j_of, j_od, j_or, j_ov, true_and, and_true]
  refine sp_X9_isPacket hl q ?_
  simp only [j_ref, j_ari, j_arb, j_arr, j_len, j_nar, j_oi, j_ol, j_of, j_od, j_or, j_ov, true_and, and_true, hx]
  by_cases g1 : inx v n
  · simp only [rIn_y (by omega) g1, if_true]
    rw [if_neg (by decide)]
    refine sp_X9_inRange hl hB0 ?_
    simp only [j_ref, j_ari, j_arb, j_arr, j_len, j_nar, j_oi, j_ol, j_of, j_od, j_or, j_ov, true_and, and_true]
    by_cases g2 : inx w 9
    · have e : rIn w 0 8 = true := rIn_y (n := 9) (by omega) g2
      simp only [e, if_true]
      rw [if_neg (by decide)]
      obtain ⟨p, hp, rfl⟩ := g1
      obtain ⟨k, hk, rfl⟩ := g2
      refine b_X9_packet_29 hG ?_
      dsimp only [q_X9_packet_29, j_wp, j_opB, j_opA, j_nth, j_i1, j_i2, j_l1, j_l2, j_li, j_f1, j_f2, j_d1, j_d2, j_r1, j_ai, j_aii, j_ail, j_aid, j_air, j_st1, j_st2, j_stu, j_kl, j_cond, j_args, j_out, j_few, j_cw, j_nat, j_pad, j_exp, Nat.reduceAdd]
      refine sp_X9_ofPacket hl q (f := p) (by omega) (k := k) (by omega) ?_
      simp only [j_ref, j_ari, j_arb, j_arr, j_len, j_nar, j_oi, j_ol, j_of, j_od, j_or, j_ov, true_and, and_true]
      exact H0 p k hp hk rfl rfl
    · have e : rIn w 0 8 = false := rIn_n (n := 9) (by omega) g2
      simp only [e, Bool.false_eq_true, if_false, if_true]
      exact bad (fun z => g2 z.2)
  · simp only [rIn_n (by omega) g1, Bool.false_eq_true, if_false, if_true]
    exact bad (fun z => g1 z.1)
theorem sp_X9_transmission (hl : l.stackTraces = false) (s : MB E m M h) {n : Nat} (hn : n ≤ 300) (hx : rX M 3 = nI n) {v w : Int32} (H1 : ¬ (inx v n ∧ inx w 5) → Q (.inl (some (.int 0))) (j_setI h m 10 1)) (H0 : ∀ p k, p < n → k < 5 → v = nI p → w = nI k → Q (.inl (some (.int (rS M p k)))) (j_setI h m 10 0)) : j_Met l D bs E (d + 3) n_X9_transmission [.ref m, .int v, .int w] h Q := by
  have hB := s.2.2.2
  have s0 := MB_I s (k := 10) 0
  have q := MB_q s0
  have hB0 := s0.2.2.2
  refine j_meth hl rfl g_X9_transmission (Nat.le_of_ble_eq_true rfl) (fun _ => ⟨_, _, rfl, (MB_sh s)⟩) hB.1 hB.2 (fun G hG => ?_)
  have bad : ¬ (inx v n ∧ inx w 5) → G 22 [.ref m, .int v, .int w] [] (j_setI h m 10 0) := by
    intro z
    refine b_X9_transmission_22 hG ?_
    dsimp only [q_X9_transmission_22, j_wp, j_opB, j_opA, j_nth, j_i1, j_i2, j_l1, j_l2, j_li, j_f1, j_f2, j_d1, j_d2, j_r1, j_ai, j_aii, j_ail, j_aid, j_air, j_st1, j_st2, j_stu, j_kl, j_cond, j_args, j_out, j_few, j_cw, j_nat, j_pad, j_exp, Nat.reduceAdd]
    refine raise0 hl s ?_
    simp only [j_ref, j_ari, j_arb, j_arr, j_len, j_nar, j_oi, j_ol, j_of, j_od, j_or, j_ov, true_and, and_true]
    exact H1 z
  refine b_X9_transmission_0 hG ?_
  dsimp only [q_X9_transmission_0, j_wp, j_opB, j_opA, j_nth, j_i1, j_i2, j_l1, j_l2, j_li, j_f1, j_f2, j_d1, j_d2, j_r1, j_ai, j_aii, j_ail, j_aid, j_air, j_st1, j_st2, j_stu, j_kl, j_cond, j_args, j_out, j_few, j_cw, j_nat, j_pad, j_exp, Nat.reduceAdd]
  simp only [MB_sh s, j_ref, j_ari, j_arb, j_arr, j_len, j_nar, j_oi, j_ol, j_of, j_od, j_or, j_ov, true_and, and_true]
  refine sp_X9_isSending hl q ?_
  simp only [j_ref, j_ari, j_arb, j_arr, j_len, j_nar, j_oi, j_ol, j_of, j_od, j_or, j_ov, true_and, and_true, hx]
  by_cases g1 : inx v n
  · simp only [rIn_y (by omega) g1, if_true]
    rw [if_neg (by decide)]
    refine sp_X9_inRange hl hB0 ?_
    simp only [j_ref, j_ari, j_arb, j_arr, j_len, j_nar, j_oi, j_ol, j_of, j_od, j_or, j_ov, true_and, and_true]
    by_cases g2 : inx w 5
    · have e : rIn w 0 4 = true := rIn_y (n := 5) (by omega) g2
      simp only [e, if_true]
      rw [if_neg (by decide)]
      obtain ⟨p, hp, rfl⟩ := g1
      obtain ⟨k, hk, rfl⟩ := g2
      refine b_X9_transmission_28 hG ?_
      dsimp only [q_X9_transmission_28, j_wp, j_opB, j_opA, j_nth, j_i1, j_i2, j_l1, j_l2, j_li, j_f1, j_f2, j_d1, j_d2, j_r1, j_ai, j_aii, j_ail, j_aid, j_air, j_st1, j_st2, j_stu, j_kl, j_cond, j_args, j_out, j_few, j_cw, j_nat, j_pad, j_exp, Nat.reduceAdd]
      refine sp_X9_ofSending hl q (f := p) (by omega) (k := k) (by omega) ?_
      simp only [j_ref, j_ari, j_arb, j_arr, j_len, j_nar, j_oi, j_ol, j_of, j_od, j_or, j_ov, true_and, and_true]
      exact H0 p k hp hk rfl rfl
    · have e : rIn w 0 4 = false := rIn_n (n := 5) (by omega) g2
      simp only [e, Bool.false_eq_true, if_false, if_true]
      exact bad (fun z => g2 z.2)
  · simp only [rIn_n (by omega) g1, Bool.false_eq_true, if_false, if_true]
    exact bad (fun z => g1 z.1)
theorem sp_X9_virtualTime (hl : l.stackTraces = false) (s : MB E m M h) {n : Nat} (hn : n ≤ 6) (hx : rX M 0 = nI n) {v : Int32} (H1 : ¬ inx v n → Q (.inl (some (.long 0))) (j_setI h m 10 1)) (H0 : ∀ p, p < n → v = nI p → Q (.inl (some (.long (rV M p)))) (j_setI h m 10 0)) : j_Met l D bs E (d + 3) n_X9_virtualTime [.ref m, .int v] h Q := by
  have hB := s.2.2.2
  have s0 := MB_I s (k := 10) 0
  have q := MB_q s0
  refine j_meth hl rfl g_X9_virtualTime (Nat.le_of_ble_eq_true rfl) (fun _ => ⟨_, _, rfl, (MB_sh s)⟩) hB.1 hB.2 (fun G hG => ?_)
  refine b_X9_virtualTime_0 hG ?_
  dsimp only [q_X9_virtualTime_0, j_wp, j_opB, j_opA, j_nth, j_i1, j_i2, j_l1, j_l2, j_li, j_f1, j_f2, j_d1, j_d2, j_r1, j_ai, j_aii, j_ail, j_aid, j_air, j_st1, j_st2, j_stu, j_kl, j_cond, j_args, j_out, j_few, j_cw, j_nat, j_pad, j_exp, Nat.reduceAdd]
  simp only [MB_sh s, j_ref, j_ari, j_arb, j_arr, j_len, j_nar, j_oi, j_ol, j_of, j_od, j_or, j_ov, true_and, and_true]
  refine sp_X9_isFlow hl q ?_
  simp only [j_ref, j_ari, j_arb, j_arr, j_len, j_nar, j_oi, j_ol, j_of, j_od, j_or, j_ov, true_and, and_true, hx]
  by_cases g1 : inx v n
  · simp only [rIn_y (by omega) g1, if_true]
    rw [if_neg (by decide)]
    obtain ⟨p, hp, rfl⟩ := g1
    refine b_X9_virtualTime_20 hG ?_
    dsimp only [q_X9_virtualTime_20, j_wp, j_opB, j_opA, j_nth, j_i1, j_i2, j_l1, j_l2, j_li, j_f1, j_f2, j_d1, j_d2, j_r1, j_ai, j_aii, j_ail, j_aid, j_air, j_st1, j_st2, j_stu, j_kl, j_cond, j_args, j_out, j_few, j_cw, j_nat, j_pad, j_exp, Nat.reduceAdd]
    simp only [ME_sh q, ME_r0 q, ME_a0 q, ME_r5 q, ME_a5 q, j_ref, j_ari, j_arb, j_arr, j_len, j_nar, j_oi, j_ol, j_of, j_od, j_or, j_ov, true_and, and_true]
    refine ⟨vp_in_nI (by omega) (by omega), ?_⟩
    rw [nI_clamp (by omega), ME_gV q (k := p) (by omega)]
    exact H0 p hp rfl
  · simp only [rIn_n (by omega) g1, Bool.false_eq_true, if_false, if_true]
    refine raise0 hl s ?_
    simp only [j_ref, j_ari, j_arb, j_arr, j_len, j_nar, j_oi, j_ol, j_of, j_od, j_or, j_ov, true_and, and_true]
    exact H1 g1
theorem sp_X9_charge (hl : l.stackTraces = false) (s : MB E m M h) {n : Nat} (hn : n ≤ 300) (hx : rX M 3 = nI n) {v : Int32} (H1 : ¬ inx v n → Q (.inl (some (.long 0))) (j_setI h m 10 1)) (H0 : ∀ p, p < n → v = nI p → Q (.inl (some (.long (rC M p)))) (j_setI h m 10 0)) : j_Met l D bs E (d + 3) n_X9_charge [.ref m, .int v] h Q := by
  have hB := s.2.2.2
  have s0 := MB_I s (k := 10) 0
  have q := MB_q s0
  refine j_meth hl rfl g_X9_charge (Nat.le_of_ble_eq_true rfl) (fun _ => ⟨_, _, rfl, (MB_sh s)⟩) hB.1 hB.2 (fun G hG => ?_)
  refine b_X9_charge_0 hG ?_
  dsimp only [q_X9_charge_0, j_wp, j_opB, j_opA, j_nth, j_i1, j_i2, j_l1, j_l2, j_li, j_f1, j_f2, j_d1, j_d2, j_r1, j_ai, j_aii, j_ail, j_aid, j_air, j_st1, j_st2, j_stu, j_kl, j_cond, j_args, j_out, j_few, j_cw, j_nat, j_pad, j_exp, Nat.reduceAdd]
  simp only [MB_sh s, j_ref, j_ari, j_arb, j_arr, j_len, j_nar, j_oi, j_ol, j_of, j_od, j_or, j_ov, true_and, and_true]
  refine sp_X9_isSending hl q ?_
  simp only [j_ref, j_ari, j_arb, j_arr, j_len, j_nar, j_oi, j_ol, j_of, j_od, j_or, j_ov, true_and, and_true, hx]
  by_cases g1 : inx v n
  · simp only [rIn_y (by omega) g1, if_true]
    rw [if_neg (by decide)]
    obtain ⟨p, hp, rfl⟩ := g1
    refine b_X9_charge_20 hG ?_
    dsimp only [q_X9_charge_20, j_wp, j_opB, j_opA, j_nth, j_i1, j_i2, j_l1, j_l2, j_li, j_f1, j_f2, j_d1, j_d2, j_r1, j_ai, j_aii, j_ail, j_aid, j_air, j_st1, j_st2, j_stu, j_kl, j_cond, j_args, j_out, j_few, j_cw, j_nat, j_pad, j_exp, Nat.reduceAdd]
    simp only [ME_sh q, ME_r0 q, ME_a0 q, ME_r5 q, ME_a5 q, j_ref, j_ari, j_arb, j_arr, j_len, j_nar, j_oi, j_ol, j_of, j_od, j_or, j_ov, true_and, and_true, r_ixC]
    refine ⟨vp_in_nI (by omega) (by omega), ?_⟩
    rw [nI_clamp (by omega), ME_gC q (k := p) (by omega)]
    exact H0 p hp rfl
  · simp only [rIn_n (by omega) g1, Bool.false_eq_true, if_false, if_true]
    refine raise0 hl s ?_
    simp only [j_ref, j_ari, j_arb, j_arr, j_len, j_nar, j_oi, j_ol, j_of, j_od, j_or, j_ov, true_and, and_true]
    exact H1 g1
theorem sp_X9_outstanding (hl : l.stackTraces = false) (s : MB E m M h) {n ns : Nat} (hn : n ≤ 6) (hx : rX M 0 = nI n) (hns : ns ≤ 300) (hx3 : rX M 3 = nI ns) (hq : rSok M ns) {v : Int32} (H1 : ¬ inx v n → Q (.inl (some (.int 0))) (j_setI h m 10 1)) (H0 : ∀ p, p < n → v = nI p → Q (.inl (some (.int (rOut M (nI p) ns 0 0)))) (j_setI h m 10 0)) : j_Met l D bs E (d + 4) n_X9_outstanding [.ref m, .int v] h Q := by
  have hB := s.2.2.2
  have s0 := MB_I s (k := 10) 0
  have q := MB_q s0
  refine j_meth hl rfl g_X9_outstanding (Nat.le_of_ble_eq_true rfl) (fun _ => ⟨_, _, rfl, (MB_sh s)⟩) hB.1 hB.2 (fun G hG => ?_)
  refine b_X9_outstanding_0 hG ?_
  dsimp only [q_X9_outstanding_0, j_wp, j_opB, j_opA, j_nth, j_i1, j_i2, j_l1, j_l2, j_li, j_f1, j_f2, j_d1, j_d2, j_r1, j_ai, j_aii, j_ail, j_aid, j_air, j_st1, j_st2, j_stu, j_kl, j_cond, j_args, j_out, j_few, j_cw, j_nat, j_pad, j_exp, Nat.reduceAdd]
  simp only [MB_sh s, j_ref, j_ari, j_arb, j_arr, j_len, j_nar, j_oi, j_ol, j_of, j_od, j_or, j_ov, true_and, and_true]
  refine sp_X9_isFlow hl q ?_
  simp only [j_ref, j_ari, j_arb, j_arr, j_len, j_nar, j_oi, j_ol, j_of, j_od, j_or, j_ov, true_and, and_true, hx]
  by_cases g1 : inx v n
  · simp only [rIn_y (by omega) g1, if_true]
    rw [if_neg (by decide)]
    obtain ⟨p, hp, rfl⟩ := g1
    refine b_X9_outstanding_19 hG ?_
    dsimp only [q_X9_outstanding_19, j_wp, j_opB, j_opA, j_nth, j_i1, j_i2, j_l1, j_l2, j_li, j_f1, j_f2, j_d1, j_d2, j_r1, j_ai, j_aii, j_ail, j_aid, j_air, j_st1, j_st2, j_stu, j_kl, j_cond, j_args, j_out, j_few, j_cw, j_nat, j_pad, j_exp, Nat.reduceAdd]
    refine sp_X9_outstandingOf hl q hns hx3 hq ?_
    simp only [j_ref, j_ari, j_arb, j_arr, j_len, j_nar, j_oi, j_ol, j_of, j_od, j_or, j_ov, true_and, and_true]
    exact H0 p hp rfl
  · simp only [rIn_n (by omega) g1, Bool.false_eq_true, if_false, if_true]
    refine raise0 hl s ?_
    simp only [j_ref, j_ari, j_arb, j_arr, j_len, j_nar, j_oi, j_ol, j_of, j_od, j_or, j_ov, true_and, and_true]
    exact H1 g1
theorem sp_X9_nextFlow (hl : l.stackTraces = false) (s : MB E m M h) {n : Nat} (hn : n ≤ 6) (hx : rX M 0 = nI n) (H : Q (.inl (some (.int (rServe M n)))) (j_setI h m 10 0)) : j_Met l D bs E (d + 3) n_X9_nextFlow [.ref m] h Q := by
  have hB := s.2.2.2
  have s0 := MB_I s (k := 10) 0
  have q := MB_q s0
  refine j_meth hl rfl g_X9_nextFlow (Nat.le_of_ble_eq_true rfl) (fun _ => ⟨_, _, rfl, (MB_sh s)⟩) hB.1 hB.2 (fun G hG => ?_)
  refine b_X9_nextFlow_0 hG ?_
  dsimp only [q_X9_nextFlow_0, j_wp, j_opB, j_opA, j_nth, j_i1, j_i2, j_l1, j_l2, j_li, j_f1, j_f2, j_d1, j_d2, j_r1, j_ai, j_aii, j_ail, j_aid, j_air, j_st1, j_st2, j_stu, j_kl, j_cond, j_args, j_out, j_few, j_cw, j_nat, j_pad, j_exp, Nat.reduceAdd]
  simp only [MB_sh s, j_ref, j_ari, j_arb, j_arr, j_len, j_nar, j_oi, j_ol, j_of, j_od, j_or, j_ov, true_and, and_true]
  refine sp_X9_next hl q hn hx ?_
  simp only [j_ref, j_ari, j_arb, j_arr, j_len, j_nar, j_oi, j_ol, j_of, j_od, j_or, j_ov, true_and, and_true]
  exact H
theorem sp_X9_isIdle (hl : l.stackTraces = false) (s : MB E m M h) {n ns : Nat} (hn : n ≤ 6) (hx : rX M 0 = nI n) (hns : ns ≤ 300) (hx3 : rX M 3 = nI ns) (hq : rSok M ns) {v : Int32} (H1 : ¬ inx v n → Q (.inl (some (.int 0))) (j_setI h m 10 1)) (H0 : ∀ p, p < n → v = nI p → Q (.inl (some (.int (if rIdle M ns p = true then 1 else 0)))) (j_setI h m 10 0)) : j_Met l D bs E (d + 5) n_X9_isIdle [.ref m, .int v] h Q := by
  have hB := s.2.2.2
  refine j_meth hl rfl g_X9_isIdle (Nat.le_of_ble_eq_true rfl) (fun _ => ⟨_, _, rfl, (MB_sh s)⟩) hB.1 hB.2 (fun G hG => ?_)
  refine b_X9_isIdle_0 hG ?_
  dsimp only [q_X9_isIdle_0, j_wp, j_opB, j_opA, j_nth, j_i1, j_i2, j_l1, j_l2, j_li, j_f1, j_f2, j_d1, j_d2, j_r1, j_ai, j_aii, j_ail, j_aid, j_air, j_st1, j_st2, j_stu, j_kl, j_cond, j_args, j_out, j_few, j_cw, j_nat, j_pad, j_exp, Nat.reduceAdd]
  refine sp_X9_isFlow hl (MB_q s) ?_
  simp only [j_ref, j_ari, j_arb, j_arr, j_len, j_nar, j_oi, j_ol, j_of, j_od, j_or, j_ov, true_and, and_true, hx]
  by_cases g1 : inx v n
  · simp only [rIn_y (by omega) g1, if_true]
    rw [if_neg (by decide)]
    have q := MB_q (MB_I s (k := 10) 0)
    obtain ⟨p, hp, rfl⟩ := g1
    refine b_X9_isIdle_14 hG ?_
    dsimp only [q_X9_isIdle_14, j_wp, j_opB, j_opA, j_nth, j_i1, j_i2, j_l1, j_l2, j_li, j_f1, j_f2, j_d1, j_d2, j_r1, j_ai, j_aii, j_ail, j_aid, j_air, j_st1, j_st2, j_stu, j_kl, j_cond, j_args, j_out, j_few, j_cw, j_nat, j_pad, j_exp, Nat.reduceAdd]
    simp only [MB_sh s, ME_sh q, jh_Is, j_ref, j_ari, j_arb, j_arr, j_len, j_nar, j_oi, j_ol, j_of, j_od, j_or, j_ov, true_and, and_true]
    first | rw [if_pos rfl] | rw [if_pos trivial]
    refine sp_X9_isUnused hl q (f := p) (by omega) hns hx3 hq ?_
    simp only [j_ref, j_ari, j_arb, j_arr, j_len, j_nar, j_oi, j_ol, j_of, j_od, j_or, j_ov, true_and, and_true]
    have H := H0 p hp rfl
    by_cases g : rIdle M ns p = true
    · simp only [g, if_true] at H ⊢
      rw [if_neg (by decide)]
      refine b_X9_isIdle_37 hG ?_
      dsimp only [q_X9_isIdle_37, j_wp, j_opB, j_opA, j_nth, j_i1, j_i2, j_l1, j_l2, j_li, j_f1, j_f2, j_d1, j_d2, j_r1, j_ai, j_aii, j_ail, j_aid, j_air, j_st1, j_st2, j_stu, j_kl, j_cond, j_args, j_out, j_few, j_cw, j_nat, j_pad, j_exp, Nat.reduceAdd]
      exact ⟨(by first | exact Or.inl rfl | exact Or.inr rfl | decide), H⟩
    · simp only [g, Bool.false_eq_true, if_false, if_true] at H ⊢
      refine b_X9_isIdle_36 hG ?_
      dsimp only [q_X9_isIdle_36, j_wp, j_opB, j_opA, j_nth, j_i1, j_i2, j_l1, j_l2, j_li, j_f1, j_f2, j_d1, j_d2, j_r1, j_ai, j_aii, j_ail, j_aid, j_air, j_st1, j_st2, j_stu, j_kl, j_cond, j_args, j_out, j_few, j_cw, j_nat, j_pad, j_exp, Nat.reduceAdd]
      refine b_X9_isIdle_37 hG ?_
      dsimp only [q_X9_isIdle_37, j_wp, j_opB, j_opA, j_nth, j_i1, j_i2, j_l1, j_l2, j_li, j_f1, j_f2, j_d1, j_d2, j_r1, j_ai, j_aii, j_ail, j_aid, j_air, j_st1, j_st2, j_stu, j_kl, j_cond, j_args, j_out, j_few, j_cw, j_nat, j_pad, j_exp, Nat.reduceAdd]
      exact ⟨(by first | exact Or.inl rfl | exact Or.inr rfl | decide), H⟩
  · simp only [rIn_n (by omega) g1, Bool.false_eq_true, if_false, if_true]
    have q := MB_q (MB_I s (k := 10) 1)
    refine b_X9_isIdle_13 hG ?_
    dsimp only [q_X9_isIdle_13, j_wp, j_opB, j_opA, j_nth, j_i1, j_i2, j_l1, j_l2, j_li, j_f1, j_f2, j_d1, j_d2, j_r1, j_ai, j_aii, j_ail, j_aid, j_air, j_st1, j_st2, j_stu, j_kl, j_cond, j_args, j_out, j_few, j_cw, j_nat, j_pad, j_exp, Nat.reduceAdd]
    refine b_X9_isIdle_14 hG ?_
    dsimp only [q_X9_isIdle_14, j_wp, j_opB, j_opA, j_nth, j_i1, j_i2, j_l1, j_l2, j_li, j_f1, j_f2, j_d1, j_d2, j_r1, j_ai, j_aii, j_ail, j_aid, j_air, j_st1, j_st2, j_stu, j_kl, j_cond, j_args, j_out, j_few, j_cw, j_nat, j_pad, j_exp, Nat.reduceAdd]
    simp only [MB_sh s, ME_sh q, jh_Is, j_ref, j_ari, j_arb, j_arr, j_len, j_nar, j_oi, j_ol, j_of, j_od, j_or, j_ov, true_and, and_true]
    rw [if_neg (by decide)]
    refine b_X9_isIdle_36 hG ?_
    dsimp only [q_X9_isIdle_36, j_wp, j_opB, j_opA, j_nth, j_i1, j_i2, j_l1, j_l2, j_li, j_f1, j_f2, j_d1, j_d2, j_r1, j_ai, j_aii, j_ail, j_aid, j_air, j_st1, j_st2, j_stu, j_kl, j_cond, j_args, j_out, j_few, j_cw, j_nat, j_pad, j_exp, Nat.reduceAdd]
    refine b_X9_isIdle_37 hG ?_
    dsimp only [q_X9_isIdle_37, j_wp, j_opB, j_opA, j_nth, j_i1, j_i2, j_l1, j_l2, j_li, j_f1, j_f2, j_d1, j_d2, j_r1, j_ai, j_aii, j_ail, j_aid, j_air, j_st1, j_st2, j_stu, j_kl, j_cond, j_args, j_out, j_few, j_cw, j_nat, j_pad, j_exp, Nat.reduceAdd]
    exact ⟨(by first | exact Or.inl rfl | exact Or.inr rfl | decide), H1 g1⟩
theorem sp_X9_queued (hl : l.stackTraces = false) (s : MB E m M h) {n : Nat} (hn : n ≤ 6) (hx : rX M 0 = nI n) {v w : Int32} (hq : ∀ f, f < n → ∃ q, q ≤ 100 ∧ rF M f 7 = nI q) (H1 : (¬ inx v n ∨ w < 0) → Q (.inl (some (.int 0))) (j_setI h m 10 1)) (H0 : ∀ p i, p < n → v = nI p → i < 2 ^ 31 → w = nI i → Q (.inl (some (.int (if nI i < rF M p 7 then rQ M p i else -1)))) (j_setI h m 10 0)) : j_Met l D bs E (d + 3) n_X9_queued [.ref m, .int v, .int w] h Q := by
  have hB := s.2.2.2
  have s0 := MB_I s (k := 10) 0
  have q := MB_q s0
  refine j_meth hl rfl g_X9_queued (Nat.le_of_ble_eq_true rfl) (fun _ => ⟨_, _, rfl, (MB_sh s)⟩) hB.1 hB.2 (fun G hG => ?_)
  have bad : (¬ inx v n ∨ w < 0) → G 17 [.ref m, .int v, .int w] [] (j_setI h m 10 0) := by
    intro z
    refine b_X9_queued_17 hG ?_
    dsimp only [q_X9_queued_17, j_wp, j_opB, j_opA, j_nth, j_i1, j_i2, j_l1, j_l2, j_li, j_f1, j_f2, j_d1, j_d2, j_r1, j_ai, j_aii, j_ail, j_aid, j_air, j_st1, j_st2, j_stu, j_kl, j_cond, j_args, j_out, j_few, j_cw, j_nat, j_pad, j_exp, Nat.reduceAdd]
    refine raise0 hl s ?_
    simp only [j_ref, j_ari, j_arb, j_arr, j_len, j_nar, j_oi, j_ol, j_of, j_od, j_or, j_ov, true_and, and_true]
    exact H1 z
  refine b_X9_queued_0 hG ?_
  dsimp only [q_X9_queued_0, j_wp, j_opB, j_opA, j_nth, j_i1, j_i2, j_l1, j_l2, j_li, j_f1, j_f2, j_d1, j_d2, j_r1, j_ai, j_aii, j_ail, j_aid, j_air, j_st1, j_st2, j_stu, j_kl, j_cond, j_args, j_out, j_few, j_cw, j_nat, j_pad, j_exp, Nat.reduceAdd]
  simp only [MB_sh s, j_ref, j_ari, j_arb, j_arr, j_len, j_nar, j_oi, j_ol, j_of, j_od, j_or, j_ov, true_and, and_true]
  refine sp_X9_isFlow hl q ?_
  simp only [j_ref, j_ari, j_arb, j_arr, j_len, j_nar, j_oi, j_ol, j_of, j_od, j_or, j_ov, true_and, and_true, hx]
  by_cases g1 : inx v n
  · simp only [rIn_y (by omega) g1, if_true]
    rw [if_neg (by decide)]
    by_cases g2 : w < 0
    · rw [if_pos g2]
      exact bad (Or.inr g2)
    · rw [if_neg g2]
      obtain ⟨p, hp, rfl⟩ := g1
      obtain ⟨i, hi, rfl⟩ := nI_of g2
      have H := H0 p i hp rfl hi rfl
      obtain ⟨c, hc, ec⟩ := hq p hp
      refine b_X9_queued_23 hG ?_
      dsimp only [q_X9_queued_23, j_wp, j_opB, j_opA, j_nth, j_i1, j_i2, j_l1, j_l2, j_li, j_f1, j_f2, j_d1, j_d2, j_r1, j_ai, j_aii, j_ail, j_aid, j_air, j_st1, j_st2, j_stu, j_kl, j_cond, j_args, j_out, j_few, j_cw, j_nat, j_pad, j_exp, Nat.reduceAdd]
      refine sp_X9_ofFlow hl q (f := p) (by omega) (k := 7) (by omega) ?_
      simp only [j_ref, j_ari, j_arb, j_arr, j_len, j_nar, j_oi, j_ol, j_of, j_od, j_or, j_ov, true_and, and_true]
      rw [ec] at H ⊢
      by_cases g3 : nI i < nI c
      · rw [if_pos g3] at H ⊢
        refine sp_X9_inQueue hl q (f := p) (by omega) (k := i) (by have := (nI_ltI (by omega) (by omega)).mp g3; omega) ?_
        simp only [j_ref, j_ari, j_arb, j_arr, j_len, j_nar, j_oi, j_ol, j_of, j_od, j_or, j_ov, true_and, and_true]
        refine b_X9_queued_44 hG ?_
        dsimp only [q_X9_queued_44, j_wp, j_opB, j_opA, j_nth, j_i1, j_i2, j_l1, j_l2, j_li, j_f1, j_f2, j_d1, j_d2, j_r1, j_ai, j_aii, j_ail, j_aid, j_air, j_st1, j_st2, j_stu, j_kl, j_cond, j_args, j_out, j_few, j_cw, j_nat, j_pad, j_exp, Nat.reduceAdd]
        exact ⟨trivial, H⟩
      · rw [if_neg g3] at H ⊢
        refine b_X9_queued_43 hG ?_
        dsimp only [q_X9_queued_43, j_wp, j_opB, j_opA, j_nth, j_i1, j_i2, j_l1, j_l2, j_li, j_f1, j_f2, j_d1, j_d2, j_r1, j_ai, j_aii, j_ail, j_aid, j_air, j_st1, j_st2, j_stu, j_kl, j_cond, j_args, j_out, j_few, j_cw, j_nat, j_pad, j_exp, Nat.reduceAdd]
        refine b_X9_queued_44 hG ?_
        dsimp only [q_X9_queued_44, j_wp, j_opB, j_opA, j_nth, j_i1, j_i2, j_l1, j_l2, j_li, j_f1, j_f2, j_d1, j_d2, j_r1, j_ai, j_aii, j_ail, j_aid, j_air, j_st1, j_st2, j_stu, j_kl, j_cond, j_args, j_out, j_few, j_cw, j_nat, j_pad, j_exp, Nat.reduceAdd]
        exact ⟨trivial, H⟩
  · simp only [rIn_n (by omega) g1, Bool.false_eq_true, if_false, if_true]
    exact bad (Or.inl g1)
/-- property k of the flow f -/
def rProp (M : Rf) (np f k : Nat) : Int32 := if k = 8 then rBytes M f (tn (rF M f 7)) 0 0 else if k = 9 then rF M f 8 else if k = 10 then rF M f 9 else if k = 11 then rF M f 10 else if k = 12 then rF M f 11 else if k = 13 then rF M f 12 else if k = 14 then rDrop M (nI f) np 0 0 else if k = 15 then rF M f 13 else rF M f k
theorem sp_X9_flow (hl : l.stackTraces = false) (s : MB E m M h) {n np : Nat} (hn : n ≤ 6) (hx : rX M 0 = nI n) (hnp : np ≤ 100) (hx2 : rX M 2 = nI np) {v w : Int32} (hq : ∀ f, f < n → ∃ q, q ≤ 100 ∧ rF M f 7 = nI q ∧ rQok M f q) (H1 : ¬ (inx v n ∧ inx w 16) → Q (.inl (some (.int 0))) (j_setI h m 10 1)) (H0 : ∀ p k, p < n → k < 16 → v = nI p → w = nI k → Q (.inl (some (.int (rProp M np p k)))) (j_setI h m 10 0)) : j_Met l D bs E (d + 3) n_X9_flow [.ref m, .int v, .int w] h Q := by
  have hB := s.2.2.2
  have s0 := MB_I s (k := 10) 0
  have q := MB_q s0
  have hB0 := s0.2.2.2
  refine j_meth hl rfl g_X9_flow (Nat.le_of_ble_eq_true rfl) (fun _ => ⟨_, _, rfl, (MB_sh s)⟩) hB.1 hB.2 (fun G hG => ?_)
  have bad : ¬ (inx v n ∧ inx w 16) → G 23 [.ref m, .int v, .int w] [] (j_setI h m 10 0) := by
    intro z
    refine b_X9_flow_23 hG ?_
    dsimp only [q_X9_flow_23, j_wp, j_opB, j_opA, j_nth, j_i1, j_i2, j_l1, j_l2, j_li, j_f1, j_f2, j_d1, j_d2, j_r1, j_ai, j_aii, j_ail, j_aid, j_air, j_st1, j_st2, j_stu, j_kl, j_cond, j_args, j_out, j_few, j_cw, j_nat, j_pad, j_exp, Nat.reduceAdd]
    refine raise0 hl s ?_
    simp only [j_ref, j_ari, j_arb, j_arr, j_len, j_nar, j_oi, j_ol, j_of, j_od, j_or, j_ov, true_and, and_true]
    exact H1 z
  refine b_X9_flow_0 hG ?_
  dsimp only [q_X9_flow_0, j_wp, j_opB, j_opA, j_nth, j_i1, j_i2, j_l1, j_l2, j_li, j_f1, j_f2, j_d1, j_d2, j_r1, j_ai, j_aii, j_ail, j_aid, j_air, j_st1, j_st2, j_stu, j_kl, j_cond, j_args, j_out, j_few, j_cw, j_nat, j_pad, j_exp, Nat.reduceAdd]
  simp only [MB_sh s, j_ref, j_ari, j_arb, j_arr, j_len, j_nar, j_oi, j_ol, j_of, j_od, j_or, j_ov, true_and, and_true]
  refine sp_X9_isFlow hl q ?_
  simp only [j_ref, j_ari, j_arb, j_arr, j_len, j_nar, j_oi, j_ol, j_of, j_od, j_or, j_ov, true_and, and_true, hx]
  by_cases g1 : inx v n
  · simp only [rIn_y (by omega) g1, if_true]
    rw [if_neg (by decide)]
    refine sp_X9_inRange hl hB0 ?_
    simp only [j_ref, j_ari, j_arb, j_arr, j_len, j_nar, j_oi, j_ol, j_of, j_od, j_or, j_ov, true_and, and_true]
    by_cases g2 : inx w 16
    · have e : rIn w 0 15 = true := rIn_y (n := 16) (by omega) g2
      simp only [e, if_true]
      rw [if_neg (by decide)]
      obtain ⟨p, hp, rfl⟩ := g1
      obtain ⟨k, hk, rfl⟩ := g2
      have H := H0 p k hp hk rfl rfl
      unfold rProp at H
      have hc : k < 8 ∨ k = 8 ∨ k = 9 ∨ k = 10 ∨ k = 11 ∨ k = 12 ∨ k = 13 ∨ k = 14 ∨ k = 15 := by omega
      refine b_X9_flow_29 hG ?_
      dsimp only [q_X9_flow_29, j_wp, j_opB, j_opA, j_nth, j_i1, j_i2, j_l1, j_l2, j_li, j_f1, j_f2, j_d1, j_d2, j_r1, j_ai, j_aii, j_ail, j_aid, j_air, j_st1, j_st2, j_stu, j_kl, j_cond, j_args, j_out, j_few, j_cw, j_nat, j_pad, j_exp, Nat.reduceAdd]
      rcases hc with hc | rfl | rfl | rfl | rfl | rfl | rfl | rfl | rfl
      · rw [if_neg (by omega), if_neg (by omega), if_neg (by omega), if_neg (by omega), if_neg (by omega), if_neg (by omega), if_neg (by omega), if_neg (by omega)] at H
        have ne : ∀ j : Nat, 8 ≤ j → j < 16 → ¬ nI k = nI j := fun j z1 z2 e => by have := (nI_eq (by omega) (by omega)).mp e; omega
        simp only [j_sw]
        rw [if_neg (show ¬ nI k = Int32.ofInt (8) from fun z => ne 8 (by omega) (by omega) (z.trans (by decide))), if_neg (show ¬ nI k = Int32.ofInt (8 + 1) from fun z => ne 9 (by omega) (by omega) (z.trans (by decide))), if_neg (show ¬ nI k = Int32.ofInt (8 + 1 + 1) from fun z => ne 10 (by omega) (by omega) (z.trans (by decide))), if_neg (show ¬ nI k = Int32.ofInt (8 + 1 + 1 + 1) from fun z => ne 11 (by omega) (by omega) (z.trans (by decide))), if_neg (show ¬ nI k = Int32.ofInt (8 + 1 + 1 + 1 + 1) from fun z => ne 12 (by omega) (by omega) (z.trans (by decide))), if_neg (show ¬ nI k = Int32.ofInt (8 + 1 + 1 + 1 + 1 + 1) from fun z => ne 13 (by omega) (by omega) (z.trans (by decide))), if_neg (show ¬ nI k = Int32.ofInt (8 + 1 + 1 + 1 + 1 + 1 + 1) from fun z => ne 14 (by omega) (by omega) (z.trans (by decide))), if_neg (show ¬ nI k = Int32.ofInt (8 + 1 + 1 + 1 + 1 + 1 + 1 + 1) from fun z => ne 15 (by omega) (by omega) (z.trans (by decide)))]
        refine b_X9_flow_136 hG ?_
        dsimp only [q_X9_flow_136, j_wp, j_opB, j_opA, j_nth, j_i1, j_i2, j_l1, j_l2, j_li, j_f1, j_f2, j_d1, j_d2, j_r1, j_ai, j_aii, j_ail, j_aid, j_air, j_st1, j_st2, j_stu, j_kl, j_cond, j_args, j_out, j_few, j_cw, j_nat, j_pad, j_exp, Nat.reduceAdd]
        refine sp_X9_ofFlow hl q (f := p) (by omega) (k := k) (by omega) ?_
        simp only [j_ref, j_ari, j_arb, j_arr, j_len, j_nar, j_oi, j_ol, j_of, j_od, j_or, j_ov, true_and, and_true]
        exact H
      · simp only [j_sw]
        rw [if_pos (by decide)]
        rw [if_pos rfl] at H
        refine b_X9_flow_76 hG ?_
        dsimp only [q_X9_flow_76, j_wp, j_opB, j_opA, j_nth, j_i1, j_i2, j_l1, j_l2, j_li, j_f1, j_f2, j_d1, j_d2, j_r1, j_ai, j_aii, j_ail, j_aid, j_air, j_st1, j_st2, j_stu, j_kl, j_cond, j_args, j_out, j_few, j_cw, j_nat, j_pad, j_exp, Nat.reduceAdd]
        obtain ⟨c, hc, ec, qc⟩ := hq p hp
        rw [ec, tn, nI_clamp (by omega)] at H
        refine sp_X9_bytesQueued hl q (f := p) (by omega) hc ec qc ?_
        simp only [j_ref, j_ari, j_arb, j_arr, j_len, j_nar, j_oi, j_ol, j_of, j_od, j_or, j_ov, true_and, and_true]
        exact H
      · simp only [j_sw]
        rw [if_neg (by decide), if_pos (by decide)]
        simp only [Nat.reduceEqDiff, if_false, if_true] at H
        refine b_X9_flow_82 hG ?_
        dsimp only [q_X9_flow_82, j_wp, j_opB, j_opA, j_nth, j_i1, j_i2, j_l1, j_l2, j_li, j_f1, j_f2, j_d1, j_d2, j_r1, j_ai, j_aii, j_ail, j_aid, j_air, j_st1, j_st2, j_stu, j_kl, j_cond, j_args, j_out, j_few, j_cw, j_nat, j_pad, j_exp, Nat.reduceAdd]
        refine sp_X9_ofFlow hl q (f := p) (by omega) (k := 8) (by omega) ?_
        simp only [j_ref, j_ari, j_arb, j_arr, j_len, j_nar, j_oi, j_ol, j_of, j_od, j_or, j_ov, true_and, and_true]
        exact H
      · simp only [j_sw]
        rw [if_neg (by decide), if_neg (by decide), if_pos (by decide)]
        simp only [Nat.reduceEqDiff, if_false, if_true] at H
        refine b_X9_flow_90 hG ?_
        dsimp only [q_X9_flow_90, j_wp, j_opB, j_opA, j_nth, j_i1, j_i2, j_l1, j_l2, j_li, j_f1, j_f2, j_d1, j_d2, j_r1, j_ai, j_aii, j_ail, j_aid, j_air, j_st1, j_st2, j_stu, j_kl, j_cond, j_args, j_out, j_few, j_cw, j_nat, j_pad, j_exp, Nat.reduceAdd]
        refine sp_X9_ofFlow hl q (f := p) (by omega) (k := 9) (by omega) ?_
        simp only [j_ref, j_ari, j_arb, j_arr, j_len, j_nar, j_oi, j_ol, j_of, j_od, j_or, j_ov, true_and, and_true]
        exact H
      · simp only [j_sw]
        rw [if_neg (by decide), if_neg (by decide), if_neg (by decide), if_pos (by decide)]
        simp only [Nat.reduceEqDiff, if_false, if_true] at H
        refine b_X9_flow_98 hG ?_
        dsimp only [q_X9_flow_98, j_wp, j_opB, j_opA, j_nth, j_i1, j_i2, j_l1, j_l2, j_li, j_f1, j_f2, j_d1, j_d2, j_r1, j_ai, j_aii, j_ail, j_aid, j_air, j_st1, j_st2, j_stu, j_kl, j_cond, j_args, j_out, j_few, j_cw, j_nat, j_pad, j_exp, Nat.reduceAdd]
        refine sp_X9_ofFlow hl q (f := p) (by omega) (k := 10) (by omega) ?_
        simp only [j_ref, j_ari, j_arb, j_arr, j_len, j_nar, j_oi, j_ol, j_of, j_od, j_or, j_ov, true_and, and_true]
        exact H
      · simp only [j_sw]
        rw [if_neg (by decide), if_neg (by decide), if_neg (by decide), if_neg (by decide), if_pos (by decide)]
        simp only [Nat.reduceEqDiff, if_false, if_true] at H
        refine b_X9_flow_106 hG ?_
        dsimp only [q_X9_flow_106, j_wp, j_opB, j_opA, j_nth, j_i1, j_i2, j_l1, j_l2, j_li, j_f1, j_f2, j_d1, j_d2, j_r1, j_ai, j_aii, j_ail, j_aid, j_air, j_st1, j_st2, j_stu, j_kl, j_cond, j_args, j_out, j_few, j_cw, j_nat, j_pad, j_exp, Nat.reduceAdd]
        refine sp_X9_ofFlow hl q (f := p) (by omega) (k := 11) (by omega) ?_
        simp only [j_ref, j_ari, j_arb, j_arr, j_len, j_nar, j_oi, j_ol, j_of, j_od, j_or, j_ov, true_and, and_true]
        exact H
      · simp only [j_sw]
        rw [if_neg (by decide), if_neg (by decide), if_neg (by decide), if_neg (by decide), if_neg (by decide), if_pos (by decide)]
        simp only [Nat.reduceEqDiff, if_false, if_true] at H
        refine b_X9_flow_114 hG ?_
        dsimp only [q_X9_flow_114, j_wp, j_opB, j_opA, j_nth, j_i1, j_i2, j_l1, j_l2, j_li, j_f1, j_f2, j_d1, j_d2, j_r1, j_ai, j_aii, j_ail, j_aid, j_air, j_st1, j_st2, j_stu, j_kl, j_cond, j_args, j_out, j_few, j_cw, j_nat, j_pad, j_exp, Nat.reduceAdd]
        refine sp_X9_ofFlow hl q (f := p) (by omega) (k := 12) (by omega) ?_
        simp only [j_ref, j_ari, j_arb, j_arr, j_len, j_nar, j_oi, j_ol, j_of, j_od, j_or, j_ov, true_and, and_true]
        exact H
      · simp only [j_sw]
        rw [if_neg (by decide), if_neg (by decide), if_neg (by decide), if_neg (by decide), if_neg (by decide), if_neg (by decide), if_pos (by decide)]
        simp only [Nat.reduceEqDiff, if_false, if_true] at H
        refine b_X9_flow_122 hG ?_
        dsimp only [q_X9_flow_122, j_wp, j_opB, j_opA, j_nth, j_i1, j_i2, j_l1, j_l2, j_li, j_f1, j_f2, j_d1, j_d2, j_r1, j_ai, j_aii, j_ail, j_aid, j_air, j_st1, j_st2, j_stu, j_kl, j_cond, j_args, j_out, j_few, j_cw, j_nat, j_pad, j_exp, Nat.reduceAdd]
        refine sp_X9_droppedOf hl q hnp hx2 ?_
        simp only [j_ref, j_ari, j_arb, j_arr, j_len, j_nar, j_oi, j_ol, j_of, j_od, j_or, j_ov, true_and, and_true]
        exact H
      · simp only [j_sw]
        rw [if_neg (by decide), if_neg (by decide), if_neg (by decide), if_neg (by decide), if_neg (by decide), if_neg (by decide), if_neg (by decide), if_pos (by decide)]
        simp only [Nat.reduceEqDiff, if_false, if_true] at H
        refine b_X9_flow_128 hG ?_
        dsimp only [q_X9_flow_128, j_wp, j_opB, j_opA, j_nth, j_i1, j_i2, j_l1, j_l2, j_li, j_f1, j_f2, j_d1, j_d2, j_r1, j_ai, j_aii, j_ail, j_aid, j_air, j_st1, j_st2, j_stu, j_kl, j_cond, j_args, j_out, j_few, j_cw, j_nat, j_pad, j_exp, Nat.reduceAdd]
        refine sp_X9_ofFlow hl q (f := p) (by omega) (k := 13) (by omega) ?_
        simp only [j_ref, j_ari, j_arb, j_arr, j_len, j_nar, j_oi, j_ol, j_of, j_od, j_or, j_ov, true_and, and_true]
        exact H
    · have e : rIn w 0 15 = false := rIn_n (n := 16) (by omega) g2
      simp only [e, Bool.false_eq_true, if_false, if_true]
      exact bad (fun z => g2 z.2)
  · simp only [rIn_n (by omega) g1, Bool.false_eq_true, if_false, if_true]
    exact bad (fun z => g1 z.1)
end RefE
