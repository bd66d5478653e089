/-! ===== the reference: methods that only look ===== -/
section RefA
variable {l : Launch} {D : va_G} {bs : Nat} {E : j_E} {h0 h : j_H} {m : Nat} {M : Rf} {d : Nat} {Q : j_O → j_H → Prop}
def rIn (v lo hi : Int32) : Bool := !decide (v < lo) && !decide (hi < v)
theorem rIn_t {v lo hi : Int32} (h1 : ¬ v < lo) (h2 : ¬ hi < v) : rIn v lo hi = true := by simp [rIn, h1, h2]
theorem rIn_f1 {v lo hi : Int32} (h1 : v < lo) : rIn v lo hi = false := by simp [rIn, h1]
theorem rIn_f2 {v lo hi : Int32} (h2 : hi < v) : rIn v lo hi = false := by simp [rIn, h2]
theorem sp_X9_inRange (hl : l.stackTraces = false) {v lo hi : Int32} (hB : j_bd E h) (H : Q (.inl (some (.int (if rIn v lo hi = true then 1 else 0)))) h) : j_Met l D bs E (d + 1) n_X9_inRange [.int v, .int lo, .int hi] h Q := by
  refine j_meth hl rfl g_X9_inRange (Nat.le_of_ble_eq_true rfl) (fun z => absurd z (by decide)) hB.1 hB.2 (fun G hG => ?_)
  refine b_X9_inRange_0 hG ?_
  dsimp only [q_X9_inRange_0, j_wp, j_opB, j_opA, j_nth, j_i1, j_i2, j_l1, j_l2, j_li, j_f1, j_f2, j_d1, j_d2, j_r1, j_ai, j_aii, j_ail, j_aid, j_air, j_st1, j_st2, j_stu, j_kl, j_cond, j_args, j_out, j_few, j_cw, j_nat, j_pad, j_exp, Nat.reduceAdd]
  by_cases g1 : v < lo
  · rw [if_pos g1]
    simp only [rIn_f1 g1, Bool.false_eq_true, if_false] at H
    refine b_X9_inRange_14 hG ?_
    dsimp only [q_X9_inRange_14, j_wp, j_opB, j_opA, j_nth, j_i1, j_i2, j_l1, j_l2, j_li, j_f1, j_f2, j_d1, j_d2, j_r1, j_ai, j_aii, j_ail, j_aid, j_air, j_st1, j_st2, j_stu, j_kl, j_cond, j_args, j_out, j_few, j_cw, j_nat, j_pad, j_exp, Nat.reduceAdd]
    refine b_X9_inRange_15 hG ?_
    dsimp only [q_X9_inRange_15, j_wp, j_opB, j_opA, j_nth, j_i1, j_i2, j_l1, j_l2, j_li, j_f1, j_f2, j_d1, j_d2, j_r1, j_ai, j_aii, j_ail, j_aid, j_air, j_st1, j_st2, j_stu, j_kl, j_cond, j_args, j_out, j_few, j_cw, j_nat, j_pad, j_exp, Nat.reduceAdd]
    exact ⟨(by first | exact Or.inl rfl | exact Or.inr rfl | decide), H⟩
  · rw [if_neg g1]
    by_cases g2 : hi < v
    · rw [if_pos g2]
      simp only [rIn_f2 g2, Bool.false_eq_true, if_false] at H
      refine b_X9_inRange_14 hG ?_
      dsimp only [q_X9_inRange_14, j_wp, j_opB, j_opA, j_nth, j_i1, j_i2, j_l1, j_l2, j_li, j_f1, j_f2, j_d1, j_d2, j_r1, j_ai, j_aii, j_ail, j_aid, j_air, j_st1, j_st2, j_stu, j_kl, j_cond, j_args, j_out, j_few, j_cw, j_nat, j_pad, j_exp, Nat.reduceAdd]
      refine b_X9_inRange_15 hG ?_
      dsimp only [q_X9_inRange_15, j_wp, j_opB, j_opA, j_nth, j_i1, j_i2, j_l1, j_l2, j_li, j_f1, j_f2, j_d1, j_d2, j_r1, j_ai, j_aii, j_ail, j_aid, j_air, j_st1, j_st2, j_stu, j_kl, j_cond, j_args, j_out, j_few, j_cw, j_nat, j_pad, j_exp, Nat.reduceAdd]
      exact ⟨(by first | exact Or.inl rfl | exact Or.inr rfl | decide), H⟩
    · rw [if_neg g2]
      simp only [rIn_t g1 g2, if_true] at H
      refine b_X9_inRange_15 hG ?_
      dsimp only [q_X9_inRange_15, j_wp, j_opB, j_opA, j_nth, j_i1, j_i2, j_l1, j_l2, j_li, j_f1, j_f2, j_d1, j_d2, j_r1, j_ai, j_aii, j_ail, j_aid, j_air, j_st1, j_st2, j_stu, j_kl, j_cond, j_args, j_out, j_few, j_cw, j_nat, j_pad, j_exp, Nat.reduceAdd]
      exact ⟨(by first | exact Or.inl rfl | exact Or.inr rfl | decide), H⟩
theorem b01 {P : Prop} [Decidable P] : (if P then (1 : Int32) else 0) = 0 ∨ (if P then (1 : Int32) else 0) = 1 := by
  split
  · exact Or.inr rfl
  · exact Or.inl rfl
theorem vp_c {k : Nat} {n : Nat} (h : k < n) (hn : n < 2 ^ 31) : vp_in (nI k) n := vp_in_nI h hn
theorem sp_X9_isFlow (hl : l.stackTraces = false) (s : ME E h0 m M h) {v : Int32} (H : Q (.inl (some (.int (if rIn v 0 (rX M 0 - 1) = true then 1 else 0)))) h) : j_Met l D bs E (d + 2) n_X9_isFlow [.ref m, .int v] h Q := by
  have hB := ME_b s
  refine j_meth hl rfl g_X9_isFlow (Nat.le_of_ble_eq_true rfl) (fun _ => ⟨_, _, rfl, (ME_sh s)⟩) hB.1 hB.2 (fun G hG => ?_)
  refine b_X9_isFlow_0 hG ?_
  dsimp only [q_X9_isFlow_0, j_wp, j_opB, j_opA, j_nth, j_i1, j_i2, j_l1, j_l2, j_li, j_f1, j_f2, j_d1, j_d2, j_r1, j_ai, j_aii, j_ail, j_aid, j_air, j_st1, j_st2, j_stu, j_kl, j_cond, j_args, j_out, j_few, j_cw, j_nat, j_pad, j_exp, Nat.reduceAdd]
  simp only [ME_sh s, ME_r0 s, ME_a0 s, ME_r5 s, ME_a5 s, j_ref, j_ari, j_arb, j_arr, j_len, j_nar, j_oi, j_ol, j_of, j_od, j_or, j_ov, true_and, and_true, ME_x0 s]
  refine ⟨vp_c (k := 0) (by omega) (by omega), ?_⟩
  refine sp_X9_inRange hl hB ?_
  simp only [j_ref, j_ari, j_arb, j_arr, j_len, j_nar, j_oi, j_ol, j_of, j_od, j_or, j_ov, true_and, and_true]
  exact ⟨b01, H⟩
theorem sp_X9_isPacket (hl : l.stackTraces = false) (s : ME E h0 m M h) {v : Int32} (H : Q (.inl (some (.int (if rIn v 0 (rX M 2 - 1) = true then 1 else 0)))) h) : j_Met l D bs E (d + 2) n_X9_isPacket [.ref m, .int v] h Q := by
  have hB := ME_b s
  refine j_meth hl rfl g_X9_isPacket (Nat.le_of_ble_eq_true rfl) (fun _ => ⟨_, _, rfl, (ME_sh s)⟩) hB.1 hB.2 (fun G hG => ?_)
  refine b_X9_isPacket_0 hG ?_
  dsimp only [q_X9_isPacket_0, j_wp, j_opB, j_opA, j_nth, j_i1, j_i2, j_l1, j_l2, j_li, j_f1, j_f2, j_d1, j_d2, j_r1, j_ai, j_aii, j_ail, j_aid, j_air, j_st1, j_st2, j_stu, j_kl, j_cond, j_args, j_out, j_few, j_cw, j_nat, j_pad, j_exp, Nat.reduceAdd]
  simp only [ME_sh s, ME_r0 s, ME_a0 s, ME_r5 s, ME_a5 s, j_ref, j_ari, j_arb, j_arr, j_len, j_nar, j_oi, j_ol, j_of, j_od, j_or, j_ov, true_and, and_true, ME_x2 s]
  refine ⟨vp_c (k := 2) (by omega) (by omega), ?_⟩
  refine sp_X9_inRange hl hB ?_
  simp only [j_ref, j_ari, j_arb, j_arr, j_len, j_nar, j_oi, j_ol, j_of, j_od, j_or, j_ov, true_and, and_true]
  exact ⟨b01, H⟩
theorem sp_X9_isSending (hl : l.stackTraces = false) (s : ME E h0 m M h) {v : Int32} (H : Q (.inl (some (.int (if rIn v 0 (rX M 3 - 1) = true then 1 else 0)))) h) : j_Met l D bs E (d + 2) n_X9_isSending [.ref m, .int v] h Q := by
  have hB := ME_b s
  refine j_meth hl rfl g_X9_isSending (Nat.le_of_ble_eq_true rfl) (fun _ => ⟨_, _, rfl, (ME_sh s)⟩) hB.1 hB.2 (fun G hG => ?_)
  refine b_X9_isSending_0 hG ?_
  dsimp only [q_X9_isSending_0, j_wp, j_opB, j_opA, j_nth, j_i1, j_i2, j_l1, j_l2, j_li, j_f1, j_f2, j_d1, j_d2, j_r1, j_ai, j_aii, j_ail, j_aid, j_air, j_st1, j_st2, j_stu, j_kl, j_cond, j_args, j_out, j_few, j_cw, j_nat, j_pad, j_exp, Nat.reduceAdd]
  simp only [ME_sh s, ME_r0 s, ME_a0 s, ME_r5 s, ME_a5 s, j_ref, j_ari, j_arb, j_arr, j_len, j_nar, j_oi, j_ol, j_of, j_od, j_or, j_ov, true_and, and_true, ME_x3 s]
  refine ⟨vp_c (k := 3) (by omega) (by omega), ?_⟩
  refine sp_X9_inRange hl hB ?_
  simp only [j_ref, j_ari, j_arb, j_arr, j_len, j_nar, j_oi, j_ol, j_of, j_od, j_or, j_ov, true_and, and_true]
  exact ⟨b01, H⟩
theorem sp_X9_isByte (hl : l.stackTraces = false) {v : Int32} (hB : j_bd E h) (H : Q (.inl (some (.int (if rIn v 0 255 = true then 1 else 0)))) h) : j_Met l D bs E (d + 2) n_X9_isByte [.int v] h Q := by
  refine j_meth hl rfl g_X9_isByte (Nat.le_of_ble_eq_true rfl) (fun z => absurd z (by decide)) hB.1 hB.2 (fun G hG => ?_)
  refine b_X9_isByte_0 hG ?_
  dsimp only [q_X9_isByte_0, j_wp, j_opB, j_opA, j_nth, j_i1, j_i2, j_l1, j_l2, j_li, j_f1, j_f2, j_d1, j_d2, j_r1, j_ai, j_aii, j_ail, j_aid, j_air, j_st1, j_st2, j_stu, j_kl, j_cond, j_args, j_out, j_few, j_cw, j_nat, j_pad, j_exp, Nat.reduceAdd]
  refine sp_X9_inRange hl hB ?_
  simp only [j_ref, j_ari, j_arb, j_arr, j_len, j_nar, j_oi, j_ol, j_of, j_od, j_or, j_ov, true_and, and_true]
  exact ⟨b01, H⟩
def rMat (M : Rf) (r w : Nat) (v : Int32) : Bool := rIn v (rU M r (2 * w)) (rU M r (2 * w + 1))
theorem sp_X9_matches (hl : l.stackTraces = false) (s : ME E h0 m M h) {r w : Nat} {v : Int32} (hr : r < 12) (hw : w < 3) (H : Q (.inl (some (.int (if rMat M r w v = true then 1 else 0)))) h) : j_Met l D bs E (d + 2) n_X9_matches [.ref m, .int (nI r), .int (nI w), .int v] h Q := by
  have hB := ME_b s
  have e : (693 : Int32) + 7 * nI r + 2 * nI w = nI (693 + 7 * r + 2 * w) := by
    show nI 693 + nI 7 * nI r + nI 2 * nI w = _
    rw [pk_mul, pk_mul, nI_add, nI_add]
  have e1 : j_I h (m + 1) (693 + 7 * r + 2 * w) = rU M r (2 * w) := ME_gU s hr (by omega)
  have e2 : j_I h (m + 1) (693 + 7 * r + 2 * w + 1) = rU M r (2 * w + 1) := ME_gU s hr (k := 2 * w + 1) (by omega)
  refine j_meth hl rfl g_X9_matches (Nat.le_of_ble_eq_true rfl) (fun _ => ⟨_, _, rfl, (ME_sh s)⟩) hB.1 hB.2 (fun G hG => ?_)
  refine b_X9_matches_0 hG ?_
  dsimp only [q_X9_matches_0, j_wp, j_opB, j_opA, j_nth, j_i1, j_i2, j_l1, j_l2, j_li, j_f1, j_f2, j_d1, j_d2, j_r1, j_ai, j_aii, j_ail, j_aid, j_air, j_st1, j_st2, j_stu, j_kl, j_cond, j_args, j_out, j_few, j_cw, j_nat, j_pad, j_exp, Nat.reduceAdd]
  simp only [ME_sh s, ME_r0 s, ME_a0 s, ME_r5 s, ME_a5 s, j_ref, j_ari, j_arb, j_arr, j_len, j_nar, j_oi, j_ol, j_of, j_od, j_or, j_ov, true_and, and_true, e, nI_1]
  refine ⟨vp_in_nI (by omega) (by omega), vp_in_nI (by omega) (by omega), ?_⟩
  rw [nI_clamp (by omega), nI_clamp (by omega), e1, e2]
  refine sp_X9_inRange hl hB ?_
  simp only [j_ref, j_ari, j_arb, j_arr, j_len, j_nar, j_oi, j_ol, j_of, j_od, j_or, j_ov, true_and, and_true]
  exact ⟨b01, H⟩
/-- the first of k rules from r on that fits -/
def rFor (M : Rf) (a b c : Int32) : Nat → Nat → Int32
  | 0, _ => if rX M 0 = 0 then -1 else 0
  | k + 1, r => if (rMat M r 0 a && rMat M r 1 b && rMat M r 2 c) = true then rU M r 6 else rFor M a b c k (r + 1)
theorem sp_X9_flowFor (hl : l.stackTraces = false) (s : ME E h0 m M h) {nr : Nat} (hnr : nr ≤ 12) (hx : rX M 1 = nI nr) {a b c : Int32} (H : Q (.inl (some (.int (rFor M a b c nr 0)))) h) : j_Met l D bs E (d + 3) n_X9_flowFor [.ref m, .int a, .int b, .int c] h Q := by
  have hB := ME_b s
  refine j_meth hl rfl g_X9_flowFor (Nat.le_of_ble_eq_true rfl) (fun _ => ⟨_, _, rfl, (ME_sh s)⟩) hB.1 hB.2 (fun G hG => ?_)
  have loop : ∀ (k r : Nat), r + k = nr → Q (.inl (some (.int (rFor M a b c k r)))) h → G 3 [.ref m, .int a, .int b, .int c, .int (nI r)] [] h := by
    intro k
    induction k with
    | zero =>
      intro r hr H
      unfold rFor at H
      refine b_X9_flowFor_3 hG ?_
      dsimp only [q_X9_flowFor_3, j_wp, j_opB, j_opA, j_nth, j_i1, j_i2, j_l1, j_l2, j_li, j_f1, j_f2, j_d1, j_d2, j_r1, j_ai, j_aii, j_ail, j_aid, j_air, j_st1, j_st2, j_stu, j_kl, j_cond, j_args, j_out, j_few, j_cw, j_nat, j_pad, j_exp, Nat.reduceAdd]
      simp only [ME_sh s, ME_r0 s, ME_a0 s, ME_r5 s, ME_a5 s, j_ref, j_ari, j_arb, j_arr, j_len, j_nar, j_oi, j_ol, j_of, j_od, j_or, j_ov, true_and, and_true, ME_x1 s, hx]
      refine ⟨vp_c (k := 1) (by omega) (by omega), ?_⟩
      rw [if_neg (nI_nlt (by omega) (by omega))]
      refine b_X9_flowFor_71 hG ?_
      dsimp only [q_X9_flowFor_71, j_wp, j_opB, j_opA, j_nth, j_i1, j_i2, j_l1, j_l2, j_li, j_f1, j_f2, j_d1, j_d2, j_r1, j_ai, j_aii, j_ail, j_aid, j_air, j_st1, j_st2, j_stu, j_kl, j_cond, j_args, j_out, j_few, j_cw, j_nat, j_pad, j_exp, Nat.reduceAdd]
      simp only [ME_sh s, ME_r0 s, ME_a0 s, ME_r5 s, ME_a5 s, j_ref, j_ari, j_arb, j_arr, j_len, j_nar, j_oi, j_ol, j_of, j_od, j_or, j_ov, true_and, and_true, ME_x0 s]
      refine ⟨vp_c (k := 0) (by omega) (by omega), ?_⟩
      split
      · rename_i g
        rw [if_pos g] at H
        refine b_X9_flowFor_85 hG ?_
        dsimp only [q_X9_flowFor_85, j_wp, j_opB, j_opA, j_nth, j_i1, j_i2, j_l1, j_l2, j_li, j_f1, j_f2, j_d1, j_d2, j_r1, j_ai, j_aii, j_ail, j_aid, j_air, j_st1, j_st2, j_stu, j_kl, j_cond, j_args, j_out, j_few, j_cw, j_nat, j_pad, j_exp, Nat.reduceAdd]
        exact ⟨trivial, H⟩
      · rename_i g
        rw [if_neg g] at H
        refine b_X9_flowFor_84 hG ?_
        dsimp only [q_X9_flowFor_84, j_wp, j_opB, j_opA, j_nth, j_i1, j_i2, j_l1, j_l2, j_li, j_f1, j_f2, j_d1, j_d2, j_r1, j_ai, j_aii, j_ail, j_aid, j_air, j_st1, j_st2, j_stu, j_kl, j_cond, j_args, j_out, j_few, j_cw, j_nat, j_pad, j_exp, Nat.reduceAdd]
        refine b_X9_flowFor_85 hG ?_
        dsimp only [q_X9_flowFor_85, j_wp, j_opB, j_opA, j_nth, j_i1, j_i2, j_l1, j_l2, j_li, j_f1, j_f2, j_d1, j_d2, j_r1, j_ai, j_aii, j_ail, j_aid, j_air, j_st1, j_st2, j_stu, j_kl, j_cond, j_args, j_out, j_few, j_cw, j_nat, j_pad, j_exp, Nat.reduceAdd]
        exact ⟨trivial, H⟩
    | succ k ih =>
      intro r hr H
      unfold rFor at H
      have nx : (∀ y, y = true → (rMat M r 0 a && rMat M r 1 b && rMat M r 2 c) = y → False) → G 65 [.ref m, .int a, .int b, .int c, .int (nI r)] [] h := by
        intro z
        rw [if_neg (fun y => z true rfl y)] at H
        refine b_X9_flowFor_65 hG ?_
        dsimp only [q_X9_flowFor_65, j_wp, j_opB, j_opA, j_nth, j_i1, j_i2, j_l1, j_l2, j_li, j_f1, j_f2, j_d1, j_d2, j_r1, j_ai, j_aii, j_ail, j_aid, j_air, j_st1, j_st2, j_stu, j_kl, j_cond, j_args, j_out, j_few, j_cw, j_nat, j_pad, j_exp, Nat.reduceAdd]
        rw [nI_1]
        exact ih (r + 1) (by omega) H
      refine b_X9_flowFor_3 hG ?_
      dsimp only [q_X9_flowFor_3, j_wp, j_opB, j_opA, j_nth, j_i1, j_i2, j_l1, j_l2, j_li, j_f1, j_f2, j_d1, j_d2, j_r1, j_ai, j_aii, j_ail, j_aid, j_air, j_st1, j_st2, j_stu, j_kl, j_cond, j_args, j_out, j_few, j_cw, j_nat, j_pad, j_exp, Nat.reduceAdd]
      simp only [ME_sh s, ME_r0 s, ME_a0 s, ME_r5 s, ME_a5 s, j_ref, j_ari, j_arb, j_arr, j_len, j_nar, j_oi, j_ol, j_of, j_od, j_or, j_ov, true_and, and_true, ME_x1 s, hx]
      refine ⟨vp_c (k := 1) (by omega) (by omega), ?_⟩
      rw [if_pos (nI_lt (by omega) (by omega))]
      refine sp_X9_matches hl s (r := r) (w := 0) (by omega) (by omega) ?_
      simp only [j_ref, j_ari, j_arb, j_arr, j_len, j_nar, j_oi, j_ol, j_of, j_od, j_or, j_ov, true_and, and_true]
      by_cases g1 : rMat M r 0 a = true
      · simp only [g1, if_true]
        rw [if_neg (by decide)]
        refine sp_X9_matches hl s (r := r) (w := 1) (by omega) (by omega) ?_
        simp only [j_ref, j_ari, j_arb, j_arr, j_len, j_nar, j_oi, j_ol, j_of, j_od, j_or, j_ov, true_and, and_true]
        by_cases g2 : rMat M r 1 b = true
        · simp only [g2, if_true]
          rw [if_neg (by decide)]
          refine sp_X9_matches hl s (r := r) (w := 2) (by omega) (by omega) ?_
          simp only [j_ref, j_ari, j_arb, j_arr, j_len, j_nar, j_oi, j_ol, j_of, j_od, j_or, j_ov, true_and, and_true]
          by_cases g3 : rMat M r 2 c = true
          · simp only [g3, if_true]
            rw [if_neg (by decide)]
            rw [if_pos (by simp [g1, g2, g3])] at H
            have e : (693 : Int32) + 7 * nI r + 6 = nI (693 + 7 * r + 6) := by
              show nI 693 + nI 7 * nI r + nI 6 = _
              rw [pk_mul, nI_add, nI_add]
            simp only [ME_sh s, ME_r0 s, ME_a0 s, ME_r5 s, ME_a5 s, j_ref, j_ari, j_arb, j_arr, j_len, j_nar, j_oi, j_ol, j_of, j_od, j_or, j_ov, true_and, and_true, e]
            refine ⟨vp_in_nI (by omega) (by omega), ?_⟩
            rw [nI_clamp (by omega), ME_gU s (by omega) (by omega)]
            exact H
          · simp only [g3, Bool.false_eq_true, if_false, if_true]
            exact nx (fun y hy e => by simp [g1, g2, g3, hy] at e)
        · simp only [g2, Bool.false_eq_true, if_false, if_true]
          exact nx (fun y hy e => by simp [g1, g2, hy] at e)
      · simp only [g1, Bool.false_eq_true, if_false, if_true]
        exact nx (fun y hy e => by simp [g1, hy] at e)
  refine b_X9_flowFor_0 hG ?_
  dsimp only [q_X9_flowFor_0, j_wp, j_opB, j_opA, j_nth, j_i1, j_i2, j_l1, j_l2, j_li, j_f1, j_f2, j_d1, j_d2, j_r1, j_ai, j_aii, j_ail, j_aid, j_air, j_st1, j_st2, j_stu, j_kl, j_cond, j_args, j_out, j_few, j_cw, j_nat, j_pad, j_exp, Nat.reduceAdd]
  exact loop nr 0 (by omega) H
theorem sp_X9_flowOfSending (hl : l.stackTraces = false) (s : ME E h0 m M h) {n p : Nat} (hn : n < 300) (hp : p < 100) (e : rS M n 0 = nI p) (H : Q (.inl (some (.int (rP M p 0)))) h) : j_Met l D bs E (d + 2) n_X9_flowOfSending [.ref m, .int (nI n)] h Q := by
  have hB := ME_b s
  refine j_meth hl rfl g_X9_flowOfSending (Nat.le_of_ble_eq_true rfl) (fun _ => ⟨_, _, rfl, (ME_sh s)⟩) hB.1 hB.2 (fun G hG => ?_)
  refine b_X9_flowOfSending_0 hG ?_
  dsimp only [q_X9_flowOfSending_0, j_wp, j_opB, j_opA, j_nth, j_i1, j_i2, j_l1, j_l2, j_li, j_f1, j_f2, j_d1, j_d2, j_r1, j_ai, j_aii, j_ail, j_aid, j_air, j_st1, j_st2, j_stu, j_kl, j_cond, j_args, j_out, j_few, j_cw, j_nat, j_pad, j_exp, Nat.reduceAdd]
  refine sp_X9_ofSending hl s hn (k := 0) (by omega) ?_
  simp only [j_ref, j_ari, j_arb, j_arr, j_len, j_nar, j_oi, j_ol, j_of, j_od, j_or, j_ov, true_and, and_true, e]
  refine sp_X9_ofPacket hl s hp (k := 0) (by omega) ?_
  simp only [j_ref, j_ari, j_arb, j_arr, j_len, j_nar, j_oi, j_ol, j_of, j_od, j_or, j_ov, true_and, and_true]
  exact H
/-- the bytes of k packets from place i of the queue on -/
def rBytesG (P Q : Nat → Nat → Int32) (f : Nat) : Nat → Nat → Int32 → Int32
  | 0, _, c => c
  | k + 1, i, c => rBytesG P Q f k (i + 1) (c + P (tn (Q f i)) 1)
def rBytes (M : Rf) (f k i : Nat) (c : Int32) : Int32 := rBytesG (rP M) (rQ M) f k i c
/-- the queue's first n places are packets -/
def rQok (M : Rf) (f n : Nat) : Prop := ∀ i, i < n → ∃ p, p < 100 ∧ rQ M f i = nI p
theorem sp_X9_bytesQueued (hl : l.stackTraces = false) (s : ME E h0 m M h) {f n : Nat} (hf : f < 6) (hn : n ≤ 100) (hx : rF M f 7 = nI n) (hq : rQok M f n) (H : Q (.inl (some (.int (rBytes M f n 0 0)))) h) : j_Met l D bs E (d + 2) n_X9_bytesQueued [.ref m, .int (nI f)] h Q := by
  have hB := ME_b s
  refine j_meth hl rfl g_X9_bytesQueued (Nat.le_of_ble_eq_true rfl) (fun _ => ⟨_, _, rfl, (ME_sh s)⟩) hB.1 hB.2 (fun G hG => ?_)
  have loop : ∀ (k i : Nat) (c : Int32), i + k = n → Q (.inl (some (.int (rBytes M f k i c)))) h → G 4 [.ref m, .int (nI f), .int c, .int (nI i)] [] h := by
    intro k
    induction k with
    | zero =>
      intro i c hi H
      unfold rBytes rBytesG at H
      refine b_X9_bytesQueued_4 hG ?_
      dsimp only [q_X9_bytesQueued_4, j_wp, j_opB, j_opA, j_nth, j_i1, j_i2, j_l1, j_l2, j_li, j_f1, j_f2, j_d1, j_d2, j_r1, j_ai, j_aii, j_ail, j_aid, j_air, j_st1, j_st2, j_stu, j_kl, j_cond, j_args, j_out, j_few, j_cw, j_nat, j_pad, j_exp, Nat.reduceAdd]
      refine sp_X9_ofFlow hl s hf (k := 7) (by omega) ?_
      simp only [j_ref, j_ari, j_arb, j_arr, j_len, j_nar, j_oi, j_ol, j_of, j_od, j_or, j_ov, true_and, and_true, hx]
      rw [if_neg (nI_nlt (by omega) (by omega))]
      refine b_X9_bytesQueued_35 hG ?_
      dsimp only [q_X9_bytesQueued_35, j_wp, j_opB, j_opA, j_nth, j_i1, j_i2, j_l1, j_l2, j_li, j_f1, j_f2, j_d1, j_d2, j_r1, j_ai, j_aii, j_ail, j_aid, j_air, j_st1, j_st2, j_stu, j_kl, j_cond, j_args, j_out, j_few, j_cw, j_nat, j_pad, j_exp, Nat.reduceAdd]
      exact ⟨trivial, H⟩
    | succ k ih =>
      intro i c hi H
      unfold rBytes rBytesG at H
      obtain ⟨p, hp, e⟩ := hq i (by omega)
      refine b_X9_bytesQueued_4 hG ?_
      dsimp only [q_X9_bytesQueued_4, j_wp, j_opB, j_opA, j_nth, j_i1, j_i2, j_l1, j_l2, j_li, j_f1, j_f2, j_d1, j_d2, j_r1, j_ai, j_aii, j_ail, j_aid, j_air, j_st1, j_st2, j_stu, j_kl, j_cond, j_args, j_out, j_few, j_cw, j_nat, j_pad, j_exp, Nat.reduceAdd]
      refine sp_X9_ofFlow hl s hf (k := 7) (by omega) ?_
      simp only [j_ref, j_ari, j_arb, j_arr, j_len, j_nar, j_oi, j_ol, j_of, j_od, j_or, j_ov, true_and, and_true, hx]
      rw [if_pos (nI_lt (by omega) (by omega))]
      refine sp_X9_inQueue hl s hf (k := i) (by omega) ?_
      simp only [j_ref, j_ari, j_arb, j_arr, j_len, j_nar, j_oi, j_ol, j_of, j_od, j_or, j_ov, true_and, and_true, e]
      refine sp_X9_ofPacket hl s hp (k := 1) (by omega) ?_
      simp only [j_ref, j_ari, j_arb, j_arr, j_len, j_nar, j_oi, j_ol, j_of, j_od, j_or, j_ov, true_and, and_true, j_st1]
      rw [nI_1]
      rw [e, tn, nI_clamp (by omega)] at H
      exact ih (i + 1) _ (by omega) H
  refine b_X9_bytesQueued_0 hG ?_
  dsimp only [q_X9_bytesQueued_0, j_wp, j_opB, j_opA, j_nth, j_i1, j_i2, j_l1, j_l2, j_li, j_f1, j_f2, j_d1, j_d2, j_r1, j_ai, j_aii, j_ail, j_aid, j_air, j_st1, j_st2, j_stu, j_kl, j_cond, j_args, j_out, j_few, j_cw, j_nat, j_pad, j_exp, Nat.reduceAdd]
  exact loop n 0 0 (by omega) H
def rDropG (P : Nat → Nat → Int32) (f : Int32) : Nat → Nat → Int32 → Int32
  | 0, _, c => c
  | k + 1, i, c => rDropG P f k (i + 1) (c + (if P i 0 = f ∧ P i 3 = 3 then 1 else 0))
def rDrop (M : Rf) (f : Int32) (k i : Nat) (c : Int32) : Int32 := rDropG (rP M) f k i c
theorem sp_X9_droppedOf (hl : l.stackTraces = false) (s : ME E h0 m M h) {n : Nat} {f : Int32} (hn : n ≤ 100) (hx : rX M 2 = nI n) (H : Q (.inl (some (.int (rDrop M f n 0 0)))) h) : j_Met l D bs E (d + 2) n_X9_droppedOf [.ref m, .int f] h Q := by
  have hB := ME_b s
  refine j_meth hl rfl g_X9_droppedOf (Nat.le_of_ble_eq_true rfl) (fun _ => ⟨_, _, rfl, (ME_sh s)⟩) hB.1 hB.2 (fun G hG => ?_)
  have loop : ∀ (k i : Nat) (c : Int32), i + k = n → Q (.inl (some (.int (rDrop M f k i c)))) h → G 4 [.ref m, .int f, .int c, .int (nI i)] [] h := by
    intro k
    induction k with
    | zero =>
      intro i c hi H
      unfold rDrop rDropG at H
      refine b_X9_droppedOf_4 hG ?_
      dsimp only [q_X9_droppedOf_4, j_wp, j_opB, j_opA, j_nth, j_i1, j_i2, j_l1, j_l2, j_li, j_f1, j_f2, j_d1, j_d2, j_r1, j_ai, j_aii, j_ail, j_aid, j_air, j_st1, j_st2, j_stu, j_kl, j_cond, j_args, j_out, j_few, j_cw, j_nat, j_pad, j_exp, Nat.reduceAdd]
      simp only [ME_sh s, ME_r0 s, ME_a0 s, ME_r5 s, ME_a5 s, j_ref, j_ari, j_arb, j_arr, j_len, j_nar, j_oi, j_ol, j_of, j_od, j_or, j_ov, true_and, and_true, ME_x2 s, hx]
      refine ⟨vp_c (k := 2) (by omega) (by omega), ?_⟩
      rw [if_neg (nI_nlt (by omega) (by omega))]
      refine b_X9_droppedOf_48 hG ?_
      dsimp only [q_X9_droppedOf_48, j_wp, j_opB, j_opA, j_nth, j_i1, j_i2, j_l1, j_l2, j_li, j_f1, j_f2, j_d1, j_d2, j_r1, j_ai, j_aii, j_ail, j_aid, j_air, j_st1, j_st2, j_stu, j_kl, j_cond, j_args, j_out, j_few, j_cw, j_nat, j_pad, j_exp, Nat.reduceAdd]
      exact ⟨trivial, H⟩
    | succ k ih =>
      intro i c hi H
      unfold rDrop rDropG at H
      have nx : ∀ x : Int32, x = (if rP M i 0 = f ∧ rP M i 3 = 3 then 1 else 0) → G 40 [.ref m, .int f, .int c, .int (nI i)] [.int x, .int c] h := by
        intro x e
        refine b_X9_droppedOf_40 hG ?_
        dsimp only [q_X9_droppedOf_40, j_wp, j_opB, j_opA, j_nth, j_i1, j_i2, j_l1, j_l2, j_li, j_f1, j_f2, j_d1, j_d2, j_r1, j_ai, j_aii, j_ail, j_aid, j_air, j_st1, j_st2, j_stu, j_kl, j_cond, j_args, j_out, j_few, j_cw, j_nat, j_pad, j_exp, Nat.reduceAdd]
        rw [nI_1]
        rw [← e] at H
        exact ih (i + 1) _ (by omega) H
      refine b_X9_droppedOf_4 hG ?_
      dsimp only [q_X9_droppedOf_4, j_wp, j_opB, j_opA, j_nth, j_i1, j_i2, j_l1, j_l2, j_li, j_f1, j_f2, j_d1, j_d2, j_r1, j_ai, j_aii, j_ail, j_aid, j_air, j_st1, j_st2, j_stu, j_kl, j_cond, j_args, j_out, j_few, j_cw, j_nat, j_pad, j_exp, Nat.reduceAdd]
      simp only [ME_sh s, ME_r0 s, ME_a0 s, ME_r5 s, ME_a5 s, j_ref, j_ari, j_arb, j_arr, j_len, j_nar, j_oi, j_ol, j_of, j_od, j_or, j_ov, true_and, and_true, ME_x2 s, hx]
      refine ⟨vp_c (k := 2) (by omega) (by omega), ?_⟩
      rw [if_pos (nI_lt (by omega) (by omega))]
      refine sp_X9_ofPacket hl s (f := i) (by omega) (k := 0) (by omega) ?_
      simp only [j_ref, j_ari, j_arb, j_arr, j_len, j_nar, j_oi, j_ol, j_of, j_od, j_or, j_ov, true_and, and_true]
      split
      · rename_i g
        refine sp_X9_ofPacket hl s (f := i) (by omega) (k := 3) (by omega) ?_
        simp only [j_ref, j_ari, j_arb, j_arr, j_len, j_nar, j_oi, j_ol, j_of, j_od, j_or, j_ov, true_and, and_true]
        split
        · rename_i g2
          exact nx 1 (by rw [if_pos ⟨g, g2⟩])
        · rename_i g2
          refine b_X9_droppedOf_39 hG ?_
          dsimp only [q_X9_droppedOf_39, j_wp, j_opB, j_opA, j_nth, j_i1, j_i2, j_l1, j_l2, j_li, j_f1, j_f2, j_d1, j_d2, j_r1, j_ai, j_aii, j_ail, j_aid, j_air, j_st1, j_st2, j_stu, j_kl, j_cond, j_args, j_out, j_few, j_cw, j_nat, j_pad, j_exp, Nat.reduceAdd]
          exact nx 0 (by rw [if_neg (fun z => g2 z.2)])
      · rename_i g
        refine b_X9_droppedOf_39 hG ?_
        dsimp only [q_X9_droppedOf_39, j_wp, j_opB, j_opA, j_nth, j_i1, j_i2, j_l1, j_l2, j_li, j_f1, j_f2, j_d1, j_d2, j_r1, j_ai, j_aii, j_ail, j_aid, j_air, j_st1, j_st2, j_stu, j_kl, j_cond, j_args, j_out, j_few, j_cw, j_nat, j_pad, j_exp, Nat.reduceAdd]
        exact nx 0 (by rw [if_neg (fun z => g z.1)])
  refine b_X9_droppedOf_0 hG ?_
  dsimp only [q_X9_droppedOf_0, j_wp, j_opB, j_opA, j_nth, j_i1, j_i2, j_l1, j_l2, j_li, j_f1, j_f2, j_d1, j_d2, j_r1, j_ai, j_aii, j_ail, j_aid, j_air, j_st1, j_st2, j_stu, j_kl, j_cond, j_args, j_out, j_few, j_cw, j_nat, j_pad, j_exp, Nat.reduceAdd]
  exact loop n 0 0 (by omega) H
def rOutG (S P : Nat → Nat → Int32) (f : Int32) : Nat → Nat → Int32 → Int32
  | 0, _, c => c
  | k + 1, i, c => rOutG S P f k (i + 1) (c + (if S i 3 = 0 ∧ P (tn (S i 0)) 0 = f then 1 else 0))
def rOut (M : Rf) (f : Int32) (k i : Nat) (c : Int32) : Int32 := rOutG (rS M) (rP M) f k i c
/-- the transmissions' packets are there -/
def rSok (M : Rf) (n : Nat) : Prop := ∀ i, i < n → ∃ p, p < 100 ∧ rS M i 0 = nI p
theorem sp_X9_outstandingOf (hl : l.stackTraces = false) (s : ME E h0 m M h) {n : Nat} {f : Int32} (hn : n ≤ 300) (hx : rX M 3 = nI n) (hq : rSok M n) (H : Q (.inl (some (.int (rOut M f n 0 0)))) h) : j_Met l D bs E (d + 3) n_X9_outstandingOf [.ref m, .int f] h Q := by
  have hB := ME_b s
  refine j_meth hl rfl g_X9_outstandingOf (Nat.le_of_ble_eq_true rfl) (fun _ => ⟨_, _, rfl, (ME_sh s)⟩) hB.1 hB.2 (fun G hG => ?_)
  have loop : ∀ (k i : Nat) (c : Int32), i + k = n → Q (.inl (some (.int (rOut M f k i c)))) h → G 4 [.ref m, .int f, .int c, .int (nI i)] [] h := by
    intro k
    induction k with
    | zero =>
      intro i c hi H
      unfold rOut rOutG at H
      refine b_X9_outstandingOf_4 hG ?_
      dsimp only [q_X9_outstandingOf_4, j_wp, j_opB, j_opA, j_nth, j_i1, j_i2, j_l1, j_l2, j_li, j_f1, j_f2, j_d1, j_d2, j_r1, j_ai, j_aii, j_ail, j_aid, j_air, j_st1, j_st2, j_stu, j_kl, j_cond, j_args, j_out, j_few, j_cw, j_nat, j_pad, j_exp, Nat.reduceAdd]
      simp only [ME_sh s, ME_r0 s, ME_a0 s, ME_r5 s, ME_a5 s, j_ref, j_ari, j_arb, j_arr, j_len, j_nar, j_oi, j_ol, j_of, j_od, j_or, j_ov, true_and, and_true, ME_x3 s, hx]
      refine ⟨vp_c (k := 3) (by omega) (by omega), ?_⟩
      rw [if_neg (nI_nlt (by omega) (by omega))]
      refine b_X9_outstandingOf_46 hG ?_
      dsimp only [q_X9_outstandingOf_46, j_wp, j_opB, j_opA, j_nth, j_i1, j_i2, j_l1, j_l2, j_li, j_f1, j_f2, j_d1, j_d2, j_r1, j_ai, j_aii, j_ail, j_aid, j_air, j_st1, j_st2, j_stu, j_kl, j_cond, j_args, j_out, j_few, j_cw, j_nat, j_pad, j_exp, Nat.reduceAdd]
      exact ⟨trivial, H⟩
    | succ k ih =>
      intro i c hi H
      unfold rOut rOutG at H
      obtain ⟨p, hp, e⟩ := hq i (by omega)
      rw [e, tn, nI_clamp (by omega)] at H
      have nx : ∀ x : Int32, x = (if rS M i 3 = 0 ∧ rP M p 0 = f then 1 else 0) → G 38 [.ref m, .int f, .int c, .int (nI i)] [.int x, .int c] h := by
        intro x e
        refine b_X9_outstandingOf_38 hG ?_
        dsimp only [q_X9_outstandingOf_38, j_wp, j_opB, j_opA, j_nth, j_i1, j_i2, j_l1, j_l2, j_li, j_f1, j_f2, j_d1, j_d2, j_r1, j_ai, j_aii, j_ail, j_aid, j_air, j_st1, j_st2, j_stu, j_kl, j_cond, j_args, j_out, j_few, j_cw, j_nat, j_pad, j_exp, Nat.reduceAdd]
        rw [nI_1]
        rw [← e] at H
        exact ih (i + 1) _ (by omega) H
      refine b_X9_outstandingOf_4 hG ?_
      dsimp only [q_X9_outstandingOf_4, j_wp, j_opB, j_opA, j_nth, j_i1, j_i2, j_l1, j_l2, j_li, j_f1, j_f2, j_d1, j_d2, j_r1, j_ai, j_aii, j_ail, j_aid, j_air, j_st1, j_st2, j_stu, j_kl, j_cond, j_args, j_out, j_few, j_cw, j_nat, j_pad, j_exp, Nat.reduceAdd]
      simp only [ME_sh s, ME_r0 s, ME_a0 s, ME_r5 s, ME_a5 s, j_ref, j_ari, j_arb, j_arr, j_len, j_nar, j_oi, j_ol, j_of, j_od, j_or, j_ov, true_and, and_true, ME_x3 s, hx]
      refine ⟨vp_c (k := 3) (by omega) (by omega), ?_⟩
      rw [if_pos (nI_lt (by omega) (by omega))]
      refine sp_X9_ofSending hl s (f := i) (by omega) (k := 3) (by omega) ?_
      simp only [j_ref, j_ari, j_arb, j_arr, j_len, j_nar, j_oi, j_ol, j_of, j_od, j_or, j_ov, true_and, and_true]
      split
      · rename_i g
        refine sp_X9_flowOfSending hl s (n := i) (by omega) hp e ?_
        simp only [j_ref, j_ari, j_arb, j_arr, j_len, j_nar, j_oi, j_ol, j_of, j_od, j_or, j_ov, true_and, and_true]
        split
        · rename_i g2
          exact nx 1 (by rw [if_pos ⟨g, g2⟩])
        · rename_i g2
          refine b_X9_outstandingOf_37 hG ?_
          dsimp only [q_X9_outstandingOf_37, j_wp, j_opB, j_opA, j_nth, j_i1, j_i2, j_l1, j_l2, j_li, j_f1, j_f2, j_d1, j_d2, j_r1, j_ai, j_aii, j_ail, j_aid, j_air, j_st1, j_st2, j_stu, j_kl, j_cond, j_args, j_out, j_few, j_cw, j_nat, j_pad, j_exp, Nat.reduceAdd]
          exact nx 0 (by rw [if_neg (fun z => g2 z.2)])
      · rename_i g
        refine b_X9_outstandingOf_37 hG ?_
        dsimp only [q_X9_outstandingOf_37, j_wp, j_opB, j_opA, j_nth, j_i1, j_i2, j_l1, j_l2, j_li, j_f1, j_f2, j_d1, j_d2, j_r1, j_ai, j_aii, j_ail, j_aid, j_air, j_st1, j_st2, j_stu, j_kl, j_cond, j_args, j_out, j_few, j_cw, j_nat, j_pad, j_exp, Nat.reduceAdd]
        exact nx 0 (by rw [if_neg (fun z => g z.1)])
  refine b_X9_outstandingOf_0 hG ?_
  dsimp only [q_X9_outstandingOf_0, j_wp, j_opB, j_opA, j_nth, j_i1, j_i2, j_l1, j_l2, j_li, j_f1, j_f2, j_d1, j_d2, j_r1, j_ai, j_aii, j_ail, j_aid, j_air, j_st1, j_st2, j_stu, j_kl, j_cond, j_args, j_out, j_few, j_cw, j_nat, j_pad, j_exp, Nat.reduceAdd]
  exact loop n 0 0 (by omega) H
def rIdle (M : Rf) (ns f : Nat) : Bool := decide (rF M f 7 = 0) && decide (rOut M (nI f) ns 0 0 = 0)
theorem sp_X9_isUnused (hl : l.stackTraces = false) (s : ME E h0 m M h) {n f : Nat} (hf : f < 6) (hn : n ≤ 300) (hx : rX M 3 = nI n) (hq : rSok M n) (H : Q (.inl (some (.int (if rIdle M n f = true then 1 else 0)))) h) : j_Met l D bs E (d + 4) n_X9_isUnused [.ref m, .int (nI f)] h Q := by
  have hB := ME_b s
  unfold rIdle at H
  refine j_meth hl rfl g_X9_isUnused (Nat.le_of_ble_eq_true rfl) (fun _ => ⟨_, _, rfl, (ME_sh s)⟩) hB.1 hB.2 (fun G hG => ?_)
  refine b_X9_isUnused_0 hG ?_
  dsimp only [q_X9_isUnused_0, j_wp, j_opB, j_opA, j_nth, j_i1, j_i2, j_l1, j_l2, j_li, j_f1, j_f2, j_d1, j_d2, j_r1, j_ai, j_aii, j_ail, j_aid, j_air, j_st1, j_st2, j_stu, j_kl, j_cond, j_args, j_out, j_few, j_cw, j_nat, j_pad, j_exp, Nat.reduceAdd]
  refine sp_X9_ofFlow hl s hf (k := 7) (by omega) ?_
  simp only [j_ref, j_ari, j_arb, j_arr, j_len, j_nar, j_oi, j_ol, j_of, j_od, j_or, j_ov, true_and, and_true]
  split
  · rename_i g
    refine sp_X9_outstandingOf hl s hn hx hq ?_
    simp only [j_ref, j_ari, j_arb, j_arr, j_len, j_nar, j_oi, j_ol, j_of, j_od, j_or, j_ov, true_and, and_true]
    split
    · rename_i g2
      rw [if_pos (by simp [g, g2])] at H
      refine b_X9_isUnused_23 hG ?_
      dsimp only [q_X9_isUnused_23, j_wp, j_opB, j_opA, j_nth, j_i1, j_i2, j_l1, j_l2, j_li, j_f1, j_f2, j_d1, j_d2, j_r1, j_ai, j_aii, j_ail, j_aid, j_air, j_st1, j_st2, j_stu, j_kl, j_cond, j_args, j_out, j_few, j_cw, j_nat, j_pad, j_exp, Nat.reduceAdd]
      exact ⟨(by first | exact Or.inl rfl | exact Or.inr rfl | decide), H⟩
    · rename_i g2
      rw [if_neg (by simp [g2])] at H
      refine b_X9_isUnused_22 hG ?_
      dsimp only [q_X9_isUnused_22, j_wp, j_opB, j_opA, j_nth, j_i1, j_i2, j_l1, j_l2, j_li, j_f1, j_f2, j_d1, j_d2, j_r1, j_ai, j_aii, j_ail, j_aid, j_air, j_st1, j_st2, j_stu, j_kl, j_cond, j_args, j_out, j_few, j_cw, j_nat, j_pad, j_exp, Nat.reduceAdd]
      refine b_X9_isUnused_23 hG ?_
      dsimp only [q_X9_isUnused_23, j_wp, j_opB, j_opA, j_nth, j_i1, j_i2, j_l1, j_l2, j_li, j_f1, j_f2, j_d1, j_d2, j_r1, j_ai, j_aii, j_ail, j_aid, j_air, j_st1, j_st2, j_stu, j_kl, j_cond, j_args, j_out, j_few, j_cw, j_nat, j_pad, j_exp, Nat.reduceAdd]
      exact ⟨(by first | exact Or.inl rfl | exact Or.inr rfl | decide), H⟩
  · rename_i g
    rw [if_neg (by simp [g])] at H
    refine b_X9_isUnused_22 hG ?_
    dsimp only [q_X9_isUnused_22, j_wp, j_opB, j_opA, j_nth, j_i1, j_i2, j_l1, j_l2, j_li, j_f1, j_f2, j_d1, j_d2, j_r1, j_ai, j_aii, j_ail, j_aid, j_air, j_st1, j_st2, j_stu, j_kl, j_cond, j_args, j_out, j_few, j_cw, j_nat, j_pad, j_exp, Nat.reduceAdd]
    refine b_X9_isUnused_23 hG ?_
    dsimp only [q_X9_isUnused_23, j_wp, j_opB, j_opA, j_nth, j_i1, j_i2, j_l1, j_l2, j_li, j_f1, j_f2, j_d1, j_d2, j_r1, j_ai, j_aii, j_ail, j_aid, j_air, j_st1, j_st2, j_stu, j_kl, j_cond, j_args, j_out, j_few, j_cw, j_nat, j_pad, j_exp, Nat.reduceAdd]
    exact ⟨(by first | exact Or.inl rfl | exact Or.inr rfl | decide), H⟩
def rServe (M : Rf) (nf : Nat) : Int32 := lPick (rV M) (fun f => decide (0 < rF M f 7)) nf 0 (-1)
theorem sp_X9_next (hl : l.stackTraces = false) (s : ME E h0 m M h) {nf : Nat} (hnf : nf ≤ 6) (hx : rX M 0 = nI nf) (H : Q (.inl (some (.int (rServe M nf)))) h) : j_Met l D bs E (d + 2) n_X9_next [.ref m] h Q := by
  have hB := ME_b s
  unfold rServe at H
  generalize hr : lPick (rV M) (fun f => decide (0 < rF M f 7)) nf 0 (-1) = res at H
  have loop : ∀ {G : j_G}, j_clo (j_Met l D bs E (d + 1)) E Q m_X9_next G → ∀ (k f : Nat) (b : Int32), f + k = nf → ix 6 b → lPick (rV M) (fun f => decide (0 < rF M f 7)) k f b = res → G 4 [.ref m, .int b, .int (nI f)] [] h := by
    intro G hG k
    induction k with
    | zero =>
      intro f b hf _ hw
      have e : b = res := hw
      subst e
      refine b_X9_next_4 hG ?_
      dsimp only [q_X9_next_4, j_wp, j_opB, j_opA, j_nth, j_i1, j_i2, j_l1, j_l2, j_li, j_f1, j_f2, j_d1, j_d2, j_r1, j_ai, j_aii, j_ail, j_aid, j_air, j_st1, j_st2, j_stu, j_kl, j_cond, j_args, j_out, j_few, j_cw, j_nat, j_pad, j_exp, Nat.reduceAdd]
      simp only [ME_sh s, ME_r0 s, ME_a0 s, ME_r5 s, ME_a5 s, j_ref, j_ari, j_arb, j_arr, j_len, j_nar, j_oi, j_ol, j_of, j_od, j_or, j_ov, true_and, and_true, ME_x0 s, hx]
      refine ⟨vp_c (k := 0) (by omega) (by omega), ?_⟩
      rw [if_neg (nI_nlt (by omega) (by omega))]
      refine b_X9_next_53 hG ?_
      dsimp only [q_X9_next_53, j_wp, j_opB, j_opA, j_nth, j_i1, j_i2, j_l1, j_l2, j_li, j_f1, j_f2, j_d1, j_d2, j_r1, j_ai, j_aii, j_ail, j_aid, j_air, j_st1, j_st2, j_stu, j_kl, j_cond, j_args, j_out, j_few, j_cw, j_nat, j_pad, j_exp, Nat.reduceAdd]
      exact ⟨trivial, H⟩
    | succ k ih =>
      intro f b hf hb hw
      have nxt : ∀ b', ix 6 b' → lPick (rV M) (fun f => decide (0 < rF M f 7)) k (f + 1) b' = res → G 47 [.ref m, .int b', .int (nI f)] [] h := by
        intro b' hb' hw'
        refine b_X9_next_47 hG ?_
        dsimp only [q_X9_next_47, j_wp, j_opB, j_opA, j_nth, j_i1, j_i2, j_l1, j_l2, j_li, j_f1, j_f2, j_d1, j_d2, j_r1, j_ai, j_aii, j_ail, j_aid, j_air, j_st1, j_st2, j_stu, j_kl, j_cond, j_args, j_out, j_few, j_cw, j_nat, j_pad, j_exp, Nat.reduceAdd]
        rw [nI_1]
        exact ih (f + 1) b' (by omega) hb' hw'
      unfold lPick at hw
      refine b_X9_next_4 hG ?_
      dsimp only [q_X9_next_4, j_wp, j_opB, j_opA, j_nth, j_i1, j_i2, j_l1, j_l2, j_li, j_f1, j_f2, j_d1, j_d2, j_r1, j_ai, j_aii, j_ail, j_aid, j_air, j_st1, j_st2, j_stu, j_kl, j_cond, j_args, j_out, j_few, j_cw, j_nat, j_pad, j_exp, Nat.reduceAdd]
      simp only [ME_sh s, ME_r0 s, ME_a0 s, ME_r5 s, ME_a5 s, j_ref, j_ari, j_arb, j_arr, j_len, j_nar, j_oi, j_ol, j_of, j_od, j_or, j_ov, true_and, and_true, ME_x0 s, hx]
      refine ⟨vp_c (k := 0) (by omega) (by omega), ?_⟩
      rw [if_pos (nI_lt (by omega) (by omega))]
      refine sp_X9_ofFlow hl s (f := f) (by omega) (k := 7) (by omega) ?_
      simp only [j_ref, j_ari, j_arb, j_arr, j_len, j_nar, j_oi, j_ol, j_of, j_od, j_or, j_ov, true_and, and_true]
      split
      · rename_i g
        split
        · rename_i g2
          rw [if_pos ⟨by simp [g], Or.inl g2⟩] at hw
          refine b_X9_next_45 hG ?_
          dsimp only [q_X9_next_45, j_wp, j_opB, j_opA, j_nth, j_i1, j_i2, j_l1, j_l2, j_li, j_f1, j_f2, j_d1, j_d2, j_r1, j_ai, j_aii, j_ail, j_aid, j_air, j_st1, j_st2, j_stu, j_kl, j_cond, j_args, j_out, j_few, j_cw, j_nat, j_pad, j_exp, Nat.reduceAdd]
          exact nxt _ (Or.inr ⟨f, by omega, rfl⟩) hw
        · rename_i g2
          rcases hb with hb | ⟨q, hq, hb⟩
          · exact absurd hb g2
          · subst hb
            simp only [ME_sh s, ME_r0 s, ME_a0 s, ME_r5 s, ME_a5 s, j_ref, j_ari, j_arb, j_arr, j_len, j_nar, j_oi, j_ol, j_of, j_od, j_or, j_ov, true_and, and_true]
            refine ⟨vp_in_nI (by omega) (by omega), vp_in_nI (by omega) (by omega), ?_⟩
            rw [nI_clamp (n := f) (by omega), nI_clamp (n := q) (by omega), ME_gV s (k := f) (by omega), ME_gV s hq]
            split
            · rename_i g3
              rw [if_pos ⟨by simp [g], Or.inr (by rw [nI_clamp (by omega)]; exact lg_lt.mp g3)⟩] at hw
              refine b_X9_next_45 hG ?_
              dsimp only [q_X9_next_45, j_wp, j_opB, j_opA, j_nth, j_i1, j_i2, j_l1, j_l2, j_li, j_f1, j_f2, j_d1, j_d2, j_r1, j_ai, j_aii, j_ail, j_aid, j_air, j_st1, j_st2, j_stu, j_kl, j_cond, j_args, j_out, j_few, j_cw, j_nat, j_pad, j_exp, Nat.reduceAdd]
              exact nxt _ (Or.inr ⟨f, by omega, rfl⟩) hw
            · rename_i g3
              rw [if_neg (fun z => z.2.elim g2 (fun z => g3 (lg_lt.mpr (by rw [nI_clamp (by omega)] at z; exact z))))] at hw
              exact nxt _ (Or.inr ⟨q, by omega, rfl⟩) hw
      · rename_i g
        rw [if_neg (fun z => by simp [g] at z)] at hw
        exact nxt _ hb hw
  refine j_meth hl rfl g_X9_next (Nat.le_of_ble_eq_true rfl) (fun _ => ⟨_, _, rfl, (ME_sh s)⟩) hB.1 hB.2 (fun G hG => ?_)
  refine b_X9_next_0 hG ?_
  dsimp only [q_X9_next_0, j_wp, j_opB, j_opA, j_nth, j_i1, j_i2, j_l1, j_l2, j_li, j_f1, j_f2, j_d1, j_d2, j_r1, j_ai, j_aii, j_ail, j_aid, j_air, j_st1, j_st2, j_stu, j_kl, j_cond, j_args, j_out, j_few, j_cw, j_nat, j_pad, j_exp, Nat.reduceAdd]
  exact loop hG nf 0 (-1) (by omega) (Or.inl rfl) hr
def rDelivG (P : Nat → Nat → Int32) : Nat → Nat → Int32 → Int32
  | 0, _, c => c
  | k + 1, i, c => rDelivG P k (i + 1) (c + (if P i 3 = 2 then 1 else 0))
def rDeliv (M : Rf) (k i : Nat) (c : Int32) : Int32 := rDelivG (rP M) k i c
theorem sp_X9_deliveredCount (hl : l.stackTraces = false) (s : ME E h0 m M h) {n : Nat} (hn : n ≤ 100) (hx : rX M 2 = nI n) (H : Q (.inl (some (.int (rDeliv M n 0 0)))) h) : j_Met l D bs E (d + 2) n_X9_deliveredCount [.ref m] h Q := by
  have hB := ME_b s
  refine j_meth hl rfl g_X9_deliveredCount (Nat.le_of_ble_eq_true rfl) (fun _ => ⟨_, _, rfl, (ME_sh s)⟩) hB.1 hB.2 (fun G hG => ?_)
  have loop : ∀ (k i : Nat) (c : Int32), i + k = n → Q (.inl (some (.int (rDeliv M k i c)))) h → G 4 [.ref m, .int c, .int (nI i)] [] h := by
    intro k
    induction k with
    | zero =>
      intro i c hi H
      unfold rDeliv rDelivG at H
      refine b_X9_deliveredCount_4 hG ?_
      dsimp only [q_X9_deliveredCount_4, j_wp, j_opB, j_opA, j_nth, j_i1, j_i2, j_l1, j_l2, j_li, j_f1, j_f2, j_d1, j_d2, j_r1, j_ai, j_aii, j_ail, j_aid, j_air, j_st1, j_st2, j_stu, j_kl, j_cond, j_args, j_out, j_few, j_cw, j_nat, j_pad, j_exp, Nat.reduceAdd]
      simp only [ME_sh s, ME_r0 s, ME_a0 s, ME_r5 s, ME_a5 s, j_ref, j_ari, j_arb, j_arr, j_len, j_nar, j_oi, j_ol, j_of, j_od, j_or, j_ov, true_and, and_true, ME_x2 s, hx]
      refine ⟨vp_c (k := 2) (by omega) (by omega), ?_⟩
      rw [if_neg (nI_nlt (by omega) (by omega))]
      refine b_X9_deliveredCount_38 hG ?_
      dsimp only [q_X9_deliveredCount_38, j_wp, j_opB, j_opA, j_nth, j_i1, j_i2, j_l1, j_l2, j_li, j_f1, j_f2, j_d1, j_d2, j_r1, j_ai, j_aii, j_ail, j_aid, j_air, j_st1, j_st2, j_stu, j_kl, j_cond, j_args, j_out, j_few, j_cw, j_nat, j_pad, j_exp, Nat.reduceAdd]
      exact ⟨trivial, H⟩
    | succ k ih =>
      intro i c hi H
      unfold rDeliv rDelivG at H
      have nx : ∀ x : Int32, x = (if rP M i 3 = 2 then 1 else 0) → G 30 [.ref m, .int c, .int (nI i)] [.int x, .int c] h := by
        intro x e
        refine b_X9_deliveredCount_30 hG ?_
        dsimp only [q_X9_deliveredCount_30, j_wp, j_opB, j_opA, j_nth, j_i1, j_i2, j_l1, j_l2, j_li, j_f1, j_f2, j_d1, j_d2, j_r1, j_ai, j_aii, j_ail, j_aid, j_air, j_st1, j_st2, j_stu, j_kl, j_cond, j_args, j_out, j_few, j_cw, j_nat, j_pad, j_exp, Nat.reduceAdd]
        rw [nI_1]
        rw [← e] at H
        exact ih (i + 1) _ (by omega) H
      refine b_X9_deliveredCount_4 hG ?_
      dsimp only [q_X9_deliveredCount_4, j_wp, j_opB, j_opA, j_nth, j_i1, j_i2, j_l1, j_l2, j_li, j_f1, j_f2, j_d1, j_d2, j_r1, j_ai, j_aii, j_ail, j_aid, j_air, j_st1, j_st2, j_stu, j_kl, j_cond, j_args, j_out, j_few, j_cw, j_nat, j_pad, j_exp, Nat.reduceAdd]
      simp only [ME_sh s, ME_r0 s, ME_a0 s, ME_r5 s, ME_a5 s, j_ref, j_ari, j_arb, j_arr, j_len, j_nar, j_oi, j_ol, j_of, j_od, j_or, j_ov, true_and, and_true, ME_x2 s, hx]
      refine ⟨vp_c (k := 2) (by omega) (by omega), ?_⟩
      rw [if_pos (nI_lt (by omega) (by omega))]
      refine sp_X9_ofPacket hl s (f := i) (by omega) (k := 3) (by omega) ?_
      simp only [j_ref, j_ari, j_arb, j_arr, j_len, j_nar, j_oi, j_ol, j_of, j_od, j_or, j_ov, true_and, and_true]
      split
      · rename_i g
        exact nx 1 (by rw [if_pos g])
      · rename_i g
        refine b_X9_deliveredCount_29 hG ?_
        dsimp only [q_X9_deliveredCount_29, j_wp, j_opB, j_opA, j_nth, j_i1, j_i2, j_l1, j_l2, j_li, j_f1, j_f2, j_d1, j_d2, j_r1, j_ai, j_aii, j_ail, j_aid, j_air, j_st1, j_st2, j_stu, j_kl, j_cond, j_args, j_out, j_few, j_cw, j_nat, j_pad, j_exp, Nat.reduceAdd]
        exact nx 0 (by rw [if_neg g])
  refine b_X9_deliveredCount_0 hG ?_
  dsimp only [q_X9_deliveredCount_0, j_wp, j_opB, j_opA, j_nth, j_i1, j_i2, j_l1, j_l2, j_li, j_f1, j_f2, j_d1, j_d2, j_r1, j_ai, j_aii, j_ail, j_aid, j_air, j_st1, j_st2, j_stu, j_kl, j_cond, j_args, j_out, j_few, j_cw, j_nat, j_pad, j_exp, Nat.reduceAdd]
  exact loop n 0 0 (by omega) H
theorem sp_X9_divides (hl : l.stackTraces = false) {a b : Int32} (hB : j_bd E h) (H : Q (.inl (some (.int (if lDvd a b = true then 1 else 0)))) h) : j_Met l D bs E (d + 1) n_X9_divides [.int a, .int b] h Q := by
  refine j_meth hl rfl g_X9_divides (Nat.le_of_ble_eq_true rfl) (fun z => absurd z (by decide)) hB.1 hB.2 (fun G hG => ?_)
  refine b_X9_divides_0 hG ?_
  dsimp only [q_X9_divides_0, j_wp, j_opB, j_opA, j_nth, j_i1, j_i2, j_l1, j_l2, j_li, j_f1, j_f2, j_d1, j_d2, j_r1, j_ai, j_aii, j_ail, j_aid, j_air, j_st1, j_st2, j_stu, j_kl, j_cond, j_args, j_out, j_few, j_cw, j_nat, j_pad, j_exp, Nat.reduceAdd]
  split
  · rename_i g
    refine ⟨fun z => by rw [z] at g; exact absurd g (by decide), ?_⟩
    split
    · rename_i g2
      rw [lDvd_t g g2] at H
      refine b_X9_divides_15 hG ?_
      dsimp only [q_X9_divides_15, j_wp, j_opB, j_opA, j_nth, j_i1, j_i2, j_l1, j_l2, j_li, j_f1, j_f2, j_d1, j_d2, j_r1, j_ai, j_aii, j_ail, j_aid, j_air, j_st1, j_st2, j_stu, j_kl, j_cond, j_args, j_out, j_few, j_cw, j_nat, j_pad, j_exp, Nat.reduceAdd]
      exact ⟨(by first | exact Or.inl rfl | exact Or.inr rfl | decide), H⟩
    · rename_i g2
      rw [lDvd_f2 g2] at H
      refine b_X9_divides_14 hG ?_
      dsimp only [q_X9_divides_14, j_wp, j_opB, j_opA, j_nth, j_i1, j_i2, j_l1, j_l2, j_li, j_f1, j_f2, j_d1, j_d2, j_r1, j_ai, j_aii, j_ail, j_aid, j_air, j_st1, j_st2, j_stu, j_kl, j_cond, j_args, j_out, j_few, j_cw, j_nat, j_pad, j_exp, Nat.reduceAdd]
      refine b_X9_divides_15 hG ?_
      dsimp only [q_X9_divides_15, j_wp, j_opB, j_opA, j_nth, j_i1, j_i2, j_l1, j_l2, j_li, j_f1, j_f2, j_d1, j_d2, j_r1, j_ai, j_aii, j_ail, j_aid, j_air, j_st1, j_st2, j_stu, j_kl, j_cond, j_args, j_out, j_few, j_cw, j_nat, j_pad, j_exp, Nat.reduceAdd]
      exact ⟨(by first | exact Or.inl rfl | exact Or.inr rfl | decide), H⟩
  · rename_i g
    rw [lDvd_f1 g] at H
    refine b_X9_divides_14 hG ?_
    dsimp only [q_X9_divides_14, j_wp, j_opB, j_opA, j_nth, j_i1, j_i2, j_l1, j_l2, j_li, j_f1, j_f2, j_d1, j_d2, j_r1, j_ai, j_aii, j_ail, j_aid, j_air, j_st1, j_st2, j_stu, j_kl, j_cond, j_args, j_out, j_few, j_cw, j_nat, j_pad, j_exp, Nat.reduceAdd]
    refine b_X9_divides_15 hG ?_
    dsimp only [q_X9_divides_15, j_wp, j_opB, j_opA, j_nth, j_i1, j_i2, j_l1, j_l2, j_li, j_f1, j_f2, j_d1, j_d2, j_r1, j_ai, j_aii, j_ail, j_aid, j_air, j_st1, j_st2, j_stu, j_kl, j_cond, j_args, j_out, j_few, j_cw, j_nat, j_pad, j_exp, Nat.reduceAdd]
    exact ⟨(by first | exact Or.inl rfl | exact Or.inr rfl | decide), H⟩
def rAckT (M : Rf) (f : Nat) : Int32 := if lDvd (rF M f 4) (rF M f 8) = true then -1 else rX M 4 + rX M 7 + (if lDvd (rF M f 5) (rF M f 8) = true then rF M f 6 else 0)
theorem sp_X9_acknowledgmentTick (hl : l.stackTraces = false) (s : ME E h0 m M h) {f : Nat} (hf : f < 6) (H : Q (.inl (some (.int (rAckT M f)))) h) : j_Met l D bs E (d + 2) n_X9_acknowledgmentTick [.ref m, .int (nI f)] h Q := by
  have hB := ME_b s
  unfold rAckT at H
  refine j_meth hl rfl g_X9_acknowledgmentTick (Nat.le_of_ble_eq_true rfl) (fun _ => ⟨_, _, rfl, (ME_sh s)⟩) hB.1 hB.2 (fun G hG => ?_)
  refine b_X9_acknowledgmentTick_0 hG ?_
  dsimp only [q_X9_acknowledgmentTick_0, j_wp, j_opB, j_opA, j_nth, j_i1, j_i2, j_l1, j_l2, j_li, j_f1, j_f2, j_d1, j_d2, j_r1, j_ai, j_aii, j_ail, j_aid, j_air, j_st1, j_st2, j_stu, j_kl, j_cond, j_args, j_out, j_few, j_cw, j_nat, j_pad, j_exp, Nat.reduceAdd]
  refine sp_X9_ofFlow hl s hf (k := 8) (by omega) ?_
  simp only [j_ref, j_ari, j_arb, j_arr, j_len, j_nar, j_oi, j_ol, j_of, j_od, j_or, j_ov, true_and, and_true, j_st1]
  refine sp_X9_ofFlow hl s hf (k := 4) (by omega) ?_
  simp only [j_ref, j_ari, j_arb, j_arr, j_len, j_nar, j_oi, j_ol, j_of, j_od, j_or, j_ov, true_and, and_true]
  refine sp_X9_divides hl hB ?_
  simp only [j_ref, j_ari, j_arb, j_arr, j_len, j_nar, j_oi, j_ol, j_of, j_od, j_or, j_ov, true_and, and_true]
  by_cases g : lDvd (rF M f 4) (rF M f 8) = true
  · simp only [g, if_true] at H ⊢
    rw [if_neg (by decide)]
    exact H
  · simp only [g, Bool.false_eq_true, if_false, if_true] at H ⊢
    refine b_X9_acknowledgmentTick_23 hG ?_
    dsimp only [q_X9_acknowledgmentTick_23, j_wp, j_opB, j_opA, j_nth, j_i1, j_i2, j_l1, j_l2, j_li, j_f1, j_f2, j_d1, j_d2, j_r1, j_ai, j_aii, j_ail, j_aid, j_air, j_st1, j_st2, j_stu, j_kl, j_cond, j_args, j_out, j_few, j_cw, j_nat, j_pad, j_exp, Nat.reduceAdd]
    simp only [ME_sh s, ME_r0 s, ME_a0 s, ME_r5 s, ME_a5 s, j_ref, j_ari, j_arb, j_arr, j_len, j_nar, j_oi, j_ol, j_of, j_od, j_or, j_ov, true_and, and_true, ME_x4 s, ME_x7 s]
    refine ⟨vp_c (k := 4) (by omega) (by omega), vp_c (k := 7) (by omega) (by omega), ?_⟩
    refine sp_X9_ofFlow hl s hf (k := 5) (by omega) ?_
    simp only [j_ref, j_ari, j_arb, j_arr, j_len, j_nar, j_oi, j_ol, j_of, j_od, j_or, j_ov, true_and, and_true]
    refine sp_X9_divides hl hB ?_
    simp only [j_ref, j_ari, j_arb, j_arr, j_len, j_nar, j_oi, j_ol, j_of, j_od, j_or, j_ov, true_and, and_true]
    by_cases g2 : lDvd (rF M f 5) (rF M f 8) = true
    · simp only [g2, if_true] at H ⊢
      rw [if_neg (by decide)]
      refine sp_X9_ofFlow hl s hf (k := 6) (by omega) ?_
      simp only [j_ref, j_ari, j_arb, j_arr, j_len, j_nar, j_oi, j_ol, j_of, j_od, j_or, j_ov, true_and, and_true]
      refine b_X9_acknowledgmentTick_61 hG ?_
      dsimp only [q_X9_acknowledgmentTick_61, j_wp, j_opB, j_opA, j_nth, j_i1, j_i2, j_l1, j_l2, j_li, j_f1, j_f2, j_d1, j_d2, j_r1, j_ai, j_aii, j_ail, j_aid, j_air, j_st1, j_st2, j_stu, j_kl, j_cond, j_args, j_out, j_few, j_cw, j_nat, j_pad, j_exp, Nat.reduceAdd]
      exact ⟨trivial, H⟩
    · simp only [g2, Bool.false_eq_true, if_false, if_true] at H ⊢
      refine b_X9_acknowledgmentTick_60 hG ?_
      dsimp only [q_X9_acknowledgmentTick_60, j_wp, j_opB, j_opA, j_nth, j_i1, j_i2, j_l1, j_l2, j_li, j_f1, j_f2, j_d1, j_d2, j_r1, j_ai, j_aii, j_ail, j_aid, j_air, j_st1, j_st2, j_stu, j_kl, j_cond, j_args, j_out, j_few, j_cw, j_nat, j_pad, j_exp, Nat.reduceAdd]
      refine b_X9_acknowledgmentTick_61 hG ?_
      dsimp only [q_X9_acknowledgmentTick_61, j_wp, j_opB, j_opA, j_nth, j_i1, j_i2, j_l1, j_l2, j_li, j_f1, j_f2, j_d1, j_d2, j_r1, j_ai, j_aii, j_ail, j_aid, j_air, j_st1, j_st2, j_stu, j_kl, j_cond, j_args, j_out, j_few, j_cw, j_nat, j_pad, j_exp, Nat.reduceAdd]
      exact ⟨trivial, H⟩
/-- no later one of k transmissions from i on is of the packet q -/
def rLastG (S : Nat → Nat → Int32) (q : Int32) : Nat → Nat → Bool
  | 0, _ => true
  | k + 1, i => if S i 0 = q then false else rLastG S q k (i + 1)
def rLast (M : Rf) (q : Int32) (k i : Nat) : Bool := rLastG (rS M) q k i
theorem sp_X9_isLatest (hl : l.stackTraces = false) (s : ME E h0 m M h) {n ns : Nat} (hn : n < ns) (hns : ns ≤ 300) (hx : rX M 3 = nI ns) (H : Q (.inl (some (.int (if rLast M (rS M n 0) (ns - (n + 1)) (n + 1) = true then 1 else 0)))) h) : j_Met l D bs E (d + 2) n_X9_isLatest [.ref m, .int (nI n)] h Q := by
  have hB := ME_b s
  refine j_meth hl rfl g_X9_isLatest (Nat.le_of_ble_eq_true rfl) (fun _ => ⟨_, _, rfl, (ME_sh s)⟩) hB.1 hB.2 (fun G hG => ?_)
  have loop : ∀ (k i : Nat), i + k = ns → Q (.inl (some (.int (if rLast M (rS M n 0) k i = true then 1 else 0)))) h → G 4 [.ref m, .int (nI n), .int (nI i)] [] h := by
    intro k
    induction k with
    | zero =>
      intro i hi H
      unfold rLast rLastG at H
      refine b_X9_isLatest_4 hG ?_
      dsimp only [q_X9_isLatest_4, j_wp, j_opB, j_opA, j_nth, j_i1, j_i2, j_l1, j_l2, j_li, j_f1, j_f2, j_d1, j_d2, j_r1, j_ai, j_aii, j_ail, j_aid, j_air, j_st1, j_st2, j_stu, j_kl, j_cond, j_args, j_out, j_few, j_cw, j_nat, j_pad, j_exp, Nat.reduceAdd]
      simp only [ME_sh s, ME_r0 s, ME_a0 s, ME_r5 s, ME_a5 s, j_ref, j_ari, j_arb, j_arr, j_len, j_nar, j_oi, j_ol, j_of, j_od, j_or, j_ov, true_and, and_true, ME_x3 s, hx]
      refine ⟨vp_c (k := 3) (by omega) (by omega), ?_⟩
      rw [if_neg (nI_nlt (by omega) (by omega))]
      refine b_X9_isLatest_37 hG ?_
      dsimp only [q_X9_isLatest_37, j_wp, j_opB, j_opA, j_nth, j_i1, j_i2, j_l1, j_l2, j_li, j_f1, j_f2, j_d1, j_d2, j_r1, j_ai, j_aii, j_ail, j_aid, j_air, j_st1, j_st2, j_stu, j_kl, j_cond, j_args, j_out, j_few, j_cw, j_nat, j_pad, j_exp, Nat.reduceAdd]
      exact ⟨(by first | exact Or.inl rfl | exact Or.inr rfl | decide), H⟩
    | succ k ih =>
      intro i hi H
      unfold rLast rLastG at H
      refine b_X9_isLatest_4 hG ?_
      dsimp only [q_X9_isLatest_4, j_wp, j_opB, j_opA, j_nth, j_i1, j_i2, j_l1, j_l2, j_li, j_f1, j_f2, j_d1, j_d2, j_r1, j_ai, j_aii, j_ail, j_aid, j_air, j_st1, j_st2, j_stu, j_kl, j_cond, j_args, j_out, j_few, j_cw, j_nat, j_pad, j_exp, Nat.reduceAdd]
      simp only [ME_sh s, ME_r0 s, ME_a0 s, ME_r5 s, ME_a5 s, j_ref, j_ari, j_arb, j_arr, j_len, j_nar, j_oi, j_ol, j_of, j_od, j_or, j_ov, true_and, and_true, ME_x3 s, hx]
      refine ⟨vp_c (k := 3) (by omega) (by omega), ?_⟩
      rw [if_pos (nI_lt (by omega) (by omega))]
      refine sp_X9_ofSending hl s (f := i) (by omega) (k := 0) (by omega) ?_
      simp only [j_ref, j_ari, j_arb, j_arr, j_len, j_nar, j_oi, j_ol, j_of, j_od, j_or, j_ov, true_and, and_true]
      refine sp_X9_ofSending hl s (f := n) (by omega) (k := 0) (by omega) ?_
      simp only [j_ref, j_ari, j_arb, j_arr, j_len, j_nar, j_oi, j_ol, j_of, j_od, j_or, j_ov, true_and, and_true]
      split
      · rename_i g
        rw [if_pos g] at H
        exact ⟨(by first | exact Or.inl rfl | exact Or.inr rfl | decide), H⟩
      · rename_i g
        rw [if_neg g] at H
        refine b_X9_isLatest_31 hG ?_
        dsimp only [q_X9_isLatest_31, j_wp, j_opB, j_opA, j_nth, j_i1, j_i2, j_l1, j_l2, j_li, j_f1, j_f2, j_d1, j_d2, j_r1, j_ai, j_aii, j_ail, j_aid, j_air, j_st1, j_st2, j_stu, j_kl, j_cond, j_args, j_out, j_few, j_cw, j_nat, j_pad, j_exp, Nat.reduceAdd]
        rw [nI_1]
        exact ih (i + 1) (by omega) H
  refine b_X9_isLatest_0 hG ?_
  dsimp only [q_X9_isLatest_0, j_wp, j_opB, j_opA, j_nth, j_i1, j_i2, j_l1, j_l2, j_li, j_f1, j_f2, j_d1, j_d2, j_r1, j_ai, j_aii, j_ail, j_aid, j_air, j_st1, j_st2, j_stu, j_kl, j_cond, j_args, j_out, j_few, j_cw, j_nat, j_pad, j_exp, Nat.reduceAdd]
  rw [nI_1]
  exact loop (ns - (n + 1)) (n + 1) (by omega) H
end RefA
