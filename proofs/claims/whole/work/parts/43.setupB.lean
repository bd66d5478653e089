/-! ===== Setup: rules and clauses; beginning a link ===== -/
section Set3
variable {l : Launch} {D : va_G} {bs : Nat} {E : j_E} {h0 h : j_H} {x u : Nat} {d : Nat} {Q : j_O → j_H → Prop} {B : Nat → Int32} {sz len : Nat} {p : Tk} {S : Sup}
theorem sp_X5_readCondition (hl : l.stackTraces = false) (hJ : JS l D bs E) (s : PT E bs h0 x u B sz len p S h) (hn : sM S < 12) (H : ∀ h', PT E bs h0 x u B sz len (sCond B len p S).1 (sCond B len p S).2 h' → Q (.inl none) h') : j_Met l D bs E (d + 5) n_X5_readCondition [.ref u, .ref x] h Q := by
  have hB := s.2.2.2.1
  dsimp only [sCond] at H
  refine j_meth hl rfl g_X5_readCondition (Nat.le_of_ble_eq_true rfl) (fun _ => ⟨_, _, rfl, s.2.1.1⟩) hB.1 hB.2 (fun G hG => ?_)
  have fin : ∀ (c : Nat) (p1 : Tk) (h1 : j_H) (y : Value), c ≤ 4 → PT E bs h0 x u B sz len p1 S h1 → (∀ h', PT E bs h0 x u B sz len (tTake B len (tTake B len (tNext B len p1) 0 255).2 (tTake B len (tNext B len p1) 0 255).1 255).2 (ssR (ssR S (sM S) c (tTake B len (tNext B len p1) 0 255).1) (sM S) (c + 1) (tTake B len (tTake B len (tNext B len p1) 0 255).2 (tTake B len (tNext B len p1) 0 255).1 255).1) h' → Q (.inl none) h') → G 44 [.ref u, .ref x, .int (nI c), y] [] h1 := by
    intro c p1 h1 y hc s1 H
    refine b_X5_readCondition_44 hG ?_
    dsimp only [q_X5_readCondition_44, j_wp, j_opB, j_opA, j_nth, j_i1, j_i2, j_l1, j_l2, j_li, j_f1, j_f2, j_d1, j_d2, j_r1, j_ai, j_aii, j_ail, j_aid, j_air, j_st1, j_st2, j_stu, j_kl, j_cond, j_args, j_out, j_few, j_cw, j_nat, j_pad, j_exp, Nat.reduceAdd]
    refine pt_next hl s1 (fun h2 s2 => ?_)
    simp only [j_ref, j_ari, j_arb, j_arr, j_len, j_nar, j_oi, j_ol, j_of, j_od, j_or, j_ov, true_and, and_true]
    refine pt_take hl s2 (fun h3 s3 => ?_)
    simp only [SK_sh s3.2.1, SK_r1 s3.2.1, SK_3 s3.2.1, j_ref, j_ari, j_arb, j_arr, j_len, j_nar, j_oi, j_ol, j_of, j_od, j_or, j_ov, true_and, and_true, j_st1]
    refine sr_set hl s3 hn (k := c) (by omega) (fun h4 s4 => ?_)
    simp only [SK_sh s4.2.1, SK_r1 s4.2.1, SK_3 s4.2.1, j_ref, j_ari, j_arb, j_arr, j_len, j_nar, j_oi, j_ol, j_of, j_od, j_or, j_ov, true_and, and_true, nI_1]
    refine pt_take hl s4 (fun h5 s5 => ?_)
    simp only [j_ref, j_ari, j_arb, j_arr, j_len, j_nar, j_oi, j_ol, j_of, j_od, j_or, j_ov, true_and, and_true]
    refine sr_set hl s5 (r := sM S) hn (k := c + 1) (by omega) (fun h6 s6 => ?_)
    simp only [j_ref, j_ari, j_arb, j_arr, j_len, j_nar, j_oi, j_ol, j_of, j_od, j_or, j_ov, true_and, and_true]
    exact H h6 s6
  refine b_X5_readCondition_0 hG ?_
  dsimp only [q_X5_readCondition_0, j_wp, j_opB, j_opA, j_nth, j_i1, j_i2, j_l1, j_l2, j_li, j_f1, j_f2, j_d1, j_d2, j_r1, j_ai, j_aii, j_ail, j_aid, j_air, j_st1, j_st2, j_stu, j_kl, j_cond, j_args, j_out, j_few, j_cw, j_nat, j_pad, j_exp, Nat.reduceAdd]
  refine pt_isW hl hJ s 22 rfl (by omega) ?_
  simp only [j_ref, j_ari, j_arb, j_arr, j_len, j_nar, j_oi, j_ol, j_of, j_od, j_or, j_ov, true_and, and_true]
  by_cases g1 : tIsW B p (wd "target") = true
  · simp only [g1, if_true] at H ⊢
    rw [if_neg (by decide)]
    exact fin 2 p h _ (by omega) s H
  · simp only [g1, if_false, Bool.false_eq_true, if_true] at H ⊢
    refine b_X5_readCondition_16 hG ?_
    dsimp only [q_X5_readCondition_16, j_wp, j_opB, j_opA, j_nth, j_i1, j_i2, j_l1, j_l2, j_li, j_f1, j_f2, j_d1, j_d2, j_r1, j_ai, j_aii, j_ail, j_aid, j_air, j_st1, j_st2, j_stu, j_kl, j_cond, j_args, j_out, j_few, j_cw, j_nat, j_pad, j_exp, Nat.reduceAdd]
    refine pt_isW hl hJ s 23 rfl (by omega) ?_
    simp only [j_ref, j_ari, j_arb, j_arr, j_len, j_nar, j_oi, j_ol, j_of, j_od, j_or, j_ov, true_and, and_true]
    by_cases g2 : tIsW B p (wd "port") = true
    · simp only [g2, if_true] at H ⊢
      rw [if_neg (by decide)]
      exact fin 4 p h _ (by omega) s H
    · simp only [g2, if_false, Bool.false_eq_true, if_true] at H ⊢
      refine b_X5_readCondition_30 hG ?_
      dsimp only [q_X5_readCondition_30, j_wp, j_opB, j_opA, j_nth, j_i1, j_i2, j_l1, j_l2, j_li, j_f1, j_f2, j_d1, j_d2, j_r1, j_ai, j_aii, j_ail, j_aid, j_air, j_st1, j_st2, j_stu, j_kl, j_cond, j_args, j_out, j_few, j_cw, j_nat, j_pad, j_exp, Nat.reduceAdd]
      refine pt_isW hl hJ s 24 rfl (by omega) ?_
      simp only [j_ref, j_ari, j_arb, j_arr, j_len, j_nar, j_oi, j_ol, j_of, j_od, j_or, j_ov, true_and, and_true]
      by_cases g3 : tIsW B p (wd "source") = true
      · simp only [g3, if_true] at H ⊢
        rw [if_neg (by decide)]
        exact fin 0 p h _ (by omega) s H
      · simp only [g3, if_false, Bool.false_eq_true, if_true] at H ⊢
        refine pt_fail hl s (fun h1 s1 => ?_)
        simp only [j_ref, j_ari, j_arb, j_arr, j_len, j_nar, j_oi, j_ol, j_of, j_od, j_or, j_ov, true_and, and_true]
        exact fin 0 _ h1 _ (by omega) s1 H
theorem sCond_N {B : Nat → Int32} {len : Nat} {p : Tk} {S : Sup} : sN (sCond B len p S).2 = sN S ∧ sM (sCond B len p S).2 = sM S := ⟨rfl, rfl⟩
theorem sConds_N {B : Nat → Int32} {len : Nat} : ∀ {k : Nat} {p : Tk} {S : Sup}, sN (sConds B len k p S).2 = sN S ∧ sM (sConds B len k p S).2 = sM S := by
  intro k
  induction k with
  | zero => intro p S; exact ⟨rfl, rfl⟩
  | succ k ih =>
    intro p S
    unfold sConds
    split
    · split
      · exact ⟨rfl, rfl⟩
      · exact ih (p := (sCond B len p S).1) (S := (sCond B len p S).2)
    · exact ⟨rfl, rfl⟩
set_option maxRecDepth 8000 in
theorem sp_X5_readRule (hl : l.stackTraces = false) (hJ : JS l D bs E) (s : PT E bs h0 x u B sz len p S h) (H : ∀ h', PT E bs h0 x u B sz len (sRule B len p S).1 (sRule B len p S).2 h' → Q (.inl none) h') : j_Met l D bs E (d + 6) n_X5_readRule [.ref u, .ref x] h Q := by
  have hB := s.2.2.2.1
  have hm12 := SK_m s.2.1
  unfold sRule at H
  refine j_meth hl rfl g_X5_readRule (Nat.le_of_ble_eq_true rfl) (fun _ => ⟨_, _, rfl, s.2.1.1⟩) hB.1 hB.2 (fun G hG => ?_)
  have fin : ∀ (p1 : Tk) (S1 : Sup) (h1 : j_H) (i : Nat), sM S1 < 12 → PT E bs h0 x u B sz len p1 S1 h1 → (∀ h', PT E bs h0 x u B sz len (tSign B len (tTake B len (tWord B len p1 (wd "to")) 0 (nI (sN S1) - 1)).2 59) (ssM (ssR S1 (sM S1) 6 (tTake B len (tWord B len p1 (wd "to")) 0 (nI (sN S1) - 1)).1) (sM S1 + 1)) h' → Q (.inl none) h') → G 100 [.ref u, .ref x, .int (nI i)] [] h1 := by
    intro p1 S1 h1 i hn s1 H
    refine b_X5_readRule_100 hG ?_
    dsimp only [q_X5_readRule_100, j_wp, j_opB, j_opA, j_nth, j_i1, j_i2, j_l1, j_l2, j_li, j_f1, j_f2, j_d1, j_d2, j_r1, j_ai, j_aii, j_ail, j_aid, j_air, j_st1, j_st2, j_stu, j_kl, j_cond, j_args, j_out, j_few, j_cw, j_nat, j_pad, j_exp, Nat.reduceAdd]
    refine pt_word hl hJ s1 21 rfl (by omega) (fun h2 s2 => ?_)
    simp only [SK_sh s2.2.1, SK_r1 s2.2.1, SK_2 s2.2.1, SK_3 s2.2.1, j_ref, j_ari, j_arb, j_arr, j_len, j_nar, j_oi, j_ol, j_of, j_od, j_or, j_ov, true_and, and_true]
    refine pt_take hl s2 (fun h3 s3 => ?_)
    simp only [j_ref, j_ari, j_arb, j_arr, j_len, j_nar, j_oi, j_ol, j_of, j_od, j_or, j_ov, true_and, and_true]
    refine sr_set hl s3 hn (k := 6) (by omega) (fun h4 s4 => ?_)
    simp only [j_ref, j_ari, j_arb, j_arr, j_len, j_nar, j_oi, j_ol, j_of, j_od, j_or, j_ov, true_and, and_true]
    refine pt_sign hl s4 (c := 59) (fun h5 s5 => ?_)
    have e5 := SK_3 s5.2.1
    simp only [SK_sh s5.2.1, e5, j_ref, j_ari, j_arb, j_arr, j_len, j_nar, j_oi, j_ol, j_of, j_od, j_or, j_ov, true_and, and_true]
    rw [nI_1]
    exact H _ (PT_M s5 (show sM S1 + 1 ≤ 12 by omega))
  have loop : ∀ (k i : Nat) (p1 : Tk) (S1 : Sup) (h1 : j_H), i + k = 800 → sM S1 < 12 → PT E bs h0 x u B sz len p1 S1 h1 → (∀ (y : Tk × Sup), y = sConds B len k p1 S1 → ∀ h', PT E bs h0 x u B sz len (tSign B len (tTake B len (tWord B len y.1 (wd "to")) 0 (nI (sN y.2) - 1)).2 59) (ssM (ssR y.2 (sM y.2) 6 (tTake B len (tWord B len y.1 (wd "to")) 0 (nI (sN y.2) - 1)).1) (sM y.2 + 1)) h' → Q (.inl none) h') → G 65 [.ref u, .ref x, .int (nI i)] [] h1 := by
    intro k
    induction k with
    | zero =>
      intro i p1 S1 h1 hi hn s1 H
      have e : i = 800 := by omega
      subst e
      refine b_X5_readRule_65 hG ?_
      dsimp only [q_X5_readRule_65, j_wp, j_opB, j_opA, j_nth, j_i1, j_i2, j_l1, j_l2, j_li, j_f1, j_f2, j_d1, j_d2, j_r1, j_ai, j_aii, j_ail, j_aid, j_air, j_st1, j_st2, j_stu, j_kl, j_cond, j_args, j_out, j_few, j_cw, j_nat, j_pad, j_exp, Nat.reduceAdd]
      rw [if_neg (show ¬ nI 800 < 800 by decide)]
      exact fin p1 S1 h1 800 hn s1 (H (p1, S1) rfl)
    | succ k ih =>
      intro i p1 S1 h1 hi hn s1 H
      have hk1 := s1.2.2.2.2.2.1.1
      unfold sConds at H
      refine b_X5_readRule_65 hG ?_
      dsimp only [q_X5_readRule_65, j_wp, j_opB, j_opA, j_nth, j_i1, j_i2, j_l1, j_l2, j_li, j_f1, j_f2, j_d1, j_d2, j_r1, j_ai, j_aii, j_ail, j_aid, j_air, j_st1, j_st2, j_stu, j_kl, j_cond, j_args, j_out, j_few, j_cw, j_nat, j_pad, j_exp, Nat.reduceAdd]
      rw [if_pos (show nI i < 800 from nI_lt (b := 800) (by omega) (by omega))]
      simp only [TX_sh s1.1, TX_3 s1.1, j_ref, j_ari, j_arb, j_arr, j_len, j_nar, j_oi, j_ol, j_of, j_od, j_or, j_ov, true_and, and_true]
      by_cases g : tkK p1 = 2
      · simp only [g, if_true] at H
        rw [if_pos (show nI (tkK p1) = 2 by rw [g]; decide)]
        refine pt_isW hl hJ s1 21 rfl (by omega) ?_
        simp only [j_ref, j_ari, j_arb, j_arr, j_len, j_nar, j_oi, j_ol, j_of, j_od, j_or, j_ov, true_and, and_true]
        by_cases g2 : tIsW B p1 (wd "to") = true
        · simp only [g2, if_true] at H ⊢
          rw [if_neg (by decide)]
          exact fin p1 S1 h1 i hn s1 (H (p1, S1) rfl)
        · simp only [g2, if_false, Bool.false_eq_true, if_true] at H ⊢
          refine sp_X5_readCondition hl hJ s1 hn (fun h2 s2 => ?_)
          simp only [j_ref, j_ari, j_arb, j_arr, j_len, j_nar, j_oi, j_ol, j_of, j_od, j_or, j_ov, true_and, and_true]
          rw [nI_1]
          exact ih (i + 1) _ _ h2 (by omega) (by rw [sCond_N.2]; exact hn) s2 H
      · simp only [g, if_false] at H
        rw [if_neg (show ¬ nI (tkK p1) = 2 from fun z => g ((nI_eq (by omega) (by omega)).mp (show nI (tkK p1) = nI 2 from z)))]
        exact fin p1 S1 h1 i hn s1 (H (p1, S1) rfl)
  refine b_X5_readRule_0 hG ?_
  dsimp only [q_X5_readRule_0, j_wp, j_opB, j_opA, j_nth, j_i1, j_i2, j_l1, j_l2, j_li, j_f1, j_f2, j_d1, j_d2, j_r1, j_ai, j_aii, j_ail, j_aid, j_air, j_st1, j_st2, j_stu, j_kl, j_cond, j_args, j_out, j_few, j_cw, j_nat, j_pad, j_exp, Nat.reduceAdd]
  simp only [SK_sh s.2.1, SK_3 s.2.1, j_ref, j_ari, j_arb, j_arr, j_len, j_nar, j_oi, j_ol, j_of, j_od, j_or, j_ov, true_and, and_true]
  by_cases g : sM S < 12
  · rw [if_pos g] at H
    rw [if_pos (show nI (sM S) < 12 from nI_lt (b := 12) g (by omega))]
    refine b_X5_readRule_15 hG ?_
    dsimp only [q_X5_readRule_15, j_wp, j_opB, j_opA, j_nth, j_i1, j_i2, j_l1, j_l2, j_li, j_f1, j_f2, j_d1, j_d2, j_r1, j_ai, j_aii, j_ail, j_aid, j_air, j_st1, j_st2, j_stu, j_kl, j_cond, j_args, j_out, j_few, j_cw, j_nat, j_pad, j_exp, Nat.reduceAdd]
    refine pt_next hl s (fun h1 s1 => ?_)
    simp only [j_ref, j_ari, j_arb, j_arr, j_len, j_nar, j_oi, j_ol, j_of, j_od, j_or, j_ov, true_and, and_true, j_st1]
    have stp : ∀ (c : Nat) (S1 : Sup) (h2 : j_H), c < 5 → sM S1 = sM S → PT E bs h0 x u B sz len (tNext B len p) S1 h2 → (∀ h', PT E bs h0 x u B sz len (tNext B len p) (ssR (ssR S1 (sM S) c 0) (sM S) (c + 1) 255) h' → G 21 [.ref u, .ref x, .int (nI (c + 2))] [] h') → G 21 [.ref u, .ref x, .int (nI c)] [] h2 := by
      intro c S1 h2 hc e s2 H
      refine b_X5_readRule_21 hG ?_
      dsimp only [q_X5_readRule_21, j_wp, j_opB, j_opA, j_nth, j_i1, j_i2, j_l1, j_l2, j_li, j_f1, j_f2, j_d1, j_d2, j_r1, j_ai, j_aii, j_ail, j_aid, j_air, j_st1, j_st2, j_stu, j_kl, j_cond, j_args, j_out, j_few, j_cw, j_nat, j_pad, j_exp, Nat.reduceAdd]
      rw [if_pos (show nI c < 6 from nI_lt (b := 6) (by omega) (by omega))]
      have e2 := SK_3 s2.2.1
      rw [e] at e2
      simp only [SK_sh s2.2.1, SK_r1 s2.2.1, e2, j_ref, j_ari, j_arb, j_arr, j_len, j_nar, j_oi, j_ol, j_of, j_od, j_or, j_ov, true_and, and_true]
      refine sr_set hl s2 g (k := c) (by omega) (fun h3 s3 => ?_)
      have e3 := SK_3 s3.2.1
      rw [show sM (ssR S1 (sM S) c 0) = sM S from e] at e3
      simp only [SK_sh s3.2.1, SK_r1 s3.2.1, e3, j_ref, j_ari, j_arb, j_arr, j_len, j_nar, j_oi, j_ol, j_of, j_od, j_or, j_ov, true_and, and_true, nI_1]
      refine sr_set hl s3 g (k := c + 1) (by omega) (fun h4 s4 => ?_)
      simp only [j_ref, j_ari, j_arb, j_arr, j_len, j_nar, j_oi, j_ol, j_of, j_od, j_or, j_ov, true_and, and_true]
      have e5 : nI c + 2 = nI (c + 2) := nI_add c 2
      rw [e5]
      exact H h4 s4
    refine stp 0 S h1 (by omega) rfl s1 (fun h2 s2 => ?_)
    refine stp 2 (ssR (ssR S (sM S) 0 0) (sM S) 1 255) h2 (by omega) rfl s2 (fun h3 s3 => ?_)
    refine stp 4 (ssR (ssR (ssR (ssR S (sM S) 0 0) (sM S) 1 255) (sM S) 2 0) (sM S) 3 255) h3 (by omega) rfl s3 (fun h4 s4 => ?_)
    refine b_X5_readRule_21 hG ?_
    dsimp only [q_X5_readRule_21, j_wp, j_opB, j_opA, j_nth, j_i1, j_i2, j_l1, j_l2, j_li, j_f1, j_f2, j_d1, j_d2, j_r1, j_ai, j_aii, j_ail, j_aid, j_air, j_st1, j_st2, j_stu, j_kl, j_cond, j_args, j_out, j_few, j_cw, j_nat, j_pad, j_exp, Nat.reduceAdd]
    rw [if_neg (show ¬ nI 6 < 6 by decide)]
    refine b_X5_readRule_63 hG ?_
    dsimp only [q_X5_readRule_63, j_wp, j_opB, j_opA, j_nth, j_i1, j_i2, j_l1, j_l2, j_li, j_f1, j_f2, j_d1, j_d2, j_r1, j_ai, j_aii, j_ail, j_aid, j_air, j_st1, j_st2, j_stu, j_kl, j_cond, j_args, j_out, j_few, j_cw, j_nat, j_pad, j_exp, Nat.reduceAdd]
    refine loop 800 0 (tNext B len p) (sRule0 S) h4 (by omega) ?_ s4 (fun y hy => ?_)
    · exact g
    · subst hy
      exact H
  · rw [if_neg g] at H
    rw [if_neg (show ¬ nI (sM S) < 12 from nI_nlt (b := 12) (by omega) (by omega))]
    refine pt_fail hl s (fun h1 s1 => ?_)
    simp only [j_ref, j_ari, j_arb, j_arr, j_len, j_nar, j_oi, j_ol, j_of, j_od, j_or, j_ov, true_and, and_true]
    exact H h1 s1
theorem sp_X5_readClause (hl : l.stackTraces = false) (hJ : JS l D bs E) (s : PT E bs h0 x u B sz len p S h) (H : ∀ h', PT E bs h0 x u B sz len (sClause B len p S).1 (sClause B len p S).2 h' → Q (.inl none) h') : j_Met l D bs E (d + 7) n_X5_readClause [.ref u, .ref x] h Q := by
  have hB := s.2.2.2.1
  unfold sClause at H
  refine j_meth hl rfl g_X5_readClause (Nat.le_of_ble_eq_true rfl) (fun _ => ⟨_, _, rfl, s.2.1.1⟩) hB.1 hB.2 (fun G hG => ?_)
  refine b_X5_readClause_0 hG ?_
  dsimp only [q_X5_readClause_0, j_wp, j_opB, j_opA, j_nth, j_i1, j_i2, j_l1, j_l2, j_li, j_f1, j_f2, j_d1, j_d2, j_r1, j_ai, j_aii, j_ail, j_aid, j_air, j_st1, j_st2, j_stu, j_kl, j_cond, j_args, j_out, j_few, j_cw, j_nat, j_pad, j_exp, Nat.reduceAdd]
  refine pt_isW hl hJ s 12 rfl (by omega) ?_
  simp only [j_ref, j_ari, j_arb, j_arr, j_len, j_nar, j_oi, j_ol, j_of, j_od, j_or, j_ov, true_and, and_true]
  by_cases g12 : tIsW B p (wd "flow") = true
  · simp only [g12, if_true] at H ⊢
    rw [if_neg (by decide)]
    refine sp_X5_readFlow hl hJ s (fun h1 s1 => ?_)
    simp only [j_ref, j_ari, j_arb, j_arr, j_len, j_nar, j_oi, j_ol, j_of, j_od, j_or, j_ov, true_and, and_true]
    refine b_X5_readClause_110 hG ?_
    dsimp only [q_X5_readClause_110, j_wp, j_opB, j_opA, j_nth, j_i1, j_i2, j_l1, j_l2, j_li, j_f1, j_f2, j_d1, j_d2, j_r1, j_ai, j_aii, j_ail, j_aid, j_air, j_st1, j_st2, j_stu, j_kl, j_cond, j_args, j_out, j_few, j_cw, j_nat, j_pad, j_exp, Nat.reduceAdd]
    exact H h1 s1
  · simp only [g12, if_false, Bool.false_eq_true, if_true] at H ⊢
    refine b_X5_readClause_17 hG ?_
    dsimp only [q_X5_readClause_17, j_wp, j_opB, j_opA, j_nth, j_i1, j_i2, j_l1, j_l2, j_li, j_f1, j_f2, j_d1, j_d2, j_r1, j_ai, j_aii, j_ail, j_aid, j_air, j_st1, j_st2, j_stu, j_kl, j_cond, j_args, j_out, j_few, j_cw, j_nat, j_pad, j_exp, Nat.reduceAdd]
    refine pt_isW hl hJ s 13 rfl (by omega) ?_
    simp only [j_ref, j_ari, j_arb, j_arr, j_len, j_nar, j_oi, j_ol, j_of, j_od, j_or, j_ov, true_and, and_true]
    by_cases g13 : tIsW B p (wd "rule") = true
    · simp only [g13, if_true] at H ⊢
      rw [if_neg (by decide)]
      refine sp_X5_readRule hl hJ s (fun h1 s1 => ?_)
      simp only [j_ref, j_ari, j_arb, j_arr, j_len, j_nar, j_oi, j_ol, j_of, j_od, j_or, j_ov, true_and, and_true]
      refine b_X5_readClause_110 hG ?_
      dsimp only [q_X5_readClause_110, j_wp, j_opB, j_opA, j_nth, j_i1, j_i2, j_l1, j_l2, j_li, j_f1, j_f2, j_d1, j_d2, j_r1, j_ai, j_aii, j_ail, j_aid, j_air, j_st1, j_st2, j_stu, j_kl, j_cond, j_args, j_out, j_few, j_cw, j_nat, j_pad, j_exp, Nat.reduceAdd]
      exact H h1 s1
    · simp only [g13, if_false, Bool.false_eq_true, if_true] at H ⊢
      refine b_X5_readClause_34 hG ?_
      dsimp only [q_X5_readClause_34, j_wp, j_opB, j_opA, j_nth, j_i1, j_i2, j_l1, j_l2, j_li, j_f1, j_f2, j_d1, j_d2, j_r1, j_ai, j_aii, j_ail, j_aid, j_air, j_st1, j_st2, j_stu, j_kl, j_cond, j_args, j_out, j_few, j_cw, j_nat, j_pad, j_exp, Nat.reduceAdd]
      refine pt_isW hl hJ s 14 rfl (by omega) ?_
      simp only [j_ref, j_ari, j_arb, j_arr, j_len, j_nar, j_oi, j_ol, j_of, j_od, j_or, j_ov, true_and, and_true]
      by_cases g14 : tIsW B p (wd "link") = true
      · simp only [g14, if_true] at H ⊢
        rw [if_neg (by decide)]
        refine sp_X5_readSetting hl s (fun h1 s1 => ?_)
        simp only [SK_sh s1.2.1, j_ref, j_ari, j_arb, j_arr, j_len, j_nar, j_oi, j_ol, j_of, j_od, j_or, j_ov, true_and, and_true]
        refine b_X5_readClause_110 hG ?_
        dsimp only [q_X5_readClause_110, j_wp, j_opB, j_opA, j_nth, j_i1, j_i2, j_l1, j_l2, j_li, j_f1, j_f2, j_d1, j_d2, j_r1, j_ai, j_aii, j_ail, j_aid, j_air, j_st1, j_st2, j_stu, j_kl, j_cond, j_args, j_out, j_few, j_cw, j_nat, j_pad, j_exp, Nat.reduceAdd]
        exact H _ (PT_X s1 (by omega))
      · simp only [g14, if_false, Bool.false_eq_true, if_true] at H ⊢
        refine b_X5_readClause_58 hG ?_
        dsimp only [q_X5_readClause_58, j_wp, j_opB, j_opA, j_nth, j_i1, j_i2, j_l1, j_l2, j_li, j_f1, j_f2, j_d1, j_d2, j_r1, j_ai, j_aii, j_ail, j_aid, j_air, j_st1, j_st2, j_stu, j_kl, j_cond, j_args, j_out, j_few, j_cw, j_nat, j_pad, j_exp, Nat.reduceAdd]
        refine pt_isW hl hJ s 15 rfl (by omega) ?_
        simp only [j_ref, j_ari, j_arb, j_arr, j_len, j_nar, j_oi, j_ol, j_of, j_od, j_or, j_ov, true_and, and_true]
        by_cases g15 : tIsW B p (wd "delay") = true
        · simp only [g15, if_true] at H ⊢
          rw [if_neg (by decide)]
          refine sp_X5_readSetting hl s (fun h1 s1 => ?_)
          simp only [SK_sh s1.2.1, j_ref, j_ari, j_arb, j_arr, j_len, j_nar, j_oi, j_ol, j_of, j_od, j_or, j_ov, true_and, and_true]
          refine b_X5_readClause_110 hG ?_
          dsimp only [q_X5_readClause_110, j_wp, j_opB, j_opA, j_nth, j_i1, j_i2, j_l1, j_l2, j_li, j_f1, j_f2, j_d1, j_d2, j_r1, j_ai, j_aii, j_ail, j_aid, j_air, j_st1, j_st2, j_stu, j_kl, j_cond, j_args, j_out, j_few, j_cw, j_nat, j_pad, j_exp, Nat.reduceAdd]
          exact H _ (PT_X s1 (by omega))
        · simp only [g15, if_false, Bool.false_eq_true, if_true] at H ⊢
          refine b_X5_readClause_81 hG ?_
          dsimp only [q_X5_readClause_81, j_wp, j_opB, j_opA, j_nth, j_i1, j_i2, j_l1, j_l2, j_li, j_f1, j_f2, j_d1, j_d2, j_r1, j_ai, j_aii, j_ail, j_aid, j_air, j_st1, j_st2, j_stu, j_kl, j_cond, j_args, j_out, j_few, j_cw, j_nat, j_pad, j_exp, Nat.reduceAdd]
          refine pt_isW hl hJ s 16 rfl (by omega) ?_
          simp only [j_ref, j_ari, j_arb, j_arr, j_len, j_nar, j_oi, j_ol, j_of, j_od, j_or, j_ov, true_and, and_true]
          by_cases g16 : tIsW B p (wd "timeout") = true
          · simp only [g16, if_true] at H ⊢
            rw [if_neg (by decide)]
            refine sp_X5_readSetting hl s (fun h1 s1 => ?_)
            simp only [SK_sh s1.2.1, j_ref, j_ari, j_arb, j_arr, j_len, j_nar, j_oi, j_ol, j_of, j_od, j_or, j_ov, true_and, and_true]
            refine b_X5_readClause_110 hG ?_
            dsimp only [q_X5_readClause_110, j_wp, j_opB, j_opA, j_nth, j_i1, j_i2, j_l1, j_l2, j_li, j_f1, j_f2, j_d1, j_d2, j_r1, j_ai, j_aii, j_ail, j_aid, j_air, j_st1, j_st2, j_stu, j_kl, j_cond, j_args, j_out, j_few, j_cw, j_nat, j_pad, j_exp, Nat.reduceAdd]
            exact H _ (PT_X s1 (by omega))
          · simp only [g16, if_false, Bool.false_eq_true, if_true] at H ⊢
            refine b_X5_readClause_105 hG ?_
            dsimp only [q_X5_readClause_105, j_wp, j_opB, j_opA, j_nth, j_i1, j_i2, j_l1, j_l2, j_li, j_f1, j_f2, j_d1, j_d2, j_r1, j_ai, j_aii, j_ail, j_aid, j_air, j_st1, j_st2, j_stu, j_kl, j_cond, j_args, j_out, j_few, j_cw, j_nat, j_pad, j_exp, Nat.reduceAdd]
            refine pt_fail hl s (fun h1 s1 => ?_)
            simp only [j_ref, j_ari, j_arb, j_arr, j_len, j_nar, j_oi, j_ol, j_of, j_od, j_or, j_ov, true_and, and_true]
            refine b_X5_readClause_110 hG ?_
            dsimp only [q_X5_readClause_110, j_wp, j_opB, j_opA, j_nth, j_i1, j_i2, j_l1, j_l2, j_li, j_f1, j_f2, j_d1, j_d2, j_r1, j_ai, j_aii, j_ail, j_aid, j_air, j_st1, j_st2, j_stu, j_kl, j_cond, j_args, j_out, j_few, j_cw, j_nat, j_pad, j_exp, Nat.reduceAdd]
            exact H h1 s1
theorem sp_X5_readFrom (hl : l.stackTraces = false) (hJ : JS l D bs E) (s : PT E bs h0 x u B sz len p S h) (H : ∀ (y : Tk × Sup), y = sRead B len 800 p (sReset S) → ∀ h', PT E bs h0 x u B sz len y.1 y.2 h' → Q (.inl none) h') : j_Met l D bs E (d + 8) n_X5_readFrom [.ref u, .ref x] h Q := by
  have hB := s.2.2.2.1
  refine j_meth hl rfl g_X5_readFrom (Nat.le_of_ble_eq_true rfl) (fun _ => ⟨_, _, rfl, s.2.1.1⟩) hB.1 hB.2 (fun G hG => ?_)
  refine b_X5_readFrom_0 hG ?_
  dsimp only [q_X5_readFrom_0, j_wp, j_opB, j_opA, j_nth, j_i1, j_i2, j_l1, j_l2, j_li, j_f1, j_f2, j_d1, j_d2, j_r1, j_ai, j_aii, j_ail, j_aid, j_air, j_st1, j_st2, j_stu, j_kl, j_cond, j_args, j_out, j_few, j_cw, j_nat, j_pad, j_exp, Nat.reduceAdd]
  refine sp_X5_reset hl s.2.1 hB (fun h1 k1 f1 => ?_)
  simp only [j_ref, j_ari, j_arb, j_arr, j_len, j_nar, j_oi, j_ol, j_of, j_od, j_or, j_ov, true_and, and_true, j_st1]
  have s1 := PT_s s k1 f1
  have loop : ∀ (k i : Nat) (p1 : Tk) (S1 : Sup) (h1 : j_H), i + k = 800 → PT E bs h0 x u B sz len p1 S1 h1 → (∀ (y : Tk × Sup), y = sRead B len k p1 S1 → ∀ h', PT E bs h0 x u B sz len y.1 y.2 h' → Q (.inl none) h') → G 6 [.ref u, .ref x, .int (nI i)] [] h1 := by
    intro k
    induction k with
    | zero =>
      intro i p1 S1 h1 hi s1 H
      have e : i = 800 := by omega
      subst e
      refine b_X5_readFrom_6 hG ?_
      dsimp only [q_X5_readFrom_6, j_wp, j_opB, j_opA, j_nth, j_i1, j_i2, j_l1, j_l2, j_li, j_f1, j_f2, j_d1, j_d2, j_r1, j_ai, j_aii, j_ail, j_aid, j_air, j_st1, j_st2, j_stu, j_kl, j_cond, j_args, j_out, j_few, j_cw, j_nat, j_pad, j_exp, Nat.reduceAdd]
      rw [if_neg (show ¬ nI 800 < 800 by decide)]
      refine b_X5_readFrom_31 hG ?_
      dsimp only [q_X5_readFrom_31, j_wp, j_opB, j_opA, j_nth, j_i1, j_i2, j_l1, j_l2, j_li, j_f1, j_f2, j_d1, j_d2, j_r1, j_ai, j_aii, j_ail, j_aid, j_air, j_st1, j_st2, j_stu, j_kl, j_cond, j_args, j_out, j_few, j_cw, j_nat, j_pad, j_exp, Nat.reduceAdd]
      exact H (p1, S1) rfl h1 s1
    | succ k ih =>
      intro i p1 S1 h1 hi s1 H
      unfold sRead at H
      refine b_X5_readFrom_6 hG ?_
      dsimp only [q_X5_readFrom_6, j_wp, j_opB, j_opA, j_nth, j_i1, j_i2, j_l1, j_l2, j_li, j_f1, j_f2, j_d1, j_d2, j_r1, j_ai, j_aii, j_ail, j_aid, j_air, j_st1, j_st2, j_stu, j_kl, j_cond, j_args, j_out, j_few, j_cw, j_nat, j_pad, j_exp, Nat.reduceAdd]
      rw [if_pos (show nI i < 800 from nI_lt (b := 800) (by omega) (by omega))]
      refine sp_X7_goesOn hl s1.1 s1.2.2.2.1 s1.2.2.2.2.2.1 ?_
      simp only [j_ref, j_ari, j_arb, j_arr, j_len, j_nar, j_oi, j_ol, j_of, j_od, j_or, j_ov, true_and, and_true]
      by_cases g : tkK p1 = 0 ∨ tkK p1 = 5
      · simp only [g, if_true] at H ⊢
        refine b_X5_readFrom_31 hG ?_
        dsimp only [q_X5_readFrom_31, j_wp, j_opB, j_opA, j_nth, j_i1, j_i2, j_l1, j_l2, j_li, j_f1, j_f2, j_d1, j_d2, j_r1, j_ai, j_aii, j_ail, j_aid, j_air, j_st1, j_st2, j_stu, j_kl, j_cond, j_args, j_out, j_few, j_cw, j_nat, j_pad, j_exp, Nat.reduceAdd]
        exact H (p1, S1) rfl h1 s1
      · simp only [g, if_false] at H ⊢
        rw [if_neg (by decide)]
        refine sp_X5_readClause hl hJ s1 (fun h2 s2 => ?_)
        simp only [j_ref, j_ari, j_arb, j_arr, j_len, j_nar, j_oi, j_ol, j_of, j_od, j_or, j_ov, true_and, and_true]
        rw [nI_1]
        exact ih (i + 1) _ _ h2 (by omega) s2 H
  exact loop 800 0 _ _ h1 (by omega) s1 H
def sIn (S : Sup) (r c : Nat) (v : Int32) : Bool := !decide (v < sR S r c) && !decide (sR S r (c + 1) < v)
theorem sp_X5_isInRange (hl : l.stackTraces = false) (s : SK h u S) (hB : j_bd E h) {r c : Nat} {v : Int32} (hr : r < 12) (hc : c < 6) (H : Q (.inl (some (.int (if sIn S r c v = true then 1 else 0)))) h) : j_Met l D bs E (d + 2) n_X5_isInRange [.ref u, .int (nI r), .int (nI c), .int v] h Q := by
  unfold sIn at H
  refine j_meth hl rfl g_X5_isInRange (Nat.le_of_ble_eq_true rfl) (fun _ => ⟨_, _, rfl, s.1⟩) hB.1 hB.2 (fun G hG => ?_)
  refine b_X5_isInRange_0 hG ?_
  dsimp only [q_X5_isInRange_0, j_wp, j_opB, j_opA, j_nth, j_i1, j_i2, j_l1, j_l2, j_li, j_f1, j_f2, j_d1, j_d2, j_r1, j_ai, j_aii, j_ail, j_aid, j_air, j_st1, j_st2, j_stu, j_kl, j_cond, j_args, j_out, j_few, j_cw, j_nat, j_pad, j_exp, Nat.reduceAdd]
  simp only [SK_sh s, SK_r1 s, j_ref, j_ari, j_arb, j_arr, j_len, j_nar, j_oi, j_ol, j_of, j_od, j_or, j_ov, true_and, and_true]
  refine sp_X6_get hl hB (SK_tR s) (r := r) (k := c) (by omega) (by omega) ?_
  rw [SK_r s hr (by omega)]
  simp only [j_ref, j_ari, j_arb, j_arr, j_len, j_nar, j_oi, j_ol, j_of, j_od, j_or, j_ov, true_and, and_true, SK_sh s, SK_r1 s]
  by_cases g : v < sR S r c
  · rw [if_pos g]
    simp only [g, decide_true, Bool.not_true, Bool.false_and, Bool.false_eq_true, if_false] at H
    refine b_X5_isInRange_32 hG ?_
    dsimp only [q_X5_isInRange_32, j_wp, j_opB, j_opA, j_nth, j_i1, j_i2, j_l1, j_l2, j_li, j_f1, j_f2, j_d1, j_d2, j_r1, j_ai, j_aii, j_ail, j_aid, j_air, j_st1, j_st2, j_stu, j_kl, j_cond, j_args, j_out, j_few, j_cw, j_nat, j_pad, j_exp, Nat.reduceAdd]
    refine b_X5_isInRange_33 hG ?_
    dsimp only [q_X5_isInRange_33, j_wp, j_opB, j_opA, j_nth, j_i1, j_i2, j_l1, j_l2, j_li, j_f1, j_f2, j_d1, j_d2, j_r1, j_ai, j_aii, j_ail, j_aid, j_air, j_st1, j_st2, j_stu, j_kl, j_cond, j_args, j_out, j_few, j_cw, j_nat, j_pad, j_exp, Nat.reduceAdd]
    exact ⟨Or.inl rfl, H⟩
  · rw [if_neg g, nI_1]
    refine sp_X6_get hl hB (SK_tR s) (r := r) (k := c + 1) (by omega) (by omega) ?_
    rw [SK_r s hr (by omega)]
    simp only [j_ref, j_ari, j_arb, j_arr, j_len, j_nar, j_oi, j_ol, j_of, j_od, j_or, j_ov, true_and, and_true]
    by_cases g2 : sR S r (c + 1) < v
    · rw [if_pos g2]
      simp only [g2, decide_true, Bool.not_true, Bool.and_false, Bool.false_eq_true, if_false] at H
      refine b_X5_isInRange_32 hG ?_
      dsimp only [q_X5_isInRange_32, j_wp, j_opB, j_opA, j_nth, j_i1, j_i2, j_l1, j_l2, j_li, j_f1, j_f2, j_d1, j_d2, j_r1, j_ai, j_aii, j_ail, j_aid, j_air, j_st1, j_st2, j_stu, j_kl, j_cond, j_args, j_out, j_few, j_cw, j_nat, j_pad, j_exp, Nat.reduceAdd]
      refine b_X5_isInRange_33 hG ?_
      dsimp only [q_X5_isInRange_33, j_wp, j_opB, j_opA, j_nth, j_i1, j_i2, j_l1, j_l2, j_li, j_f1, j_f2, j_d1, j_d2, j_r1, j_ai, j_aii, j_ail, j_aid, j_air, j_st1, j_st2, j_stu, j_kl, j_cond, j_args, j_out, j_few, j_cw, j_nat, j_pad, j_exp, Nat.reduceAdd]
      exact ⟨Or.inl rfl, H⟩
    · rw [if_neg g2]
      simp only [g, g2, decide_false, Bool.not_false, Bool.and_true, if_true] at H
      refine b_X5_isInRange_33 hG ?_
      dsimp only [q_X5_isInRange_33, j_wp, j_opB, j_opA, j_nth, j_i1, j_i2, j_l1, j_l2, j_li, j_f1, j_f2, j_d1, j_d2, j_r1, j_ai, j_aii, j_ail, j_aid, j_air, j_st1, j_st2, j_stu, j_kl, j_cond, j_args, j_out, j_few, j_cw, j_nat, j_pad, j_exp, Nat.reduceAdd]
      exact ⟨Or.inr rfl, H⟩
/-- the first of k rules from r on that fits -/
def sFor (S : Sup) (a b c : Int32) : Nat → Nat → Int32
  | 0, _ => if 0 < sN S then 0 else -1
  | k + 1, r => if (sIn S r 0 a && sIn S r 2 b && sIn S r 4 c) = true then sR S r 6 else sFor S a b c k (r + 1)
theorem sp_X5_flowFor (hl : l.stackTraces = false) (s : SK h u S) (hB : j_bd E h) {a b c : Int32} (H : Q (.inl (some (.int (sFor S a b c (sM S) 0)))) h) : j_Met l D bs E (d + 3) n_X5_flowFor [.ref u, .int a, .int b, .int c] h Q := by
  have hm := SK_m s
  have hn := SK_n s
  refine j_meth hl rfl g_X5_flowFor (Nat.le_of_ble_eq_true rfl) (fun _ => ⟨_, _, rfl, s.1⟩) hB.1 hB.2 (fun G hG => ?_)
  have loop : ∀ (k r : Nat), r + k = sM S → Q (.inl (some (.int (sFor S a b c k r)))) h → G 3 [.ref u, .int a, .int b, .int c, .int (nI r)] [] h := by
    intro k
    induction k with
    | zero =>
      intro r hr H
      unfold sFor at H
      refine b_X5_flowFor_3 hG ?_
      dsimp only [q_X5_flowFor_3, j_wp, j_opB, j_opA, j_nth, j_i1, j_i2, j_l1, j_l2, j_li, j_f1, j_f2, j_d1, j_d2, j_r1, j_ai, j_aii, j_ail, j_aid, j_air, j_st1, j_st2, j_stu, j_kl, j_cond, j_args, j_out, j_few, j_cw, j_nat, j_pad, j_exp, Nat.reduceAdd]
      simp only [SK_sh s, SK_3 s, j_ref, j_ari, j_arb, j_arr, j_len, j_nar, j_oi, j_ol, j_of, j_od, j_or, j_ov, true_and, and_true]
      rw [if_neg (nI_nlt (by omega) (by omega))]
      refine b_X5_flowFor_63 hG ?_
      dsimp only [q_X5_flowFor_63, j_wp, j_opB, j_opA, j_nth, j_i1, j_i2, j_l1, j_l2, j_li, j_f1, j_f2, j_d1, j_d2, j_r1, j_ai, j_aii, j_ail, j_aid, j_air, j_st1, j_st2, j_stu, j_kl, j_cond, j_args, j_out, j_few, j_cw, j_nat, j_pad, j_exp, Nat.reduceAdd]
      simp only [SK_sh s, SK_2 s, j_ref, j_ari, j_arb, j_arr, j_len, j_nar, j_oi, j_ol, j_of, j_od, j_or, j_ov, true_and, and_true]
      by_cases g : 0 < sN S
      · rw [if_pos g] at H
        rw [if_pos (show (0 : Int32) < nI (sN S) from nI_lt (a := 0) g (by omega))]
        refine b_X5_flowFor_75 hG ?_
        dsimp only [q_X5_flowFor_75, j_wp, j_opB, j_opA, j_nth, j_i1, j_i2, j_l1, j_l2, j_li, j_f1, j_f2, j_d1, j_d2, j_r1, j_ai, j_aii, j_ail, j_aid, j_air, j_st1, j_st2, j_stu, j_kl, j_cond, j_args, j_out, j_few, j_cw, j_nat, j_pad, j_exp, Nat.reduceAdd]
        exact ⟨trivial, H⟩
      · rw [if_neg g] at H
        rw [if_neg (show ¬ (0 : Int32) < nI (sN S) from nI_nlt (a := 0) (by omega) (by omega))]
        refine b_X5_flowFor_74 hG ?_
        dsimp only [q_X5_flowFor_74, j_wp, j_opB, j_opA, j_nth, j_i1, j_i2, j_l1, j_l2, j_li, j_f1, j_f2, j_d1, j_d2, j_r1, j_ai, j_aii, j_ail, j_aid, j_air, j_st1, j_st2, j_stu, j_kl, j_cond, j_args, j_out, j_few, j_cw, j_nat, j_pad, j_exp, Nat.reduceAdd]
        refine b_X5_flowFor_75 hG ?_
        dsimp only [q_X5_flowFor_75, j_wp, j_opB, j_opA, j_nth, j_i1, j_i2, j_l1, j_l2, j_li, j_f1, j_f2, j_d1, j_d2, j_r1, j_ai, j_aii, j_ail, j_aid, j_air, j_st1, j_st2, j_stu, j_kl, j_cond, j_args, j_out, j_few, j_cw, j_nat, j_pad, j_exp, Nat.reduceAdd]
        exact ⟨trivial, H⟩
    | succ k ih =>
      intro r hr H
      unfold sFor at H
      have nx : (∀ y, y = true → (sIn S r 0 a && sIn S r 2 b && sIn S r 4 c) = y → False) → G 57 [.ref u, .int a, .int b, .int c, .int (nI r)] [] h := by
        intro z
        rw [if_neg (fun y => z true rfl y)] at H
        refine b_X5_flowFor_57 hG ?_
        dsimp only [q_X5_flowFor_57, j_wp, j_opB, j_opA, j_nth, j_i1, j_i2, j_l1, j_l2, j_li, j_f1, j_f2, j_d1, j_d2, j_r1, j_ai, j_aii, j_ail, j_aid, j_air, j_st1, j_st2, j_stu, j_kl, j_cond, j_args, j_out, j_few, j_cw, j_nat, j_pad, j_exp, Nat.reduceAdd]
        rw [nI_1]
        exact ih (r + 1) (by omega) H
      refine b_X5_flowFor_3 hG ?_
      dsimp only [q_X5_flowFor_3, j_wp, j_opB, j_opA, j_nth, j_i1, j_i2, j_l1, j_l2, j_li, j_f1, j_f2, j_d1, j_d2, j_r1, j_ai, j_aii, j_ail, j_aid, j_air, j_st1, j_st2, j_stu, j_kl, j_cond, j_args, j_out, j_few, j_cw, j_nat, j_pad, j_exp, Nat.reduceAdd]
      simp only [SK_sh s, SK_3 s, j_ref, j_ari, j_arb, j_arr, j_len, j_nar, j_oi, j_ol, j_of, j_od, j_or, j_ov, true_and, and_true]
      rw [if_pos (nI_lt (by omega) (by omega))]
      refine sp_X5_isInRange hl s hB (r := r) (c := 0) (by omega) (by omega) ?_
      simp only [j_ref, j_ari, j_arb, j_arr, j_len, j_nar, j_oi, j_ol, j_of, j_od, j_or, j_ov, true_and, and_true]
      by_cases g1 : sIn S r 0 a = true
      · simp only [g1, if_true]
        rw [if_neg (by decide)]
        refine sp_X5_isInRange hl s hB (r := r) (c := 2) (by omega) (by omega) ?_
        simp only [j_ref, j_ari, j_arb, j_arr, j_len, j_nar, j_oi, j_ol, j_of, j_od, j_or, j_ov, true_and, and_true]
        by_cases g2 : sIn S r 2 b = true
        · simp only [g2, if_true]
          rw [if_neg (by decide)]
          refine sp_X5_isInRange hl s hB (r := r) (c := 4) (by omega) (by omega) ?_
          simp only [j_ref, j_ari, j_arb, j_arr, j_len, j_nar, j_oi, j_ol, j_of, j_od, j_or, j_ov, true_and, and_true]
          by_cases g3 : sIn S r 4 c = true
          · simp only [g3, if_true]
            rw [if_neg (by decide)]
            rw [if_pos (by simp [g1, g2, g3])] at H
            simp only [SK_sh s, SK_r1 s, j_ref, j_ari, j_arb, j_arr, j_len, j_nar, j_oi, j_ol, j_of, j_od, j_or, j_ov, true_and, and_true]
            refine sp_X6_get hl hB (SK_tR s) (r := r) (k := 6) (by omega) (by omega) ?_
            rw [SK_r s (by omega) (by omega)]
            simp only [j_ref, j_ari, j_arb, j_arr, j_len, j_nar, j_oi, j_ol, j_of, j_od, j_or, j_ov, true_and, and_true]
            exact H
          · simp only [g3, Bool.false_eq_true, if_false, if_true]
            exact nx (fun y hy e => by simp [g1, g2, g3, hy] at e)
        · simp only [g2, Bool.false_eq_true, if_false, if_true]
          exact nx (fun y hy e => by simp [g1, g2, hy] at e)
      · simp only [g1, Bool.false_eq_true, if_false, if_true]
        exact nx (fun y hy e => by simp [g1, hy] at e)
  refine b_X5_flowFor_0 hG ?_
  dsimp only [q_X5_flowFor_0, j_wp, j_opB, j_opA, j_nth, j_i1, j_i2, j_l1, j_l2, j_li, j_f1, j_f2, j_d1, j_d2, j_r1, j_ai, j_aii, j_ail, j_aid, j_air, j_st1, j_st2, j_stu, j_kl, j_cond, j_args, j_out, j_few, j_cw, j_nat, j_pad, j_exp, Nat.reduceAdd]
  exact loop (sM S) 0 (by omega) H
end Set3
section Beg
variable {l : Launch} {D : va_G} {bs : Nat} {E : j_E} {h0 h : j_H} {a u : Nat} {L : Lnk} {d : Nat} {Q : j_O → j_H → Prop} {kp : Nat} {lt : Int32} {R : Nat → Nat → Int32} {S : Sup}
def lBegR (S : Sup) (f : Nat) : Nat → Nat → Lnk → Lnk
  | 0, _, L => L
  | k + 1, c, L => lBegR S f k (c + 1) (lsF L f c (if c < 7 then sF S f c else 0))
def lBegF (S : Sup) (f : Nat) (L : Lnk) : Lnk := lsV (lsF (lsF (lBegR S f 19 0 L) f 17 (-1)) f 18 (-1)) f 0
def lBegL (S : Sup) : Nat → Nat → Lnk → Lnk
  | 0, _, L => L
  | k + 1, f, L => lBegL S k (f + 1) (lBegF S f L)
def lBegX (S : Sup) (L : Lnk) : Lnk := lsX (lsX (lsX (lsX (lsX (lsX (lsX (lsX (lsX (lsX (lsX (lsX L 5 (nI (sN S))) 6 (sX S 4)) 7 (sX S 5)) 8 (sX S 6)) 9 0) 10 0) 11 0) 12 0) 13 0) 14 0) 15 0) 16 2000000000
def lBegin (S : Sup) (L : Lnk) : Lnk := lBegL S (sN S) 0 (lBegX S L)
theorem lX_lsF (L : Lnk) (r k : Nat) (v : Int32) : lX (lsF L r k v) = lX L := rfl
theorem lX_lsV (L : Lnk) (k : Nat) (v : Int64) : lX (lsV L k v) = lX L := rfl
theorem lBegR_X (S : Sup) (f j : Nat) : ∀ (k c : Nat) (L2 : Lnk), lX (lBegR S f k c L2) j = lX L2 j := by
  intro k
  induction k with
  | zero => intro c L2; rfl
  | succ k ih => intro c L2; unfold lBegR; rw [ih, lX_lsF]
theorem lBegF_X (S : Sup) (f j : Nat) (L : Lnk) : lX (lBegF S f L) j = lX L j := by
  unfold lBegF
  rw [lX_lsV, lX_lsF, lX_lsF, lBegR_X]
theorem sp_X1_beginFlow (hl : l.stackTraces = false) (s0 : LQ E h0 a L h) (k0 : SK h u S) (hd : u + 5 ≤ a ∨ a + 11 ≤ u) {f : Nat} (hf : f < 6) (H : ∀ h', LQ E h0 a (lBegF S f L) h' → Q (.inl none) h') : j_Met l D bs E (d + 2) n_X1_beginFlow [.ref a, .int (nI f), .ref (u + 1)] h Q := by
  have hB := s0.2.2
  have kb : ∀ {h' : j_H} {L' : Lnk}, LQ E h a L' h' → SK h' u S := fun q => SK_FA k0 (FA_Fr (A := fun b => a ≤ b ∧ b < a + 8) q.2.1 (fun b g1 g2 => ⟨g1, g2⟩)) (fun b g1 g2 => by omega)
  have up : ∀ {h' : j_H} {L' : Lnk}, LQ E h a L' h' → LQ E h0 a L' h' := fun q => ⟨q.1, Fr_tr s0.2.1 q.2.1, q.2.2⟩
  have s : LQ E h a L h := ⟨s0.1, Fr_rf, s0.2.2⟩
  unfold lBegF at H
  refine j_meth hl rfl g_X1_beginFlow (Nat.le_of_ble_eq_true rfl) (fun _ => ⟨_, _, rfl, (LQ_sh s)⟩) hB.1 hB.2 (fun G hG => ?_)
  have loop : ∀ (k c : Nat) (L1 : Lnk) (h1 : j_H), c + k = 19 → LQ E h a L1 h1 → (∀ h', LQ E h0 a (lsV (lsF (lsF (lBegR S f k c L1) f 17 (-1)) f 18 (-1)) f 0) h' → Q (.inl none) h') → G 2 [.ref a, .int (nI f), .ref (u + 1), .int (nI c)] [] h1 := by
    intro k
    induction k with
    | zero =>
      intro c L1 h1 hc s1 H
      have e : c = 19 := by omega
      subst e
      refine b_X1_beginFlow_2 hG ?_
      dsimp only [q_X1_beginFlow_2, j_wp, j_opB, j_opA, j_nth, j_i1, j_i2, j_l1, j_l2, j_li, j_f1, j_f2, j_d1, j_d2, j_r1, j_ai, j_aii, j_ail, j_aid, j_air, j_st1, j_st2, j_stu, j_kl, j_cond, j_args, j_out, j_few, j_cw, j_nat, j_pad, j_exp, Nat.reduceAdd]
      rw [if_neg (show ¬ nI 19 < 19 by decide)]
      refine b_X1_beginFlow_39 hG ?_
      dsimp only [q_X1_beginFlow_39, j_wp, j_opB, j_opA, j_nth, j_i1, j_i2, j_l1, j_l2, j_li, j_f1, j_f2, j_d1, j_d2, j_r1, j_ai, j_aii, j_ail, j_aid, j_air, j_st1, j_st2, j_stu, j_kl, j_cond, j_args, j_out, j_few, j_cw, j_nat, j_pad, j_exp, Nat.reduceAdd]
      simp only [LQ_sh s1, LQ_R0 s1, LQ_R1 s1, LQ_R2 s1, LQ_R3 s1, LQ_R4 s1, j_ref, j_ari, j_arb, j_arr, j_len, j_nar, j_oi, j_ol, j_of, j_od, j_or, j_ov, true_and, and_true]
      refine lf_set hl s1 hf (k := 17) (by omega) (fun h2 s2 => ?_)
      simp only [LQ_sh s2, LQ_R0 s2, LQ_R1 s2, LQ_R2 s2, LQ_R3 s2, LQ_R4 s2, j_ref, j_ari, j_arb, j_arr, j_len, j_nar, j_oi, j_ol, j_of, j_od, j_or, j_ov, true_and, and_true]
      refine lf_set hl s2 hf (k := 18) (by omega) (fun h3 s3 => ?_)
      simp only [LQ_sh s3, LQ_R0 s3, LQ_R1 s3, LQ_R2 s3, LQ_R3 s3, LQ_R4 s3, j_ref, j_ari, j_arb, j_arr, j_len, j_nar, j_oi, j_ol, j_of, j_od, j_or, j_ov, true_and, and_true]
      refine lz_put hl s3 hf (fun h4 s4 => ?_)
      simp only [j_ref, j_ari, j_arb, j_arr, j_len, j_nar, j_oi, j_ol, j_of, j_od, j_or, j_ov, true_and, and_true]
      exact H h4 (up s4)
    | succ k ih =>
      intro c L1 h1 hc s1 H
      unfold lBegR at H
      have fin : ∀ (v : Int32), v = (if c < 7 then sF S f c else 0) → G 30 [.ref a, .int (nI f), .ref (u + 1), .int (nI c)] [.int v, .int (nI c), .int (nI f), .ref (a + 1)] h1 := by
        intro v e
        subst e
        refine b_X1_beginFlow_30 hG ?_
        dsimp only [q_X1_beginFlow_30, j_wp, j_opB, j_opA, j_nth, j_i1, j_i2, j_l1, j_l2, j_li, j_f1, j_f2, j_d1, j_d2, j_r1, j_ai, j_aii, j_ail, j_aid, j_air, j_st1, j_st2, j_stu, j_kl, j_cond, j_args, j_out, j_few, j_cw, j_nat, j_pad, j_exp, Nat.reduceAdd]
        refine lf_set hl s1 hf (k := c) (by omega) (fun h2 s2 => ?_)
        simp only [j_ref, j_ari, j_arb, j_arr, j_len, j_nar, j_oi, j_ol, j_of, j_od, j_or, j_ov, true_and, and_true]
        rw [nI_1]
        exact ih (c + 1) _ h2 (by omega) s2 H
      refine b_X1_beginFlow_2 hG ?_
      dsimp only [q_X1_beginFlow_2, j_wp, j_opB, j_opA, j_nth, j_i1, j_i2, j_l1, j_l2, j_li, j_f1, j_f2, j_d1, j_d2, j_r1, j_ai, j_aii, j_ail, j_aid, j_air, j_st1, j_st2, j_stu, j_kl, j_cond, j_args, j_out, j_few, j_cw, j_nat, j_pad, j_exp, Nat.reduceAdd]
      rw [if_pos (show nI c < 19 from nI_lt (b := 19) (by omega) (by omega))]
      simp only [LQ_sh s1, LQ_R0 s1, LQ_R1 s1, LQ_R2 s1, LQ_R3 s1, LQ_R4 s1, j_ref, j_ari, j_arb, j_arr, j_len, j_nar, j_oi, j_ol, j_of, j_od, j_or, j_ov, true_and, and_true]
      by_cases g : c < 7
      · rw [if_pos (show nI c < 7 from nI_lt (b := 7) (by omega) (by omega))]
        refine sp_X6_get hl s1.2.2 (SK_tF (kb s1)) (r := f) (k := c) g (by omega) ?_
        rw [SK_f (kb s1) hf g]
        simp only [j_ref, j_ari, j_arb, j_arr, j_len, j_nar, j_oi, j_ol, j_of, j_od, j_or, j_ov, true_and, and_true]
        exact fin _ (by rw [if_pos g])
      · rw [if_neg (show ¬ nI c < 7 from nI_nlt (b := 7) (by omega) (by omega))]
        refine b_X1_beginFlow_29 hG ?_
        dsimp only [q_X1_beginFlow_29, j_wp, j_opB, j_opA, j_nth, j_i1, j_i2, j_l1, j_l2, j_li, j_f1, j_f2, j_d1, j_d2, j_r1, j_ai, j_aii, j_ail, j_aid, j_air, j_st1, j_st2, j_stu, j_kl, j_cond, j_args, j_out, j_few, j_cw, j_nat, j_pad, j_exp, Nat.reduceAdd]
        exact fin _ (by rw [if_neg g])
  refine b_X1_beginFlow_0 hG ?_
  dsimp only [q_X1_beginFlow_0, j_wp, j_opB, j_opA, j_nth, j_i1, j_i2, j_l1, j_l2, j_li, j_f1, j_f2, j_d1, j_d2, j_r1, j_ai, j_aii, j_ail, j_aid, j_air, j_st1, j_st2, j_stu, j_kl, j_cond, j_args, j_out, j_few, j_cw, j_nat, j_pad, j_exp, Nat.reduceAdd]
  exact loop 19 0 L h (by omega) s H
set_option maxRecDepth 16000 in
theorem sp_X1_begin (hl : l.stackTraces = false) (s : LR E h a L kp lt R h) (k0 : SK h u S) (hd : u + 5 ≤ a ∨ a + 11 ≤ u) (H : ∀ h', LR E h a (lBegin S L) 0 (-1) R h' → Q (.inl none) h') : j_Met l D bs E (d + 3) n_X1_begin [.ref a, .ref u] h Q := by
  have hB := s.2.2.2
  have hn := SK_n k0
  have q := LR_q s
  have kb : ∀ {h' : j_H} {L' : Lnk}, LQ E h a L' h' → SK h' u S := fun q => SK_FA k0 (FA_Fr (A := fun b => a ≤ b ∧ b < a + 8) q.2.1 (fun b g1 g2 => ⟨g1, g2⟩)) (fun b g1 g2 => by omega)
  unfold lBegin at H
  refine j_meth hl rfl g_X1_begin (Nat.le_of_ble_eq_true rfl) (fun _ => ⟨_, _, rfl, (LQ_sh q)⟩) hB.1 hB.2 (fun G hG => ?_)
  refine b_X1_begin_0 hG ?_
  dsimp only [q_X1_begin_0, j_wp, j_opB, j_opA, j_nth, j_i1, j_i2, j_l1, j_l2, j_li, j_f1, j_f2, j_d1, j_d2, j_r1, j_ai, j_aii, j_ail, j_aid, j_air, j_st1, j_st2, j_stu, j_kl, j_cond, j_args, j_out, j_few, j_cw, j_nat, j_pad, j_exp, Nat.reduceAdd]
  simp only [LQ_sh q, LQ_R0 q, LQ_R1 q, LQ_R2 q, LQ_R3 q, LQ_R4 q, j_ref, j_ari, j_arb, j_arr, j_len, j_nar, j_oi, j_ol, j_of, j_od, j_or, j_ov, true_and, and_true, SK_sh (kb q), SK_2 (kb q)]
  have q5 := LQ_X q 5 (nI (sN S))
  simp only [LQ_sh q5, LQ_R0 q5, LQ_R1 q5, LQ_R2 q5, LQ_R3 q5, LQ_R4 q5, j_ref, j_ari, j_arb, j_arr, j_len, j_nar, j_oi, j_ol, j_of, j_od, j_or, j_ov, true_and, and_true, SK_sh (kb q5), SK_x (kb q5) (k := 4) (by omega) (by omega)]
  have q6 := LQ_X q5 6 (sX S 4)
  simp only [LQ_sh q6, LQ_R0 q6, LQ_R1 q6, LQ_R2 q6, LQ_R3 q6, LQ_R4 q6, j_ref, j_ari, j_arb, j_arr, j_len, j_nar, j_oi, j_ol, j_of, j_od, j_or, j_ov, true_and, and_true, SK_sh (kb q6), SK_x (kb q6) (k := 5) (by omega) (by omega)]
  have q7 := LQ_X q6 7 (sX S 5)
  simp only [LQ_sh q7, LQ_R0 q7, LQ_R1 q7, LQ_R2 q7, LQ_R3 q7, LQ_R4 q7, j_ref, j_ari, j_arb, j_arr, j_len, j_nar, j_oi, j_ol, j_of, j_od, j_or, j_ov, true_and, and_true, SK_sh (kb q7), SK_x (kb q7) (k := 6) (by omega) (by omega)]
  have q8 := LQ_X q7 8 (sX S 6)
  simp only [LQ_sh q8, LQ_R0 q8, LQ_R1 q8, LQ_R2 q8, LQ_R3 q8, LQ_R4 q8, j_ref, j_ari, j_arb, j_arr, j_len, j_nar, j_oi, j_ol, j_of, j_od, j_or, j_ov, true_and, and_true]
  have q9 := LQ_X q8 9 0
  simp only [LQ_sh q9, LQ_R0 q9, LQ_R1 q9, LQ_R2 q9, LQ_R3 q9, LQ_R4 q9, j_ref, j_ari, j_arb, j_arr, j_len, j_nar, j_oi, j_ol, j_of, j_od, j_or, j_ov, true_and, and_true]
  have q10 := LQ_X q9 10 0
  simp only [LQ_sh q10, LQ_R0 q10, LQ_R1 q10, LQ_R2 q10, LQ_R3 q10, LQ_R4 q10, j_ref, j_ari, j_arb, j_arr, j_len, j_nar, j_oi, j_ol, j_of, j_od, j_or, j_ov, true_and, and_true]
  have q11 := LQ_X q10 11 0
  simp only [LQ_sh q11, LQ_R0 q11, LQ_R1 q11, LQ_R2 q11, LQ_R3 q11, LQ_R4 q11, j_ref, j_ari, j_arb, j_arr, j_len, j_nar, j_oi, j_ol, j_of, j_od, j_or, j_ov, true_and, and_true]
  have q12 := LQ_X q11 12 0
  simp only [LQ_sh q12, LQ_R0 q12, LQ_R1 q12, LQ_R2 q12, LQ_R3 q12, LQ_R4 q12, j_ref, j_ari, j_arb, j_arr, j_len, j_nar, j_oi, j_ol, j_of, j_od, j_or, j_ov, true_and, and_true]
  have q13 := LQ_X q12 13 0
  simp only [LQ_sh q13, LQ_R0 q13, LQ_R1 q13, LQ_R2 q13, LQ_R3 q13, LQ_R4 q13, j_ref, j_ari, j_arb, j_arr, j_len, j_nar, j_oi, j_ol, j_of, j_od, j_or, j_ov, true_and, and_true]
  have q14 := LQ_X q13 14 0
  simp only [LQ_sh q14, LQ_R0 q14, LQ_R1 q14, LQ_R2 q14, LQ_R3 q14, LQ_R4 q14, j_ref, j_ari, j_arb, j_arr, j_len, j_nar, j_oi, j_ol, j_of, j_od, j_or, j_ov, true_and, and_true]
  have q15 := LQ_X q14 15 0
  simp only [LQ_sh q15, LQ_R0 q15, LQ_R1 q15, LQ_R2 q15, LQ_R3 q15, LQ_R4 q15, j_ref, j_ari, j_arb, j_arr, j_len, j_nar, j_oi, j_ol, j_of, j_od, j_or, j_ov, true_and, and_true]
  have q16 := LQ_X q15 16 2000000000
  have t : LQ E h a (lBegX S L) _ := q16
  clear q5 q6 q7 q8 q9 q10 q11 q12 q13 q14 q15 q16
  simp only [LQ_sh t, LQ_R0 t, LQ_R1 t, LQ_R2 t, LQ_R3 t, LQ_R4 t, j_ref, j_ari, j_arb, j_arr, j_len, j_nar, j_oi, j_ol, j_of, j_od, j_or, j_ov, true_and, and_true]
  have r1 := LR_of s t
  refine sp_X4_reset hl r1 (fun h1 r2 => ?_)
  simp only [j_ref, j_ari, j_arb, j_arr, j_len, j_nar, j_oi, j_ol, j_of, j_od, j_or, j_ov, true_and, and_true, j_st1]
  have k1 : SK h1 u S := SK_FA k0 (FA_Fr (A := fun b => a ≤ b ∧ b < a + 11) r2.2.2.1 (fun b g1 g2 => ⟨g1, g2⟩)) (fun b g1 g2 => by omega)
  have kb1 : ∀ {h' : j_H} {L' : Lnk}, LQ E h1 a L' h' → SK h' u S := fun q => SK_FA k1 (FA_Fr (A := fun b => a ≤ b ∧ b < a + 8) q.2.1 (fun b g1 g2 => ⟨g1, g2⟩)) (fun b g1 g2 => by omega)
  have loop : ∀ (k f : Nat) (L1 : Lnk) (h2 : j_H), f + k = sN S → lX L1 5 = nI (sN S) → LQ E h1 a L1 h2 → (∀ h', LR E h a (lBegL S k f L1) 0 (-1) R h' → Q (.inl none) h') → G 82 [.ref a, .ref u, .int (nI f)] [] h2 := by
    intro k
    induction k with
    | zero =>
      intro f L1 h2 hf hx s1 H
      refine b_X1_begin_82 hG ?_
      dsimp only [q_X1_begin_82, j_wp, j_opB, j_opA, j_nth, j_i1, j_i2, j_l1, j_l2, j_li, j_f1, j_f2, j_d1, j_d2, j_r1, j_ai, j_aii, j_ail, j_aid, j_air, j_st1, j_st2, j_stu, j_kl, j_cond, j_args, j_out, j_few, j_cw, j_nat, j_pad, j_exp, Nat.reduceAdd]
      simp only [LQ_sh s1, LQ_R0 s1, LQ_R1 s1, LQ_R2 s1, LQ_R3 s1, LQ_R4 s1, j_ref, j_ari, j_arb, j_arr, j_len, j_nar, j_oi, j_ol, j_of, j_od, j_or, j_ov, true_and, and_true, LQ_x5 s1, hx]
      rw [if_neg (nI_nlt (by omega) (by omega))]
      refine b_X1_begin_105 hG ?_
      dsimp only [q_X1_begin_105, j_wp, j_opB, j_opA, j_nth, j_i1, j_i2, j_l1, j_l2, j_li, j_f1, j_f2, j_d1, j_d2, j_r1, j_ai, j_aii, j_ail, j_aid, j_air, j_st1, j_st2, j_stu, j_kl, j_cond, j_args, j_out, j_few, j_cw, j_nat, j_pad, j_exp, Nat.reduceAdd]
      exact H h2 (LR_of r2 s1)
    | succ k ih =>
      intro f L1 h2 hf hx s1 H
      refine b_X1_begin_82 hG ?_
      dsimp only [q_X1_begin_82, j_wp, j_opB, j_opA, j_nth, j_i1, j_i2, j_l1, j_l2, j_li, j_f1, j_f2, j_d1, j_d2, j_r1, j_ai, j_aii, j_ail, j_aid, j_air, j_st1, j_st2, j_stu, j_kl, j_cond, j_args, j_out, j_few, j_cw, j_nat, j_pad, j_exp, Nat.reduceAdd]
      simp only [LQ_sh s1, LQ_R0 s1, LQ_R1 s1, LQ_R2 s1, LQ_R3 s1, LQ_R4 s1, j_ref, j_ari, j_arb, j_arr, j_len, j_nar, j_oi, j_ol, j_of, j_od, j_or, j_ov, true_and, and_true, LQ_x5 s1, hx, SK_sh (kb1 s1), SK_r0 (kb1 s1)]
      rw [if_pos (nI_lt (by omega) (by omega))]
      refine sp_X1_beginFlow hl s1 (kb1 s1) hd (f := f) (by omega) (fun h3 s3 => ?_)
      simp only [j_ref, j_ari, j_arb, j_arr, j_len, j_nar, j_oi, j_ol, j_of, j_od, j_or, j_ov, true_and, and_true]
      rw [nI_1]
      refine ih (f + 1) _ h3 (by omega) ?_ s3 H
      rw [lBegF_X]
      exact hx
  refine loop (sN S) 0 _ h1 (by omega) ?_ (LR_q r2) H
  rfl
end Beg
