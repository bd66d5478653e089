/-! ===== Text: words, numbers, opening, feeding ===== -/
section TxtB
variable {l : Launch} {D : va_G} {bs : Nat} {E : j_E} {h : j_H} {x : Nat} {d : Nat} {Q : j_O → j_H → Prop} {B : Nat → Int32} {sz len : Nat} {p : Tk}
theorem sp_X7_isWord (hl : l.stackTraces = false) (hJ : JS l D bs E) (t : TX h x B sz len p) (hB : j_bd E h) (ok : tkOk len p) {a : Nat} {w : List Nat} (k : kst h a w) (H : Q (.inl (some (.int (if tIsW B p w = true then 1 else 0)))) h) : j_Met l D bs E (d + 4) n_X7_isWord [.ref x, .ref a] h Q := by
  have hlen := TX_l t
  have hw : w.length < 1000 := k.2.2.1
  obtain ⟨o1, o2, o3, o4, o5⟩ := ok
  unfold tIsW at H
  refine j_meth hl rfl g_X7_isWord (Nat.le_of_ble_eq_true rfl) (fun _ => ⟨_, _, rfl, t.1⟩) hB.1 hB.2 (fun G hG => ?_)
  refine b_X7_isWord_0 hG ?_
  dsimp only [q_X7_isWord_0, j_wp, j_opB, j_opA, j_nth, j_i1, j_i2, j_l1, j_l2, j_li, j_f1, j_f2, j_d1, j_d2, j_r1, j_ai, j_aii, j_ail, j_aid, j_air, j_st1, j_st2, j_stu, j_kl, j_cond, j_args, j_out, j_few, j_cw, j_nat, j_pad, j_exp, Nat.reduceAdd]
  simp only [TX_sh t, TX_3 t, TX_4 t, TX_5 t, j_ref, j_ari, j_arb, j_arr, j_len, j_nar, j_oi, j_ol, j_of, j_od, j_or, j_ov, true_and, and_true]
  by_cases g : tkK p = 2
  · rw [if_pos (show nI (tkK p) = 2 by rw [g]; decide)]
    refine hJ.1 (d + 1) h a w _ k hB ?_
    simp only [j_ref, j_ari, j_arb, j_arr, j_len, j_nar, j_oi, j_ol, j_of, j_od, j_or, j_ov, true_and, and_true]
    rw [pk_sub o2]
    by_cases g2 : tkE p = tkS p + w.length
    · rw [if_pos (show nI (tkE p - tkS p) = nI w.length by rw [g2]; congr 1; omega)]
      refine b_X7_isWord_26 hG ?_
      dsimp only [q_X7_isWord_26, j_wp, j_opB, j_opA, j_nth, j_i1, j_i2, j_l1, j_l2, j_li, j_f1, j_f2, j_d1, j_d2, j_r1, j_ai, j_aii, j_ail, j_aid, j_air, j_st1, j_st2, j_stu, j_kl, j_cond, j_args, j_out, j_few, j_cw, j_nat, j_pad, j_exp, Nat.reduceAdd]
      have loop : ∀ (n i : Nat), i + n = w.length → (∀ j, j < i → B (tkS p + j) = nI (w.getD j 0)) → G 28 [.ref x, .ref a, .int (nI i)] [] h := by
        intro n
        induction n with
        | zero =>
          intro i hi hall
          refine b_X7_isWord_28 hG ?_
          dsimp only [q_X7_isWord_28, j_wp, j_opB, j_opA, j_nth, j_i1, j_i2, j_l1, j_l2, j_li, j_f1, j_f2, j_d1, j_d2, j_r1, j_ai, j_aii, j_ail, j_aid, j_air, j_st1, j_st2, j_stu, j_kl, j_cond, j_args, j_out, j_few, j_cw, j_nat, j_pad, j_exp, Nat.reduceAdd]
          refine hJ.1 (d + 1) h a w _ k hB ?_
          simp only [j_ref, j_ari, j_arb, j_arr, j_len, j_nar, j_oi, j_ol, j_of, j_od, j_or, j_ov, true_and, and_true]
          rw [if_neg (nI_nlt (by omega) (by omega))]
          refine b_X7_isWord_62 hG ?_
          dsimp only [q_X7_isWord_62, j_wp, j_opB, j_opA, j_nth, j_i1, j_i2, j_l1, j_l2, j_li, j_f1, j_f2, j_d1, j_d2, j_r1, j_ai, j_aii, j_ail, j_aid, j_air, j_st1, j_st2, j_stu, j_kl, j_cond, j_args, j_out, j_few, j_cw, j_nat, j_pad, j_exp, Nat.reduceAdd]
          have hall' : ∀ j, j < w.length → B (tkS p + j) = nI (w.getD j 0) := fun j hj => hall j (by omega)
          simp only [g, decide_true, Bool.true_and] at H
          rw [if_pos (by simp only [Bool.and_eq_true, decide_eq_true_eq]; exact ⟨g2, hall'⟩)] at H
          exact ⟨Or.inr rfl, H⟩
        | succ n ih =>
          intro i hi hall
          refine b_X7_isWord_28 hG ?_
          dsimp only [q_X7_isWord_28, j_wp, j_opB, j_opA, j_nth, j_i1, j_i2, j_l1, j_l2, j_li, j_f1, j_f2, j_d1, j_d2, j_r1, j_ai, j_aii, j_ail, j_aid, j_air, j_st1, j_st2, j_stu, j_kl, j_cond, j_args, j_out, j_few, j_cw, j_nat, j_pad, j_exp, Nat.reduceAdd]
          refine hJ.1 (d + 1) h a w _ k hB ?_
          simp only [TX_sh t, TX_4 t, j_ref, j_ari, j_arb, j_arr, j_len, j_nar, j_oi, j_ol, j_of, j_od, j_or, j_ov, true_and, and_true]
          rw [if_pos (nI_lt (by omega) (by omega)), nI_add]
          refine sp_X7_byteAt hl t hB (i := tkS p + i) (by omega) ?_
          simp only [j_ref, j_ari, j_arb, j_arr, j_len, j_nar, j_oi, j_ol, j_of, j_od, j_or, j_ov, true_and, and_true]
          refine hJ.2 d h a w i _ k hB (by omega) ?_
          simp only [j_ref, j_ari, j_arb, j_arr, j_len, j_nar, j_oi, j_ol, j_of, j_od, j_or, j_ov, true_and, and_true]
          by_cases g3 : B (tkS p + i) = nI (w.getD i 0)
          · rw [if_pos g3]
            refine b_X7_isWord_56 hG ?_
            dsimp only [q_X7_isWord_56, j_wp, j_opB, j_opA, j_nth, j_i1, j_i2, j_l1, j_l2, j_li, j_f1, j_f2, j_d1, j_d2, j_r1, j_ai, j_aii, j_ail, j_aid, j_air, j_st1, j_st2, j_stu, j_kl, j_cond, j_args, j_out, j_few, j_cw, j_nat, j_pad, j_exp, Nat.reduceAdd]
            rw [nI_1]
            refine ih (i + 1) (by omega) (fun j hj => ?_)
            by_cases e : j = i
            · rw [e]; exact g3
            · exact hall j (by omega)
          · rw [if_neg g3]
            rw [if_neg (by simp only [Bool.and_eq_true, decide_eq_true_eq]; exact fun z => g3 (z.2.2 i (by omega)))] at H
            exact ⟨Or.inl (by first | rfl | trivial), H⟩
      exact loop w.length 0 (by omega) (fun j hj => absurd hj (by omega))
    · rw [if_neg (fun z => g2 (by have := (nI_eq (by omega) (by omega)).mp z; omega))]
      refine b_X7_isWord_24 hG ?_
      dsimp only [q_X7_isWord_24, j_wp, j_opB, j_opA, j_nth, j_i1, j_i2, j_l1, j_l2, j_li, j_f1, j_f2, j_d1, j_d2, j_r1, j_ai, j_aii, j_ail, j_aid, j_air, j_st1, j_st2, j_stu, j_kl, j_cond, j_args, j_out, j_few, j_cw, j_nat, j_pad, j_exp, Nat.reduceAdd]
      rw [if_neg (by simp only [Bool.and_eq_true, decide_eq_true_eq]; exact fun z => g2 z.2.1)] at H
      exact ⟨Or.inl rfl, H⟩
  · rw [if_neg (show ¬ nI (tkK p) = 2 from fun z => g ((nI_eq (by omega) (by omega)).mp (show nI (tkK p) = nI 2 from z)))]
    rw [if_neg (by simp only [Bool.and_eq_true, decide_eq_true_eq]; exact fun z => g z.1)] at H
    refine b_X7_isWord_24 hG ?_
    dsimp only [q_X7_isWord_24, j_wp, j_opB, j_opA, j_nth, j_i1, j_i2, j_l1, j_l2, j_li, j_f1, j_f2, j_d1, j_d2, j_r1, j_ai, j_aii, j_ail, j_aid, j_air, j_st1, j_st2, j_stu, j_kl, j_cond, j_args, j_out, j_few, j_cw, j_nat, j_pad, j_exp, Nat.reduceAdd]
    exact ⟨Or.inl rfl, H⟩
theorem sp_X7_number (hl : l.stackTraces = false) (t : TX h x B sz len p) (hB : j_bd E h) (ok : tkOk len p) (H : Q (.inl (some (.int (tNum B p)))) h) : j_Met l D bs E (d + 2) n_X7_number [.ref x] h Q := by
  have hlen := TX_l t
  obtain ⟨o1, o2, o3, o4, o5⟩ := ok
  unfold tNum at H
  refine j_meth hl rfl g_X7_number (Nat.le_of_ble_eq_true rfl) (fun _ => ⟨_, _, rfl, t.1⟩) hB.1 hB.2 (fun G hG => ?_)
  refine b_X7_number_0 hG ?_
  dsimp only [q_X7_number_0, j_wp, j_opB, j_opA, j_nth, j_i1, j_i2, j_l1, j_l2, j_li, j_f1, j_f2, j_d1, j_d2, j_r1, j_ai, j_aii, j_ail, j_aid, j_air, j_st1, j_st2, j_stu, j_kl, j_cond, j_args, j_out, j_few, j_cw, j_nat, j_pad, j_exp, Nat.reduceAdd]
  simp only [TX_sh t, TX_4 t, j_ref, j_ari, j_arb, j_arr, j_len, j_nar, j_oi, j_ol, j_of, j_od, j_or, j_ov, true_and, and_true]
  have loop : ∀ (k i : Nat) (n : Int32), i + k = tkE p → Q (.inl (some (.int (tNumL B k i n)))) h → G 7 [.ref x, .int n, .int (nI i)] [] h := by
    intro k
    induction k with
    | zero =>
      intro i n hi H
      refine b_X7_number_7 hG ?_
      dsimp only [q_X7_number_7, j_wp, j_opB, j_opA, j_nth, j_i1, j_i2, j_l1, j_l2, j_li, j_f1, j_f2, j_d1, j_d2, j_r1, j_ai, j_aii, j_ail, j_aid, j_air, j_st1, j_st2, j_stu, j_kl, j_cond, j_args, j_out, j_few, j_cw, j_nat, j_pad, j_exp, Nat.reduceAdd]
      simp only [TX_sh t, TX_5 t, j_ref, j_ari, j_arb, j_arr, j_len, j_nar, j_oi, j_ol, j_of, j_od, j_or, j_ov, true_and, and_true]
      rw [if_neg (nI_nlt (by omega) (by omega))]
      refine b_X7_number_40 hG ?_
      dsimp only [q_X7_number_40, j_wp, j_opB, j_opA, j_nth, j_i1, j_i2, j_l1, j_l2, j_li, j_f1, j_f2, j_d1, j_d2, j_r1, j_ai, j_aii, j_ail, j_aid, j_air, j_st1, j_st2, j_stu, j_kl, j_cond, j_args, j_out, j_few, j_cw, j_nat, j_pad, j_exp, Nat.reduceAdd]
      exact ⟨trivial, H⟩
    | succ k ih =>
      intro i n hi H
      refine b_X7_number_7 hG ?_
      dsimp only [q_X7_number_7, j_wp, j_opB, j_opA, j_nth, j_i1, j_i2, j_l1, j_l2, j_li, j_f1, j_f2, j_d1, j_d2, j_r1, j_ai, j_aii, j_ail, j_aid, j_air, j_st1, j_st2, j_stu, j_kl, j_cond, j_args, j_out, j_few, j_cw, j_nat, j_pad, j_exp, Nat.reduceAdd]
      simp only [TX_sh t, TX_5 t, j_ref, j_ari, j_arb, j_arr, j_len, j_nar, j_oi, j_ol, j_of, j_od, j_or, j_ov, true_and, and_true]
      rw [if_pos (nI_lt (by omega) (by omega))]
      refine sp_X7_byteAt hl t hB (i := i) (by omega) ?_
      simp only [j_ref, j_ari, j_arb, j_arr, j_len, j_nar, j_oi, j_ol, j_of, j_od, j_or, j_ov, true_and, and_true, j_st1]
      rw [nI_1]
      exact ih (i + 1) _ (by omega) H
  exact loop (tkE p - tkS p) (tkS p) 0 (by omega) H
theorem sp_X7_takeNumber (hl : l.stackTraces = false) (t : TX h x B sz len p) (hB : j_bd E h) (ok : tkOk len p) {lo hi : Int32} (H : ∀ h', TX h' x B sz len (tTake B len p lo hi).2 → Fr x (x + 1) h h' → Q (.inl (some (.int (tTake B len p lo hi).1))) h') : j_Met l D bs E (d + 3) n_X7_takeNumber [.ref x, .int lo, .int hi] h Q := by
  have hk := ok.1
  unfold tTake at H
  refine j_meth hl rfl g_X7_takeNumber (Nat.le_of_ble_eq_true rfl) (fun _ => ⟨_, _, rfl, t.1⟩) hB.1 hB.2 (fun G hG => ?_)
  refine b_X7_takeNumber_0 hG ?_
  dsimp only [q_X7_takeNumber_0, j_wp, j_opB, j_opA, j_nth, j_i1, j_i2, j_l1, j_l2, j_li, j_f1, j_f2, j_d1, j_d2, j_r1, j_ai, j_aii, j_ail, j_aid, j_air, j_st1, j_st2, j_stu, j_kl, j_cond, j_args, j_out, j_few, j_cw, j_nat, j_pad, j_exp, Nat.reduceAdd]
  simp only [TX_sh t, TX_3 t, j_ref, j_ari, j_arb, j_arr, j_len, j_nar, j_oi, j_ol, j_of, j_od, j_or, j_ov, true_and, and_true]
  by_cases g : tkK p = 3
  · rw [if_pos (show nI (tkK p) = 3 by rw [g]; decide)]
    rw [if_pos g] at H
    refine b_X7_takeNumber_15 hG ?_
    dsimp only [q_X7_takeNumber_15, j_wp, j_opB, j_opA, j_nth, j_i1, j_i2, j_l1, j_l2, j_li, j_f1, j_f2, j_d1, j_d2, j_r1, j_ai, j_aii, j_ail, j_aid, j_air, j_st1, j_st2, j_stu, j_kl, j_cond, j_args, j_out, j_few, j_cw, j_nat, j_pad, j_exp, Nat.reduceAdd]
    refine sp_X7_number hl t hB ok ?_
    simp only [j_ref, j_ari, j_arb, j_arr, j_len, j_nar, j_oi, j_ol, j_of, j_od, j_or, j_ov, true_and, and_true, j_st1]
    have bad : (∀ h', TX h' x B sz len (tFail p 2) → Fr x (x + 1) h h' → Q (.inl (some (.int lo))) h') → G 30 [.ref x, .int lo, .int hi, .int (tNum B p)] [] h := by
      intro H
      refine b_X7_takeNumber_30 hG ?_
      dsimp only [q_X7_takeNumber_30, j_wp, j_opB, j_opA, j_nth, j_i1, j_i2, j_l1, j_l2, j_li, j_f1, j_f2, j_d1, j_d2, j_r1, j_ai, j_aii, j_ail, j_aid, j_air, j_st1, j_st2, j_stu, j_kl, j_cond, j_args, j_out, j_few, j_cw, j_nat, j_pad, j_exp, Nat.reduceAdd]
      refine sp_X7_fail hl t hB ok (fun h1 t1 f1 => ?_)
      simp only [j_ref, j_ari, j_arb, j_arr, j_len, j_nar, j_oi, j_ol, j_of, j_od, j_or, j_ov, true_and, and_true]
      exact H h1 t1 f1
    by_cases g1 : tNum B p < lo
    · rw [if_pos g1]
      rw [if_pos (Or.inl g1)] at H
      exact bad H
    · rw [if_neg g1]
      by_cases g2 : hi < tNum B p
      · rw [if_pos g2]
        rw [if_pos (Or.inr g2)] at H
        exact bad H
      · rw [if_neg g2]
        rw [if_neg (fun z => z.elim g1 g2)] at H
        refine b_X7_takeNumber_37 hG ?_
        dsimp only [q_X7_takeNumber_37, j_wp, j_opB, j_opA, j_nth, j_i1, j_i2, j_l1, j_l2, j_li, j_f1, j_f2, j_d1, j_d2, j_r1, j_ai, j_aii, j_ail, j_aid, j_air, j_st1, j_st2, j_stu, j_kl, j_cond, j_args, j_out, j_few, j_cw, j_nat, j_pad, j_exp, Nat.reduceAdd]
        refine sp_X7_next hl t hB ok (fun h1 t1 f1 => ?_)
        simp only [j_ref, j_ari, j_arb, j_arr, j_len, j_nar, j_oi, j_ol, j_of, j_od, j_or, j_ov, true_and, and_true]
        exact H h1 t1 f1
  · rw [if_neg (show ¬ nI (tkK p) = 3 from fun z => g ((nI_eq (by omega) (by omega)).mp (show nI (tkK p) = nI 3 from z)))]
    rw [if_neg g] at H
    refine sp_X7_fail hl t hB ok (fun h1 t1 f1 => ?_)
    simp only [j_ref, j_ari, j_arb, j_arr, j_len, j_nar, j_oi, j_ol, j_of, j_od, j_or, j_ov, true_and, and_true]
    exact H h1 t1 f1
theorem sp_X7_takeSign (hl : l.stackTraces = false) (t : TX h x B sz len p) (hB : j_bd E h) (ok : tkOk len p) {c : Nat} (H : ∀ h', TX h' x B sz len (tSign B len p c) → Fr x (x + 1) h h' → Q (.inl none) h') : j_Met l D bs E (d + 3) n_X7_takeSign [.ref x, .int (nI c)] h Q := by
  unfold tSign at H
  refine j_meth hl rfl g_X7_takeSign (Nat.le_of_ble_eq_true rfl) (fun _ => ⟨_, _, rfl, t.1⟩) hB.1 hB.2 (fun G hG => ?_)
  refine b_X7_takeSign_0 hG ?_
  dsimp only [q_X7_takeSign_0, j_wp, j_opB, j_opA, j_nth, j_i1, j_i2, j_l1, j_l2, j_li, j_f1, j_f2, j_d1, j_d2, j_r1, j_ai, j_aii, j_ail, j_aid, j_air, j_st1, j_st2, j_stu, j_kl, j_cond, j_args, j_out, j_few, j_cw, j_nat, j_pad, j_exp, Nat.reduceAdd]
  refine sp_X7_isSign hl t hB ok ?_
  simp only [j_ref, j_ari, j_arb, j_arr, j_len, j_nar, j_oi, j_ol, j_of, j_od, j_or, j_ov, true_and, and_true]
  by_cases g : tIsS B p c = true
  · simp only [g, if_true] at H ⊢
    rw [if_neg (by decide)]
    refine b_X7_takeSign_13 hG ?_
    dsimp only [q_X7_takeSign_13, j_wp, j_opB, j_opA, j_nth, j_i1, j_i2, j_l1, j_l2, j_li, j_f1, j_f2, j_d1, j_d2, j_r1, j_ai, j_aii, j_ail, j_aid, j_air, j_st1, j_st2, j_stu, j_kl, j_cond, j_args, j_out, j_few, j_cw, j_nat, j_pad, j_exp, Nat.reduceAdd]
    refine sp_X7_next hl t hB ok (fun h1 t1 f1 => ?_)
    simp only [j_ref, j_ari, j_arb, j_arr, j_len, j_nar, j_oi, j_ol, j_of, j_od, j_or, j_ov, true_and, and_true]
    exact H h1 t1 f1
  · simp only [g, if_false, Bool.false_eq_true, if_true] at H ⊢
    refine sp_X7_fail hl t hB ok (fun h1 t1 f1 => ?_)
    simp only [j_ref, j_ari, j_arb, j_arr, j_len, j_nar, j_oi, j_ol, j_of, j_od, j_or, j_ov, true_and, and_true]
    refine b_X7_takeSign_13 hG ?_
    dsimp only [q_X7_takeSign_13, j_wp, j_opB, j_opA, j_nth, j_i1, j_i2, j_l1, j_l2, j_li, j_f1, j_f2, j_d1, j_d2, j_r1, j_ai, j_aii, j_ail, j_aid, j_air, j_st1, j_st2, j_stu, j_kl, j_cond, j_args, j_out, j_few, j_cw, j_nat, j_pad, j_exp, Nat.reduceAdd]
    refine sp_X7_next hl t1 (Fr_bd f1 hB) (tFail_ok ok) (fun h2 t2 f2 => ?_)
    simp only [j_ref, j_ari, j_arb, j_arr, j_len, j_nar, j_oi, j_ol, j_of, j_od, j_or, j_ov, true_and, and_true]
    exact H h2 t2 (Fr_tr f1 f2)
theorem sp_X7_takeWord (hl : l.stackTraces = false) (hJ : JS l D bs E) (t : TX h x B sz len p) (hB : j_bd E h) (ok : tkOk len p) {a : Nat} {w : List Nat} (k : kst h a w) (H : ∀ h', TX h' x B sz len (tWord B len p w) → Fr x (x + 1) h h' → Q (.inl none) h') : j_Met l D bs E (d + 5) n_X7_takeWord [.ref x, .ref a] h Q := by
  unfold tWord at H
  refine j_meth hl rfl g_X7_takeWord (Nat.le_of_ble_eq_true rfl) (fun _ => ⟨_, _, rfl, t.1⟩) hB.1 hB.2 (fun G hG => ?_)
  refine b_X7_takeWord_0 hG ?_
  dsimp only [q_X7_takeWord_0, j_wp, j_opB, j_opA, j_nth, j_i1, j_i2, j_l1, j_l2, j_li, j_f1, j_f2, j_d1, j_d2, j_r1, j_ai, j_aii, j_ail, j_aid, j_air, j_st1, j_st2, j_stu, j_kl, j_cond, j_args, j_out, j_few, j_cw, j_nat, j_pad, j_exp, Nat.reduceAdd]
  refine sp_X7_isWord hl hJ t hB ok k ?_
  simp only [j_ref, j_ari, j_arb, j_arr, j_len, j_nar, j_oi, j_ol, j_of, j_od, j_or, j_ov, true_and, and_true]
  by_cases g : tIsW B p w = true
  · simp only [g, if_true] at H ⊢
    rw [if_neg (by decide)]
    refine b_X7_takeWord_13 hG ?_
    dsimp only [q_X7_takeWord_13, j_wp, j_opB, j_opA, j_nth, j_i1, j_i2, j_l1, j_l2, j_li, j_f1, j_f2, j_d1, j_d2, j_r1, j_ai, j_aii, j_ail, j_aid, j_air, j_st1, j_st2, j_stu, j_kl, j_cond, j_args, j_out, j_few, j_cw, j_nat, j_pad, j_exp, Nat.reduceAdd]
    refine sp_X7_next hl t hB ok (fun h1 t1 f1 => ?_)
    simp only [j_ref, j_ari, j_arb, j_arr, j_len, j_nar, j_oi, j_ol, j_of, j_od, j_or, j_ov, true_and, and_true]
    exact H h1 t1 f1
  · simp only [g, if_false, Bool.false_eq_true, if_true] at H ⊢
    refine sp_X7_fail hl t hB ok (fun h1 t1 f1 => ?_)
    simp only [j_ref, j_ari, j_arb, j_arr, j_len, j_nar, j_oi, j_ol, j_of, j_od, j_or, j_ov, true_and, and_true]
    refine b_X7_takeWord_13 hG ?_
    dsimp only [q_X7_takeWord_13, j_wp, j_opB, j_opA, j_nth, j_i1, j_i2, j_l1, j_l2, j_li, j_f1, j_f2, j_d1, j_d2, j_r1, j_ai, j_aii, j_ail, j_aid, j_air, j_st1, j_st2, j_stu, j_kl, j_cond, j_args, j_out, j_few, j_cw, j_nat, j_pad, j_exp, Nat.reduceAdd]
    refine sp_X7_next hl t1 (Fr_bd f1 hB) (tFail_ok ok) (fun h2 t2 f2 => ?_)
    simp only [j_ref, j_ari, j_arb, j_arr, j_len, j_nar, j_oi, j_ol, j_of, j_od, j_or, j_ov, true_and, and_true]
    exact H h2 t2 (Fr_tr f1 f2)
def tEnd (p : Tk) : Tk := if tkK p = 0 then p else tFail p 1
theorem sp_X7_requireEnd (hl : l.stackTraces = false) (t : TX h x B sz len p) (hB : j_bd E h) (ok : tkOk len p) (H : ∀ h', TX h' x B sz len (tEnd p) → Fr x (x + 1) h h' → Q (.inl none) h') : j_Met l D bs E (d + 2) n_X7_requireEnd [.ref x] h Q := by
  have hk := ok.1
  unfold tEnd at H
  refine j_meth hl rfl g_X7_requireEnd (Nat.le_of_ble_eq_true rfl) (fun _ => ⟨_, _, rfl, t.1⟩) hB.1 hB.2 (fun G hG => ?_)
  refine b_X7_requireEnd_0 hG ?_
  dsimp only [q_X7_requireEnd_0, j_wp, j_opB, j_opA, j_nth, j_i1, j_i2, j_l1, j_l2, j_li, j_f1, j_f2, j_d1, j_d2, j_r1, j_ai, j_aii, j_ail, j_aid, j_air, j_st1, j_st2, j_stu, j_kl, j_cond, j_args, j_out, j_few, j_cw, j_nat, j_pad, j_exp, Nat.reduceAdd]
  simp only [TX_sh t, TX_3 t, j_ref, j_ari, j_arb, j_arr, j_len, j_nar, j_oi, j_ol, j_of, j_od, j_or, j_ov, true_and, and_true]
  by_cases g : tkK p = 0
  · rw [if_pos (show nI (tkK p) = 0 by rw [g]; decide)]
    rw [if_pos g] at H
    refine b_X7_requireEnd_12 hG ?_
    dsimp only [q_X7_requireEnd_12, j_wp, j_opB, j_opA, j_nth, j_i1, j_i2, j_l1, j_l2, j_li, j_f1, j_f2, j_d1, j_d2, j_r1, j_ai, j_aii, j_ail, j_aid, j_air, j_st1, j_st2, j_stu, j_kl, j_cond, j_args, j_out, j_few, j_cw, j_nat, j_pad, j_exp, Nat.reduceAdd]
    exact H h t Fr_rf
  · rw [if_neg (show ¬ nI (tkK p) = 0 from fun z => g ((nI_eq (by omega) (by omega)).mp (show nI (tkK p) = nI 0 from z)))]
    rw [if_neg g] at H
    refine sp_X7_fail hl t hB ok (fun h1 t1 f1 => ?_)
    simp only [j_ref, j_ari, j_arb, j_arr, j_len, j_nar, j_oi, j_ol, j_of, j_od, j_or, j_ov, true_and, and_true]
    refine b_X7_requireEnd_12 hG ?_
    dsimp only [q_X7_requireEnd_12, j_wp, j_opB, j_opA, j_nth, j_i1, j_i2, j_l1, j_l2, j_li, j_f1, j_f2, j_d1, j_d2, j_r1, j_ai, j_aii, j_ail, j_aid, j_air, j_st1, j_st2, j_stu, j_kl, j_cond, j_args, j_out, j_few, j_cw, j_nat, j_pad, j_exp, Nat.reduceAdd]
    exact H h1 t1 f1
/-- where the reading of a text begins -/
def tOpen (B : Nat → Int32) (n s : Nat) : Tk := tNext B n (1, s, 0, 0, -1)
theorem tOpen_ok {B : Nat → Int32} {n s : Nat} : tkOk n (tOpen B n s) := by
  unfold tOpen tNext
  rw [if_neg (show ¬ tkK (1, s, 0, 0, -1) = 5 from fun z => absurd (show (1 : Nat) = 5 from z) (by decide))]
  have := tok_le (B := B) (len := n) (i := tkE (1, s, 0, 0, -1)) (Nat.zero_le _)
  exact ⟨by show (tok B n 0).1 ≤ 5; have h := this.1; simp only [tkE_m] at h; omega, this.2.2.1, this.2.2.2, fun z => tok_4 z, fun z => tok_0 (Nat.zero_le _) z⟩
theorem tOpen_s (B : Nat → Int32) (n s s' : Nat) : tOpen B n s = tOpen B n s' := rfl
theorem sp_X7_append1 {v : Int32} : v.toInt8.toInt32.toInt8.toInt32 = v.toInt8.toInt32 := by
  rw [Int8.toInt8_toInt32]
theorem TX_put (t : TX h x B sz len p) {i : Nat} {v : Int32} (hi : i < 800) : TX (j_setI h (x + 1) i v) x (up1 B i v) sz len p := by
  obtain ⟨t1, t2, t3, t4, t5, t6, t7, t8, t9, t10, t11, t12, t13⟩ := t
  refine ⟨t1, t2, t3, fun j hj => ?_, ?_, t6, ?_, t8, ?_, ?_, ?_, ?_, ?_⟩
  · rw [jh_I]
    unfold up1
    by_cases e : j = i
    · rw [if_pos ⟨rfl, e⟩, if_pos e]
    · rw [if_neg (fun z => e z.2), if_neg e]; exact t4 j hj
  all_goals (rw [jh_In (by omega)]; assumption)
/-- the byte at a shift -/
def tByte (w : Int32) (sh : Int32) : Int32 := (w >>> (sh &&& 31)).toInt8.toInt32
def tApp (B : Nat → Int32) (sz : Nat) (w : Int32) : Nat → Int32 := up1 (up1 (up1 (up1 B sz (tByte w 24)) (sz + 1) (tByte w 16)) (sz + 2) (tByte w 8)) (sz + 3) (tByte w 0)
theorem sp_X7_append (hl : l.stackTraces = false) (t : TX h x B sz len p) (hB : j_bd E h) (hz : sz + 4 ≤ 800) {w : Int32} (H : ∀ h', TX h' x (tApp B sz w) (sz + 4) len p → Fr x (x + 2) h h' → Q (.inl none) h') : j_Met l D bs E (d + 1) n_X7_append [.ref x, .int w] h Q := by
  refine j_meth hl rfl g_X7_append (Nat.le_of_ble_eq_true rfl) (fun _ => ⟨_, _, rfl, t.1⟩) hB.1 hB.2 (fun G hG => ?_)
  have stp : ∀ {B1 : Nat → Int32} {n : Nat} {h1 : j_H} (sh : Int32), TX h1 x B1 n len p → n < 800 → Fr x (x + 2) h h1 → ¬ sh < 0 → (∀ h', TX h' x (up1 B1 n (tByte w sh)) (n + 1) len p → Fr x (x + 2) h h' → G 3 [.ref x, .int w, .int (sh + -8)] [] h') → G 3 [.ref x, .int w, .int sh] [] h1 := by
    intro B1 n h1 sh t1 hn f1 hs H
    refine b_X7_append_3 hG ?_
    dsimp only [q_X7_append_3, j_wp, j_opB, j_opA, j_nth, j_i1, j_i2, j_l1, j_l2, j_li, j_f1, j_f2, j_d1, j_d2, j_r1, j_ai, j_aii, j_ail, j_aid, j_air, j_st1, j_st2, j_stu, j_kl, j_cond, j_args, j_out, j_few, j_cw, j_nat, j_pad, j_exp, Nat.reduceAdd]
    rw [if_neg hs]
    simp only [TX_sh t1, TX_1 t1, TX_r t1, TX_sb t1, j_ref, j_ari, j_arb, j_arr, j_len, j_nar, j_oi, j_ol, j_of, j_od, j_or, j_ov, true_and, and_true]
    rw [if_neg (nI_pos (by omega)), if_pos (nI_lt hn (by omega))]
    refine ⟨vp_in_nI hn (by omega), ?_⟩
    rw [nI_clamp (by omega), sp_X7_append1]
    have t2 := TX_put t1 (v := tByte w sh) hn
    have f2 : Fr x (x + 2) h (j_setI h1 (x + 1) n (tByte w sh)) := Fr_I f1 (by omega) (by omega)
    simp only [TX_sh t2, TX_1 t2, j_ref, j_ari, j_arb, j_arr, j_len, j_nar, j_oi, j_ol, j_of, j_od, j_or, j_ov, true_and, and_true, show (w >>> (sh &&& 31)).toInt8.toInt32 = tByte w sh from rfl]
    have t3 := TX_s1 t2 (n := n + 1) (by omega)
    rw [nI_1]
    refine b_X7_append_49 hG ?_
    dsimp only [q_X7_append_49, j_wp, j_opB, j_opA, j_nth, j_i1, j_i2, j_l1, j_l2, j_li, j_f1, j_f2, j_d1, j_d2, j_r1, j_ai, j_aii, j_ail, j_aid, j_air, j_st1, j_st2, j_stu, j_kl, j_cond, j_args, j_out, j_few, j_cw, j_nat, j_pad, j_exp, Nat.reduceAdd]
    exact H _ t3 (Fr_I f2 (by omega) (by omega))
  refine b_X7_append_0 hG ?_
  dsimp only [q_X7_append_0, j_wp, j_opB, j_opA, j_nth, j_i1, j_i2, j_l1, j_l2, j_li, j_f1, j_f2, j_d1, j_d2, j_r1, j_ai, j_aii, j_ail, j_aid, j_air, j_st1, j_st2, j_stu, j_kl, j_cond, j_args, j_out, j_few, j_cw, j_nat, j_pad, j_exp, Nat.reduceAdd]
  refine stp 24 t (by omega) Fr_rf (by decide) (fun h1 t1 f1 => ?_)
  refine stp 16 t1 (by omega) f1 (by decide) (fun h2 t2 f2 => ?_)
  refine stp 8 t2 (by omega) f2 (by decide) (fun h3 t3 f3 => ?_)
  refine stp 0 t3 (by omega) f3 (by decide) (fun h4 t4 f4 => ?_)
  refine b_X7_append_3 hG ?_
  dsimp only [q_X7_append_3, j_wp, j_opB, j_opA, j_nth, j_i1, j_i2, j_l1, j_l2, j_li, j_f1, j_f2, j_d1, j_d2, j_r1, j_ai, j_aii, j_ail, j_aid, j_air, j_st1, j_st2, j_stu, j_kl, j_cond, j_args, j_out, j_few, j_cw, j_nat, j_pad, j_exp, Nat.reduceAdd]
  rw [if_pos (by decide)]
  refine b_X7_append_55 hG ?_
  dsimp only [q_X7_append_55, j_wp, j_opB, j_opA, j_nth, j_i1, j_i2, j_l1, j_l2, j_li, j_f1, j_f2, j_d1, j_d2, j_r1, j_ai, j_aii, j_ail, j_aid, j_air, j_st1, j_st2, j_stu, j_kl, j_cond, j_args, j_out, j_few, j_cw, j_nat, j_pad, j_exp, Nat.reduceAdd]
  exact H h4 t4 f4
theorem sp_X7_open (hl : l.stackTraces = false) (t : TX h x B sz len p) (hB : j_bd E h) {n : Nat} (hn : n ≤ 800) (H : ∀ h', TX h' x B sz n (tOpen B n 0) → Fr x (x + 1) h h' → Q (.inl none) h') : j_Met l D bs E (d + 3) n_X7_open [.ref x, .int (nI n)] h Q := by
  refine j_meth hl rfl g_X7_open (Nat.le_of_ble_eq_true rfl) (fun _ => ⟨_, _, rfl, t.1⟩) hB.1 hB.2 (fun G hG => ?_)
  refine b_X7_open_0 hG ?_
  dsimp only [q_X7_open_0, j_wp, j_opB, j_opA, j_nth, j_i1, j_i2, j_l1, j_l2, j_li, j_f1, j_f2, j_d1, j_d2, j_r1, j_ai, j_aii, j_ail, j_aid, j_air, j_st1, j_st2, j_stu, j_kl, j_cond, j_args, j_out, j_few, j_cw, j_nat, j_pad, j_exp, Nat.reduceAdd]
  simp only [TX_sh t, TX_r t, TX_sb t, j_ref, j_ari, j_arb, j_arr, j_len, j_nar, j_oi, j_ol, j_of, j_od, j_or, j_ov, true_and, and_true]
  rw [if_neg (nI_nlt hn (by omega))]
  have t1 := TX_s2 t hn
  simp only [TX_sh t1, j_ref, j_ari, j_arb, j_arr, j_len, j_nar, j_oi, j_ol, j_of, j_od, j_or, j_ov, true_and, and_true]
  have t2 := TX_s6 t1 0
  simp only [TX_sh t2, j_ref, j_ari, j_arb, j_arr, j_len, j_nar, j_oi, j_ol, j_of, j_od, j_or, j_ov, true_and, and_true]
  have t3 := TX_s7 t2 (-1)
  simp only [TX_sh t3, j_ref, j_ari, j_arb, j_arr, j_len, j_nar, j_oi, j_ol, j_of, j_od, j_or, j_ov, true_and, and_true]
  have t4 := TX_s5 t3 0
  rw [nI_0] at t4
  simp only [TX_sh t4, j_ref, j_ari, j_arb, j_arr, j_len, j_nar, j_oi, j_ol, j_of, j_od, j_or, j_ov, true_and, and_true]
  have t5 := TX_s3 t4 1
  rw [show nI 1 = 1 by decide] at t5
  have f5 : Fr x (x + 1) h (j_setI (j_setI (j_setI (j_setI (j_setI h x 2 (nI n)) x 6 0) x 7 (-1)) x 5 0) x 3 1) := Fr_I (Fr_I (Fr_I (Fr_I (Fr_I Fr_rf (by omega) (by omega)) (by omega) (by omega)) (by omega) (by omega)) (by omega) (by omega)) (by omega) (by omega)
  refine sp_X7_next0 hl t5 (Fr_bd f5 hB) (show 1 ≤ 5 by omega) (show 0 ≤ n by omega) (fun h1 t6 f6 => ?_)
  simp only [j_ref, j_ari, j_arb, j_arr, j_len, j_nar, j_oi, j_ol, j_of, j_od, j_or, j_ov, true_and, and_true]
  exact H h1 t6 (Fr_tr f5 f6)
end TxtB
