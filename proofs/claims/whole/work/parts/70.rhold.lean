/-! ===== the reference: a query ===== -/
section RHo
variable {l : Launch} {D : va_G} {bs : Nat} {E : j_E} {h0 h : j_H} {m : Nat} {d : Nat} {Q : j_O → j_H → Prop} {B : Nat → Int32} {sz len : Nat} {p : Tk} {M Md : Rf} {L : Lnk} {np nst : Nat} {cs : List Int32}
theorem tIsS_4 {c : Nat} (g : tIsS B p c = true) : tkK p = 4 := by
  unfold tIsS at g
  simp only [Bool.and_eq_true, decide_eq_true_eq] at g
  exact g.1
set_option maxRecDepth 8000 in
theorem sp_fac (hl : l.stackTraces = false) (hJ : JS l D bs E) (hLP : ∀ i k, i < np → k < 9 → lP L i k = rP M i k) : ∀ (n nst dep : Nat), n + nst = 6 → 7 + 3 * n ≤ dep → FacS l D bs E h0 m B sz len M Md np nst n_X9_compileFactor (qFac B len L np n) dep := by
  intro n
  induction n with
  | zero =>
    intro nst dep hn hd p cs h Q s hb H
    obtain ⟨e, rfl⟩ : ∃ e, dep = e + 7 := ⟨dep - 7, by omega⟩
    have e6 : nst = 6 := by omega
    have sp := QR_P s
    have hB := PR_B sp
    refine j_meth hl rfl g_X9_compileFactor (Nat.le_of_ble_eq_true rfl) (fun _ => ⟨_, _, rfl, (PR_sh sp)⟩) hB.1 hB.2 (fun G hG => ?_)
    refine b_X9_compileFactor_0 hG ?_
    dsimp only [q_X9_compileFactor_0, j_wp, j_opB, j_opA, j_nth, j_i1, j_i2, j_l1, j_l2, j_li, j_f1, j_f2, j_d1, j_d2, j_r1, j_ai, j_aii, j_ail, j_aid, j_air, j_st1, j_st2, j_stu, j_kl, j_cond, j_args, j_out, j_few, j_cw, j_nat, j_pad, j_exp, Nat.reduceAdd]
    refine sp_X9_isWord hl hJ sp 64 rfl (by omega) ?_
    by_cases g1 : tIsW B p (wd "not") = true
    · have g1' : tIsW B p (wd ("PacketSchedulerModel", 438, "not").2.2) = true := g1
      simp only [j_ref, j_ari, j_arb, j_arr, j_len, j_nar, j_oi, j_ol, j_of, j_od, j_or, j_ov, true_and, and_true, g1', if_true]
      rw [if_neg (by decide)]
      have eq : qFac B len L np 0 p = (tFail p 3, fun _ => false) := by unfold qFac; rw [if_pos (Or.inl g1)]
      rw [eq] at H
      refine sp_X9_enter hl s (by omega) (fun h1 s1 => ?_)
      rw [if_neg (by omega)] at s1
      simp only [PR_sh (QR_P s1), j_ref, j_ari, j_arb, j_arr, j_len, j_nar, j_oi, j_ol, j_of, j_od, j_or, j_ov, true_and, and_true]
      rw [if_neg (PR_e5 (QR_P s1) (tFail_5 p 3))]
      refine b_X9_compileFactor_25 hG ?_
      dsimp only [q_X9_compileFactor_25, j_wp, j_opB, j_opA, j_nth, j_i1, j_i2, j_l1, j_l2, j_li, j_f1, j_f2, j_d1, j_d2, j_r1, j_ai, j_aii, j_ail, j_aid, j_air, j_st1, j_st2, j_stu, j_kl, j_cond, j_args, j_out, j_few, j_cw, j_nat, j_pad, j_exp, Nat.reduceAdd]
      refine sp_X9_emit hl s1 (fun z => absurd (tFail_5 p 3) z) (fun h2 s2 => ?_)
      rw [if_pos (tFail_5 p 3)] at s2
      have x23 : j_I h2 m 23 = nI (nst + 1) := s2.2.2.2.2.2.2.1
      simp only [PR_sh (QR_P s2), x23, nI_pred, j_ref, j_ari, j_arb, j_arr, j_len, j_nar, j_oi, j_ol, j_of, j_od, j_or, j_ov, true_and, and_true]
      refine b_X9_compileFactor_160 hG ?_
      dsimp only [q_X9_compileFactor_160, j_wp, j_opB, j_opA, j_nth, j_i1, j_i2, j_l1, j_l2, j_li, j_f1, j_f2, j_d1, j_d2, j_r1, j_ai, j_aii, j_ail, j_aid, j_air, j_st1, j_st2, j_stu, j_kl, j_cond, j_args, j_out, j_few, j_cw, j_nat, j_pad, j_exp, Nat.reduceAdd]
      exact H _ cs (QR_n s2 (n := nst) (by omega)) (fun z => absurd (tFail_5 p 3) z)
    · have g1' : ¬ tIsW B p (wd ("PacketSchedulerModel", 438, "not").2.2) = true := g1
      simp only [j_ref, j_ari, j_arb, j_arr, j_len, j_nar, j_oi, j_ol, j_of, j_od, j_or, j_ov, true_and, and_true, g1', if_false, Bool.false_eq_true, if_true]
      refine b_X9_compileFactor_44 hG ?_
      dsimp only [q_X9_compileFactor_44, j_wp, j_opB, j_opA, j_nth, j_i1, j_i2, j_l1, j_l2, j_li, j_f1, j_f2, j_d1, j_d2, j_r1, j_ai, j_aii, j_ail, j_aid, j_air, j_st1, j_st2, j_stu, j_kl, j_cond, j_args, j_out, j_few, j_cw, j_nat, j_pad, j_exp, Nat.reduceAdd]
      refine sp_X9_isSymbol hl sp (c := 40) (by omega) ?_
      simp only [j_ref, j_ari, j_arb, j_arr, j_len, j_nar, j_oi, j_ol, j_of, j_od, j_or, j_ov, true_and, and_true]
      by_cases g2 : tIsS B p 40 = true
      · simp only [g2, if_true]
        rw [if_neg (by decide)]
        have eq : qFac B len L np 0 p = (tFail p 3, fun _ => false) := by unfold qFac; rw [if_pos (Or.inr g2)]
        rw [eq] at H
        refine sp_X9_enter hl s (by omega) (fun h1 s1 => ?_)
        rw [if_neg (by omega)] at s1
        simp only [PR_sh (QR_P s1), j_ref, j_ari, j_arb, j_arr, j_len, j_nar, j_oi, j_ol, j_of, j_od, j_or, j_ov, true_and, and_true]
        rw [if_neg (PR_e5 (QR_P s1) (tFail_5 p 3))]
        refine b_X9_compileFactor_68 hG ?_
        dsimp only [q_X9_compileFactor_68, j_wp, j_opB, j_opA, j_nth, j_i1, j_i2, j_l1, j_l2, j_li, j_f1, j_f2, j_d1, j_d2, j_r1, j_ai, j_aii, j_ail, j_aid, j_air, j_st1, j_st2, j_stu, j_kl, j_cond, j_args, j_out, j_few, j_cw, j_nat, j_pad, j_exp, Nat.reduceAdd]
        refine sp_X9_expect hl (QR_P s1) (c := 41) (by omega) (fun h2 s2 => ?_)
        rw [tSign_5 (tFail_5 p 3)] at s2
        have q2 := QR_p s1 s2
        have x23 : j_I h2 m 23 = nI (nst + 1) := q2.2.2.2.2.2.2.1
        simp only [PR_sh (QR_P q2), x23, nI_pred, j_ref, j_ari, j_arb, j_arr, j_len, j_nar, j_oi, j_ol, j_of, j_od, j_or, j_ov, true_and, and_true]
        refine b_X9_compileFactor_160 hG ?_
        dsimp only [q_X9_compileFactor_160, j_wp, j_opB, j_opA, j_nth, j_i1, j_i2, j_l1, j_l2, j_li, j_f1, j_f2, j_d1, j_d2, j_r1, j_ai, j_aii, j_ail, j_aid, j_air, j_st1, j_st2, j_stu, j_kl, j_cond, j_args, j_out, j_few, j_cw, j_nat, j_pad, j_exp, Nat.reduceAdd]
        exact H _ cs (QR_n q2 (n := nst) (by omega)) (fun z => absurd (tFail_5 p 3) z)
      · simp only [g2, if_false, Bool.false_eq_true, if_true]
        have eq : qFac B len L np 0 p = qLeaf B len L np p := by unfold qFac; rw [if_neg (fun z => z.elim g1 g2)]
        rw [eq] at H
        exact qr_leaf hl hJ s hLP hb hG H
  | succ n ih =>
    intro nst dep hn hd p cs h Q s hb H
    obtain ⟨e, rfl⟩ : ∃ e, dep = e + 7 := ⟨dep - 7, by omega⟩
    have sp := QR_P s
    have hB := PR_B sp
    have hfac := ih (nst + 1) (e + 6) (by omega) (by omega)
    have htest : FacS l D bs E h0 m B sz len M Md np (nst + 1) n_X9_compileTest (qTest B len (qFac B len L np n)) (e + 6) := by
      obtain ⟨e', rfl⟩ : ∃ e', e = e' + 3 := ⟨e - 3, by omega⟩
      exact sp_test hl hJ (e := e' + 2) (sp_conj hl hJ (e := e' + 1) (ih (nst + 1) (e' + 1 + 6) (by omega) (by omega)))
    refine j_meth hl rfl g_X9_compileFactor (Nat.le_of_ble_eq_true rfl) (fun _ => ⟨_, _, rfl, (PR_sh sp)⟩) hB.1 hB.2 (fun G hG => ?_)
    refine b_X9_compileFactor_0 hG ?_
    dsimp only [q_X9_compileFactor_0, j_wp, j_opB, j_opA, j_nth, j_i1, j_i2, j_l1, j_l2, j_li, j_f1, j_f2, j_d1, j_d2, j_r1, j_ai, j_aii, j_ail, j_aid, j_air, j_st1, j_st2, j_stu, j_kl, j_cond, j_args, j_out, j_few, j_cw, j_nat, j_pad, j_exp, Nat.reduceAdd]
    refine sp_X9_isWord hl hJ sp 64 rfl (by omega) ?_
    by_cases g1 : tIsW B p (wd "not") = true
    · have g1' : tIsW B p (wd ("PacketSchedulerModel", 438, "not").2.2) = true := g1
      simp only [j_ref, j_ari, j_arb, j_arr, j_len, j_nar, j_oi, j_ol, j_of, j_od, j_or, j_ov, true_and, and_true, g1', if_true]
      rw [if_neg (by decide)]
      have eq : qFac B len L np (n + 1) p = ((qFac B len L np n (tNext B len p)).1, fun i => !(qFac B len L np n (tNext B len p)).2 i) := by conv => lhs; unfold qFac; rw [if_pos g1]
      rw [eq] at H
      have k2 := tIsW_2 g1
      have ph := phi_2 (B := B) (PR_o sp) k2
      have n5 : tkK (tNext B len p) ≠ 5 := tNext_n5 (PR_o sp) (by omega)
      refine sp_X9_enter hl s (by omega) (fun h1 s1 => ?_)
      rw [if_pos (by omega)] at s1
      simp only [PR_sh (QR_P s1), j_ref, j_ari, j_arb, j_arr, j_len, j_nar, j_oi, j_ol, j_of, j_od, j_or, j_ov, true_and, and_true]
      rw [if_pos (PR_e0 (QR_P s1) n5)]
      refine hfac _ cs h1 _ s1 (by omega) (fun h2 cs2 s2 v2 => ?_)
      simp only [j_ref, j_ari, j_arb, j_arr, j_len, j_nar, j_oi, j_ol, j_of, j_od, j_or, j_ov, true_and, and_true]
      refine b_X9_compileFactor_25 hG ?_
      dsimp only [q_X9_compileFactor_25, j_wp, j_opB, j_opA, j_nth, j_i1, j_i2, j_l1, j_l2, j_li, j_f1, j_f2, j_d1, j_d2, j_r1, j_ai, j_aii, j_ail, j_aid, j_air, j_st1, j_st2, j_stu, j_kl, j_cond, j_args, j_out, j_few, j_cw, j_nat, j_pad, j_exp, Nat.reduceAdd]
      refine sp_X9_emit hl s2 (fun z => ?_) (fun h3 s3 => ?_)
      · obtain ⟨new, ec, hn2, -⟩ := v2 z
        rw [ec]
        simp only [List.length_append]
        omega
      · have x23 : j_I h3 m 23 = nI (nst + 1) := s3.2.2.2.2.2.2.1
        simp only [PR_sh (QR_P s3), x23, nI_pred, j_ref, j_ari, j_arb, j_arr, j_len, j_nar, j_oi, j_ol, j_of, j_od, j_or, j_ov, true_and, and_true]
        refine b_X9_compileFactor_160 hG ?_
        dsimp only [q_X9_compileFactor_160, j_wp, j_opB, j_opA, j_nth, j_i1, j_i2, j_l1, j_l2, j_li, j_f1, j_f2, j_d1, j_d2, j_r1, j_ai, j_aii, j_ail, j_aid, j_air, j_st1, j_st2, j_stu, j_kl, j_cond, j_args, j_out, j_few, j_cw, j_nat, j_pad, j_exp, Nat.reduceAdd]
        refine H _ _ (QR_n s3 (n := nst) (by omega)) (fun z => ?_)
        rw [if_neg z]
        obtain ⟨new, ec, hn2, hps⟩ := v2 z
        refine ⟨new ++ [-23], ?_, ?_, ps_not hps⟩
        · rw [ec]; simp
        · simp only [List.length_append, List.length_cons, List.length_nil]
          omega
    · have g1' : ¬ tIsW B p (wd ("PacketSchedulerModel", 438, "not").2.2) = true := g1
      simp only [j_ref, j_ari, j_arb, j_arr, j_len, j_nar, j_oi, j_ol, j_of, j_od, j_or, j_ov, true_and, and_true, g1', if_false, Bool.false_eq_true, if_true]
      refine b_X9_compileFactor_44 hG ?_
      dsimp only [q_X9_compileFactor_44, j_wp, j_opB, j_opA, j_nth, j_i1, j_i2, j_l1, j_l2, j_li, j_f1, j_f2, j_d1, j_d2, j_r1, j_ai, j_aii, j_ail, j_aid, j_air, j_st1, j_st2, j_stu, j_kl, j_cond, j_args, j_out, j_few, j_cw, j_nat, j_pad, j_exp, Nat.reduceAdd]
      refine sp_X9_isSymbol hl sp (c := 40) (by omega) ?_
      simp only [j_ref, j_ari, j_arb, j_arr, j_len, j_nar, j_oi, j_ol, j_of, j_od, j_or, j_ov, true_and, and_true]
      by_cases g2 : tIsS B p 40 = true
      · simp only [g2, if_true]
        rw [if_neg (by decide)]
        have eq : qFac B len L np (n + 1) p = (tSign B len (qTest B len (qFac B len L np n) (tNext B len p)).1 41, (qTest B len (qFac B len L np n) (tNext B len p)).2) := by conv => lhs; unfold qFac; rw [if_neg g1, if_pos g2]
        rw [eq] at H
        have k4 := tIsS_4 g2
        have ph := phi_lt (B := B) (PR_o sp) (by omega)
        have n5 : tkK (tNext B len p) ≠ 5 := tNext_n5 (PR_o sp) (by omega)
        refine sp_X9_enter hl s (by omega) (fun h1 s1 => ?_)
        rw [if_pos (by omega)] at s1
        simp only [PR_sh (QR_P s1), j_ref, j_ari, j_arb, j_arr, j_len, j_nar, j_oi, j_ol, j_of, j_od, j_or, j_ov, true_and, and_true]
        rw [if_pos (PR_e0 (QR_P s1) n5)]
        refine htest _ cs h1 _ s1 (by omega) (fun h2 cs2 s2 v2 => ?_)
        simp only [j_ref, j_ari, j_arb, j_arr, j_len, j_nar, j_oi, j_ol, j_of, j_od, j_or, j_ov, true_and, and_true]
        refine b_X9_compileFactor_68 hG ?_
        dsimp only [q_X9_compileFactor_68, j_wp, j_opB, j_opA, j_nth, j_i1, j_i2, j_l1, j_l2, j_li, j_f1, j_f2, j_d1, j_d2, j_r1, j_ai, j_aii, j_ail, j_aid, j_air, j_st1, j_st2, j_stu, j_kl, j_cond, j_args, j_out, j_few, j_cw, j_nat, j_pad, j_exp, Nat.reduceAdd]
        refine sp_X9_expect hl (QR_P s2) (c := 41) (by omega) (fun h3 s3 => ?_)
        have q3 := QR_p s2 s3
        have x23 : j_I h3 m 23 = nI (nst + 1) := q3.2.2.2.2.2.2.1
        simp only [PR_sh (QR_P q3), x23, nI_pred, j_ref, j_ari, j_arb, j_arr, j_len, j_nar, j_oi, j_ol, j_of, j_od, j_or, j_ov, true_and, and_true]
        refine b_X9_compileFactor_160 hG ?_
        dsimp only [q_X9_compileFactor_160, j_wp, j_opB, j_opA, j_nth, j_i1, j_i2, j_l1, j_l2, j_li, j_f1, j_f2, j_d1, j_d2, j_r1, j_ai, j_aii, j_ail, j_aid, j_air, j_st1, j_st2, j_stu, j_kl, j_cond, j_args, j_out, j_few, j_cw, j_nat, j_pad, j_exp, Nat.reduceAdd]
        refine H _ _ (QR_n q3 (n := nst) (by omega)) (fun z => ?_)
        have z2 : tkK (qTest B len (qFac B len L np n) (tNext B len p)).1 ≠ 5 := fun y => z (by dsimp only; rw [tSign_5 y]; exact y)
        obtain ⟨new, ec, hn2, hps⟩ := v2 z2
        have p3 := phi_sign (B := B) (c := 41) (PR_o (QR_P s2))
        refine ⟨new, ec, ?_, hps⟩
        dsimp only
        omega
      · simp only [g2, if_false, Bool.false_eq_true, if_true]
        have eq : qFac B len L np (n + 1) p = qLeaf B len L np p := by conv => lhs; unfold qFac; rw [if_neg g1, if_neg g2]
        rw [eq] at H
        exact qr_leaf hl hJ s hLP hb hG H
theorem sp_X9_operate (hl : l.stackTraces = false) (hB : j_bd E h) {c a b : Int32} (hc : c = -20 ∨ c = -21 ∨ c = -22 ∨ c = -24 ∨ c = -25) (H : Q (.inl (some (.int (op2 c a b)))) h) : j_Met l D bs E (d + 1) n_X9_operate [.int c, .int a, .int b] h Q := by
  unfold op2 at H
  refine j_meth hl rfl g_X9_operate (Nat.le_of_ble_eq_true rfl) (fun z => absurd z (by decide)) hB.1 hB.2 (fun G hG => ?_)
  refine b_X9_operate_0 hG ?_
  dsimp only [q_X9_operate_0, j_wp, j_opB, j_opA, j_nth, j_i1, j_i2, j_l1, j_l2, j_li, j_f1, j_f2, j_d1, j_d2, j_r1, j_ai, j_aii, j_ail, j_aid, j_air, j_st1, j_st2, j_stu, j_kl, j_cond, j_args, j_out, j_few, j_cw, j_nat, j_pad, j_exp, Nat.reduceAdd]
  rcases hc with rfl | rfl | rfl | rfl | rfl
  · rw [if_pos rfl] at H
    simp only [j_sw]
    rw [if_neg (by decide), if_neg (by decide), if_neg (by decide), if_neg (by decide), if_pos (by decide)]
    refine b_X9_operate_36 hG ?_
    dsimp only [q_X9_operate_36, j_wp, j_opB, j_opA, j_nth, j_i1, j_i2, j_l1, j_l2, j_li, j_f1, j_f2, j_d1, j_d2, j_r1, j_ai, j_aii, j_ail, j_aid, j_air, j_st1, j_st2, j_stu, j_kl, j_cond, j_args, j_out, j_few, j_cw, j_nat, j_pad, j_exp, Nat.reduceAdd]
    by_cases g : a < b
    · rw [if_pos g] at H ⊢
      refine b_X9_operate_46 hG ?_
      dsimp only [q_X9_operate_46, j_wp, j_opB, j_opA, j_nth, j_i1, j_i2, j_l1, j_l2, j_li, j_f1, j_f2, j_d1, j_d2, j_r1, j_ai, j_aii, j_ail, j_aid, j_air, j_st1, j_st2, j_stu, j_kl, j_cond, j_args, j_out, j_few, j_cw, j_nat, j_pad, j_exp, Nat.reduceAdd]
      exact ⟨trivial, H⟩
    · rw [if_neg g] at H ⊢
      refine b_X9_operate_45 hG ?_
      dsimp only [q_X9_operate_45, j_wp, j_opB, j_opA, j_nth, j_i1, j_i2, j_l1, j_l2, j_li, j_f1, j_f2, j_d1, j_d2, j_r1, j_ai, j_aii, j_ail, j_aid, j_air, j_st1, j_st2, j_stu, j_kl, j_cond, j_args, j_out, j_few, j_cw, j_nat, j_pad, j_exp, Nat.reduceAdd]
      refine b_X9_operate_46 hG ?_
      dsimp only [q_X9_operate_46, j_wp, j_opB, j_opA, j_nth, j_i1, j_i2, j_l1, j_l2, j_li, j_f1, j_f2, j_d1, j_d2, j_r1, j_ai, j_aii, j_ail, j_aid, j_air, j_st1, j_st2, j_stu, j_kl, j_cond, j_args, j_out, j_few, j_cw, j_nat, j_pad, j_exp, Nat.reduceAdd]
      exact ⟨trivial, H⟩
  · rw [if_neg (by decide), if_pos rfl] at H
    simp only [j_sw]
    rw [if_neg (by decide), if_neg (by decide), if_neg (by decide), if_pos (by decide)]
    refine b_X9_operate_47 hG ?_
    dsimp only [q_X9_operate_47, j_wp, j_opB, j_opA, j_nth, j_i1, j_i2, j_l1, j_l2, j_li, j_f1, j_f2, j_d1, j_d2, j_r1, j_ai, j_aii, j_ail, j_aid, j_air, j_st1, j_st2, j_stu, j_kl, j_cond, j_args, j_out, j_few, j_cw, j_nat, j_pad, j_exp, Nat.reduceAdd]
    by_cases g : a = b
    · rw [if_pos g] at H ⊢
      refine b_X9_operate_57 hG ?_
      dsimp only [q_X9_operate_57, j_wp, j_opB, j_opA, j_nth, j_i1, j_i2, j_l1, j_l2, j_li, j_f1, j_f2, j_d1, j_d2, j_r1, j_ai, j_aii, j_ail, j_aid, j_air, j_st1, j_st2, j_stu, j_kl, j_cond, j_args, j_out, j_few, j_cw, j_nat, j_pad, j_exp, Nat.reduceAdd]
      exact ⟨trivial, H⟩
    · rw [if_neg g] at H ⊢
      refine b_X9_operate_56 hG ?_
      dsimp only [q_X9_operate_56, j_wp, j_opB, j_opA, j_nth, j_i1, j_i2, j_l1, j_l2, j_li, j_f1, j_f2, j_d1, j_d2, j_r1, j_ai, j_aii, j_ail, j_aid, j_air, j_st1, j_st2, j_stu, j_kl, j_cond, j_args, j_out, j_few, j_cw, j_nat, j_pad, j_exp, Nat.reduceAdd]
      refine b_X9_operate_57 hG ?_
      dsimp only [q_X9_operate_57, j_wp, j_opB, j_opA, j_nth, j_i1, j_i2, j_l1, j_l2, j_li, j_f1, j_f2, j_d1, j_d2, j_r1, j_ai, j_aii, j_ail, j_aid, j_air, j_st1, j_st2, j_stu, j_kl, j_cond, j_args, j_out, j_few, j_cw, j_nat, j_pad, j_exp, Nat.reduceAdd]
      exact ⟨trivial, H⟩
  · rw [if_neg (by decide), if_neg (by decide), if_pos rfl] at H
    simp only [j_sw]
    rw [if_neg (by decide), if_neg (by decide), if_pos (by decide)]
    refine b_X9_operate_58 hG ?_
    dsimp only [q_X9_operate_58, j_wp, j_opB, j_opA, j_nth, j_i1, j_i2, j_l1, j_l2, j_li, j_f1, j_f2, j_d1, j_d2, j_r1, j_ai, j_aii, j_ail, j_aid, j_air, j_st1, j_st2, j_stu, j_kl, j_cond, j_args, j_out, j_few, j_cw, j_nat, j_pad, j_exp, Nat.reduceAdd]
    by_cases g : b < a
    · rw [if_pos g] at H ⊢
      refine b_X9_operate_68 hG ?_
      dsimp only [q_X9_operate_68, j_wp, j_opB, j_opA, j_nth, j_i1, j_i2, j_l1, j_l2, j_li, j_f1, j_f2, j_d1, j_d2, j_r1, j_ai, j_aii, j_ail, j_aid, j_air, j_st1, j_st2, j_stu, j_kl, j_cond, j_args, j_out, j_few, j_cw, j_nat, j_pad, j_exp, Nat.reduceAdd]
      exact ⟨trivial, H⟩
    · rw [if_neg g] at H ⊢
      refine b_X9_operate_67 hG ?_
      dsimp only [q_X9_operate_67, j_wp, j_opB, j_opA, j_nth, j_i1, j_i2, j_l1, j_l2, j_li, j_f1, j_f2, j_d1, j_d2, j_r1, j_ai, j_aii, j_ail, j_aid, j_air, j_st1, j_st2, j_stu, j_kl, j_cond, j_args, j_out, j_few, j_cw, j_nat, j_pad, j_exp, Nat.reduceAdd]
      refine b_X9_operate_68 hG ?_
      dsimp only [q_X9_operate_68, j_wp, j_opB, j_opA, j_nth, j_i1, j_i2, j_l1, j_l2, j_li, j_f1, j_f2, j_d1, j_d2, j_r1, j_ai, j_aii, j_ail, j_aid, j_air, j_st1, j_st2, j_stu, j_kl, j_cond, j_args, j_out, j_few, j_cw, j_nat, j_pad, j_exp, Nat.reduceAdd]
      exact ⟨trivial, H⟩
  · rw [if_neg (by decide), if_neg (by decide), if_neg (by decide), if_pos rfl] at H
    simp only [j_sw]
    rw [if_pos (by decide)]
    refine b_X9_operate_69 hG ?_
    dsimp only [q_X9_operate_69, j_wp, j_opB, j_opA, j_nth, j_i1, j_i2, j_l1, j_l2, j_li, j_f1, j_f2, j_d1, j_d2, j_r1, j_ai, j_aii, j_ail, j_aid, j_air, j_st1, j_st2, j_stu, j_kl, j_cond, j_args, j_out, j_few, j_cw, j_nat, j_pad, j_exp, Nat.reduceAdd]
    exact ⟨trivial, H⟩
  · rw [if_neg (by decide), if_neg (by decide), if_neg (by decide), if_neg (by decide)] at H
    simp only [j_sw]
    rw [if_neg (by decide), if_neg (by decide), if_neg (by decide), if_neg (by decide), if_neg (by decide)]
    refine b_X9_operate_73 hG ?_
    dsimp only [q_X9_operate_73, j_wp, j_opB, j_opA, j_nth, j_i1, j_i2, j_l1, j_l2, j_li, j_f1, j_f2, j_d1, j_d2, j_r1, j_ai, j_aii, j_ail, j_aid, j_air, j_st1, j_st2, j_stu, j_kl, j_cond, j_args, j_out, j_few, j_cw, j_nat, j_pad, j_exp, Nat.reduceAdd]
    exact ⟨trivial, H⟩
end RHo
