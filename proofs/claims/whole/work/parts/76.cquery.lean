/-! ===== the class: reading a test ===== -/
section CaQ
variable {l : Launch} {D : va_G} {bs : Nat} {E : j_E} {h : j_H} {r x a : Nat} {d : Nat} {Q : j_O → j_H → Prop} {B : Nat → Int32} {sz len np nst : Nat} {p : Tk} {L : Lnk}
/-- a set that was read since h: the token, the set's place, what was made -/
def CQ (E : j_E) (bs r x a : Nat) (B : Nat → Int32) (sz len : Nat) (L : Lnk) (np : Nat) (h : j_H) (n : Nat) (p : Tk) (P : Nat → Bool) (q : Nat) (h' : j_H) : Prop := QB E bs r x a B sz len L np p h' ∧ FQ (fun b => b = x) (j_z h) h h' ∧ PSt h' q P ∧ (j_z h ≤ q ∧ q < j_z h') ∧ j_c h' ≤ j_c h + n ∧ j_k h' ≤ j_k h + 2 * n
/-- a method that reads what f reads -/
def FacC (l : Launch) (D : va_G) (bs : Nat) (E : j_E) (r x a : Nat) (B : Nat → Int32) (sz len : Nat) (L : Lnk) (np nst mth : Nat) (f : Tk → Tk × (Nat → Bool)) (dep : Nat) : Prop := ∀ (p : Tk) (h : j_H) (Q : j_O → j_H → Prop), QB E bs r x a B sz len L np p h → j_c h + (tPhi len p + 1) ≤ E.2.1 → j_k h + 2 * (tPhi len p + 1) ≤ E.2.2 → (∀ h' q, tPhi len (f p).1 ≤ tPhi len p → CQ E bs r x a B sz len L np h (tPhi len p + 1 - tPhi len (f p).1) (f p).1 (f p).2 q h' → Q (.inl (some (.ref q))) h') → j_Met l D bs E dep mth [.ref r, .int (nI nst)] h Q
theorem QB_L2 {h' : j_H} (s : QB E bs r x a B sz len L np p h) {q k k' : Nat} {v v' : Int64} (hq : j_z h ≤ q) : QB E bs r x a B sz len L np p (j_setL (j_setL h q k v) q k' v') := QB_x s (by have z9 := QB_t s; exact z9) (QB_o s) (FQ_setL (FQ_setL (FQ_rf (Nat.le_refl _)) hq) hq)
theorem FQ_z {A : Nat → Prop} {z : Nat} {h h' : j_H} (f : FQ A z h h') : z ≤ j_z h' := f.1
theorem Fr_z {lo hi : Nat} {h h' : j_H} (f : Fr lo hi h h') : j_z h' = j_z h ∧ j_c h' = j_c h ∧ j_k h' = j_k h := ⟨f.2.2.2.1, f.2.2.2.2.1, f.2.2.2.2.2.1⟩
set_option maxRecDepth 8000 in
theorem cq_conj (hl : l.stackTraces = false) (hJ : JS l D bs E) {f : Tk → Tk × (Nat → Bool)} {e : Nat} (hf : FacC l D bs E r x a B sz len L np nst n_X3_readFactor f (e + 6)) : FacC l D bs E r x a B sz len L np nst n_X3_readConjunction (qConj B len f) (e + 7) := by
  intro p h Q s hc1 hc2 H
  have hB : j_bd E h := ⟨by omega, by omega⟩
  refine j_meth hl rfl g_X3_readConjunction (Nat.le_of_ble_eq_true rfl) (fun _ => ⟨_, _, rfl, (QB_s s)⟩) hB.1 hB.2 (fun G hG => ?_)
  have loop : ∀ (k i : Nat) (p1 : Tk) (P1 : Nat → Bool) (q1 : Nat) (h1 : j_H), i + k = 200 → tPhi len p1 ≤ tPhi len p → CQ E bs r x a B sz len L np h (tPhi len p + 1 - tPhi len p1) p1 P1 q1 h1 → (∀ h' q, tPhi len (qAnd B len f k p1 P1).1 ≤ tPhi len p → CQ E bs r x a B sz len L np h (tPhi len p + 1 - tPhi len (qAnd B len f k p1 P1).1) (qAnd B len f k p1 P1).1 (qAnd B len f k p1 P1).2 q h' → Q (.inl (some (.ref q))) h') → G 8 [.ref r, .int (nI nst), .ref q1, .int (nI i)] [] h1 := by
    intro k
    induction k with
    | zero =>
      intro i p1 P1 q1 h1 hi hp c1 K
      refine b_X3_readConjunction_8 hG ?_
      dsimp only [q_X3_readConjunction_8, j_wp, j_opB, j_opA, j_nth, j_i1, j_i2, j_l1, j_l2, j_li, j_f1, j_f2, j_d1, j_d2, j_r1, j_ai, j_aii, j_ail, j_aid, j_air, j_st1, j_st2, j_stu, j_kl, j_cond, j_args, j_out, j_few, j_cw, j_nat, j_pad, j_exp, Nat.reduceAdd]
      rw [if_neg (show ¬ nI i < (200 : Int32) from nI_nlt (b := 200) (by omega) (by omega))]
      refine b_X3_readConjunction_49 hG ?_
      dsimp only [q_X3_readConjunction_49, j_wp, j_opB, j_opA, j_nth, j_i1, j_i2, j_l1, j_l2, j_li, j_f1, j_f2, j_d1, j_d2, j_r1, j_ai, j_aii, j_ail, j_aid, j_air, j_st1, j_st2, j_stu, j_kl, j_cond, j_args, j_out, j_few, j_cw, j_nat, j_pad, j_exp, Nat.reduceAdd]
      exact K h1 q1 hp c1
    | succ k ih =>
      intro i p1 P1 q1 h1 hi hp c1 K
      obtain ⟨s1, f1, ps1, ⟨z1, z2⟩, n1, n2⟩ := c1
      have hB1 : j_bd E h1 := ⟨by omega, by omega⟩
      unfold qAnd at K
      refine b_X3_readConjunction_8 hG ?_
      dsimp only [q_X3_readConjunction_8, j_wp, j_opB, j_opA, j_nth, j_i1, j_i2, j_l1, j_l2, j_li, j_f1, j_f2, j_d1, j_d2, j_r1, j_ai, j_aii, j_ail, j_aid, j_air, j_st1, j_st2, j_stu, j_kl, j_cond, j_args, j_out, j_few, j_cw, j_nat, j_pad, j_exp, Nat.reduceAdd]
      rw [if_pos (show nI i < (200 : Int32) from nI_lt (b := 200) (by omega) (by omega))]
      simp only [QB_s s1, QB_0 s1, j_ref, j_ari, j_arb, j_arr, j_len, j_nar, j_oi, j_ol, j_of, j_od, j_or, j_ov, true_and, and_true]
      refine qb_isW hl hJ s1 hB1 1 rfl (by omega) ?_
      by_cases g2 : tIsW B p1 (wd "and") = true
      · have g3 : tIsW B p1 (wd ("PacketScheduler$QueryReader", 43, "and").2.2) = true := g2
        simp only [j_ref, j_ari, j_arb, j_arr, j_len, j_nar, j_oi, j_ol, j_of, j_od, j_or, j_ov, true_and, and_true, g3, if_true]
        rw [if_neg (by decide)]
        rw [if_pos g2] at K
        have k2 := tIsW_2 g2
        have ph := phi_2 (B := B) (QB_o s1) k2
        simp only [QB_s s1, QB_0 s1, j_ref, j_ari, j_arb, j_arr, j_len, j_nar, j_oi, j_ol, j_of, j_od, j_or, j_ov, true_and, and_true]
        refine sp_X7_next hl (QB_t s1) hB1 (QB_o s1) (fun h2 t2 f2 => ?_)
        simp only [j_ref, j_ari, j_arb, j_arr, j_len, j_nar, j_oi, j_ol, j_of, j_od, j_or, j_ov, true_and, and_true]
        obtain ⟨s2, fq2⟩ := QB_f s1 t2 (tNext_ok (QB_o s1)) f2
        obtain ⟨y1, y2, y3⟩ := Fr_z f2
        refine hf _ h2 _ s2 (by omega) (by omega) (fun h3 q3 ph3 c3 => ?_)
        obtain ⟨s3, fq3, ps3, ⟨z3, z4⟩, n3, n4⟩ := c3
        simp only [j_ref, j_ari, j_arb, j_arr, j_len, j_nar, j_oi, j_ol, j_of, j_od, j_or, j_ov, true_and, and_true]
        have hB3 : j_bd E h3 := ⟨by omega, by omega⟩
        have hx1 : q1 ≠ x := fun z => by have := s.2.2.2.2.2.2.2.2; omega
        have ps1' : PSt h3 q1 P1 := PSt_FQ (PSt_FQ ps1 fq2 hx1 z2) fq3 hx1 (by omega)
        refine sp_X2_keepAll hl ps1' ps3 (by omega) hB3 (fun h4 ps4 e4 => ?_)
        obtain ⟨v4, w4, rfl⟩ := e4
        simp only [j_ref, j_ari, j_arb, j_arr, j_len, j_nar, j_oi, j_ol, j_of, j_od, j_or, j_ov, true_and, and_true]
        rw [nI_1]
        have fq13 : FQ (fun b => b = x) (j_z h) h h3 := FQ_tr (FQ_tr f1 fq2 f1.1) fq3 (by have := f1.1; omega)
        have fq4 : FQ (fun b => b = x) (j_z h) h (j_setL (j_setL h3 q1 0 v4) q1 1 w4) := FQ_setL (FQ_setL fq13 z1) z1
        have s4 : QB E bs r x a B sz len L np (f (tNext B len p1)).1 (j_setL (j_setL h3 q1 0 v4) q1 1 w4) := QB_x s (by have z9 := QB_t s3; exact z9) (QB_o s3) fq4
        refine ih (i + 1) _ _ q1 _ (by omega) (by omega) ⟨s4, fq4, ps4, ⟨z1, by show q1 < j_z h3; omega⟩, ?_, ?_⟩ K
        · show j_c h3 ≤ _
          omega
        · show j_k h3 ≤ _
          omega
      · have g3 : ¬ tIsW B p1 (wd ("PacketScheduler$QueryReader", 43, "and").2.2) = true := g2
        simp only [j_ref, j_ari, j_arb, j_arr, j_len, j_nar, j_oi, j_ol, j_of, j_od, j_or, j_ov, true_and, and_true, g3, if_false, Bool.false_eq_true, if_true]
        rw [if_neg g2] at K
        refine b_X3_readConjunction_49 hG ?_
        dsimp only [q_X3_readConjunction_49, j_wp, j_opB, j_opA, j_nth, j_i1, j_i2, j_l1, j_l2, j_li, j_f1, j_f2, j_d1, j_d2, j_r1, j_ai, j_aii, j_ail, j_aid, j_air, j_st1, j_st2, j_stu, j_kl, j_cond, j_args, j_out, j_few, j_cw, j_nat, j_pad, j_exp, Nat.reduceAdd]
        exact K h1 q1 hp ⟨s1, f1, ps1, ⟨z1, z2⟩, n1, n2⟩
  refine b_X3_readConjunction_0 hG ?_
  dsimp only [q_X3_readConjunction_0, j_wp, j_opB, j_opA, j_nth, j_i1, j_i2, j_l1, j_l2, j_li, j_f1, j_f2, j_d1, j_d2, j_r1, j_ai, j_aii, j_ail, j_aid, j_air, j_st1, j_st2, j_stu, j_kl, j_cond, j_args, j_out, j_few, j_cw, j_nat, j_pad, j_exp, Nat.reduceAdd]
  refine hf p h _ s hc1 hc2 (fun h1 q1 ph1 c1 => ?_)
  simp only [j_ref, j_ari, j_arb, j_arr, j_len, j_nar, j_oi, j_ol, j_of, j_od, j_or, j_ov, true_and, and_true, j_st1, j_kl]
  exact loop 200 0 _ _ q1 h1 (by omega) ph1 c1 H
set_option maxRecDepth 8000 in
theorem cq_test (hl : l.stackTraces = false) (hJ : JS l D bs E) {f : Tk → Tk × (Nat → Bool)} {e : Nat} (hf : FacC l D bs E r x a B sz len L np nst n_X3_readConjunction (qConj B len f) (e + 6)) : FacC l D bs E r x a B sz len L np nst n_X3_readTest (qTest B len f) (e + 7) := by
  intro p h Q s hc1 hc2 H
  have hB : j_bd E h := ⟨by omega, by omega⟩
  refine j_meth hl rfl g_X3_readTest (Nat.le_of_ble_eq_true rfl) (fun _ => ⟨_, _, rfl, (QB_s s)⟩) hB.1 hB.2 (fun G hG => ?_)
  have loop : ∀ (k i : Nat) (p1 : Tk) (P1 : Nat → Bool) (q1 : Nat) (h1 : j_H), i + k = 200 → tPhi len p1 ≤ tPhi len p → CQ E bs r x a B sz len L np h (tPhi len p + 1 - tPhi len p1) p1 P1 q1 h1 → (∀ h' q, tPhi len (qOr B len f k p1 P1).1 ≤ tPhi len p → CQ E bs r x a B sz len L np h (tPhi len p + 1 - tPhi len (qOr B len f k p1 P1).1) (qOr B len f k p1 P1).1 (qOr B len f k p1 P1).2 q h' → Q (.inl (some (.ref q))) h') → G 8 [.ref r, .int (nI nst), .ref q1, .int (nI i)] [] h1 := by
    intro k
    induction k with
    | zero =>
      intro i p1 P1 q1 h1 hi hp c1 K
      refine b_X3_readTest_8 hG ?_
      dsimp only [q_X3_readTest_8, j_wp, j_opB, j_opA, j_nth, j_i1, j_i2, j_l1, j_l2, j_li, j_f1, j_f2, j_d1, j_d2, j_r1, j_ai, j_aii, j_ail, j_aid, j_air, j_st1, j_st2, j_stu, j_kl, j_cond, j_args, j_out, j_few, j_cw, j_nat, j_pad, j_exp, Nat.reduceAdd]
      rw [if_neg (show ¬ nI i < (200 : Int32) from nI_nlt (b := 200) (by omega) (by omega))]
      refine b_X3_readTest_49 hG ?_
      dsimp only [q_X3_readTest_49, j_wp, j_opB, j_opA, j_nth, j_i1, j_i2, j_l1, j_l2, j_li, j_f1, j_f2, j_d1, j_d2, j_r1, j_ai, j_aii, j_ail, j_aid, j_air, j_st1, j_st2, j_stu, j_kl, j_cond, j_args, j_out, j_few, j_cw, j_nat, j_pad, j_exp, Nat.reduceAdd]
      exact K h1 q1 hp c1
    | succ k ih =>
      intro i p1 P1 q1 h1 hi hp c1 K
      obtain ⟨s1, f1, ps1, ⟨z1, z2⟩, n1, n2⟩ := c1
      have hB1 : j_bd E h1 := ⟨by omega, by omega⟩
      unfold qOr at K
      refine b_X3_readTest_8 hG ?_
      dsimp only [q_X3_readTest_8, j_wp, j_opB, j_opA, j_nth, j_i1, j_i2, j_l1, j_l2, j_li, j_f1, j_f2, j_d1, j_d2, j_r1, j_ai, j_aii, j_ail, j_aid, j_air, j_st1, j_st2, j_stu, j_kl, j_cond, j_args, j_out, j_few, j_cw, j_nat, j_pad, j_exp, Nat.reduceAdd]
      rw [if_pos (show nI i < (200 : Int32) from nI_lt (b := 200) (by omega) (by omega))]
      simp only [QB_s s1, QB_0 s1, j_ref, j_ari, j_arb, j_arr, j_len, j_nar, j_oi, j_ol, j_of, j_od, j_or, j_ov, true_and, and_true]
      refine qb_isW hl hJ s1 hB1 0 rfl (by omega) ?_
      by_cases g2 : tIsW B p1 (wd "or") = true
      · have g3 : tIsW B p1 (wd ("PacketScheduler$QueryReader", 23, "or").2.2) = true := g2
        simp only [j_ref, j_ari, j_arb, j_arr, j_len, j_nar, j_oi, j_ol, j_of, j_od, j_or, j_ov, true_and, and_true, g3, if_true]
        rw [if_neg (by decide)]
        rw [if_pos g2] at K
        have k2 := tIsW_2 g2
        have ph := phi_2 (B := B) (QB_o s1) k2
        simp only [QB_s s1, QB_0 s1, j_ref, j_ari, j_arb, j_arr, j_len, j_nar, j_oi, j_ol, j_of, j_od, j_or, j_ov, true_and, and_true]
        refine sp_X7_next hl (QB_t s1) hB1 (QB_o s1) (fun h2 t2 f2 => ?_)
        simp only [j_ref, j_ari, j_arb, j_arr, j_len, j_nar, j_oi, j_ol, j_of, j_od, j_or, j_ov, true_and, and_true]
        obtain ⟨s2, fq2⟩ := QB_f s1 t2 (tNext_ok (QB_o s1)) f2
        obtain ⟨y1, y2, y3⟩ := Fr_z f2
        refine hf _ h2 _ s2 (by omega) (by omega) (fun h3 q3 ph3 c3 => ?_)
        obtain ⟨s3, fq3, ps3, ⟨z3, z4⟩, n3, n4⟩ := c3
        simp only [j_ref, j_ari, j_arb, j_arr, j_len, j_nar, j_oi, j_ol, j_of, j_od, j_or, j_ov, true_and, and_true]
        have hB3 : j_bd E h3 := ⟨by omega, by omega⟩
        have hx1 : q1 ≠ x := fun z => by have := s.2.2.2.2.2.2.2.2; omega
        have ps1' : PSt h3 q1 P1 := PSt_FQ (PSt_FQ ps1 fq2 hx1 z2) fq3 hx1 (by omega)
        refine sp_X2_addAll hl ps1' ps3 (by omega) hB3 (fun h4 ps4 e4 => ?_)
        obtain ⟨v4, w4, rfl⟩ := e4
        simp only [j_ref, j_ari, j_arb, j_arr, j_len, j_nar, j_oi, j_ol, j_of, j_od, j_or, j_ov, true_and, and_true]
        rw [nI_1]
        have fq13 : FQ (fun b => b = x) (j_z h) h h3 := FQ_tr (FQ_tr f1 fq2 f1.1) fq3 (by have := f1.1; omega)
        have fq4 : FQ (fun b => b = x) (j_z h) h (j_setL (j_setL h3 q1 0 v4) q1 1 w4) := FQ_setL (FQ_setL fq13 z1) z1
        have s4 : QB E bs r x a B sz len L np ((qConj B len f) (tNext B len p1)).1 (j_setL (j_setL h3 q1 0 v4) q1 1 w4) := QB_x s (by have z9 := QB_t s3; exact z9) (QB_o s3) fq4
        refine ih (i + 1) _ _ q1 _ (by omega) (by omega) ⟨s4, fq4, ps4, ⟨z1, by show q1 < j_z h3; omega⟩, ?_, ?_⟩ K
        · show j_c h3 ≤ _
          omega
        · show j_k h3 ≤ _
          omega
      · have g3 : ¬ tIsW B p1 (wd ("PacketScheduler$QueryReader", 23, "or").2.2) = true := g2
        simp only [j_ref, j_ari, j_arb, j_arr, j_len, j_nar, j_oi, j_ol, j_of, j_od, j_or, j_ov, true_and, and_true, g3, if_false, Bool.false_eq_true, if_true]
        rw [if_neg g2] at K
        refine b_X3_readTest_49 hG ?_
        dsimp only [q_X3_readTest_49, j_wp, j_opB, j_opA, j_nth, j_i1, j_i2, j_l1, j_l2, j_li, j_f1, j_f2, j_d1, j_d2, j_r1, j_ai, j_aii, j_ail, j_aid, j_air, j_st1, j_st2, j_stu, j_kl, j_cond, j_args, j_out, j_few, j_cw, j_nat, j_pad, j_exp, Nat.reduceAdd]
        exact K h1 q1 hp ⟨s1, f1, ps1, ⟨z1, z2⟩, n1, n2⟩
  refine b_X3_readTest_0 hG ?_
  dsimp only [q_X3_readTest_0, j_wp, j_opB, j_opA, j_nth, j_i1, j_i2, j_l1, j_l2, j_li, j_f1, j_f2, j_d1, j_d2, j_r1, j_ai, j_aii, j_ail, j_aid, j_air, j_st1, j_st2, j_stu, j_kl, j_cond, j_args, j_out, j_few, j_cw, j_nat, j_pad, j_exp, Nat.reduceAdd]
  refine hf p h _ s hc1 hc2 (fun h1 q1 ph1 c1 => ?_)
  simp only [j_ref, j_ari, j_arb, j_arr, j_len, j_nar, j_oi, j_ol, j_of, j_od, j_or, j_ov, true_and, and_true, j_st1, j_kl]
  exact loop 200 0 _ _ q1 h1 (by omega) ph1 c1 H
theorem cq_phi (s : QB E bs r x a B sz len L np p h) : tPhi len (qLeaf B len L np p).1 ≤ tPhi len p := by
  have a1 : ∀ p, tkOk len p → tPhi len (qVal B len p).2 ≤ tPhi len p := fun p ok => by
    unfold qVal
    split
    · show tPhi len (tNext B len (if qCol B p = -1 then tFail p 1 else p)) ≤ _
      split
      · rw [tNext_5 (tFail_5 p 1), phi_fail]; omega
      · exact phi_le ok
    · exact phi_take ok
  have a2 : ∀ p, tkOk len p → tPhi len (qCmp B len p).2 ≤ tPhi len p := fun p ok => by
    unfold qCmp
    show tPhi len (tNext B len (if qSgn B p = 0 then (if tIsS B p 61 = true then p else tFail p 1) else p)) ≤ _
    split
    · split
      · exact phi_le ok
      · rw [tNext_5 (tFail_5 p 1), phi_fail]; omega
    · exact phi_le ok
  have o1 := qVal_ok (B := B) (QB_o s)
  have o2 := qCmp_ok (B := B) o1
  have b1 := a1 _ (QB_o s)
  have b2 := a2 _ o1
  have b3 := a1 _ o2
  show tPhi len (qVal B len (qCmp B len (qVal B len p).2).2).2 ≤ _
  omega
theorem cq_leaf (hl : l.stackTraces = false) {h3 : j_H} (s : QB E bs r x a B sz len L np p h) (hc1 : j_c h + (tPhi len p + 1) ≤ E.2.1) (hc2 : j_k h + 2 * (tPhi len p + 1) ≤ E.2.2) (H : ∀ h' q, tPhi len (qLeaf B len L np p).1 ≤ tPhi len p → CQ E bs r x a B sz len L np h (tPhi len p + 1 - tPhi len (qLeaf B len L np p).1) (qLeaf B len L np p).1 (qLeaf B len L np p).2 q h' → Q (.inl (some (.ref q))) h') (s3 : QB E bs r x a B sz len L np (qVal B len (qCmp B len (qVal B len p).2).2).2 h3) (f3 : Fr x (x + 1) h h3) : j_Met l D bs E (d + 3) n_X3_compareAll [.ref r, .int (qVal B len p).1, .int (qCmp B len (qVal B len p).2).1, .int (qVal B len (qCmp B len (qVal B len p).2).2).1] h3 (j_or Q (fun a h => Q (.inl (some (.ref a))) h)) := by
  have ph := cq_phi s
  obtain ⟨z3, c3, k3⟩ := Fr_z f3
  have fq3 : FQ (fun b => b = x) (j_z h) h h3 := FQ_Fr f3 (fun b g1 g2 => by omega) (Nat.le_refl _)
  refine sp_X3_compareAll hl s3 (by omega) (by omega) qVal_v qVal_v (fun h4 s4 f4 ps4 c4 k4 z4 => ?_)
  simp only [j_ref, j_ari, j_arb, j_arr, j_len, j_nar, j_oi, j_ol, j_of, j_od, j_or, j_ov, true_and, and_true]
  exact H h4 (j_z h3) ph ⟨s4, FQ_tr fq3 f4 (by omega), ps4, ⟨by omega, by omega⟩, by omega, by omega⟩
set_option maxRecDepth 8000 in
theorem cq_fac (hl : l.stackTraces = false) (hJ : JS l D bs E) : ∀ (n nst dep : Nat), n + nst = 6 → 8 + 3 * n ≤ dep → FacC l D bs E r x a B sz len L np nst n_X3_readFactor (qFac B len L np n) dep := by
  intro n
  induction n with
  | zero =>
    intro nst dep hn hd p h Q s hc1 hc2 H
    obtain ⟨e, rfl⟩ : ∃ e, dep = e + 8 := ⟨dep - 8, by omega⟩
    have hB : j_bd E h := ⟨by omega, by omega⟩
    have zz := s.2.2.2.2.2.2.2.2
    refine j_meth hl rfl g_X3_readFactor (Nat.le_of_ble_eq_true rfl) (fun _ => ⟨_, _, rfl, (QB_s s)⟩) hB.1 hB.2 (fun G hG => ?_)
    have deep : ∀ b : Int32, qFac B len L np 0 p = (tFail p 3, fun _ => false) → G 49 [.ref r, .int (nI nst), .int b, j_u, j_u] [] h := by
      intro b eq
      rw [eq] at H
      refine b_X3_readFactor_49 hG ?_
      dsimp only [q_X3_readFactor_49, j_wp, j_opB, j_opA, j_nth, j_i1, j_i2, j_l1, j_l2, j_li, j_f1, j_f2, j_d1, j_d2, j_r1, j_ai, j_aii, j_ail, j_aid, j_air, j_st1, j_st2, j_stu, j_kl, j_cond, j_args, j_out, j_few, j_cw, j_nat, j_pad, j_exp, Nat.reduceAdd]
      rw [if_neg (show ¬ nI nst < (6 : Int32) from nI_nlt (b := 6) (by omega) (by omega))]
      simp only [QB_s s, QB_0 s, j_ref, j_ari, j_arb, j_arr, j_len, j_nar, j_oi, j_ol, j_of, j_od, j_or, j_ov, true_and, and_true]
      refine sp_X7_fail hl (QB_t s) hB (QB_o s) (fun h1 t1 f1 => ?_)
      simp only [j_ref, j_ari, j_arb, j_arr, j_len, j_nar, j_oi, j_ol, j_of, j_od, j_or, j_ov, true_and, and_true]
      obtain ⟨s1, fq1⟩ := QB_f s t1 (tFail_ok (QB_o s)) f1
      obtain ⟨z1, c1, k1⟩ := Fr_z f1
      refine ⟨by omega, by omega, ?_⟩
      have hB1 : j_bd E (j_new h1 (.inr 4) 2) := ⟨by show j_c h1 + 1 ≤ _; omega, by show j_k h1 + 2 ≤ _; omega⟩
      have sn : j_sh (j_new h1 (.inr 4) 2) (j_z h1) = some (.inr 4) := by
        show (if j_z h1 = j_z h1 then some (Sum.inr 4) else j_sh h1 (j_z h1)) = _
        rw [if_pos rfl]
      refine sp_X2_init hl sn hB1 ?_
      simp only [j_ref, j_ari, j_arb, j_arr, j_len, j_nar, j_oi, j_ol, j_of, j_od, j_or, j_ov, true_and, and_true]
      have p0 := PSt_new sn
      have f0 : FQ (fun b => b = x) (j_z h) h (j_setL (j_setL (j_new h1 (.inr 4) 2) (j_z h1) 0 0) (j_z h1) 1 0) := FQ_setL (FQ_setL (FQ_new fq1) (by omega)) (by omega)
      have f0' : FQ (fun _ => False) (j_z h1) h1 (j_setL (j_setL (j_new h1 (.inr 4) 2) (j_z h1) 0 0) (j_z h1) 1 0) := FQ_setL (FQ_setL (FQ_new (FQ_rf (Nat.le_refl _))) (Nat.le_refl _)) (Nat.le_refl _)
      have t0 := TX_FQ t1 f0' id id (by omega)
      have pf : tPhi len (tFail p 3) = 0 := phi_fail
      refine H _ (j_z h1) (by dsimp only; omega) ⟨QB_x s t0 (tFail_ok (QB_o s)) f0, f0, p0, ⟨by omega, by show j_z h1 < j_z h1 + 1; omega⟩, ?_, ?_⟩
      · show j_c h1 + 1 ≤ j_c h + (tPhi len p + 1 - tPhi len (tFail p 3))
        omega
      · show j_k h1 + 2 ≤ j_k h + 2 * (tPhi len p + 1 - tPhi len (tFail p 3))
        omega
    refine b_X3_readFactor_0 hG ?_
    dsimp only [q_X3_readFactor_0, j_wp, j_opB, j_opA, j_nth, j_i1, j_i2, j_l1, j_l2, j_li, j_f1, j_f2, j_d1, j_d2, j_r1, j_ai, j_aii, j_ail, j_aid, j_air, j_st1, j_st2, j_stu, j_kl, j_cond, j_args, j_out, j_few, j_cw, j_nat, j_pad, j_exp, Nat.reduceAdd]
    simp only [QB_s s, QB_0 s, j_ref, j_ari, j_arb, j_arr, j_len, j_nar, j_oi, j_ol, j_of, j_od, j_or, j_ov, true_and, and_true]
    refine qb_isW hl hJ s hB 2 rfl (by omega) ?_
    by_cases g1 : tIsW B p (wd "not") = true
    · have g1' : tIsW B p (wd ("PacketScheduler$QueryReader", 48, "not").2.2) = true := g1
      simp only [j_ref, j_ari, j_arb, j_arr, j_len, j_nar, j_oi, j_ol, j_of, j_od, j_or, j_ov, true_and, and_true, g1', if_true, j_st1, j_kl]
      rw [if_neg (by decide)]
      exact deep 1 (by unfold qFac; rw [if_pos (Or.inl g1)])
    · have g1' : ¬ tIsW B p (wd ("PacketScheduler$QueryReader", 48, "not").2.2) = true := g1
      simp only [j_ref, j_ari, j_arb, j_arr, j_len, j_nar, j_oi, j_ol, j_of, j_od, j_or, j_ov, true_and, and_true, g1', if_false, Bool.false_eq_true, if_true, j_st1, j_kl, QB_s s, QB_0 s]
      refine sp_X7_isSign hl (QB_t s) hB (QB_o s) (c := 40) ?_
      by_cases g2 : tIsS B p 40 = true
      · simp only [j_ref, j_ari, j_arb, j_arr, j_len, j_nar, j_oi, j_ol, j_of, j_od, j_or, j_ov, true_and, and_true, g2, if_true]
        rw [if_neg (by decide)]
        exact deep 0 (by unfold qFac; rw [if_pos (Or.inr g2)])
      · simp only [j_ref, j_ari, j_arb, j_arr, j_len, j_nar, j_oi, j_ol, j_of, j_od, j_or, j_ov, true_and, and_true, g2, if_false, Bool.false_eq_true, if_true]
        have eq : qFac B len L np 0 p = qLeaf B len L np p := by unfold qFac; rw [if_neg (fun z => z.elim g1 g2)]
        rw [eq] at H
        refine sp_X3_readValue hl hJ s hB (fun h1 s1 f1 => ?_)
        simp only [j_ref, j_ari, j_arb, j_arr, j_len, j_nar, j_oi, j_ol, j_of, j_od, j_or, j_ov, true_and, and_true, j_st1, j_kl]
        refine sp_X3_readComparison hl s1 (Fr_bd f1 hB) (fun h2 s2 f2 => ?_)
        simp only [j_ref, j_ari, j_arb, j_arr, j_len, j_nar, j_oi, j_ol, j_of, j_od, j_or, j_ov, true_and, and_true, j_st1, j_kl]
        refine sp_X3_readValue hl hJ s2 (Fr_bd f2 (Fr_bd f1 hB)) (fun h3 s3 f3 => ?_)
        simp only [j_ref, j_ari, j_arb, j_arr, j_len, j_nar, j_oi, j_ol, j_of, j_od, j_or, j_ov, true_and, and_true]
        exact cq_leaf hl s hc1 hc2 H s3 (Fr_tr (Fr_tr f1 f2) f3)
  | succ n ih =>
    intro nst dep hn hd p h Q s hc1 hc2 H
    obtain ⟨e, rfl⟩ : ∃ e, dep = e + 8 := ⟨dep - 8, by omega⟩
    have hB : j_bd E h := ⟨by omega, by omega⟩
    have zz := s.2.2.2.2.2.2.2.2
    have hfac := ih (nst + 1) (e + 7) (by omega) (by omega)
    have htest : FacC l D bs E r x a B sz len L np (nst + 1) n_X3_readTest (qTest B len (qFac B len L np n)) (e + 7) := by
      obtain ⟨e', rfl⟩ : ∃ e', e = e' + 3 := ⟨e - 3, by omega⟩
      exact cq_test hl hJ (e := e' + 3) (cq_conj hl hJ (e := e' + 2) (ih (nst + 1) (e' + 2 + 6) (by omega) (by omega)))
    refine j_meth hl rfl g_X3_readFactor (Nat.le_of_ble_eq_true rfl) (fun _ => ⟨_, _, rfl, (QB_s s)⟩) hB.1 hB.2 (fun G hG => ?_)
    refine b_X3_readFactor_0 hG ?_
    dsimp only [q_X3_readFactor_0, j_wp, j_opB, j_opA, j_nth, j_i1, j_i2, j_l1, j_l2, j_li, j_f1, j_f2, j_d1, j_d2, j_r1, j_ai, j_aii, j_ail, j_aid, j_air, j_st1, j_st2, j_stu, j_kl, j_cond, j_args, j_out, j_few, j_cw, j_nat, j_pad, j_exp, Nat.reduceAdd]
    simp only [QB_s s, QB_0 s, j_ref, j_ari, j_arb, j_arr, j_len, j_nar, j_oi, j_ol, j_of, j_od, j_or, j_ov, true_and, and_true]
    refine qb_isW hl hJ s hB 2 rfl (by omega) ?_
    by_cases g1 : tIsW B p (wd "not") = true
    · have g1' : tIsW B p (wd ("PacketScheduler$QueryReader", 48, "not").2.2) = true := g1
      simp only [j_ref, j_ari, j_arb, j_arr, j_len, j_nar, j_oi, j_ol, j_of, j_od, j_or, j_ov, true_and, and_true, g1', if_true, j_st1, j_kl]
      rw [if_neg (by decide)]
      have eq : qFac B len L np (n + 1) p = ((qFac B len L np n (tNext B len p)).1, fun i => !(qFac B len L np n (tNext B len p)).2 i) := by conv => lhs; unfold qFac; rw [if_pos g1]
      rw [eq] at H
      have ph := phi_2 (B := B) (QB_o s) (tIsW_2 g1)
      refine b_X3_readFactor_49 hG ?_
      dsimp only [q_X3_readFactor_49, j_wp, j_opB, j_opA, j_nth, j_i1, j_i2, j_l1, j_l2, j_li, j_f1, j_f2, j_d1, j_d2, j_r1, j_ai, j_aii, j_ail, j_aid, j_air, j_st1, j_st2, j_stu, j_kl, j_cond, j_args, j_out, j_few, j_cw, j_nat, j_pad, j_exp, Nat.reduceAdd]
      rw [if_pos (show nI nst < (6 : Int32) from nI_lt (b := 6) (by omega) (by omega))]
      refine b_X3_readFactor_71 hG ?_
      dsimp only [q_X3_readFactor_71, j_wp, j_opB, j_opA, j_nth, j_i1, j_i2, j_l1, j_l2, j_li, j_f1, j_f2, j_d1, j_d2, j_r1, j_ai, j_aii, j_ail, j_aid, j_air, j_st1, j_st2, j_stu, j_kl, j_cond, j_args, j_out, j_few, j_cw, j_nat, j_pad, j_exp, Nat.reduceAdd]
      simp only [QB_s s, QB_0 s, j_ref, j_ari, j_arb, j_arr, j_len, j_nar, j_oi, j_ol, j_of, j_od, j_or, j_ov, true_and, and_true]
      refine sp_X7_next hl (QB_t s) hB (QB_o s) (fun h1 t1 f1 => ?_)
      simp only [j_ref, j_ari, j_arb, j_arr, j_len, j_nar, j_oi, j_ol, j_of, j_od, j_or, j_ov, true_and, and_true]
      obtain ⟨s1, fq1⟩ := QB_f s t1 (tNext_ok (QB_o s)) f1
      obtain ⟨z1, c1, k1⟩ := Fr_z f1
      rw [if_neg (by decide), nI_1]
      refine hfac _ h1 _ s1 (by omega) (by omega) (fun h2 q2 ph2 c2 => ?_)
      obtain ⟨s2, fq2, ps2, ⟨z2, z3⟩, n2, n3⟩ := c2
      simp only [j_ref, j_ari, j_arb, j_arr, j_len, j_nar, j_oi, j_ol, j_of, j_od, j_or, j_ov, true_and, and_true]
      have hB2 : j_bd E h2 := ⟨by omega, by omega⟩
      refine b_X3_readFactor_99 hG ?_
      dsimp only [q_X3_readFactor_99, j_wp, j_opB, j_opA, j_nth, j_i1, j_i2, j_l1, j_l2, j_li, j_f1, j_f2, j_d1, j_d2, j_r1, j_ai, j_aii, j_ail, j_aid, j_air, j_st1, j_st2, j_stu, j_kl, j_cond, j_args, j_out, j_few, j_cw, j_nat, j_pad, j_exp, Nat.reduceAdd]
      rw [if_neg (by decide)]
      refine sp_X2_invert hl ps2 hB2 (fun h3 ps3 e3 => ?_)
      obtain ⟨v3, w3, rfl⟩ := e3
      simp only [j_ref, j_ari, j_arb, j_arr, j_len, j_nar, j_oi, j_ol, j_of, j_od, j_or, j_ov, true_and, and_true]
      refine b_X3_readFactor_120 hG ?_
      dsimp only [q_X3_readFactor_120, j_wp, j_opB, j_opA, j_nth, j_i1, j_i2, j_l1, j_l2, j_li, j_f1, j_f2, j_d1, j_d2, j_r1, j_ai, j_aii, j_ail, j_aid, j_air, j_st1, j_st2, j_stu, j_kl, j_cond, j_args, j_out, j_few, j_cw, j_nat, j_pad, j_exp, Nat.reduceAdd]
      have fq12 : FQ (fun b => b = x) (j_z h) h h2 := FQ_tr fq1 fq2 (by omega)
      have fq3 : FQ (fun b => b = x) (j_z h) h (j_setL (j_setL h2 q2 0 v3) q2 1 w3) := FQ_setL (FQ_setL fq12 (by omega)) (by omega)
      refine H _ q2 (by dsimp only; omega) ⟨QB_x s (by have z9 := QB_t s2; exact z9) (QB_o s2) fq3, fq3, ps3, ⟨by omega, by show q2 < j_z h2; omega⟩, ?_, ?_⟩
      · show j_c h2 ≤ _
        dsimp only
        omega
      · show j_k h2 ≤ _
        dsimp only
        omega
    · have g1' : ¬ tIsW B p (wd ("PacketScheduler$QueryReader", 48, "not").2.2) = true := g1
      simp only [j_ref, j_ari, j_arb, j_arr, j_len, j_nar, j_oi, j_ol, j_of, j_od, j_or, j_ov, true_and, and_true, g1', if_false, Bool.false_eq_true, if_true, j_st1, j_kl, QB_s s, QB_0 s]
      refine sp_X7_isSign hl (QB_t s) hB (QB_o s) (c := 40) ?_
      by_cases g2 : tIsS B p 40 = true
      · simp only [j_ref, j_ari, j_arb, j_arr, j_len, j_nar, j_oi, j_ol, j_of, j_od, j_or, j_ov, true_and, and_true, g2, if_true]
        rw [if_neg (by decide)]
        have eq : qFac B len L np (n + 1) p = (tSign B len (qTest B len (qFac B len L np n) (tNext B len p)).1 41, (qTest B len (qFac B len L np n) (tNext B len p)).2) := by conv => lhs; unfold qFac; rw [if_neg g1, if_pos g2]
        rw [eq] at H
        have ph := phi_lt (B := B) (QB_o s) (by have := tIsS_4 g2; omega)
        refine b_X3_readFactor_49 hG ?_
        dsimp only [q_X3_readFactor_49, j_wp, j_opB, j_opA, j_nth, j_i1, j_i2, j_l1, j_l2, j_li, j_f1, j_f2, j_d1, j_d2, j_r1, j_ai, j_aii, j_ail, j_aid, j_air, j_st1, j_st2, j_stu, j_kl, j_cond, j_args, j_out, j_few, j_cw, j_nat, j_pad, j_exp, Nat.reduceAdd]
        rw [if_pos (show nI nst < (6 : Int32) from nI_lt (b := 6) (by omega) (by omega))]
        refine b_X3_readFactor_71 hG ?_
        dsimp only [q_X3_readFactor_71, j_wp, j_opB, j_opA, j_nth, j_i1, j_i2, j_l1, j_l2, j_li, j_f1, j_f2, j_d1, j_d2, j_r1, j_ai, j_aii, j_ail, j_aid, j_air, j_st1, j_st2, j_stu, j_kl, j_cond, j_args, j_out, j_few, j_cw, j_nat, j_pad, j_exp, Nat.reduceAdd]
        simp only [QB_s s, QB_0 s, j_ref, j_ari, j_arb, j_arr, j_len, j_nar, j_oi, j_ol, j_of, j_od, j_or, j_ov, true_and, and_true]
        refine sp_X7_next hl (QB_t s) hB (QB_o s) (fun h1 t1 f1 => ?_)
        simp only [j_ref, j_ari, j_arb, j_arr, j_len, j_nar, j_oi, j_ol, j_of, j_od, j_or, j_ov, true_and, and_true]
        obtain ⟨s1, fq1⟩ := QB_f s t1 (tNext_ok (QB_o s)) f1
        obtain ⟨z1, c1, k1⟩ := Fr_z f1
        first | rw [if_pos rfl] | rw [if_pos trivial]
        refine b_X3_readFactor_92 hG ?_
        dsimp only [q_X3_readFactor_92, j_wp, j_opB, j_opA, j_nth, j_i1, j_i2, j_l1, j_l2, j_li, j_f1, j_f2, j_d1, j_d2, j_r1, j_ai, j_aii, j_ail, j_aid, j_air, j_st1, j_st2, j_stu, j_kl, j_cond, j_args, j_out, j_few, j_cw, j_nat, j_pad, j_exp, Nat.reduceAdd]
        rw [nI_1]
        refine htest _ h1 _ s1 (by omega) (by omega) (fun h2 q2 ph2 c2 => ?_)
        obtain ⟨s2, fq2, ps2, ⟨z2, z3⟩, n2, n3⟩ := c2
        simp only [j_ref, j_ari, j_arb, j_arr, j_len, j_nar, j_oi, j_ol, j_of, j_od, j_or, j_ov, true_and, and_true]
        have hB2 : j_bd E h2 := ⟨by omega, by omega⟩
        refine b_X3_readFactor_99 hG ?_
        dsimp only [q_X3_readFactor_99, j_wp, j_opB, j_opA, j_nth, j_i1, j_i2, j_l1, j_l2, j_li, j_f1, j_f2, j_d1, j_d2, j_r1, j_ai, j_aii, j_ail, j_aid, j_air, j_st1, j_st2, j_stu, j_kl, j_cond, j_args, j_out, j_few, j_cw, j_nat, j_pad, j_exp, Nat.reduceAdd]
        first | rw [if_pos rfl] | rw [if_pos trivial]
        refine b_X3_readFactor_111 hG ?_
        dsimp only [q_X3_readFactor_111, j_wp, j_opB, j_opA, j_nth, j_i1, j_i2, j_l1, j_l2, j_li, j_f1, j_f2, j_d1, j_d2, j_r1, j_ai, j_aii, j_ail, j_aid, j_air, j_st1, j_st2, j_stu, j_kl, j_cond, j_args, j_out, j_few, j_cw, j_nat, j_pad, j_exp, Nat.reduceAdd]
        simp only [QB_s s2, QB_0 s2, j_ref, j_ari, j_arb, j_arr, j_len, j_nar, j_oi, j_ol, j_of, j_od, j_or, j_ov, true_and, and_true]
        refine sp_X7_takeSign hl (QB_t s2) hB2 (QB_o s2) (c := 41) (fun h3 t3 f3 => ?_)
        simp only [j_ref, j_ari, j_arb, j_arr, j_len, j_nar, j_oi, j_ol, j_of, j_od, j_or, j_ov, true_and, and_true]
        refine b_X3_readFactor_120 hG ?_
        dsimp only [q_X3_readFactor_120, j_wp, j_opB, j_opA, j_nth, j_i1, j_i2, j_l1, j_l2, j_li, j_f1, j_f2, j_d1, j_d2, j_r1, j_ai, j_aii, j_ail, j_aid, j_air, j_st1, j_st2, j_stu, j_kl, j_cond, j_args, j_out, j_few, j_cw, j_nat, j_pad, j_exp, Nat.reduceAdd]
        obtain ⟨s3, fq3⟩ := QB_f s2 t3 (tSign_ok (QB_o s2)) f3
        obtain ⟨y1, y2, y3⟩ := Fr_z f3
        have fq13 : FQ (fun b => b = x) (j_z h) h h3 := FQ_tr (FQ_tr fq1 fq2 (by omega)) fq3 (by omega)
        have pp := phi_sign (B := B) (c := 41) (QB_o s2)
        refine H h3 q2 (by dsimp only; omega) ⟨s3, fq13, PSt_FQ ps2 fq3 (by omega) (by omega), ⟨by omega, by omega⟩, ?_, ?_⟩
        · dsimp only
          omega
        · dsimp only
          omega
      · simp only [j_ref, j_ari, j_arb, j_arr, j_len, j_nar, j_oi, j_ol, j_of, j_od, j_or, j_ov, true_and, and_true, g2, if_false, Bool.false_eq_true, if_true]
        have eq : qFac B len L np (n + 1) p = qLeaf B len L np p := by conv => lhs; unfold qFac; rw [if_neg g1, if_neg g2]
        rw [eq] at H
        refine sp_X3_readValue hl hJ s hB (fun h1 s1 f1 => ?_)
        simp only [j_ref, j_ari, j_arb, j_arr, j_len, j_nar, j_oi, j_ol, j_of, j_od, j_or, j_ov, true_and, and_true, j_st1, j_kl]
        refine sp_X3_readComparison hl s1 (Fr_bd f1 hB) (fun h2 s2 f2 => ?_)
        simp only [j_ref, j_ari, j_arb, j_arr, j_len, j_nar, j_oi, j_ol, j_of, j_od, j_or, j_ov, true_and, and_true, j_st1, j_kl]
        refine sp_X3_readValue hl hJ s2 (Fr_bd f2 (Fr_bd f1 hB)) (fun h3 s3 f3 => ?_)
        simp only [j_ref, j_ari, j_arb, j_arr, j_len, j_nar, j_oi, j_ol, j_of, j_od, j_or, j_ov, true_and, and_true]
        exact cq_leaf hl s hc1 hc2 H s3 (Fr_tr (Fr_tr f1 f2) f3)
end CaQ
