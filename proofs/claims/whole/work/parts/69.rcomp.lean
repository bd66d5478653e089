/-! ===== the reference: factors, conjunctions, tests ===== -/
section RCo
variable {l : Launch} {D : va_G} {bs : Nat} {E : j_E} {h0 h : j_H} {m : Nat} {d : Nat} {Q : j_O → j_H → Prop} {B : Nat → Int32} {sz len : Nat} {p : Tk} {M Md : Rf} {L : Lnk} {np nst : Nat} {cs : List Int32}
theorem QR_n (s : QR E bs h0 m B sz len Md p cs nst h) {n : Nat} (hn : n ≤ 7) : QR E bs h0 m B sz len Md p cs n (j_setI h m 23 (nI n)) := by
  obtain ⟨s1, s0, s2, s3, s4, s5, s6, s7⟩ := s
  have f1 : FM nA m (fun k => k = 23) h (j_setI h m 23 (nI n)) := FM_I FM_rf rfl
  obtain ⟨t1, t2, t3, t4, t5, t6⟩ := PR_t s1
  have e : ∀ j, j ≠ 23 → j_I (j_setI h m 23 (nI n)) m j = j_I h m j := fun j hj => jh_In (by omega)
  exact ⟨⟨RB_FM s1.1 f1 id id (by omega) (by omega), ⟨by rw [e _ (by omega)]; exact t1, by rw [e _ (by omega)]; exact t2, t3, t4, fun z => by rw [e _ (by omega), e _ (by omega)]; exact t5 z, fun z => by rw [e _ (by omega), e _ (by omega)]; exact t6 z⟩, RG_cp (PR_g s1) (fun k _ => f1.2.2.2.2.2.2.1 _ _ id (fun z => absurd z.1 (by omega))), FM_rf, FM_bd f1 (PR_B s1), KS_FM (PR_k s1) f1 (PR_m s1) (fun b z => z.elim), PR_m s1⟩, FM_tr s0 (FM_mono f1 (fun b z => z.elim) (fun k z => Or.inr (Or.inl z))), HCn_FM s2 f1 id, by rw [e _ (by omega)]; exact s3, s4, fun j hj => by rw [jh_In (by omega)]; exact s5 j hj, jh_Is _ _ _ _, hn⟩
theorem sp_X9_enter (hl : l.stackTraces = false) (s : QR E bs h0 m B sz len Md p cs nst h) (hn : nst ≤ 6) (H : ∀ h', QR E bs h0 m B sz len Md (if nst < 6 then tNext B len p else tFail p 3) cs (nst + 1) h' → Q (.inl none) h') : j_Met l D bs E (d + 5) n_X9_enter [.ref m] h Q := by
  have sp := QR_P s
  have hB := PR_B sp
  have e23 : j_I h m 23 = nI nst := s.2.2.2.2.2.2.1
  refine j_meth hl rfl g_X9_enter (Nat.le_of_ble_eq_true rfl) (fun _ => ⟨_, _, rfl, (PR_sh sp)⟩) hB.1 hB.2 (fun G hG => ?_)
  have fin : ∀ (c : Int32), (nst < 6 → ¬ c = 0) → (¬ nst < 6 → c = 0) → G 15 [.ref m] [.int c, .ref m] h := by
    intro c c1 c0
    refine b_X9_enter_15 hG ?_
    dsimp only [q_X9_enter_15, j_wp, j_opB, j_opA, j_nth, j_i1, j_i2, j_l1, j_l2, j_li, j_f1, j_f2, j_d1, j_d2, j_r1, j_ai, j_aii, j_ail, j_aid, j_air, j_st1, j_st2, j_stu, j_kl, j_cond, j_args, j_out, j_few, j_cw, j_nat, j_pad, j_exp, Nat.reduceAdd]
    refine sp_X9_check hl sp (by decide) (fun h1 s1 => ?_)
    have q1 := QR_p s s1
    have x23 : j_I h1 m 23 = nI nst := q1.2.2.2.2.2.2.1
    simp only [PR_sh s1, x23, j_ref, j_ari, j_arb, j_arr, j_len, j_nar, j_oi, j_ol, j_of, j_od, j_or, j_ov, true_and, and_true]
    rw [nI_1]
    have q2 := QR_n q1 (n := nst + 1) (by omega)
    refine sp_X9_advance hl (QR_P q2) (fun h3 s3 => ?_)
    simp only [j_ref, j_ari, j_arb, j_arr, j_len, j_nar, j_oi, j_ol, j_of, j_od, j_or, j_ov, true_and, and_true]
    have q3 := QR_p q2 s3
    refine H h3 ?_
    by_cases g : nst < 6
    · rw [if_neg (c1 g)] at q3
      rw [if_pos g]
      exact q3
    · rw [if_pos (c0 g), tNext_5 (tFail_5 p 3)] at q3
      rw [if_neg g]
      exact q3
  refine b_X9_enter_0 hG ?_
  dsimp only [q_X9_enter_0, j_wp, j_opB, j_opA, j_nth, j_i1, j_i2, j_l1, j_l2, j_li, j_f1, j_f2, j_d1, j_d2, j_r1, j_ai, j_aii, j_ail, j_aid, j_air, j_st1, j_st2, j_stu, j_kl, j_cond, j_args, j_out, j_few, j_cw, j_nat, j_pad, j_exp, Nat.reduceAdd]
  simp only [PR_sh sp, e23, j_ref, j_ari, j_arb, j_arr, j_len, j_nar, j_oi, j_ol, j_of, j_od, j_or, j_ov, true_and, and_true]
  by_cases g : nst < 6
  · rw [if_pos (show nI nst < (6 : Int32) from nI_lt (b := 6) g (by omega))]
    exact fin 1 (fun _ => by decide) (fun z => absurd g z)
  · rw [if_neg (show ¬ nI nst < (6 : Int32) from nI_nlt (b := 6) (by omega) (by omega))]
    refine b_X9_enter_14 hG ?_
    dsimp only [q_X9_enter_14, j_wp, j_opB, j_opA, j_nth, j_i1, j_i2, j_l1, j_l2, j_li, j_f1, j_f2, j_d1, j_d2, j_r1, j_ai, j_aii, j_ail, j_aid, j_air, j_st1, j_st2, j_stu, j_kl, j_cond, j_args, j_out, j_few, j_cw, j_nat, j_pad, j_exp, Nat.reduceAdd]
    exact fin 0 (fun z => absurd z g) (fun _ => rfl)
theorem phi_5 {len : Nat} {p : Tk} (g : tkK p = 5) : tPhi len p = 0 := by unfold tPhi; rw [if_pos (Or.inr g)]
/-- a method that compiles what f reads -/
def FacS (l : Launch) (D : va_G) (bs : Nat) (E : j_E) (h0 : j_H) (m : Nat) (B : Nat → Int32) (sz len : Nat) (M Md : Rf) (np nst : Nat) (mth : Nat) (f : Tk → Tk × (Nat → Bool)) (dep : Nat) : Prop := ∀ (p : Tk) (cs : List Int32) (h : j_H) (Q : j_O → j_H → Prop), QR E bs h0 m B sz len Md p cs nst h → cs.length + tPhi len p ≤ 200 → (∀ h' cs', QR E bs h0 m B sz len Md (f p).1 cs' nst h' → (tkK (f p).1 ≠ 5 → ∃ new, cs' = cs ++ new ∧ new.length + tPhi len (f p).1 ≤ tPhi len p ∧ pshes M np new (f p).2) → Q (.inl none) h') → j_Met l D bs E dep mth [.ref m] h Q
set_option maxRecDepth 8000 in
theorem qr_leaf (hl : l.stackTraces = false) (hJ : JS l D bs E) (s : QR E bs h0 m B sz len Md p cs nst h) (hLP : ∀ i k, i < np → k < 9 → lP L i k = rP M i k) (hb : cs.length + tPhi len p ≤ 200) {G : j_G} (hG : j_clo (j_Met l D bs E (d + 6)) E Q m_X9_compileFactor G) {x : Value} (H : ∀ h' cs', QR E bs h0 m B sz len Md (qLeaf B len L np p).1 cs' nst h' → (tkK (qLeaf B len L np p).1 ≠ 5 → ∃ new, cs' = cs ++ new ∧ new.length + tPhi len (qLeaf B len L np p).1 ≤ tPhi len p ∧ pshes M np new (qLeaf B len L np p).2) → Q (.inl none) h') : G 87 [.ref m, x] [] h := by
  have sp := QR_P s
  have hB := PR_B sp
  have e1 : (qLeaf B len L np p).1 = (qVal B len (qCmp B len (qVal B len p).2).2).2 := rfl
  have e2 : (qLeaf B len L np p).2 = qLeafSet L np (qVal B len p).1 (qCmp B len (qVal B len p).2).1 (qVal B len (qCmp B len (qVal B len p).2).2).1 := rfl
  rw [e1, e2] at H
  have okv := qVal_ok (B := B) (PR_o sp)
  refine b_X9_compileFactor_87 hG ?_
  dsimp only [q_X9_compileFactor_87, j_wp, j_opB, j_opA, j_nth, j_i1, j_i2, j_l1, j_l2, j_li, j_f1, j_f2, j_d1, j_d2, j_r1, j_ai, j_aii, j_ail, j_aid, j_air, j_st1, j_st2, j_stu, j_kl, j_cond, j_args, j_out, j_few, j_cw, j_nat, j_pad, j_exp, Nat.reduceAdd]
  refine sp_X9_compileValue hl hJ s hLP hb (fun h1 cs1 s1 v1 => ?_)
  simp only [j_ref, j_ari, j_arb, j_arr, j_len, j_nar, j_oi, j_ol, j_of, j_od, j_or, j_ov, true_and, and_true]
  generalize hy : qVal B len p = y at *
  have sp1 := QR_P s1
  have ok1 := PR_o sp1
  -- the end, once the sign is known
  have fin : ∀ (c op : Int32) (p2 : Tk) (h2 : j_H), QR E bs h0 m B sz len Md y.2 cs1 nst h2 → tNext B len (if c = 0 then tFail y.2 1 else y.2) = p2 → p2 = (qCmp B len y.2).2 → (tkK p2 ≠ 5 → tPhi len p2 + 1 ≤ tPhi len y.2 ∧ tkK y.2 ≠ 5 ∧ (∀ a b, op2 op a b = b01i (decide (jcmp a b = (qCmp B len y.2).1)))) → (¬ -20 < op) → ¬ op = -23 → cOk op → G 143 [.ref m, .int op] [.int c, .ref m] h2 := by
    intro c op p2 h2 s2 ep eq hop o1 o2 o3
    rw [← eq] at H
    refine b_X9_compileFactor_143 hG ?_
    dsimp only [q_X9_compileFactor_143, j_wp, j_opB, j_opA, j_nth, j_i1, j_i2, j_l1, j_l2, j_li, j_f1, j_f2, j_d1, j_d2, j_r1, j_ai, j_aii, j_ail, j_aid, j_air, j_st1, j_st2, j_stu, j_kl, j_cond, j_args, j_out, j_few, j_cw, j_nat, j_pad, j_exp, Nat.reduceAdd]
    refine sp_X9_check hl (QR_P s2) (by decide) (fun h3 s3 => ?_)
    have q3 := QR_p s2 s3
    simp only [j_ref, j_ari, j_arb, j_arr, j_len, j_nar, j_oi, j_ol, j_of, j_od, j_or, j_ov, true_and, and_true]
    refine sp_X9_advance hl (QR_P q3) (fun h4 s4 => ?_)
    rw [ep] at s4
    have q4 := QR_p q3 s4
    simp only [j_ref, j_ari, j_arb, j_arr, j_len, j_nar, j_oi, j_ol, j_of, j_od, j_or, j_ov, true_and, and_true]
    have hb4 : cs1.length + tPhi len p2 ≤ 200 := by
      by_cases g : tkK p2 = 5
      · rw [phi_5 g]
        exact q4.2.2.2.2.1
      · obtain ⟨a1, a2, a3⟩ := hop g
        obtain ⟨⟨c1, ec, -⟩, b2⟩ := v1 a2
        rw [ec]
        simp only [List.length_append, List.length_cons, List.length_nil]
        omega
    refine sp_X9_compileValue hl hJ q4 hLP hb4 (fun h5 cs5 s5 v5 => ?_)
    simp only [j_ref, j_ari, j_arb, j_arr, j_len, j_nar, j_oi, j_ol, j_of, j_od, j_or, j_ov, true_and, and_true]
    have n5 : tkK (qVal B len p2).2 ≠ 5 → tkK p2 ≠ 5 := fun z y5 => z (by
      unfold qVal
      rw [if_neg (by omega), tTake_5 y5]
      exact y5)
    refine sp_X9_emit hl s5 (fun z => ?_) (fun h6 s6 => ?_)
    · obtain ⟨a1, a2, a3⟩ := hop (n5 z)
      obtain ⟨⟨c1, ec, -⟩, b2⟩ := v1 a2
      obtain ⟨⟨c5, ec5, -⟩, b5⟩ := v5 z
      rw [ec5, ec]
      simp only [List.length_append, List.length_cons, List.length_nil]
      omega
    · simp only [j_ref, j_ari, j_arb, j_arr, j_len, j_nar, j_oi, j_ol, j_of, j_od, j_or, j_ov, true_and, and_true]
      refine b_X9_compileFactor_160 hG ?_
      dsimp only [q_X9_compileFactor_160, j_wp, j_opB, j_opA, j_nth, j_i1, j_i2, j_l1, j_l2, j_li, j_f1, j_f2, j_d1, j_d2, j_r1, j_ai, j_aii, j_ail, j_aid, j_air, j_st1, j_st2, j_stu, j_kl, j_cond, j_args, j_out, j_few, j_cw, j_nat, j_pad, j_exp, Nat.reduceAdd]
      refine H h6 _ s6 (fun z => ?_)
      rw [if_neg z]
      obtain ⟨a1, a2, a3⟩ := hop (n5 z)
      obtain ⟨⟨c1, ec, k1⟩, b2⟩ := v1 a2
      obtain ⟨⟨c5, ec5, k5⟩, b5⟩ := v5 z
      refine ⟨[c1, c5, op], ?_, ?_, ps_leaf k1.1 k5.1 k1.2.1 k5.2.1 o1 o2 k1.2.2.1 k5.2.2.1 a3 k1.2.2.2 k5.2.2.2 o3⟩
      · rw [ec5, ec]
        simp
      · simp only [List.length_cons, List.length_nil]
        omega
  have n4 : tkK (tNext B len (tFail y.2 1)) = 5 := by rw [tNext_5 (tFail_5 y.2 1)]; exact tFail_5 y.2 1
  have ph : ∀ c, tIsS B y.2 c = true → tPhi len (tNext B len y.2) + 1 ≤ tPhi len y.2 ∧ tkK y.2 ≠ 5 := fun c z => by
    unfold tIsS at z
    simp only [Bool.and_eq_true, decide_eq_true_eq] at z
    exact ⟨phi_lt ok1 (by omega), by omega⟩
  have ex : ∀ c c', c < 128 → c' < 128 → c ≠ c' → tIsS B y.2 c = true → tIsS B y.2 c' = false := fun c c' h1 h2 h3 z => by
    unfold tIsS at z ⊢
    simp only [Bool.and_eq_true, decide_eq_true_eq] at z
    simp only [z.1, z.2, decide_true, Bool.true_and, decide_eq_false_iff_not]
    exact fun w => h3 ((nI_eq (by omega) (by omega)).mp w)
  refine sp_X9_isSymbol hl sp1 (c := 60) (by omega) ?_
  simp only [j_ref, j_ari, j_arb, j_arr, j_len, j_nar, j_oi, j_ol, j_of, j_od, j_or, j_ov, true_and, and_true]
  by_cases g1 : tIsS B y.2 60 = true
  · simp only [g1, if_true]
    rw [if_neg (by decide)]
    have eq : qCmp B len y.2 = (-1, tNext B len y.2) := by
      unfold qCmp qSgn
      rw [if_pos g1]
      rfl
    refine b_X9_compileFactor_121 hG ?_
    dsimp only [q_X9_compileFactor_121, j_wp, j_opB, j_opA, j_nth, j_i1, j_i2, j_l1, j_l2, j_li, j_f1, j_f2, j_d1, j_d2, j_r1, j_ai, j_aii, j_ail, j_aid, j_air, j_st1, j_st2, j_stu, j_kl, j_cond, j_args, j_out, j_few, j_cw, j_nat, j_pad, j_exp, Nat.reduceAdd]
    rw [if_neg (by decide)]
    refine b_X9_compileFactor_138 hG ?_
    dsimp only [q_X9_compileFactor_138, j_wp, j_opB, j_opA, j_nth, j_i1, j_i2, j_l1, j_l2, j_li, j_f1, j_f2, j_d1, j_d2, j_r1, j_ai, j_aii, j_ail, j_aid, j_air, j_st1, j_st2, j_stu, j_kl, j_cond, j_args, j_out, j_few, j_cw, j_nat, j_pad, j_exp, Nat.reduceAdd]
    exact fin 1 (-20) _ h1 s1 (by rw [if_neg (by decide)]) (by rw [eq]) (fun _ => ⟨(ph 60 g1).1, (ph 60 g1).2, fun a b => by rw [eq]; exact op2_lt a b⟩) (by decide) (by decide) (Or.inl (by decide))
  · simp only [g1, if_false, Bool.false_eq_true, if_true]
    refine b_X9_compileFactor_105 hG ?_
    dsimp only [q_X9_compileFactor_105, j_wp, j_opB, j_opA, j_nth, j_i1, j_i2, j_l1, j_l2, j_li, j_f1, j_f2, j_d1, j_d2, j_r1, j_ai, j_aii, j_ail, j_aid, j_air, j_st1, j_st2, j_stu, j_kl, j_cond, j_args, j_out, j_few, j_cw, j_nat, j_pad, j_exp, Nat.reduceAdd]
    refine sp_X9_isSymbol hl sp1 (c := 61) (by omega) ?_
    simp only [j_ref, j_ari, j_arb, j_arr, j_len, j_nar, j_oi, j_ol, j_of, j_od, j_or, j_ov, true_and, and_true]
    by_cases g2 : tIsS B y.2 61 = true
    · simp only [g2, if_true]
      rw [if_neg (by decide)]
      have eq : qCmp B len y.2 = (0, tNext B len y.2) := by
        unfold qCmp qSgn
        rw [if_neg g1, ex 61 62 (by omega) (by omega) (by omega) g2, if_neg (by decide), if_pos rfl, if_pos g2]
      refine b_X9_compileFactor_121 hG ?_
      dsimp only [q_X9_compileFactor_121, j_wp, j_opB, j_opA, j_nth, j_i1, j_i2, j_l1, j_l2, j_li, j_f1, j_f2, j_d1, j_d2, j_r1, j_ai, j_aii, j_ail, j_aid, j_air, j_st1, j_st2, j_stu, j_kl, j_cond, j_args, j_out, j_few, j_cw, j_nat, j_pad, j_exp, Nat.reduceAdd]
      rw [if_neg (by decide)]
      refine b_X9_compileFactor_138 hG ?_
      dsimp only [q_X9_compileFactor_138, j_wp, j_opB, j_opA, j_nth, j_i1, j_i2, j_l1, j_l2, j_li, j_f1, j_f2, j_d1, j_d2, j_r1, j_ai, j_aii, j_ail, j_aid, j_air, j_st1, j_st2, j_stu, j_kl, j_cond, j_args, j_out, j_few, j_cw, j_nat, j_pad, j_exp, Nat.reduceAdd]
      exact fin 1 (-21) _ h1 s1 (by rw [if_neg (by decide)]) (by rw [eq]) (fun _ => ⟨(ph 61 g2).1, (ph 61 g2).2, fun a b => by rw [eq]; exact op2_eq a b⟩) (by decide) (by decide) (Or.inl (by decide))
    · simp only [g2, if_false, Bool.false_eq_true, if_true]
      refine b_X9_compileFactor_119 hG ?_
      dsimp only [q_X9_compileFactor_119, j_wp, j_opB, j_opA, j_nth, j_i1, j_i2, j_l1, j_l2, j_li, j_f1, j_f2, j_d1, j_d2, j_r1, j_ai, j_aii, j_ail, j_aid, j_air, j_st1, j_st2, j_stu, j_kl, j_cond, j_args, j_out, j_few, j_cw, j_nat, j_pad, j_exp, Nat.reduceAdd]
      refine b_X9_compileFactor_121 hG ?_
      dsimp only [q_X9_compileFactor_121, j_wp, j_opB, j_opA, j_nth, j_i1, j_i2, j_l1, j_l2, j_li, j_f1, j_f2, j_d1, j_d2, j_r1, j_ai, j_aii, j_ail, j_aid, j_air, j_st1, j_st2, j_stu, j_kl, j_cond, j_args, j_out, j_few, j_cw, j_nat, j_pad, j_exp, Nat.reduceAdd]
      first | rw [if_pos rfl] | rw [if_pos trivial]
      refine sp_X9_isSymbol hl sp1 (c := 62) (by omega) ?_
      simp only [j_ref, j_ari, j_arb, j_arr, j_len, j_nar, j_oi, j_ol, j_of, j_od, j_or, j_ov, true_and, and_true]
      by_cases g3 : tIsS B y.2 62 = true
      · simp only [g3, if_true]
        rw [if_neg (by decide)]
        have eq : qCmp B len y.2 = (1, tNext B len y.2) := by
          unfold qCmp qSgn
          rw [if_neg g1, if_pos g3, if_neg (by decide)]
        refine b_X9_compileFactor_138 hG ?_
        dsimp only [q_X9_compileFactor_138, j_wp, j_opB, j_opA, j_nth, j_i1, j_i2, j_l1, j_l2, j_li, j_f1, j_f2, j_d1, j_d2, j_r1, j_ai, j_aii, j_ail, j_aid, j_air, j_st1, j_st2, j_stu, j_kl, j_cond, j_args, j_out, j_few, j_cw, j_nat, j_pad, j_exp, Nat.reduceAdd]
        exact fin 1 (-22) _ h1 s1 (by rw [if_neg (by decide)]) (by rw [eq]) (fun _ => ⟨(ph 62 g3).1, (ph 62 g3).2, fun a b => by rw [eq]; exact op2_gt a b⟩) (by decide) (by decide) (Or.inl (by decide))
      · simp only [g3, if_false, Bool.false_eq_true, if_true]
        have eq : (qCmp B len y.2).2 = tNext B len (tFail y.2 1) := by
          unfold qCmp qSgn
          rw [if_neg g1, if_neg g3, if_pos rfl, if_neg g2]
        refine b_X9_compileFactor_142 hG ?_
        dsimp only [q_X9_compileFactor_142, j_wp, j_opB, j_opA, j_nth, j_i1, j_i2, j_l1, j_l2, j_li, j_f1, j_f2, j_d1, j_d2, j_r1, j_ai, j_aii, j_ail, j_aid, j_air, j_st1, j_st2, j_stu, j_kl, j_cond, j_args, j_out, j_few, j_cw, j_nat, j_pad, j_exp, Nat.reduceAdd]
        exact fin 0 (-22) _ h1 s1 (by rw [if_pos rfl]) eq.symm (fun z => absurd n4 z) (by decide) (by decide) (Or.inl (by decide))
theorem sp_conj (hl : l.stackTraces = false) (hJ : JS l D bs E) {f : Tk → Tk × (Nat → Bool)} {e : Nat} (hf : FacS l D bs E h0 m B sz len M Md np nst n_X9_compileFactor f (e + 6)) : FacS l D bs E h0 m B sz len M Md np nst n_X9_compileConjunction (qConj B len f) (e + 7) := by
  intro p cs h Q s hb H
  have hB := PR_B (QR_P s)
  unfold qConj at H
  refine j_meth hl rfl g_X9_compileConjunction (Nat.le_of_ble_eq_true rfl) (fun _ => ⟨_, _, rfl, (PR_sh (QR_P s))⟩) hB.1 hB.2 (fun G hG => ?_)
  have loop : ∀ (k : Nat) (p1 : Tk) (P1 : Nat → Bool) (cs1 : List Int32) (h1 : j_H), tPhi len p1 ≤ k → QR E bs h0 m B sz len Md p1 cs1 nst h1 → (tkK p1 ≠ 5 → ∃ new, cs1 = cs ++ new ∧ new.length + tPhi len p1 ≤ tPhi len p ∧ pshes M np new P1) → (∀ h' cs', QR E bs h0 m B sz len Md (qAnd B len f k p1 P1).1 cs' nst h' → (tkK (qAnd B len f k p1 P1).1 ≠ 5 → ∃ new, cs' = cs ++ new ∧ new.length + tPhi len (qAnd B len f k p1 P1).1 ≤ tPhi len p ∧ pshes M np new (qAnd B len f k p1 P1).2) → Q (.inl none) h') → G 4 [.ref m] [] h1 := by
    intro k
    induction k with
    | zero =>
      intro p1 P1 cs1 h1 hp s1 v1 K
      have g2 : ¬ tIsW B p1 (wd "and") = true := fun z => by
        have := phi_1 (len := len) (p := p1) (by rw [tIsW_2 z]; omega)
        omega
      refine b_X9_compileConjunction_4 hG ?_
      dsimp only [q_X9_compileConjunction_4, j_wp, j_opB, j_opA, j_nth, j_i1, j_i2, j_l1, j_l2, j_li, j_f1, j_f2, j_d1, j_d2, j_r1, j_ai, j_aii, j_ail, j_aid, j_air, j_st1, j_st2, j_stu, j_kl, j_cond, j_args, j_out, j_few, j_cw, j_nat, j_pad, j_exp, Nat.reduceAdd]
      refine sp_X9_accept hl hJ (QR_P s1) 65 rfl (by omega) (fun h2 s2 => ?_)
      have g3 : ¬ tIsW B p1 (wd ("PacketSchedulerModel", 452, "and").2.2) = true := g2
      simp only [g3, if_false, Bool.false_eq_true] at s2 ⊢
      simp only [j_ref, j_ari, j_arb, j_arr, j_len, j_nar, j_oi, j_ol, j_of, j_od, j_or, j_ov, true_and, and_true, if_true]
      refine b_X9_compileConjunction_27 hG ?_
      dsimp only [q_X9_compileConjunction_27, j_wp, j_opB, j_opA, j_nth, j_i1, j_i2, j_l1, j_l2, j_li, j_f1, j_f2, j_d1, j_d2, j_r1, j_ai, j_aii, j_ail, j_aid, j_air, j_st1, j_st2, j_stu, j_kl, j_cond, j_args, j_out, j_few, j_cw, j_nat, j_pad, j_exp, Nat.reduceAdd]
      exact K h2 cs1 (QR_p s1 s2) v1
    | succ k ih =>
      intro p1 P1 cs1 h1 hp s1 v1 K
      unfold qAnd at K
      refine b_X9_compileConjunction_4 hG ?_
      dsimp only [q_X9_compileConjunction_4, j_wp, j_opB, j_opA, j_nth, j_i1, j_i2, j_l1, j_l2, j_li, j_f1, j_f2, j_d1, j_d2, j_r1, j_ai, j_aii, j_ail, j_aid, j_air, j_st1, j_st2, j_stu, j_kl, j_cond, j_args, j_out, j_few, j_cw, j_nat, j_pad, j_exp, Nat.reduceAdd]
      refine sp_X9_accept hl hJ (QR_P s1) 65 rfl (by omega) (fun h2 s2 => ?_)
      by_cases g2 : tIsW B p1 (wd "and") = true
      · have g3 : tIsW B p1 (wd ("PacketSchedulerModel", 452, "and").2.2) = true := g2
        simp only [g3, if_true] at s2 ⊢
        rw [if_pos g2] at K
        simp only [j_ref, j_ari, j_arb, j_arr, j_len, j_nar, j_oi, j_ol, j_of, j_od, j_or, j_ov, true_and, and_true]
        rw [if_neg (by decide)]
        have q2 := QR_p s1 s2
        have k2 := tIsW_2 g2
        have ph := phi_2 (B := B) (PR_o (QR_P s1)) k2
        obtain ⟨new, ec, hn, hps⟩ := v1 (by omega)
        have hb2 : cs1.length + tPhi len (tNext B len p1) ≤ 200 := by
          rw [ec]
          simp only [List.length_append]
          omega
        refine hf _ cs1 h2 _ q2 hb2 (fun h3 cs3 s3 v3 => ?_)
        simp only [j_ref, j_ari, j_arb, j_arr, j_len, j_nar, j_oi, j_ol, j_of, j_od, j_or, j_ov, true_and, and_true]
        have ph3 : tPhi len (f (tNext B len p1)).1 ≤ tPhi len (tNext B len p1) := by
          by_cases g5 : tkK (f (tNext B len p1)).1 = 5
          · rw [phi_5 g5]; omega
          · obtain ⟨n3, -, hn3, -⟩ := v3 g5
            omega
        refine sp_X9_emit hl s3 (fun z => ?_) (fun h4 s4 => ?_)
        · obtain ⟨n3, ec3, hn3, -⟩ := v3 z
          rw [ec3, ec]
          simp only [List.length_append]
          omega
        · simp only [j_ref, j_ari, j_arb, j_arr, j_len, j_nar, j_oi, j_ol, j_of, j_od, j_or, j_ov, true_and, and_true]
          refine ih _ _ _ h4 (by omega) s4 (fun z => ?_) K
          rw [if_neg z]
          obtain ⟨n3, ec3, hn3, hps3⟩ := v3 z
          refine ⟨new ++ n3 ++ [-24], ?_, ?_, ps_and hps hps3⟩
          · rw [ec3, ec]
            simp
          · simp only [List.length_append, List.length_cons, List.length_nil]
            omega
      · have g3 : ¬ tIsW B p1 (wd ("PacketSchedulerModel", 452, "and").2.2) = true := g2
        simp only [g3, if_false, Bool.false_eq_true] at s2 ⊢
        rw [if_neg g2] at K
        simp only [j_ref, j_ari, j_arb, j_arr, j_len, j_nar, j_oi, j_ol, j_of, j_od, j_or, j_ov, true_and, and_true, if_true]
        refine b_X9_compileConjunction_27 hG ?_
        dsimp only [q_X9_compileConjunction_27, j_wp, j_opB, j_opA, j_nth, j_i1, j_i2, j_l1, j_l2, j_li, j_f1, j_f2, j_d1, j_d2, j_r1, j_ai, j_aii, j_ail, j_aid, j_air, j_st1, j_st2, j_stu, j_kl, j_cond, j_args, j_out, j_few, j_cw, j_nat, j_pad, j_exp, Nat.reduceAdd]
        exact K h2 cs1 (QR_p s1 s2) v1
  refine b_X9_compileConjunction_0 hG ?_
  dsimp only [q_X9_compileConjunction_0, j_wp, j_opB, j_opA, j_nth, j_i1, j_i2, j_l1, j_l2, j_li, j_f1, j_f2, j_d1, j_d2, j_r1, j_ai, j_aii, j_ail, j_aid, j_air, j_st1, j_st2, j_stu, j_kl, j_cond, j_args, j_out, j_few, j_cw, j_nat, j_pad, j_exp, Nat.reduceAdd]
  refine hf p cs h _ s hb (fun h1 cs1 s1 v1 => ?_)
  simp only [j_ref, j_ari, j_arb, j_arr, j_len, j_nar, j_oi, j_ol, j_of, j_od, j_or, j_ov, true_and, and_true]
  refine loop 200 _ _ cs1 h1 ?_ s1 v1 H
  by_cases g5 : tkK (f p).1 = 5
  · rw [phi_5 g5]; omega
  · obtain ⟨n3, -, hn3, -⟩ := v1 g5
    omega
theorem sp_test (hl : l.stackTraces = false) (hJ : JS l D bs E) {f : Tk → Tk × (Nat → Bool)} {e : Nat} (hf : FacS l D bs E h0 m B sz len M Md np nst n_X9_compileConjunction (qConj B len f) (e + 6)) : FacS l D bs E h0 m B sz len M Md np nst n_X9_compileTest (qTest B len f) (e + 7) := by
  intro p cs h Q s hb H
  have hB := PR_B (QR_P s)
  unfold qTest at H
  refine j_meth hl rfl g_X9_compileTest (Nat.le_of_ble_eq_true rfl) (fun _ => ⟨_, _, rfl, (PR_sh (QR_P s))⟩) hB.1 hB.2 (fun G hG => ?_)
  have loop : ∀ (k : Nat) (p1 : Tk) (P1 : Nat → Bool) (cs1 : List Int32) (h1 : j_H), tPhi len p1 ≤ k → QR E bs h0 m B sz len Md p1 cs1 nst h1 → (tkK p1 ≠ 5 → ∃ new, cs1 = cs ++ new ∧ new.length + tPhi len p1 ≤ tPhi len p ∧ pshes M np new P1) → (∀ h' cs', QR E bs h0 m B sz len Md (qOr B len f k p1 P1).1 cs' nst h' → (tkK (qOr B len f k p1 P1).1 ≠ 5 → ∃ new, cs' = cs ++ new ∧ new.length + tPhi len (qOr B len f k p1 P1).1 ≤ tPhi len p ∧ pshes M np new (qOr B len f k p1 P1).2) → Q (.inl none) h') → G 4 [.ref m] [] h1 := by
    intro k
    induction k with
    | zero =>
      intro p1 P1 cs1 h1 hp s1 v1 K
      have g2 : ¬ tIsW B p1 (wd "or") = true := fun z => by
        have := phi_1 (len := len) (p := p1) (by rw [tIsW_2 z]; omega)
        omega
      refine b_X9_compileTest_4 hG ?_
      dsimp only [q_X9_compileTest_4, j_wp, j_opB, j_opA, j_nth, j_i1, j_i2, j_l1, j_l2, j_li, j_f1, j_f2, j_d1, j_d2, j_r1, j_ai, j_aii, j_ail, j_aid, j_air, j_st1, j_st2, j_stu, j_kl, j_cond, j_args, j_out, j_few, j_cw, j_nat, j_pad, j_exp, Nat.reduceAdd]
      refine sp_X9_accept hl hJ (QR_P s1) 66 rfl (by omega) (fun h2 s2 => ?_)
      have g3 : ¬ tIsW B p1 (wd ("PacketSchedulerModel", 457, "or").2.2) = true := g2
      simp only [g3, if_false, Bool.false_eq_true] at s2 ⊢
      simp only [j_ref, j_ari, j_arb, j_arr, j_len, j_nar, j_oi, j_ol, j_of, j_od, j_or, j_ov, true_and, and_true, if_true]
      refine b_X9_compileTest_27 hG ?_
      dsimp only [q_X9_compileTest_27, j_wp, j_opB, j_opA, j_nth, j_i1, j_i2, j_l1, j_l2, j_li, j_f1, j_f2, j_d1, j_d2, j_r1, j_ai, j_aii, j_ail, j_aid, j_air, j_st1, j_st2, j_stu, j_kl, j_cond, j_args, j_out, j_few, j_cw, j_nat, j_pad, j_exp, Nat.reduceAdd]
      exact K h2 cs1 (QR_p s1 s2) v1
    | succ k ih =>
      intro p1 P1 cs1 h1 hp s1 v1 K
      unfold qOr at K
      refine b_X9_compileTest_4 hG ?_
      dsimp only [q_X9_compileTest_4, j_wp, j_opB, j_opA, j_nth, j_i1, j_i2, j_l1, j_l2, j_li, j_f1, j_f2, j_d1, j_d2, j_r1, j_ai, j_aii, j_ail, j_aid, j_air, j_st1, j_st2, j_stu, j_kl, j_cond, j_args, j_out, j_few, j_cw, j_nat, j_pad, j_exp, Nat.reduceAdd]
      refine sp_X9_accept hl hJ (QR_P s1) 66 rfl (by omega) (fun h2 s2 => ?_)
      by_cases g2 : tIsW B p1 (wd "or") = true
      · have g3 : tIsW B p1 (wd ("PacketSchedulerModel", 457, "or").2.2) = true := g2
        simp only [g3, if_true] at s2 ⊢
        rw [if_pos g2] at K
        simp only [j_ref, j_ari, j_arb, j_arr, j_len, j_nar, j_oi, j_ol, j_of, j_od, j_or, j_ov, true_and, and_true]
        rw [if_neg (by decide)]
        have q2 := QR_p s1 s2
        have k2 := tIsW_2 g2
        have ph := phi_2 (B := B) (PR_o (QR_P s1)) k2
        obtain ⟨new, ec, hn, hps⟩ := v1 (by omega)
        have hb2 : cs1.length + tPhi len (tNext B len p1) ≤ 200 := by
          rw [ec]
          simp only [List.length_append]
          omega
        refine hf _ cs1 h2 _ q2 hb2 (fun h3 cs3 s3 v3 => ?_)
        simp only [j_ref, j_ari, j_arb, j_arr, j_len, j_nar, j_oi, j_ol, j_of, j_od, j_or, j_ov, true_and, and_true]
        have ph3 : tPhi len (qConj B len f (tNext B len p1)).1 ≤ tPhi len (tNext B len p1) := by
          by_cases g5 : tkK (qConj B len f (tNext B len p1)).1 = 5
          · rw [phi_5 g5]; omega
          · obtain ⟨n3, -, hn3, -⟩ := v3 g5
            omega
        refine sp_X9_emit hl s3 (fun z => ?_) (fun h4 s4 => ?_)
        · obtain ⟨n3, ec3, hn3, -⟩ := v3 z
          rw [ec3, ec]
          simp only [List.length_append]
          omega
        · simp only [j_ref, j_ari, j_arb, j_arr, j_len, j_nar, j_oi, j_ol, j_of, j_od, j_or, j_ov, true_and, and_true]
          refine ih _ _ _ h4 (by omega) s4 (fun z => ?_) K
          rw [if_neg z]
          obtain ⟨n3, ec3, hn3, hps3⟩ := v3 z
          refine ⟨new ++ n3 ++ [-25], ?_, ?_, ps_or hps hps3⟩
          · rw [ec3, ec]
            simp
          · simp only [List.length_append, List.length_cons, List.length_nil]
            omega
      · have g3 : ¬ tIsW B p1 (wd ("PacketSchedulerModel", 457, "or").2.2) = true := g2
        simp only [g3, if_false, Bool.false_eq_true] at s2 ⊢
        rw [if_neg g2] at K
        simp only [j_ref, j_ari, j_arb, j_arr, j_len, j_nar, j_oi, j_ol, j_of, j_od, j_or, j_ov, true_and, and_true, if_true]
        refine b_X9_compileTest_27 hG ?_
        dsimp only [q_X9_compileTest_27, j_wp, j_opB, j_opA, j_nth, j_i1, j_i2, j_l1, j_l2, j_li, j_f1, j_f2, j_d1, j_d2, j_r1, j_ai, j_aii, j_ail, j_aid, j_air, j_st1, j_st2, j_stu, j_kl, j_cond, j_args, j_out, j_few, j_cw, j_nat, j_pad, j_exp, Nat.reduceAdd]
        exact K h2 cs1 (QR_p s1 s2) v1
  refine b_X9_compileTest_0 hG ?_
  dsimp only [q_X9_compileTest_0, j_wp, j_opB, j_opA, j_nth, j_i1, j_i2, j_l1, j_l2, j_li, j_f1, j_f2, j_d1, j_d2, j_r1, j_ai, j_aii, j_ail, j_aid, j_air, j_st1, j_st2, j_stu, j_kl, j_cond, j_args, j_out, j_few, j_cw, j_nat, j_pad, j_exp, Nat.reduceAdd]
  refine hf p cs h _ s hb (fun h1 cs1 s1 v1 => ?_)
  simp only [j_ref, j_ari, j_arb, j_arr, j_len, j_nar, j_oi, j_ol, j_of, j_od, j_or, j_ov, true_and, and_true]
  refine loop 200 _ _ cs1 h1 ?_ s1 v1 H
  by_cases g5 : tkK (qConj B len f p).1 = 5
  · rw [phi_5 g5]; omega
  · obtain ⟨n3, -, hn3, -⟩ := v1 g5
    omega
end RCo
