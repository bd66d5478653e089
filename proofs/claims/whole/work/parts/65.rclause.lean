/-! ===== the reference: clauses, load, feed ===== -/
theorem sSetting_phi {B : Nat → Int32} {len : Nat} {p : Tk} {most : Int32} (ok : tkOk len p) (g : tkK p = 2) : tPhi len (sSetting B len p most).2 + 1 ≤ tPhi len p := by
  have h2 := phi_2 (B := B) ok g
  have a1 := phi_take (B := B) (lo := 1) (hi := most) (tNext_ok (B := B) ok)
  have a2 := phi_sign (B := B) (c := 59) (tTake_ok (B := B) (lo := 1) (hi := most) (tNext_ok (B := B) ok))
  show tPhi len (tSign B len (tTake B len (tNext B len p) 1 most).2 59) + 1 ≤ _
  omega
theorem sOptions_ok {B : Nat → Int32} {len : Nat} : ∀ {k : Nat} {p : Tk} {S : Sup}, tkOk len p → tkOk len (sOptions B len k p S).1 ∧ tPhi len (sOptions B len k p S).1 ≤ tPhi len p := by
  intro k
  induction k with
  | zero => intro p S ok; exact ⟨ok, Nat.le_refl _⟩
  | succ k ih =>
    intro p S ok
    unfold sOptions
    split
    · rename_i g
      have h1 := ih (S := (sOption B len p S).2) (sOption_ok (B := B) (S := S) ok)
      have h2 := phi_opt (B := B) (S := S) ok g
      exact ⟨h1.1, by omega⟩
    · exact ⟨ok, Nat.le_refl _⟩
theorem sCond_ok {B : Nat → Int32} {len : Nat} {p : Tk} {S : Sup} (ok : tkOk len p) : tkOk len (sCond B len p S).1 ∧ tPhi len (sCond B len p S).1 ≤ tPhi len p := by
  by_cases g : isCnd B p
  · have h := phi_cnd (B := B) (S := S) ok g
    refine ⟨?_, by omega⟩
    rw [sCond_y g]
    exact tTake_ok (tTake_ok (tNext_ok ok))
  · rw [sCond_n g]
    exact ⟨tFail_ok ok, by rw [phi_fail]; omega⟩
theorem sConds_ok {B : Nat → Int32} {len : Nat} : ∀ {k : Nat} {p : Tk} {S : Sup}, tkOk len p → tkOk len (sConds B len k p S).1 ∧ tPhi len (sConds B len k p S).1 ≤ tPhi len p := by
  intro k
  induction k with
  | zero => intro p S ok; exact ⟨ok, Nat.le_refl _⟩
  | succ k ih =>
    intro p S ok
    unfold sConds
    split
    · split
      · exact ⟨ok, Nat.le_refl _⟩
      · have h0 := sCond_ok (B := B) (S := S) ok
        have h1 := ih (S := (sCond B len p S).2) h0.1
        exact ⟨h1.1, by omega⟩
    · exact ⟨ok, Nat.le_refl _⟩
theorem sFlow_phi {B : Nat → Int32} {len : Nat} {p : Tk} {S : Sup} (ok : tkOk len p) (g : tkK p = 2) : tkOk len (sFlow B len p S).1 ∧ tPhi len (sFlow B len p S).1 + 1 ≤ tPhi len p := by
  have h1 := phi_1 (len := len) (p := p) (by omega)
  unfold sFlow
  split
  · have h2 := phi_2 (B := B) ok g
    have k0 := tNext_ok (B := B) ok
    have k1 := tTake_ok (B := B) (lo := 1) (hi := 16) k0
    have k2 := tTake_ok (B := B) (lo := 1) (hi := 60000) k1
    have a1 := phi_take (B := B) (lo := 1) (hi := 16) k0
    have a2 := phi_take (B := B) (lo := 1) (hi := 60000) k1
    have k3 : tkOk len (sFlow0 B len p S).1 := k2
    have a3 : tPhi len (sFlow0 B len p S).1 ≤ tPhi len (tTake B len (tNext B len p) 1 16).2 := a2
    have k4 := sOptions_ok (B := B) (k := 800) (S := (sFlow0 B len p S).2) k3
    have a5 := phi_sign (B := B) (c := 59) k4.1
    refine ⟨tSign_ok k4.1, ?_⟩
    show tPhi len (tSign B len (sOptions B len 800 (sFlow0 B len p S).1 (sFlow0 B len p S).2).1 59) + 1 ≤ _
    omega
  · exact ⟨tFail_ok ok, by show tPhi len (tFail p 3) + 1 ≤ _; rw [phi_fail]; omega⟩
theorem sRule_phi {B : Nat → Int32} {len : Nat} {p : Tk} {S : Sup} (ok : tkOk len p) (g : tkK p = 2) : tkOk len (sRule B len p S).1 ∧ tPhi len (sRule B len p S).1 + 1 ≤ tPhi len p := by
  have h1 := phi_1 (len := len) (p := p) (by omega)
  unfold sRule
  split
  · have h2 := phi_2 (B := B) ok g
    have k0 := tNext_ok (B := B) ok
    have k1 := sConds_ok (B := B) (k := 800) (S := sRule0 S) k0
    have k2 := tWord_ok (B := B) (w := wd "to") k1.1
    have a2 := phi_word (B := B) (w := wd "to") k1.1
    have k3 := tTake_ok (B := B) (lo := 0) (hi := nI (sN (sConds B len 800 (tNext B len p) (sRule0 S)).2) - 1) k2
    have a3 := phi_take (B := B) (lo := 0) (hi := nI (sN (sConds B len 800 (tNext B len p) (sRule0 S)).2) - 1) k2
    have a4 := phi_sign (B := B) (c := 59) k3
    refine ⟨tSign_ok k3, ?_⟩
    show tPhi len (tSign B len (tTake B len (tWord B len (sConds B len 800 (tNext B len p) (sRule0 S)).1 (wd "to")) 0 (nI (sN (sConds B len 800 (tNext B len p) (sRule0 S)).2) - 1)).2 59) + 1 ≤ _
    omega
  · exact ⟨tFail_ok ok, by show tPhi len (tFail p 3) + 1 ≤ _; rw [phi_fail]; omega⟩
theorem sClause_phi {B : Nat → Int32} {len : Nat} {p : Tk} {S : Sup} (ok : tkOk len p) (g : ¬ (tkK p = 0 ∨ tkK p = 5)) : tkOk len (sClause B len p S).1 ∧ tPhi len (sClause B len p S).1 + 1 ≤ tPhi len p := by
  have h1 := phi_1 (len := len) (p := p) g
  have st : ∀ most, tkK p = 2 → tkOk len (sSetting B len p most).2 ∧ tPhi len (sSetting B len p most).2 + 1 ≤ tPhi len p := fun most g2 => ⟨tSign_ok (tTake_ok (tNext_ok ok)), sSetting_phi ok g2⟩
  unfold sClause
  split
  · rename_i e; exact sFlow_phi ok (tIsW_2 e)
  · split
    · rename_i e; exact sRule_phi ok (tIsW_2 e)
    · split
      · rename_i e; exact st 9000 (tIsW_2 e)
      · split
        · rename_i e; exact st 50 (tIsW_2 e)
        · split
          · rename_i e; exact st 200 (tIsW_2 e)
          · exact ⟨tFail_ok ok, by show tPhi len (tFail p 1) + 1 ≤ _; rw [phi_fail]; omega⟩
theorem sClause_N {B : Nat → Int32} {len : Nat} {p : Tk} {S : Sup} (hN : sN S ≤ 6) (hM : sM S ≤ 12) : sN (sClause B len p S).2 ≤ 6 ∧ sM (sClause B len p S).2 ≤ 12 := by
  unfold sClause
  split
  · unfold sFlow
    split
    · rename_i g
      have := sOptions_N (B := B) (len := len) (k := 800) (p := (sFlow0 B len p S).1) (S := (sFlow0 B len p S).2)
      have e := sFlow0_N B len p S
      exact ⟨by show sN (sOptions B len 800 (sFlow0 B len p S).1 (sFlow0 B len p S).2).2 + 1 ≤ 6; omega, by show sM (sOptions B len 800 (sFlow0 B len p S).1 (sFlow0 B len p S).2).2 ≤ 12; omega⟩
    · exact ⟨hN, hM⟩
  · split
    · unfold sRule
      split
      · rename_i g
        have := sConds_N (B := B) (len := len) (k := 800) (p := tNext B len p) (S := sRule0 S)
        have e1 : sN (sRule0 S) = sN S := rfl
        have e2 : sM (sRule0 S) = sM S := rfl
        exact ⟨by show sN (sConds B len 800 (tNext B len p) (sRule0 S)).2 ≤ 6; omega, by show sM (sConds B len 800 (tNext B len p) (sRule0 S)).2 + 1 ≤ 12; omega⟩
      · exact ⟨hN, hM⟩
    · split
      · exact ⟨hN, hM⟩
      · split
        · exact ⟨hN, hM⟩
        · split <;> exact ⟨hN, hM⟩
section RCl
variable {l : Launch} {D : va_G} {bs : Nat} {E : j_E} {h0 h : j_H} {m : Nat} {d : Nat} {Q : j_O → j_H → Prop} {B : Nat → Int32} {sz len : Nat} {p : Tk} {Md : Rf} {S : Sup} {n q : Nat}
set_option maxRecDepth 8000 in
theorem sp_X9_readClause (hl : l.stackTraces = false) (hJ : JS l D bs E) (s : PR E bs h0 m B sz len p Md h) (hk : ¬ (tkK p = 0 ∨ tkK p = 5)) (hN : sN S ≤ 6) (hM : sM S ≤ 12) (hD : DrB S Md (sN S) (sM S)) (hlen : len ≤ 800) (H : ∀ h' Md', PR E bs h0 m B sz len (sClause B len p S).1 Md' h' → (tkK (sClause B len p S).1 ≠ 5 → DrB (sClause B len p S).2 Md' (sN (sClause B len p S).2) (sM (sClause B len p S).2)) → Q (.inl none) h') : j_Met l D bs E (d + 9) n_X9_readClause [.ref m] h Q := by
  have hB := PR_B s
  unfold sClause at H
  refine j_meth hl rfl g_X9_readClause (Nat.le_of_ble_eq_true rfl) (fun _ => ⟨_, _, rfl, (PR_sh s)⟩) hB.1 hB.2 (fun G hG => ?_)
  have fin : ∀ (pr : Tk) (Md1 : Rf) (h1 : j_H), PR E bs h0 m B sz len pr Md1 h1 → (∀ h', PR E bs h0 m B sz len (tSign B len pr 59) Md1 h' → Q (.inl none) h') → G 95 [.ref m] [] h1 := by
    intro pr Md1 h1 s1 K
    refine b_X9_readClause_95 hG ?_
    dsimp only [q_X9_readClause_95, j_wp, j_opB, j_opA, j_nth, j_i1, j_i2, j_l1, j_l2, j_li, j_f1, j_f2, j_d1, j_d2, j_r1, j_ai, j_aii, j_ail, j_aid, j_air, j_st1, j_st2, j_stu, j_kl, j_cond, j_args, j_out, j_few, j_cw, j_nat, j_pad, j_exp, Nat.reduceAdd]
    refine sp_X9_expect hl s1 (c := 59) (by omega) (fun h2 s2 => ?_)
    simp only [j_ref, j_ari, j_arb, j_arr, j_len, j_nar, j_oi, j_ol, j_of, j_od, j_or, j_ov, true_and, and_true]
    exact K h2 s2
  have n5 : tkK p ≠ 5 := fun z => hk (Or.inr z)
  refine b_X9_readClause_0 hG ?_
  dsimp only [q_X9_readClause_0, j_wp, j_opB, j_opA, j_nth, j_i1, j_i2, j_l1, j_l2, j_li, j_f1, j_f2, j_d1, j_d2, j_r1, j_ai, j_aii, j_ail, j_aid, j_air, j_st1, j_st2, j_stu, j_kl, j_cond, j_args, j_out, j_few, j_cw, j_nat, j_pad, j_exp, Nat.reduceAdd]
  refine sp_X9_isWord hl hJ s 40 rfl (by omega) ?_
  simp only [j_ref, j_ari, j_arb, j_arr, j_len, j_nar, j_oi, j_ol, j_of, j_od, j_or, j_ov, true_and, and_true]
  by_cases g1 : tIsW B p (wd "flow") = true
  · simp only [g1, if_true] at H ⊢
    rw [if_neg (by decide)]
    refine sp_X9_readFlow hl hJ s (tIsW_2 g1) hN hD hlen (fun h1 pr Md1 s1 e1 d1 => ?_)
    simp only [j_ref, j_ari, j_arb, j_arr, j_len, j_nar, j_oi, j_ol, j_of, j_od, j_or, j_ov, true_and, and_true]
    refine fin pr Md1 h1 s1 (fun h2 s2 => H h2 Md1 (by rw [← e1]; exact s2) (fun z => ?_))
    have em : sM (sFlow B len p S).2 = sM S := by
      unfold sFlow
      split
      · show sM (sOptions B len 800 (sFlow0 B len p S).1 (sFlow0 B len p S).2).2 = sM S
        rw [sOptions_N.2]
        rfl
      · rfl
    rw [em]
    exact d1 z
  · simp only [g1, if_false, Bool.false_eq_true, if_true] at H ⊢
    refine b_X9_readClause_16 hG ?_
    dsimp only [q_X9_readClause_16, j_wp, j_opB, j_opA, j_nth, j_i1, j_i2, j_l1, j_l2, j_li, j_f1, j_f2, j_d1, j_d2, j_r1, j_ai, j_aii, j_ail, j_aid, j_air, j_st1, j_st2, j_stu, j_kl, j_cond, j_args, j_out, j_few, j_cw, j_nat, j_pad, j_exp, Nat.reduceAdd]
    refine sp_X9_isWord hl hJ s 60 rfl (by omega) ?_
    simp only [j_ref, j_ari, j_arb, j_arr, j_len, j_nar, j_oi, j_ol, j_of, j_od, j_or, j_ov, true_and, and_true]
    by_cases g2 : tIsW B p (wd "rule") = true
    · simp only [g2, if_true] at H ⊢
      rw [if_neg (by decide)]
      refine sp_X9_readRule hl hJ s (tIsW_2 g2) hN hM hD hlen (fun h1 pr Md1 s1 e1 d1 => ?_)
      simp only [j_ref, j_ari, j_arb, j_arr, j_len, j_nar, j_oi, j_ol, j_of, j_od, j_or, j_ov, true_and, and_true]
      refine fin pr Md1 h1 s1 (fun h2 s2 => H h2 Md1 (by rw [← e1]; exact s2) (fun z => ?_))
      have en : sN (sRule B len p S).2 = sN S := by
        unfold sRule
        split
        · show sN (sConds B len 800 (tNext B len p) (sRule0 S)).2 = sN S
          rw [sConds_N.1]
          rfl
        · rfl
      rw [en]
      exact d1 z
    · simp only [g2, if_false, Bool.false_eq_true, if_true] at H ⊢
      refine b_X9_readClause_33 hG ?_
      dsimp only [q_X9_readClause_33, j_wp, j_opB, j_opA, j_nth, j_i1, j_i2, j_l1, j_l2, j_li, j_f1, j_f2, j_d1, j_d2, j_r1, j_ai, j_aii, j_ail, j_aid, j_air, j_st1, j_st2, j_stu, j_kl, j_cond, j_args, j_out, j_few, j_cw, j_nat, j_pad, j_exp, Nat.reduceAdd]
      refine sp_X9_accept hl hJ s 61 rfl (by omega) (fun h1 s1 => ?_)
      simp only [j_ref, j_ari, j_arb, j_arr, j_len, j_nar, j_oi, j_ol, j_of, j_od, j_or, j_ov, true_and, and_true]
      by_cases g3 : tIsW B p (wd "link") = true
      · simp only [g3, if_true] at H s1 ⊢
        rw [if_neg (by decide)]
        refine sp_X9_putNumber hl s1 (k := 6) (by omega) (Mf := fun v => rsX Md 6 v) (fun g v r => RG_X r (by omega) v) (fun h2 s2 => ?_)
        simp only [j_ref, j_ari, j_arb, j_arr, j_len, j_nar, j_oi, j_ol, j_of, j_od, j_or, j_ov, true_and, and_true]
        refine fin _ _ h2 s2 (fun h3 s3 => H h3 _ s3 (fun z => ?_))
        have z2 : tkK (tTake B len (tNext B len p) 1 9000).2 ≠ 5 := fun y => z (by show tkK (tSign B len (tTake B len (tNext B len p) 1 9000).2 59) = 5; rw [tSign_5 y]; exact y)
        rw [if_neg z2]
        exact DrB_4 _ hD
      · simp only [g3, if_false, Bool.false_eq_true, if_true] at H s1 ⊢
        refine b_X9_readClause_56 hG ?_
        dsimp only [q_X9_readClause_56, j_wp, j_opB, j_opA, j_nth, j_i1, j_i2, j_l1, j_l2, j_li, j_f1, j_f2, j_d1, j_d2, j_r1, j_ai, j_aii, j_ail, j_aid, j_air, j_st1, j_st2, j_stu, j_kl, j_cond, j_args, j_out, j_few, j_cw, j_nat, j_pad, j_exp, Nat.reduceAdd]
        refine sp_X9_accept hl hJ s1 62 rfl (by omega) (fun h2 s2 => ?_)
        simp only [j_ref, j_ari, j_arb, j_arr, j_len, j_nar, j_oi, j_ol, j_of, j_od, j_or, j_ov, true_and, and_true]
        by_cases g4 : tIsW B p (wd "delay") = true
        · simp only [g4, if_true] at H s2 ⊢
          rw [if_neg (by decide)]
          refine sp_X9_putNumber hl s2 (k := 7) (by omega) (Mf := fun v => rsX Md 7 v) (fun g v r => RG_X r (by omega) v) (fun h3 s3 => ?_)
          simp only [j_ref, j_ari, j_arb, j_arr, j_len, j_nar, j_oi, j_ol, j_of, j_od, j_or, j_ov, true_and, and_true]
          refine fin _ _ h3 s3 (fun h4 s4 => H h4 _ s4 (fun z => ?_))
          have z2 : tkK (tTake B len (tNext B len p) 1 50).2 ≠ 5 := fun y => z (by show tkK (tSign B len (tTake B len (tNext B len p) 1 50).2 59) = 5; rw [tSign_5 y]; exact y)
          rw [if_neg z2]
          exact DrB_5 _ hD
        · simp only [g4, if_false, Bool.false_eq_true, if_true] at H s2 ⊢
          refine b_X9_readClause_78 hG ?_
          dsimp only [q_X9_readClause_78, j_wp, j_opB, j_opA, j_nth, j_i1, j_i2, j_l1, j_l2, j_li, j_f1, j_f2, j_d1, j_d2, j_r1, j_ai, j_aii, j_ail, j_aid, j_air, j_st1, j_st2, j_stu, j_kl, j_cond, j_args, j_out, j_few, j_cw, j_nat, j_pad, j_exp, Nat.reduceAdd]
          refine sp_X9_expectWord hl hJ s2 63 rfl (by omega) (fun h3 s3 => ?_)
          simp only [j_ref, j_ari, j_arb, j_arr, j_len, j_nar, j_oi, j_ol, j_of, j_od, j_or, j_ov, true_and, and_true]
          refine sp_X9_putNumber hl s3 (k := 8) (by omega) (Mf := fun v => rsX Md 8 v) (fun g v r => RG_X r (by omega) v) (fun h4 s4 => ?_)
          simp only [j_ref, j_ari, j_arb, j_arr, j_len, j_nar, j_oi, j_ol, j_of, j_od, j_or, j_ov, true_and, and_true]
          by_cases g5 : tIsW B p (wd "timeout") = true
          · have ew : tWord B len p (wd "timeout") = tNext B len p := by unfold tWord; rw [if_pos g5]
            rw [show (wd ("PacketSchedulerModel", 417, "timeout").2.2) = wd "timeout" from rfl, ew] at s4
            simp only [g5, if_true] at H
            refine fin _ _ h4 s4 (fun h5 s5 => H h5 _ s5 (fun z => ?_))
            have z2 : tkK (tTake B len (tNext B len p) 1 200).2 ≠ 5 := fun y => z (by show tkK (tSign B len (tTake B len (tNext B len p) 1 200).2 59) = 5; rw [tSign_5 y]; exact y)
            rw [if_neg z2]
            exact DrB_6 _ hD
          · have ew : tWord B len p (wd "timeout") = tFail p 1 := by unfold tWord; rw [if_neg g5, tNext_5 (tFail_5 p 1)]
            rw [show (wd ("PacketSchedulerModel", 417, "timeout").2.2) = wd "timeout" from rfl, ew, tTake_5 (tFail_5 p 1)] at s4
            simp only [g5, if_false, Bool.false_eq_true] at H
            refine fin _ _ h4 s4 (fun h5 s5 => H h5 _ (by rw [tSign_5 (tFail_5 p 1)] at s5; exact s5) (fun z => absurd (tFail_5 p 1) z))
theorem sp_X9_clear (hl : l.stackTraces = false) (hB : j_bd E h) {a : Nat} (ha : j_sh h a = some (.inl (0, 4073))) (H : ∀ h', FA (fun c => c = a) h h' → (∀ k, k < 4073 → j_I h' a k = if k = 6 then 1000 else if k = 7 then 2 else if k = 8 then 5 else 0) → Q (.inl none) h') : j_Met l D bs E (d + 1) n_X9_clear [.ref a] h Q := by
  refine j_meth hl rfl g_X9_clear (Nat.le_of_ble_eq_true rfl) (fun z => absurd z (by decide)) hB.1 hB.2 (fun G hG => ?_)
  have loop : ∀ (k i : Nat) (h1 : j_H), i + k = 4073 → FA (fun c => c = a) h h1 → (∀ j, j < i → j_I h1 a j = 0) → G 2 [.ref a, .int (nI i)] [] h1 := by
    intro k
    induction k with
    | zero =>
      intro i h1 hi f1 e1
      have sa : j_sh h1 a = some (.inl (0, 4073)) := by rw [f1.1]; exact ha
      have sa1 : ∀ k v, j_sh (j_setI h1 a k v) a = some (.inl (0, 4073)) := fun _ _ => sa
      have sa2 : ∀ k v k' v', j_sh (j_setI (j_setI h1 a k v) a k' v') a = some (.inl (0, 4073)) := fun _ _ _ _ => sa
      refine b_X9_clear_2 hG ?_
      dsimp only [q_X9_clear_2, j_wp, j_opB, j_opA, j_nth, j_i1, j_i2, j_l1, j_l2, j_li, j_f1, j_f2, j_d1, j_d2, j_r1, j_ai, j_aii, j_ail, j_aid, j_air, j_st1, j_st2, j_stu, j_kl, j_cond, j_args, j_out, j_few, j_cw, j_nat, j_pad, j_exp, Nat.reduceAdd]
      rw [if_neg (show ¬ nI i < (4073 : Int32) from nI_nlt (b := 4073) (by omega) (by omega))]
      refine b_X9_clear_19 hG ?_
      dsimp only [q_X9_clear_19, j_wp, j_opB, j_opA, j_nth, j_i1, j_i2, j_l1, j_l2, j_li, j_f1, j_f2, j_d1, j_d2, j_r1, j_ai, j_aii, j_ail, j_aid, j_air, j_st1, j_st2, j_stu, j_kl, j_cond, j_args, j_out, j_few, j_cw, j_nat, j_pad, j_exp, Nat.reduceAdd]
      simp only [sa, j_ref, j_ari, j_arb, j_arr, j_len, j_nar, j_oi, j_ol, j_of, j_od, j_or, j_ov, true_and, and_true]
      refine ⟨vp_c (k := 6) (by omega) (by omega), ?_⟩
      simp only [sa1, j_ref, j_ari, j_arb, j_arr, j_len, j_nar, j_oi, j_ol, j_of, j_od, j_or, j_ov, true_and, and_true]
      refine ⟨vp_c (k := 7) (by omega) (by omega), ?_⟩
      simp only [sa2, j_ref, j_ari, j_arb, j_arr, j_len, j_nar, j_oi, j_ol, j_of, j_od, j_or, j_ov, true_and, and_true]
      refine ⟨vp_c (k := 8) (by omega) (by omega), ?_⟩
      refine H _ (FA_I (FA_I (FA_I f1 rfl) rfl) rfl) (fun k hk => ?_)
      rw [show Int32.toNatClampNeg 6 = 6 by decide, show Int32.toNatClampNeg 7 = 7 by decide, show Int32.toNatClampNeg 8 = 8 by decide]
      by_cases k8 : k = 8
      · subst k8; rw [jh_Is]; rfl
      · rw [jh_In (by omega)]
        by_cases k7 : k = 7
        · subst k7; rw [jh_Is]; rfl
        · rw [jh_In (by omega)]
          by_cases k6 : k = 6
          · subst k6; rw [jh_Is]; rfl
          · rw [jh_In (by omega), if_neg k6, if_neg k7, if_neg k8]
            exact e1 k (by omega)
    | succ k ih =>
      intro i h1 hi f1 e1
      have sa : j_sh h1 a = some (.inl (0, 4073)) := by rw [f1.1]; exact ha
      refine b_X9_clear_2 hG ?_
      dsimp only [q_X9_clear_2, j_wp, j_opB, j_opA, j_nth, j_i1, j_i2, j_l1, j_l2, j_li, j_f1, j_f2, j_d1, j_d2, j_r1, j_ai, j_aii, j_ail, j_aid, j_air, j_st1, j_st2, j_stu, j_kl, j_cond, j_args, j_out, j_few, j_cw, j_nat, j_pad, j_exp, Nat.reduceAdd]
      rw [if_pos (show nI i < (4073 : Int32) from nI_lt (b := 4073) (by omega) (by omega))]
      simp only [sa, j_ref, j_ari, j_arb, j_arr, j_len, j_nar, j_oi, j_ol, j_of, j_od, j_or, j_ov, true_and, and_true]
      refine ⟨vp_in_nI (by omega) (by omega), ?_⟩
      rw [nI_clamp (by omega), nI_1]
      refine ih (i + 1) _ (by omega) (FA_I f1 rfl) (fun j hj => ?_)
      by_cases e : j = i
      · subst e; exact jh_Is _ _ _ _
      · rw [jh_In (by omega)]
        exact e1 j (by omega)
  refine b_X9_clear_0 hG ?_
  dsimp only [q_X9_clear_0, j_wp, j_opB, j_opA, j_nth, j_i1, j_i2, j_l1, j_l2, j_li, j_f1, j_f2, j_d1, j_d2, j_r1, j_ai, j_aii, j_ail, j_aid, j_air, j_st1, j_st2, j_stu, j_kl, j_cond, j_args, j_out, j_few, j_cw, j_nat, j_pad, j_exp, Nat.reduceAdd]
  exact loop 4073 0 h (by omega) FA_rf (fun j hj => absurd hj (by omega))
/-- a cleared row -/
def rZero : Rf := (fun k => if k = 6 then 1000 else if k = 7 then 2 else if k = 8 then 5 else 0, fun _ _ => 0, fun _ _ => 0, fun _ _ => 0, fun _ _ => 0, fun _ _ => 0, fun _ _ => 0, fun _ => 0, fun _ => 0)
theorem RG_zero {g : Nat → Int32} (h : ∀ k, k < 4073 → g k = if k = 6 then 1000 else if k = 7 then 2 else if k = 8 then 5 else 0) : RG g rZero := by
  refine ⟨fun j g1 => ?_, fun r' j g1 g2 => ?_, fun r' j g1 g2 => ?_, fun r' j g1 g2 => ?_, fun r' j g1 g2 => ?_, fun r' j g1 g2 => ?_, fun r' j g1 g2 => ?_⟩
  · rw [h j (by omega)]; rfl
  all_goals (rw [h _ (by omega), if_neg (by omega), if_neg (by omega), if_neg (by omega)]; rfl)
end RCl
