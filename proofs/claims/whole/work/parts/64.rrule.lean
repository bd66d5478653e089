/-! ===== the reference: rules, clauses ===== -/
def isCnd (B : Nat → Int32) (p : Tk) : Prop := tIsW B p (wd "source") = true ∨ tIsW B p (wd "target") = true ∨ tIsW B p (wd "port") = true
theorem tIsW_l {B : Nat → Int32} {p : Tk} {w : List Nat} (g : tIsW B p w = true) : tkE p = tkS p + w.length := by
  unfold tIsW at g
  simp only [Bool.and_eq_true, decide_eq_true_eq] at g
  exact g.2.1
theorem tIsW_c {B : Nat → Int32} {p : Tk} {w : List Nat} (g : tIsW B p w = true) (h : 0 < w.length) : B (tkS p + 0) = nI (w.getD 0 0) := by
  unfold tIsW at g
  simp only [Bool.and_eq_true, decide_eq_true_eq] at g
  exact g.2.2 0 h
theorem tIsW_x {B : Nat → Int32} {p : Tk} {w v : List Nat} (g : tIsW B p w = true) (hw : 0 < w.length) (hv : 0 < v.length) (hne : ¬ nI (w.getD 0 0) = nI (v.getD 0 0)) : ¬ tIsW B p v = true := fun z => hne (by rw [← tIsW_c g hw, ← tIsW_c z hv])
theorem tIsW_y {B : Nat → Int32} {p : Tk} {w v : List Nat} (g : tIsW B p w = true) (hne : w.length ≠ v.length) : ¬ tIsW B p v = true := fun z => hne (by have h1 := tIsW_l g; have h2 := tIsW_l z; omega)
def cdC (B : Nat → Int32) (p : Tk) : Nat := if tIsW B p (wd "target") = true then 2 else if tIsW B p (wd "port") = true then 4 else 0
theorem sCond_y {B : Nat → Int32} {len : Nat} {p : Tk} {S : Sup} (g : isCnd B p) : sCond B len p S = ((tTake B len (tTake B len (tNext B len p) 0 255).2 (tTake B len (tNext B len p) 0 255).1 255).2, ssR (ssR S (sM S) (cdC B p) (tTake B len (tNext B len p) 0 255).1) (sM S) (cdC B p + 1) (tTake B len (tTake B len (tNext B len p) 0 255).2 (tTake B len (tNext B len p) 0 255).1 255).1) := by
  have e : (if tIsW B p (wd "target") = true then p else if tIsW B p (wd "port") = true then p else if tIsW B p (wd "source") = true then p else tFail p 1) = p := by
    split
    · rfl
    · split
      · rfl
      · rename_i g1 g2
        rw [if_pos (g.elim id (fun z => z.elim (fun z => absurd z g1) (fun z => absurd z g2)))]
  unfold sCond
  dsimp only
  rw [e]
  rfl
theorem sCond_n {B : Nat → Int32} {len : Nat} {p : Tk} {S : Sup} (g : ¬ isCnd B p) : (sCond B len p S).1 = tFail p 1 := by
  have e : (if tIsW B p (wd "target") = true then p else if tIsW B p (wd "port") = true then p else if tIsW B p (wd "source") = true then p else tFail p 1) = tFail p 1 := by
    rw [if_neg (fun z => g (Or.inr (Or.inl z))), if_neg (fun z => g (Or.inr (Or.inr z))), if_neg (fun z => g (Or.inl z))]
  unfold sCond
  dsimp only
  rw [e, tNext_5 (tFail_5 p 1), tTake_5 (tFail_5 p 1), tTake_5 (tFail_5 p 1)]
theorem phi_cnd {B : Nat → Int32} {len : Nat} {p : Tk} {S : Sup} (ok : tkOk len p) (g : isCnd B p) : tPhi len (sCond B len p S).1 + 1 ≤ tPhi len p := by
  have h2 := phi_2 (B := B) ok (g.elim tIsW_2 (fun z => z.elim tIsW_2 tIsW_2))
  rw [sCond_y g]
  have a1 := phi_take (B := B) (lo := 0) (hi := 255) (tNext_ok (B := B) ok)
  have a2 := phi_take (B := B) (lo := (tTake B len (tNext B len p) 0 255).1) (hi := 255) (tTake_ok (B := B) (lo := 0) (hi := 255) (tNext_ok (B := B) ok))
  dsimp only
  omega
section RRu
variable {l : Launch} {D : va_G} {bs : Nat} {E : j_E} {h0 h : j_H} {m : Nat} {d : Nat} {Q : j_O → j_H → Prop} {B : Nat → Int32} {sz len : Nat} {p : Tk} {Md : Rf} {S : Sup} {n q : Nat}
/-- while a rule is read: its six bounds too -/
def DrC (S : Sup) (Md : Rf) (n : Nat) : Prop := DrB S Md n (sM S) ∧ ∀ k, k < 6 → rU Md (sM S) k = sR S (sM S) k
theorem DrC_R {k : Nat} (v : Int32) (h : DrC S Md n) : DrC (ssR S (sM S) k v) (rsU Md (sM S) k v) n := by
  refine ⟨DrB_R _ _ _ h.1, fun j hj => ?_⟩
  show j_up (rU Md) (sM S) k v (sM S) j = j_up (sR S) (sM S) k v (sM S) j
  simp only [j_up]
  split
  · rfl
  · exact h.2 j hj
set_option maxRecDepth 8000 in
theorem sp_X9_readCondition (hl : l.stackTraces = false) (hJ : JS l D bs E) (s : PR E bs h0 m B sz len p Md h) (hq : sM S < 12) (hD : tkK p ≠ 5 → DrC S Md n) (H0 : ¬ isCnd B p → ∀ h', PR E bs h0 m B sz len p Md h' → Q (.inl (some (.int 0))) h') (H1 : isCnd B p → ∀ h' Md', PR E bs h0 m B sz len (sCond B len p S).1 Md' h' → (tkK (sCond B len p S).1 ≠ 5 → DrC (sCond B len p S).2 Md' n) → Q (.inl (some (.int (if tkK (sCond B len p S).1 = 5 then 0 else 1)))) h') : j_Met l D bs E (d + 6) n_X9_readCondition [.ref m, .int (nI (693 + 7 * sM S))] h Q := by
  have hB := PR_B s
  refine j_meth hl rfl g_X9_readCondition (Nat.le_of_ble_eq_true rfl) (fun _ => ⟨_, _, rfl, (PR_sh s)⟩) hB.1 hB.2 (fun G hG => ?_)
  have yes : ∀ (w : Nat) (h1 : j_H), isCnd B p → w < 3 → 2 * w = cdC B p → PR E bs h0 m B sz len (tNext B len p) Md h1 → G 40 [.ref m, .int (nI (693 + 7 * sM S)), j_u, j_u, j_u] [.int (nI w)] h1 := by
    intro w h1 gc hw ew s1
    have K := H1 gc
    rw [sCond_y gc, ← ew] at K
    have ei : nI (693 + 7 * sM S) + 2 * nI w = nI (693 + 7 * sM S + 2 * w) := by
      show nI (693 + 7 * sM S) + nI 2 * nI w = _
      rw [pk_mul, nI_add]
    have ei1 : nI (693 + 7 * sM S + 2 * w) + 1 = nI (693 + 7 * sM S + (2 * w + 1)) := nI_1 _
    refine b_X9_readCondition_40 hG ?_
    dsimp only [q_X9_readCondition_40, j_wp, j_opB, j_opA, j_nth, j_i1, j_i2, j_l1, j_l2, j_li, j_f1, j_f2, j_d1, j_d2, j_r1, j_ai, j_aii, j_ail, j_aid, j_air, j_st1, j_st2, j_stu, j_kl, j_cond, j_args, j_out, j_few, j_cw, j_nat, j_pad, j_exp, Nat.reduceAdd]
    rw [if_neg (nI_ne1 (by omega))]
    refine b_X9_readCondition_48 hG ?_
    dsimp only [q_X9_readCondition_48, j_wp, j_opB, j_opA, j_nth, j_i1, j_i2, j_l1, j_l2, j_li, j_f1, j_f2, j_d1, j_d2, j_r1, j_ai, j_aii, j_ail, j_aid, j_air, j_st1, j_st2, j_stu, j_kl, j_cond, j_args, j_out, j_few, j_cw, j_nat, j_pad, j_exp, Nat.reduceAdd]
    refine sp_X9_number hl s1 (fun h2 s2 => ?_)
    simp only [j_ref, j_ari, j_arb, j_arr, j_len, j_nar, j_oi, j_ol, j_of, j_od, j_or, j_ov, true_and, and_true, j_st1, j_kl]
    refine sp_X9_number hl s2 (fun h3 s3 => ?_)
    simp only [PR_sh s3, PR_r1 s3, PR_a1 s3, ei, j_st1, j_kl, j_ref, j_ari, j_arb, j_arr, j_len, j_nar, j_oi, j_ol, j_of, j_od, j_or, j_ov, true_and, and_true]
    refine ⟨vp_in_nI (by omega) (by omega), ?_⟩
    rw [nI_clamp (by omega)]
    have s4 := PR_dr s3 (RG_U (PR_g s3) (r := sM S) (k := 2 * w) (by omega) (by omega) (tTake B len (tNext B len p) 0 255).1)
    simp only [PR_sh s4, PR_r1 s4, PR_a1 s4, ei, ei1, j_ref, j_ari, j_arb, j_arr, j_len, j_nar, j_oi, j_ol, j_of, j_od, j_or, j_ov, true_and, and_true]
    refine ⟨vp_in_nI (by omega) (by omega), ?_⟩
    rw [nI_clamp (by omega)]
    have s5 := PR_dr s4 (RG_U (PR_g s4) (r := sM S) (k := 2 * w + 1) (by omega) (by omega) (tTake B len (tTake B len (tNext B len p) 0 255).2 (tTake B len (tNext B len p) 0 255).1 255).1)
    have K5 := K _ _ s5 (fun z => by
      have n5 : tkK p ≠ 5 := by rw [gc.elim tIsW_2 (fun z => z.elim tIsW_2 tIsW_2)]; decide
      exact DrC_R (S := ssR S (sM S) (2 * w) _) (k := 2 * w + 1) _ (DrC_R (k := 2 * w) _ (hD n5)))
    simp only [PR_sh s5, j_ref, j_ari, j_arb, j_arr, j_len, j_nar, j_oi, j_ol, j_of, j_od, j_or, j_ov, true_and, and_true]
    by_cases g5 : tkK (tTake B len (tTake B len (tNext B len p) 0 255).2 (tTake B len (tNext B len p) 0 255).1 255).2 = 5
    · rw [if_pos g5] at K5
      rw [if_neg (PR_e5 s5 g5)]
      refine b_X9_readCondition_103 hG ?_
      dsimp only [q_X9_readCondition_103, j_wp, j_opB, j_opA, j_nth, j_i1, j_i2, j_l1, j_l2, j_li, j_f1, j_f2, j_d1, j_d2, j_r1, j_ai, j_aii, j_ail, j_aid, j_air, j_st1, j_st2, j_stu, j_kl, j_cond, j_args, j_out, j_few, j_cw, j_nat, j_pad, j_exp, Nat.reduceAdd]
      refine b_X9_readCondition_104 hG ?_
      dsimp only [q_X9_readCondition_104, j_wp, j_opB, j_opA, j_nth, j_i1, j_i2, j_l1, j_l2, j_li, j_f1, j_f2, j_d1, j_d2, j_r1, j_ai, j_aii, j_ail, j_aid, j_air, j_st1, j_st2, j_stu, j_kl, j_cond, j_args, j_out, j_few, j_cw, j_nat, j_pad, j_exp, Nat.reduceAdd]
      exact ⟨(by first | exact Or.inl rfl | exact Or.inr rfl | decide), K5⟩
    · rw [if_neg g5] at K5
      rw [if_pos (PR_e0 s5 g5)]
      refine b_X9_readCondition_104 hG ?_
      dsimp only [q_X9_readCondition_104, j_wp, j_opB, j_opA, j_nth, j_i1, j_i2, j_l1, j_l2, j_li, j_f1, j_f2, j_d1, j_d2, j_r1, j_ai, j_aii, j_ail, j_aid, j_air, j_st1, j_st2, j_stu, j_kl, j_cond, j_args, j_out, j_few, j_cw, j_nat, j_pad, j_exp, Nat.reduceAdd]
      exact ⟨(by first | exact Or.inl rfl | exact Or.inr rfl | decide), K5⟩
  refine b_X9_readCondition_0 hG ?_
  dsimp only [q_X9_readCondition_0, j_wp, j_opB, j_opA, j_nth, j_i1, j_i2, j_l1, j_l2, j_li, j_f1, j_f2, j_d1, j_d2, j_r1, j_ai, j_aii, j_ail, j_aid, j_air, j_st1, j_st2, j_stu, j_kl, j_cond, j_args, j_out, j_few, j_cw, j_nat, j_pad, j_exp, Nat.reduceAdd]
  refine sp_X9_accept hl hJ s 45 rfl (by omega) (fun h1 s1 => ?_)
  simp only [j_ref, j_ari, j_arb, j_arr, j_len, j_nar, j_oi, j_ol, j_of, j_od, j_or, j_ov, true_and, and_true]
  by_cases g1 : tIsW B p (wd "source") = true
  · simp only [g1, if_true] at s1 ⊢
    rw [if_neg (by decide)]
    refine yes 0 h1 (Or.inl g1) (by omega) ?_ s1
    unfold cdC
    rw [if_neg (tIsW_x g1 (by decide) (by decide) (by decide)), if_neg (tIsW_y g1 (by decide))]
  · simp only [g1, if_false, Bool.false_eq_true, if_true] at s1 ⊢
    refine b_X9_readCondition_13 hG ?_
    dsimp only [q_X9_readCondition_13, j_wp, j_opB, j_opA, j_nth, j_i1, j_i2, j_l1, j_l2, j_li, j_f1, j_f2, j_d1, j_d2, j_r1, j_ai, j_aii, j_ail, j_aid, j_air, j_st1, j_st2, j_stu, j_kl, j_cond, j_args, j_out, j_few, j_cw, j_nat, j_pad, j_exp, Nat.reduceAdd]
    refine sp_X9_accept hl hJ s1 46 rfl (by omega) (fun h2 s2 => ?_)
    simp only [j_ref, j_ari, j_arb, j_arr, j_len, j_nar, j_oi, j_ol, j_of, j_od, j_or, j_ov, true_and, and_true]
    by_cases g2 : tIsW B p (wd "target") = true
    · simp only [g2, if_true] at s2 ⊢
      rw [if_neg (by decide)]
      refine yes 1 h2 (Or.inr (Or.inl g2)) (by omega) ?_ s2
      unfold cdC
      rw [if_pos g2]
    · simp only [g2, if_false, Bool.false_eq_true, if_true] at s2 ⊢
      refine b_X9_readCondition_26 hG ?_
      dsimp only [q_X9_readCondition_26, j_wp, j_opB, j_opA, j_nth, j_i1, j_i2, j_l1, j_l2, j_li, j_f1, j_f2, j_d1, j_d2, j_r1, j_ai, j_aii, j_ail, j_aid, j_air, j_st1, j_st2, j_stu, j_kl, j_cond, j_args, j_out, j_few, j_cw, j_nat, j_pad, j_exp, Nat.reduceAdd]
      refine sp_X9_accept hl hJ s2 47 rfl (by omega) (fun h3 s3 => ?_)
      simp only [j_ref, j_ari, j_arb, j_arr, j_len, j_nar, j_oi, j_ol, j_of, j_od, j_or, j_ov, true_and, and_true]
      by_cases g3 : tIsW B p (wd "port") = true
      · simp only [g3, if_true] at s3 ⊢
        rw [if_neg (by decide)]
        refine yes 2 h3 (Or.inr (Or.inr g3)) (by omega) ?_ s3
        unfold cdC
        rw [if_neg g2, if_pos g3]
      · simp only [g3, if_false, Bool.false_eq_true, if_true] at s3 ⊢
        refine b_X9_readCondition_39 hG ?_
        dsimp only [q_X9_readCondition_39, j_wp, j_opB, j_opA, j_nth, j_i1, j_i2, j_l1, j_l2, j_li, j_f1, j_f2, j_d1, j_d2, j_r1, j_ai, j_aii, j_ail, j_aid, j_air, j_st1, j_st2, j_stu, j_kl, j_cond, j_args, j_out, j_few, j_cw, j_nat, j_pad, j_exp, Nat.reduceAdd]
        refine b_X9_readCondition_40 hG ?_
        dsimp only [q_X9_readCondition_40, j_wp, j_opB, j_opA, j_nth, j_i1, j_i2, j_l1, j_l2, j_li, j_f1, j_f2, j_d1, j_d2, j_r1, j_ai, j_aii, j_ail, j_aid, j_air, j_st1, j_st2, j_stu, j_kl, j_cond, j_args, j_out, j_few, j_cw, j_nat, j_pad, j_exp, Nat.reduceAdd]
        first | rw [if_pos rfl] | rw [if_pos trivial]
        exact ⟨(by first | exact Or.inl rfl | exact Or.inr rfl | decide), H0 (fun z => z.elim g1 (fun z => z.elim g2 g3)) h3 s3⟩
theorem isCnd_2 {B : Nat → Int32} {p : Tk} (g : isCnd B p) : tkK p = 2 := g.elim tIsW_2 (fun z => z.elim tIsW_2 tIsW_2)
theorem isCnd_to {B : Nat → Int32} {p : Tk} (g : isCnd B p) : ¬ tIsW B p (wd "to") = true := g.elim (fun z => tIsW_y z (by decide)) (fun z => z.elim (fun z => tIsW_y z (by decide)) (fun z => tIsW_y z (by decide)))
theorem sConds_n {B : Nat → Int32} {len : Nat} {S : Sup} {k : Nat} {p : Tk} (g : tkK p ≠ 2) : sConds B len k p S = (p, S) := by
  cases k with
  | zero => rfl
  | succ k => unfold sConds; rw [if_neg g]
set_option maxRecDepth 8000 in
theorem sp_X9_readRule (hl : l.stackTraces = false) (hJ : JS l D bs E) (s : PR E bs h0 m B sz len p Md h) (hk : tkK p = 2) (hN : sN S ≤ 6) (hM : sM S ≤ 12) (hD : DrB S Md (sN S) (sM S)) (hlen : len ≤ 800) (H : ∀ h' pr Md', PR E bs h0 m B sz len pr Md' h' → tSign B len pr 59 = (sRule B len p S).1 → (tkK (sRule B len p S).1 ≠ 5 → DrB (sRule B len p S).2 Md' (sN S) (sM (sRule B len p S).2)) → Q (.inl none) h') : j_Met l D bs E (d + 7) n_X9_readRule [.ref m] h Q := by
  have hB := PR_B s
  have x1 : rX Md 1 = nI (sM S) := hD.1.2.1
  unfold sRule at H
  refine j_meth hl rfl g_X9_readRule (Nat.le_of_ble_eq_true rfl) (fun _ => ⟨_, _, rfl, (PR_sh s)⟩) hB.1 hB.2 (fun G hG => ?_)
  -- behind the conditions
  have fin : ∀ (pr : Tk) (S1 : Sup) (Md1 : Rf) (h1 : j_H) (x : Value), sM S < 12 → sN S1 = sN S → sM S1 = sM S → PR E bs h0 m B sz len pr Md1 h1 → (tkK pr ≠ 5 → DrC S1 Md1 (sN S)) →
      (∀ h' pr' Md', PR E bs h0 m B sz len pr' Md' h' → pr' = (tTake B len (tWord B len pr (wd "to")) 0 (nI (sN S) - 1)).2 → (tkK pr' ≠ 5 → DrB (ssM (ssR S1 (sM S1) 6 (tTake B len (tWord B len pr (wd "to")) 0 (nI (sN S) - 1)).1) (sM S1 + 1)) Md' (sN S) (sM S1 + 1)) → Q (.inl none) h') → (∃ y, rX Md1 0 = y ∧ (tkK pr ≠ 5 → y = nI (sN S))) → G 101 [.ref m, .int (nI (693 + 7 * sM S)), x] [] h1 := by
    intro pr S1 Md1 h1 x h12 e1 e2 s1 hD1 K hy
    obtain ⟨y, ey, hy⟩ := hy
    refine b_X9_readRule_101 hG ?_
    dsimp only [q_X9_readRule_101, j_wp, j_opB, j_opA, j_nth, j_i1, j_i2, j_l1, j_l2, j_li, j_f1, j_f2, j_d1, j_d2, j_r1, j_ai, j_aii, j_ail, j_aid, j_air, j_st1, j_st2, j_stu, j_kl, j_cond, j_args, j_out, j_few, j_cw, j_nat, j_pad, j_exp, Nat.reduceAdd]
    refine sp_X9_expectWord hl hJ s1 59 rfl (by omega) (fun h2 s2 => ?_)
    simp only [PR_sh s2, PR_r1 s2, PR_a1 s2, PR_x0 s2, ey, j_ref, j_ari, j_arb, j_arr, j_len, j_nar, j_oi, j_ol, j_of, j_od, j_or, j_ov, true_and, and_true]
    refine ⟨vp_c (k := 0) (by omega) (by omega), ?_⟩
    rw [show nI (693 + 7 * sM S) + 6 = nI (693 + 7 * sM S + 6) from nI_add _ 6]
    refine sp_X9_putNumber hl s2 (k := 693 + 7 * sM S + 6) (by omega) (Mf := fun v => rsU Md1 (sM S) 6 v) (fun g v r => RG_U r (by omega) (by omega) v) (fun h3 s3 => ?_)
    simp only [PR_sh s3, PR_r1 s3, PR_a1 s3, PR_x1 s3, j_ref, j_ari, j_arb, j_arr, j_len, j_nar, j_oi, j_ol, j_of, j_od, j_or, j_ov, true_and, and_true]
    refine ⟨vp_c (k := 1) (by omega) (by omega), vp_c (k := 1) (by omega) (by omega), ?_⟩
    have s3' : PR E bs h0 m B sz len (tTake B len (tWord B len pr (wd "to")) 0 (y - 1)).2 (if tkK (tTake B len (tWord B len pr (wd "to")) 0 (y - 1)).2 = 5 then Md1 else rsU Md1 (sM S) 6 (tTake B len (tWord B len pr (wd "to")) 0 (y - 1)).1) h3 := s3
    generalize hMd : (if tkK (tTake B len (tWord B len pr (wd "to")) 0 (y - 1)).2 = 5 then Md1 else rsU Md1 (sM S) 6 (tTake B len (tWord B len pr (wd "to")) 0 (y - 1)).1) = Md3 at s3'
    have s4 : PR E bs h0 m B sz len (tTake B len (tWord B len pr (wd "to")) 0 (y - 1)).2 (rsX Md3 1 (rX Md3 1 + 1)) (j_setI h3 (m + 2) (Int32.toNatClampNeg 1) (rX Md3 1 + 1)) := PR_dr s3' (RG_X (PR_g s3') (k := 1) (by omega) (rX Md3 1 + 1))
    clear s3 s3'
    by_cases g5 : tkK pr = 5
    · have et : ∀ a, tTake B len (tWord B len pr (wd "to")) 0 a = (0, pr) := fun a => by rw [tWord_5 g5, tTake_5 g5]
      have ek := et (nI (sN S) - 1)
      have es := et (y - 1)
      rw [es] at s4
      rw [ek] at K
      exact K _ _ _ s4 rfl (fun z => absurd g5 z)
    · rw [hy g5] at s4 hMd
      refine K _ _ _ s4 rfl (fun z => ?_)
      rw [if_neg z] at hMd
      rw [← hMd]
      have hd := DrB_R (sM S) 6 (tTake B len (tWord B len pr (wd "to")) 0 (nI (sN S) - 1)).1 (hD1 g5).1
      obtain ⟨⟨y0, y1, y2⟩, d2, d3, d4, d5⟩ := hd
      refine ⟨⟨y0, ?_, y2⟩, d2, d3, fun r k g1 g2 => ?_, d5⟩
      · show rX Md1 1 + 1 = nI (sM S1 + 1)
        rw [(hD1 g5).1.1.2.1, nI_1]
      · show j_up (rU Md1) (sM S) 6 _ r k = j_up (sR S1) (sM S1) 6 _ r k
        rw [← e2]
        by_cases er : r = sM S1
        · subst er
          by_cases ek : k = 6
          · simp [j_up, ek]
          · simp only [j_up, ek, and_false, if_false]
            exact (hD1 g5).2 k (by omega)
        · simp only [j_up, er, false_and, if_false]
          exact (hD1 g5).1.2.2.2.1 r k (by omega) g2
  have loop : ∀ (k : Nat) (p1 : Tk) (S1 : Sup) (Md1 : Rf) (h1 : j_H), sM S < 12 → sN S1 = sN S → sM S1 = sM S → tPhi len p1 ≤ k → PR E bs h0 m B sz len p1 Md1 h1 → (tkK p1 ≠ 5 → DrC S1 Md1 (sN S)) →
      (∀ h' pr Md', PR E bs h0 m B sz len pr Md' h' → tWord B len pr (wd "to") = tWord B len (sConds B len k p1 S1).1 (wd "to") → (tkK (tWord B len pr (wd "to")) ≠ 5 → DrC (sConds B len k p1 S1).2 Md' (sN S)) → (tkK pr ≠ 5 → ∃ S', sN S' = sN S ∧ sM S' = sM S ∧ DrC S' Md' (sN S)) → G 101 [.ref m, .int (nI (693 + 7 * sM S)), .int 0] [] h') → G 88 [.ref m, .int (nI (693 + 7 * sM S)), .int 1] [] h1 := by
    intro k
    have stop : ∀ h1 : j_H, G 101 [.ref m, .int (nI (693 + 7 * sM S)), .int 0] [] h1 → G 88 [.ref m, .int (nI (693 + 7 * sM S)), .int 0] [] h1 := by
      intro h1 K
      refine b_X9_readRule_88 hG ?_
      dsimp only [q_X9_readRule_88, j_wp, j_opB, j_opA, j_nth, j_i1, j_i2, j_l1, j_l2, j_li, j_f1, j_f2, j_d1, j_d2, j_r1, j_ai, j_aii, j_ail, j_aid, j_air, j_st1, j_st2, j_stu, j_kl, j_cond, j_args, j_out, j_few, j_cw, j_nat, j_pad, j_exp, Nat.reduceAdd]
      first | rw [if_pos rfl] | rw [if_pos trivial]
      exact K
    induction k with
    | zero =>
      intro p1 S1 Md1 h1 h12 e1 e2 hp s1 hD1 K
      have g2 : ¬ isCnd B p1 := fun z => by
        have z2 := isCnd_2 z
        have := phi_1 (len := len) (p := p1) (by omega)
        omega
      refine b_X9_readRule_88 hG ?_
      dsimp only [q_X9_readRule_88, j_wp, j_opB, j_opA, j_nth, j_i1, j_i2, j_l1, j_l2, j_li, j_f1, j_f2, j_d1, j_d2, j_r1, j_ai, j_aii, j_ail, j_aid, j_air, j_st1, j_st2, j_stu, j_kl, j_cond, j_args, j_out, j_few, j_cw, j_nat, j_pad, j_exp, Nat.reduceAdd]
      rw [if_neg (by decide)]
      rw [← e2]
      refine sp_X9_readCondition hl hJ s1 (S := S1) (n := sN S) (by omega) hD1 (fun _ h2 s2 => ?_) (fun z => absurd z g2)
      simp only [j_ref, j_ari, j_arb, j_arr, j_len, j_nar, j_oi, j_ol, j_of, j_od, j_or, j_ov, true_and, and_true, j_st1, e2]
      exact stop h2 (K h2 p1 Md1 s2 rfl (fun z => hD1 (fun y => z (by rw [tWord_5 y]; exact y))) (fun z => ⟨S1, e1, e2, hD1 z⟩))
    | succ k ih =>
      intro p1 S1 Md1 h1 h12 e1 e2 hp s1 hD1 K
      refine b_X9_readRule_88 hG ?_
      dsimp only [q_X9_readRule_88, j_wp, j_opB, j_opA, j_nth, j_i1, j_i2, j_l1, j_l2, j_li, j_f1, j_f2, j_d1, j_d2, j_r1, j_ai, j_aii, j_ail, j_aid, j_air, j_st1, j_st2, j_stu, j_kl, j_cond, j_args, j_out, j_few, j_cw, j_nat, j_pad, j_exp, Nat.reduceAdd]
      rw [if_neg (by decide)]
      rw [← e2]
      refine sp_X9_readCondition hl hJ s1 (S := S1) (n := sN S) (by omega) hD1 (fun g2 h2 s2 => ?_) (fun g2 h2 Md2 s2 hD2 => ?_)
      · simp only [j_ref, j_ari, j_arb, j_arr, j_len, j_nar, j_oi, j_ol, j_of, j_od, j_or, j_ov, true_and, and_true, j_st1, e2]
        refine stop h2 (K h2 p1 Md1 s2 ?_ (fun z => ?_) (fun z => ⟨S1, e1, e2, hD1 z⟩))
        · unfold sConds
          by_cases g3 : tkK p1 = 2
          · rw [if_pos g3]
            by_cases g4 : tIsW B p1 (wd "to") = true
            · rw [if_pos g4]
            · rw [if_neg g4, sConds_n (by rw [sCond_n g2, tFail_5]; decide)]
              show _ = tWord B len (sCond B len p1 S1).1 (wd "to")
              rw [sCond_n g2, tWord_5 (tFail_5 p1 1)]
              unfold tWord
              rw [if_neg g4, tNext_5 (tFail_5 p1 1)]
          · rw [if_neg g3]
        · unfold sConds
          by_cases g3 : tkK p1 = 2
          · rw [if_pos g3]
            by_cases g4 : tIsW B p1 (wd "to") = true
            · rw [if_pos g4]
              exact hD1 (by omega)
            · exact absurd (by unfold tWord; rw [if_neg g4, tNext_5 (tFail_5 p1 1)]; exact tFail_5 p1 1) z
          · rw [if_neg g3]
            exact hD1 (fun y => z (by rw [tWord_5 y]; exact y))
      · have g3 := isCnd_2 g2
        have g4 := isCnd_to g2
        have ph := phi_cnd (B := B) (S := S1) (PR_o s1) g2
        have en : sN (sCond B len p1 S1).2 = sN S := e1
        have em : sM (sCond B len p1 S1).2 = sM S := e2
        unfold sConds at K
        rw [if_pos g3, if_neg g4] at K
        simp only [j_ref, j_ari, j_arb, j_arr, j_len, j_nar, j_oi, j_ol, j_of, j_od, j_or, j_ov, true_and, and_true, j_st1, e2]
        by_cases g5 : tkK (sCond B len p1 S1).1 = 5
        · rw [if_pos g5]
          rw [sConds_n (by rw [g5]; decide)] at K
          exact stop h2 (K h2 _ Md2 s2 rfl (fun z => hD2 (fun y => z (by rw [tWord_5 y]; exact y))) (fun z => absurd g5 z))
        · rw [if_neg g5]
          exact ih _ _ Md2 h2 h12 en em (by omega) s2 hD2 K
  refine b_X9_readRule_0 hG ?_
  dsimp only [q_X9_readRule_0, j_wp, j_opB, j_opA, j_nth, j_i1, j_i2, j_l1, j_l2, j_li, j_f1, j_f2, j_d1, j_d2, j_r1, j_ai, j_aii, j_ail, j_aid, j_air, j_st1, j_st2, j_stu, j_kl, j_cond, j_args, j_out, j_few, j_cw, j_nat, j_pad, j_exp, Nat.reduceAdd]
  simp only [PR_sh s, PR_r1 s, PR_a1 s, PR_x1 s, x1, j_ref, j_ari, j_arb, j_arr, j_len, j_nar, j_oi, j_ol, j_of, j_od, j_or, j_ov, true_and, and_true]
  refine ⟨vp_c (k := 1) (by omega) (by omega), ?_⟩
  by_cases g : sM S < 12
  · rw [if_pos g] at H
    rw [if_pos (show nI (sM S) < (12 : Int32) from nI_lt (b := 12) g (by omega))]
    refine b_X9_readRule_17 hG ?_
    dsimp only [q_X9_readRule_17, j_wp, j_opB, j_opA, j_nth, j_i1, j_i2, j_l1, j_l2, j_li, j_f1, j_f2, j_d1, j_d2, j_r1, j_ai, j_aii, j_ail, j_aid, j_air, j_st1, j_st2, j_stu, j_kl, j_cond, j_args, j_out, j_few, j_cw, j_nat, j_pad, j_exp, Nat.reduceAdd]
    refine sp_X9_check hl s (by decide) (fun h1 s1 => ?_)
    rw [if_neg (by decide)] at s1
    simp only [j_ref, j_ari, j_arb, j_arr, j_len, j_nar, j_oi, j_ol, j_of, j_od, j_or, j_ov, true_and, and_true]
    refine sp_X9_advance hl s1 (fun h2 s2 => ?_)
    have n5 : tkK (tNext B len p) ≠ 5 := tNext_n5 (PR_o s) (by omega)
    simp only [PR_sh s2, j_ref, j_ari, j_arb, j_arr, j_len, j_nar, j_oi, j_ol, j_of, j_od, j_or, j_ov, true_and, and_true]
    rw [if_pos (PR_e0 s2 n5)]
    have ei : (693 : Int32) + 7 * nI (sM S) = nI (693 + 7 * sM S) := by
      show nI 693 + nI 7 * nI (sM S) = _
      rw [pk_mul, nI_add]
    refine b_X9_readRule_33 hG ?_
    dsimp only [q_X9_readRule_33, j_wp, j_opB, j_opA, j_nth, j_i1, j_i2, j_l1, j_l2, j_li, j_f1, j_f2, j_d1, j_d2, j_r1, j_ai, j_aii, j_ail, j_aid, j_air, j_st1, j_st2, j_stu, j_kl, j_cond, j_args, j_out, j_few, j_cw, j_nat, j_pad, j_exp, Nat.reduceAdd]
    simp only [PR_sh s2, PR_r1 s2, PR_a1 s2, PR_x1 s2, x1, ei, j_st1, j_kl, j_ref, j_ari, j_arb, j_arr, j_len, j_nar, j_oi, j_ol, j_of, j_od, j_or, j_ov, true_and, and_true]
    refine ⟨vp_c (k := 1) (by omega) (by omega), ?_⟩
    -- the row of the rule
    have row : ∀ (w : Nat) (Mx : Rf) (h3 : j_H), w < 3 → PR E bs h0 m B sz len (tNext B len p) Mx h3 → (∀ h4, PR E bs h0 m B sz len (tNext B len p) (rsU (rsU Mx (sM S) (2 * w) 0) (sM S) (2 * w + 1) 255) h4 → G 49 [.ref m, .int (nI (693 + 7 * sM S)), .int (nI (w + 1))] [] h4) → G 49 [.ref m, .int (nI (693 + 7 * sM S)), .int (nI w)] [] h3 := by
      intro w Mx h3 hw s3 K
      have e1 : nI (693 + 7 * sM S) + 2 * nI w = nI (693 + 7 * sM S + 2 * w) := by
        show nI (693 + 7 * sM S) + nI 2 * nI w = _
        rw [pk_mul, nI_add]
      have e2 : nI (693 + 7 * sM S + 2 * w) + 1 = nI (693 + 7 * sM S + (2 * w + 1)) := nI_1 _
      refine b_X9_readRule_49 hG ?_
      dsimp only [q_X9_readRule_49, j_wp, j_opB, j_opA, j_nth, j_i1, j_i2, j_l1, j_l2, j_li, j_f1, j_f2, j_d1, j_d2, j_r1, j_ai, j_aii, j_ail, j_aid, j_air, j_st1, j_st2, j_stu, j_kl, j_cond, j_args, j_out, j_few, j_cw, j_nat, j_pad, j_exp, Nat.reduceAdd]
      rw [if_pos (show nI w < (3 : Int32) from nI_lt (b := 3) hw (by omega))]
      simp only [PR_sh s3, PR_r1 s3, PR_a1 s3, e1, j_ref, j_ari, j_arb, j_arr, j_len, j_nar, j_oi, j_ol, j_of, j_od, j_or, j_ov, true_and, and_true]
      refine ⟨vp_in_nI (by omega) (by omega), ?_⟩
      rw [nI_clamp (by omega)]
      have s4 := PR_dr s3 (RG_U (PR_g s3) (r := sM S) (k := 2 * w) (by omega) (by omega) 0)
      simp only [PR_sh s4, PR_r1 s4, PR_a1 s4, e1, e2, j_ref, j_ari, j_arb, j_arr, j_len, j_nar, j_oi, j_ol, j_of, j_od, j_or, j_ov, true_and, and_true]
      refine ⟨vp_in_nI (by omega) (by omega), ?_⟩
      rw [nI_clamp (by omega), nI_1]
      exact K _ (PR_dr s4 (RG_U (PR_g s4) (r := sM S) (k := 2 * w + 1) (by omega) (by omega) 255))
    refine row 0 Md h2 (by omega) s2 (fun h3 s3 => ?_)
    refine row 1 _ h3 (by omega) s3 (fun h4 s4 => ?_)
    refine row 2 _ h4 (by omega) s4 (fun h5 s5 => ?_)
    refine b_X9_readRule_49 hG ?_
    dsimp only [q_X9_readRule_49, j_wp, j_opB, j_opA, j_nth, j_i1, j_i2, j_l1, j_l2, j_li, j_f1, j_f2, j_d1, j_d2, j_r1, j_ai, j_aii, j_ail, j_aid, j_air, j_st1, j_st2, j_stu, j_kl, j_cond, j_args, j_out, j_few, j_cw, j_nat, j_pad, j_exp, Nat.reduceAdd]
    rw [if_neg (by decide)]
    refine b_X9_readRule_86 hG ?_
    dsimp only [q_X9_readRule_86, j_wp, j_opB, j_opA, j_nth, j_i1, j_i2, j_l1, j_l2, j_li, j_f1, j_f2, j_d1, j_d2, j_r1, j_ai, j_aii, j_ail, j_aid, j_air, j_st1, j_st2, j_stu, j_kl, j_cond, j_args, j_out, j_few, j_cw, j_nat, j_pad, j_exp, Nat.reduceAdd]
    have hC : DrC (sRule0 S) (rsU (rsU (rsU (rsU (rsU (rsU Md (sM S) (2 * 0) 0) (sM S) (2 * 0 + 1) 255) (sM S) (2 * 1) 0) (sM S) (2 * 1 + 1) 255) (sM S) (2 * 2) 0) (sM S) (2 * 2 + 1) 255) (sN S) := by
      refine ⟨DrB_R _ _ _ (DrB_R _ _ _ (DrB_R _ _ _ (DrB_R _ _ _ (DrB_R _ _ _ (DrB_R _ _ _ hD))))), fun k hk => ?_⟩
      show j_up (j_up (j_up (j_up (j_up (j_up (rU Md) (sM S) 0 0) (sM S) 1 255) (sM S) 2 0) (sM S) 3 255) (sM S) 4 0) (sM S) 5 255 (sM S) k = j_up (j_up (j_up (j_up (j_up (j_up (sR S) (sM S) 0 0) (sM S) 1 255) (sM S) 2 0) (sM S) 3 255) (sM S) 4 0) (sM S) 5 255 (sM S) k
      have hc : k = 0 ∨ k = 1 ∨ k = 2 ∨ k = 3 ∨ k = 4 ∨ k = 5 := by omega
      rcases hc with rfl | rfl | rfl | rfl | rfl | rfl <;> simp [j_up]
    refine loop 800 (tNext B len p) (sRule0 S) _ h5 g rfl rfl ?_ s5 (fun _ => hC) (fun h' pr Md' s' e1 hd hx => ?_)
    · have a0 := phi_2 (B := B) (PR_o s) hk
      have a3 : tPhi len p ≤ len + 1 := by unfold tPhi; split <;> omega
      omega
    · have en : sN (sConds B len 800 (tNext B len p) (sRule0 S)).2 = sN S := sConds_N.1
      have em : sM (sConds B len 800 (tNext B len p) (sRule0 S)).2 = sM S := sConds_N.2
      by_cases g5 : tkK (tWord B len pr (wd "to")) = 5
      · -- an error: nothing is asked of the draft any more
        have et : ∀ a, tTake B len (tWord B len pr (wd "to")) 0 a = (0, tWord B len pr (wd "to")) := fun a => tTake_5 g5
        by_cases gp : tkK pr = 5
        · refine fin pr S Md' h' _ g rfl rfl s' (fun z => absurd gp z) (fun h'' pr' Md'' s'' ep hd' => H h'' pr' Md'' s'' ?_ (fun z => ?_)) ⟨_, rfl, fun z => absurd gp z⟩
          · show tSign B len pr' 59 = tSign B len (tTake B len (tWord B len (sConds B len 800 (tNext B len p) (sRule0 S)).1 (wd "to")) 0 (nI (sN (sConds B len 800 (tNext B len p) (sRule0 S)).2) - 1)).2 59
            rw [ep, ← e1, en]
          · refine absurd ?_ z
            show tkK (tSign B len (tTake B len (tWord B len (sConds B len 800 (tNext B len p) (sRule0 S)).1 (wd "to")) 0 (nI (sN (sConds B len 800 (tNext B len p) (sRule0 S)).2) - 1)).2 59) = 5
            rw [← e1, et]
            dsimp only
            rw [tSign_5 g5]
            exact g5
        · obtain ⟨S', n1, n2, hS'⟩ := hx gp
          refine fin pr S' Md' h' _ g n1 n2 s' (fun _ => hS') (fun h'' pr' Md'' s'' ep hd' => H h'' pr' Md'' s'' ?_ (fun z => ?_)) ⟨_, rfl, fun _ => by rw [hS'.1.1.1, n1]⟩
          · show tSign B len pr' 59 = tSign B len (tTake B len (tWord B len (sConds B len 800 (tNext B len p) (sRule0 S)).1 (wd "to")) 0 (nI (sN (sConds B len 800 (tNext B len p) (sRule0 S)).2) - 1)).2 59
            rw [ep, ← e1, en]
          · refine absurd ?_ z
            show tkK (tSign B len (tTake B len (tWord B len (sConds B len 800 (tNext B len p) (sRule0 S)).1 (wd "to")) 0 (nI (sN (sConds B len 800 (tNext B len p) (sRule0 S)).2) - 1)).2 59) = 5
            rw [← e1, et]
            dsimp only
            rw [tSign_5 g5]
            exact g5
      · have hC1 := hd g5
        refine fin pr (sConds B len 800 (tNext B len p) (sRule0 S)).2 Md' h' _ g en em s' (fun _ => hC1) (fun h'' pr' Md'' s'' ep hd' => H h'' pr' Md'' s'' ?_ (fun z => ?_)) ⟨_, rfl, fun _ => by rw [hC1.1.1.1, en]⟩
        · show tSign B len pr' 59 = tSign B len (tTake B len (tWord B len (sConds B len 800 (tNext B len p) (sRule0 S)).1 (wd "to")) 0 (nI (sN (sConds B len 800 (tNext B len p) (sRule0 S)).2) - 1)).2 59
          rw [ep, ← e1, en]
        · have z2 : tkK pr' ≠ 5 := by
            intro y
            apply z
            rw [ep] at y
            show tkK (tSign B len (tTake B len (tWord B len (sConds B len 800 (tNext B len p) (sRule0 S)).1 (wd "to")) 0 (nI (sN (sConds B len 800 (tNext B len p) (sRule0 S)).2) - 1)).2 59) = 5
            rw [← e1, en, tSign_5 y]
            exact y
          have r := hd' z2
          rw [e1] at r
          show DrB (ssM (ssR (sConds B len 800 (tNext B len p) (sRule0 S)).2 (sM (sConds B len 800 (tNext B len p) (sRule0 S)).2) 6 (tTake B len (tWord B len (sConds B len 800 (tNext B len p) (sRule0 S)).1 (wd "to")) 0 (nI (sN (sConds B len 800 (tNext B len p) (sRule0 S)).2) - 1)).1) (sM (sConds B len 800 (tNext B len p) (sRule0 S)).2 + 1)) Md'' (sN S) (sM (sConds B len 800 (tNext B len p) (sRule0 S)).2 + 1)
          rw [en]
          exact r
  · rw [if_neg g] at H
    rw [if_neg (show ¬ nI (sM S) < (12 : Int32) from nI_nlt (b := 12) (by omega) (by omega))]
    refine b_X9_readRule_16 hG ?_
    dsimp only [q_X9_readRule_16, j_wp, j_opB, j_opA, j_nth, j_i1, j_i2, j_l1, j_l2, j_li, j_f1, j_f2, j_d1, j_d2, j_r1, j_ai, j_aii, j_ail, j_aid, j_air, j_st1, j_st2, j_stu, j_kl, j_cond, j_args, j_out, j_few, j_cw, j_nat, j_pad, j_exp, Nat.reduceAdd]
    refine b_X9_readRule_17 hG ?_
    dsimp only [q_X9_readRule_17, j_wp, j_opB, j_opA, j_nth, j_i1, j_i2, j_l1, j_l2, j_li, j_f1, j_f2, j_d1, j_d2, j_r1, j_ai, j_aii, j_ail, j_aid, j_air, j_st1, j_st2, j_stu, j_kl, j_cond, j_args, j_out, j_few, j_cw, j_nat, j_pad, j_exp, Nat.reduceAdd]
    refine sp_X9_check hl s (by decide) (fun h1 s1 => ?_)
    rw [if_pos rfl] at s1
    simp only [j_ref, j_ari, j_arb, j_arr, j_len, j_nar, j_oi, j_ol, j_of, j_od, j_or, j_ov, true_and, and_true]
    refine sp_X9_advance hl s1 (fun h2 s2 => ?_)
    rw [tNext_5 (tFail_5 p 3)] at s2
    simp only [PR_sh s2, j_ref, j_ari, j_arb, j_arr, j_len, j_nar, j_oi, j_ol, j_of, j_od, j_or, j_ov, true_and, and_true]
    rw [if_neg (PR_e5 s2 (tFail_5 p 3))]
    exact H h2 _ Md s2 (tSign_5 (tFail_5 p 3)) (fun z => absurd (tFail_5 p 3) z)
end RRu
