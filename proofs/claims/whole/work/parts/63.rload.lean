/-! ===== the reference: flows, rules, clauses ===== -/
theorem phi_take {B : Nat → Int32} {len : Nat} {p : Tk} {lo hi : Int32} (ok : tkOk len p) : tPhi len (tTake B len p lo hi).2 ≤ tPhi len p := by
  unfold tTake
  split
  · split
    · show tPhi len (tFail p 2) ≤ _
      rw [phi_fail]; omega
    · exact phi_le ok
  · show tPhi len (tFail p 1) ≤ _
    rw [phi_fail]; omega
theorem phi_sign {B : Nat → Int32} {len : Nat} {p : Tk} {c : Nat} (ok : tkOk len p) : tPhi len (tSign B len p c) ≤ tPhi len p := by
  unfold tSign
  split
  · exact phi_le ok
  · rw [tNext_5 (tFail_5 p 1), phi_fail]; omega
theorem phi_word {B : Nat → Int32} {len : Nat} {p : Tk} {w : List Nat} (ok : tkOk len p) : tPhi len (tWord B len p w) ≤ tPhi len p := by
  unfold tWord
  split
  · exact phi_le ok
  · rw [tNext_5 (tFail_5 p 1), phi_fail]; omega
theorem phi_2 {B : Nat → Int32} {len : Nat} {p : Tk} (ok : tkOk len p) (g : tkK p = 2) : tPhi len (tNext B len p) + 1 ≤ tPhi len p := phi_lt ok (by omega)
theorem phi_1 {len : Nat} {p : Tk} (g : ¬ (tkK p = 0 ∨ tkK p = 5)) : 1 ≤ tPhi len p := by
  unfold tPhi
  rw [if_neg g]
  omega
theorem sOption_ok {B : Nat → Int32} {len : Nat} {p : Tk} {S : Sup} (ok : tkOk len p) : tkOk len (sOption B len p S).1 := by
  unfold sOption
  split
  · exact tTake_ok (tNext_ok ok)
  · split
    · exact tTake_ok (tNext_ok ok)
    · split
      · exact tTake_ok (tNext_ok ok)
      · split
        · exact tTake_ok (tTake_ok (tNext_ok ok))
        · exact tFail_ok ok
theorem phi_opt {B : Nat → Int32} {len : Nat} {p : Tk} {S : Sup} (ok : tkOk len p) (g : tkK p = 2) : tPhi len (sOption B len p S).1 + 1 ≤ tPhi len p := by
  have h2 := phi_2 (B := B) ok g
  have h1 := phi_1 (len := len) (p := p) (by omega)
  unfold sOption
  split
  · have := phi_take (B := B) (lo := 0) (hi := 20000) (tNext_ok (B := B) ok); dsimp only; omega
  · split
    · have := phi_take (B := B) (lo := 0) (hi := 9) (tNext_ok (B := B) ok); dsimp only; omega
    · split
      · have := phi_take (B := B) (lo := 2) (hi := 99) (tNext_ok (B := B) ok); dsimp only; omega
      · split
        · have a1 := phi_take (B := B) (lo := 2) (hi := 99) (tNext_ok (B := B) ok)
          have a2 := phi_take (B := B) (lo := 1) (hi := 200) (tTake_ok (B := B) (lo := 2) (hi := 99) (tNext_ok (B := B) ok))
          dsimp only; omega
        · show tPhi len (tFail p 1) + 1 ≤ _
          rw [phi_fail]; omega
theorem sOption_no {B : Nat → Int32} {len : Nat} {p : Tk} {S : Sup} (g : ¬ isOpt B p) : sOption B len p S = (tFail p 1, S) := by
  unfold sOption
  rw [if_neg (fun z => g (Or.inl z)), if_neg (fun z => g (Or.inr (Or.inl z))), if_neg (fun z => g (Or.inr (Or.inr (Or.inl z)))), if_neg (fun z => g (Or.inr (Or.inr (Or.inr z))))]
theorem sOptions_5 {B : Nat → Int32} {len : Nat} {S : Sup} : ∀ {k : Nat} {p : Tk}, tkK p ≠ 2 → sOptions B len k p S = (p, S) := by
  intro k p g
  cases k with
  | zero => rfl
  | succ k => unfold sOptions; rw [if_neg g]
section RLd
variable {l : Launch} {D : va_G} {bs : Nat} {E : j_E} {h0 h : j_H} {m : Nat} {d : Nat} {Q : j_O → j_H → Prop} {B : Nat → Int32} {sz len : Nat} {p : Tk} {Md : Rf} {S : Sup} {n q : Nat}
theorem PR_x0 (s : PR E bs h0 m B sz len p Md h) : j_I h (m + 2) (Int32.toNatClampNeg 0) = rX Md 0 := (PR_g s).1 0 (by omega)
theorem PR_x1 (s : PR E bs h0 m B sz len p Md h) : j_I h (m + 2) (Int32.toNatClampNeg 1) = rX Md 1 := (PR_g s).1 1 (by omega)
theorem sFlow0_N (B : Nat → Int32) (len : Nat) (p : Tk) (S : Sup) : sN (sFlow0 B len p S).2 = sN S ∧ sM (sFlow0 B len p S).2 = sM S := ⟨rfl, rfl⟩
set_option maxRecDepth 8000 in
theorem sp_X9_readFlow (hl : l.stackTraces = false) (hJ : JS l D bs E) (s : PR E bs h0 m B sz len p Md h) (hk : tkK p = 2) (hN : sN S ≤ 6) (hD : DrB S Md (sN S) q) (hlen : len ≤ 800) (H : ∀ h' pr Md', PR E bs h0 m B sz len pr Md' h' → tSign B len pr 59 = (sFlow B len p S).1 → (tkK (sFlow B len p S).1 ≠ 5 → DrB (sFlow B len p S).2 Md' (sN (sFlow B len p S).2) q) → Q (.inl none) h') : j_Met l D bs E (d + 8) n_X9_readFlow [.ref m] h Q := by
  have hB := PR_B s
  have x0 : rX Md 0 = nI (sN S) := hD.1.1
  unfold sFlow at H
  refine j_meth hl rfl g_X9_readFlow (Nat.le_of_ble_eq_true rfl) (fun _ => ⟨_, _, rfl, (PR_sh s)⟩) hB.1 hB.2 (fun G hG => ?_)
  have loop : ∀ (k : Nat) (p1 : Tk) (S1 : Sup) (Md1 : Rf) (h1 : j_H), sN S1 = sN S → sN S < 6 → tPhi len p1 ≤ k → PR E bs h0 m B sz len p1 Md1 h1 → (tkK p1 ≠ 5 → DrB S1 Md1 (sN S + 1) q) →
      (∀ h' pr Md', PR E bs h0 m B sz len pr Md' h' → tSign B len pr 59 = tSign B len (sOptions B len k p1 S1).1 59 → (tkK (tSign B len (sOptions B len k p1 S1).1 59) ≠ 5 → DrB (ssN (sOptions B len k p1 S1).2 (sN (sOptions B len k p1 S1).2 + 1)) Md' (sN S + 1) q) → Q (.inl none) h') → G 78 [.ref m, .int (nI (9 + 14 * sN S)), .int 1] [] h1 := by
    intro k
    have fin : ∀ (p1 : Tk) (S1 : Sup) (Md1 : Rf) (h1 : j_H) (x : Value), sN S1 = sN S → PR E bs h0 m B sz len p1 Md1 h1 → (tkK p1 ≠ 5 → DrB S1 Md1 (sN S + 1) q) → ∀ K : (h' : j_H) → (pr : Tk) → (Md' : Rf) → PR E bs h0 m B sz len pr Md' h' → pr = p1 → (tkK p1 ≠ 5 → DrB (ssN S1 (sN S1 + 1)) Md' (sN S + 1) q) → Q (.inl none) h', G 78 [.ref m, .int (nI (9 + 14 * sN S)), .int 0] [] h1 := by
      intro p1 S1 Md1 h1 x e1 s1 hD1 K
      refine b_X9_readFlow_78 hG ?_
      dsimp only [q_X9_readFlow_78, j_wp, j_opB, j_opA, j_nth, j_i1, j_i2, j_l1, j_l2, j_li, j_f1, j_f2, j_d1, j_d2, j_r1, j_ai, j_aii, j_ail, j_aid, j_air, j_st1, j_st2, j_stu, j_kl, j_cond, j_args, j_out, j_few, j_cw, j_nat, j_pad, j_exp, Nat.reduceAdd]
      first | rw [if_pos rfl] | rw [if_pos trivial]
      refine b_X9_readFlow_91 hG ?_
      dsimp only [q_X9_readFlow_91, j_wp, j_opB, j_opA, j_nth, j_i1, j_i2, j_l1, j_l2, j_li, j_f1, j_f2, j_d1, j_d2, j_r1, j_ai, j_aii, j_ail, j_aid, j_air, j_st1, j_st2, j_stu, j_kl, j_cond, j_args, j_out, j_few, j_cw, j_nat, j_pad, j_exp, Nat.reduceAdd]
      simp only [PR_sh s1, PR_r1 s1, PR_a1 s1, PR_x0 s1, j_ref, j_ari, j_arb, j_arr, j_len, j_nar, j_oi, j_ol, j_of, j_od, j_or, j_ov, true_and, and_true]
      refine ⟨vp_c (k := 0) (by omega) (by omega), vp_c (k := 0) (by omega) (by omega), ?_⟩
      refine K _ p1 (rsX Md1 0 (rX Md1 0 + 1)) (PR_dr s1 (RG_X (PR_g s1) (k := 0) (by omega) _)) rfl (fun z => ?_)
      obtain ⟨⟨y0, y1⟩, d2⟩ := hD1 z
      refine ⟨⟨?_, y1⟩, d2⟩
      show rX Md1 0 + 1 = nI (sN S1 + 1)
      rw [y0, nI_1]
    induction k with
    | zero =>
      intro p1 S1 Md1 h1 e1 e6 hp s1 hD1 K
      have g2 : ¬ isOpt B p1 := fun z => by
        have z2 : tkK p1 = 2 := z.elim tIsW_2 (fun z => z.elim tIsW_2 (fun z => z.elim tIsW_2 tIsW_2))
        have := phi_1 (len := len) (p := p1) (by omega)
        omega
      refine b_X9_readFlow_78 hG ?_
      dsimp only [q_X9_readFlow_78, j_wp, j_opB, j_opA, j_nth, j_i1, j_i2, j_l1, j_l2, j_li, j_f1, j_f2, j_d1, j_d2, j_r1, j_ai, j_aii, j_ail, j_aid, j_air, j_st1, j_st2, j_stu, j_kl, j_cond, j_args, j_out, j_few, j_cw, j_nat, j_pad, j_exp, Nat.reduceAdd]
      rw [if_neg (by decide)]
      rw [← e1]
      refine sp_X9_readOption hl hJ s1 (S := S1) (n := sN S + 1) (q := q) (by omega) (by omega) hD1 (fun _ h2 s2 => ?_) (fun z => absurd z g2)
      simp only [j_ref, j_ari, j_arb, j_arr, j_len, j_nar, j_oi, j_ol, j_of, j_od, j_or, j_ov, true_and, and_true, j_st1, e1]
      exact fin p1 S1 Md1 h2 .null e1 s2 hD1 (fun h' pr Md' s' ep hd => K h' pr Md' s' (by rw [ep]; rfl) (fun z => hd (fun y => z (by show tkK (tSign B len p1 59) = 5; rw [tSign_5 y]; exact y))))
    | succ k ih =>
      intro p1 S1 Md1 h1 e1 e6 hp s1 hD1 K
      refine b_X9_readFlow_78 hG ?_
      dsimp only [q_X9_readFlow_78, j_wp, j_opB, j_opA, j_nth, j_i1, j_i2, j_l1, j_l2, j_li, j_f1, j_f2, j_d1, j_d2, j_r1, j_ai, j_aii, j_ail, j_aid, j_air, j_st1, j_st2, j_stu, j_kl, j_cond, j_args, j_out, j_few, j_cw, j_nat, j_pad, j_exp, Nat.reduceAdd]
      rw [if_neg (by decide)]
      rw [← e1]
      refine sp_X9_readOption hl hJ s1 (S := S1) (n := sN S + 1) (q := q) (by omega) (by omega) hD1 (fun g2 h2 s2 => ?_) (fun g2 h2 Md2 s2 hD2 => ?_)
      · simp only [j_ref, j_ari, j_arb, j_arr, j_len, j_nar, j_oi, j_ol, j_of, j_od, j_or, j_ov, true_and, and_true, j_st1, e1]
        refine fin p1 S1 Md1 h2 .null e1 s2 hD1 (fun h' pr Md' s' ep hd => K h' pr Md' s' ?_ ?_)
        · rw [ep]
          unfold sOptions
          split
          · rename_i g3
            rw [sOption_no g2, sOptions_5 (by show tkK (tFail p1 1) ≠ 2; rw [tFail_5]; decide), tSign_w (by omega)]
            show _ = tSign B len (tFail p1 1) 59
            rw [tSign_5 (tFail_5 p1 1)]
          · rfl
        · intro z
          unfold sOptions at z ⊢
          by_cases g3 : tkK p1 = 2
          · rw [if_pos g3, sOption_no g2, sOptions_5 (by show tkK (tFail p1 1) ≠ 2; rw [tFail_5]; decide)] at z
            exact absurd (by show tkK (tSign B len (tFail p1 1) 59) = 5; rw [tSign_5 (tFail_5 p1 1)]; exact tFail_5 p1 1) z
          · rw [if_neg g3] at z ⊢
            exact hd (fun y => z (by show tkK (tSign B len p1 59) = 5; rw [tSign_5 y]; exact y))
      · have g3 : tkK p1 = 2 := g2.elim tIsW_2 (fun z => z.elim tIsW_2 (fun z => z.elim tIsW_2 tIsW_2))
        have en : sN (sOption B len p1 S1).2 = sN S := sOption_N.1.trans e1
        have ph := phi_opt (B := B) (S := S1) (PR_o s1) g3
        unfold sOptions at K
        rw [if_pos g3] at K
        simp only [j_ref, j_ari, j_arb, j_arr, j_len, j_nar, j_oi, j_ol, j_of, j_od, j_or, j_ov, true_and, and_true, j_st1, e1]
        by_cases g5 : tkK (sOption B len p1 S1).1 = 5
        · rw [if_pos g5]
          rw [sOptions_5 (by rw [g5]; decide)] at K
          exact fin _ _ Md2 h2 .null en s2 hD2 (fun h' pr Md' s' ep hd => K h' pr Md' s' (by rw [ep]) (fun z => absurd (by show tkK (tSign B len (sOption B len p1 S1).1 59) = 5; rw [tSign_5 g5]; exact g5) z))
        · rw [if_neg g5]
          exact ih _ _ Md2 h2 en e6 (by omega) s2 hD2 K
  refine b_X9_readFlow_0 hG ?_
  dsimp only [q_X9_readFlow_0, j_wp, j_opB, j_opA, j_nth, j_i1, j_i2, j_l1, j_l2, j_li, j_f1, j_f2, j_d1, j_d2, j_r1, j_ai, j_aii, j_ail, j_aid, j_air, j_st1, j_st2, j_stu, j_kl, j_cond, j_args, j_out, j_few, j_cw, j_nat, j_pad, j_exp, Nat.reduceAdd]
  simp only [PR_sh s, PR_r1 s, PR_a1 s, PR_x0 s, x0, j_ref, j_ari, j_arb, j_arr, j_len, j_nar, j_oi, j_ol, j_of, j_od, j_or, j_ov, true_and, and_true]
  refine ⟨vp_c (k := 0) (by omega) (by omega), ?_⟩
  by_cases g : sN S < 6
  · rw [if_pos g] at H
    rw [if_pos (show nI (sN S) < (6 : Int32) from nI_lt (b := 6) g (by omega))]
    refine b_X9_readFlow_17 hG ?_
    dsimp only [q_X9_readFlow_17, j_wp, j_opB, j_opA, j_nth, j_i1, j_i2, j_l1, j_l2, j_li, j_f1, j_f2, j_d1, j_d2, j_r1, j_ai, j_aii, j_ail, j_aid, j_air, j_st1, j_st2, j_stu, j_kl, j_cond, j_args, j_out, j_few, j_cw, j_nat, j_pad, j_exp, Nat.reduceAdd]
    refine sp_X9_check hl s (by decide) (fun h1 s1 => ?_)
    rw [if_neg (by decide)] at s1
    simp only [j_ref, j_ari, j_arb, j_arr, j_len, j_nar, j_oi, j_ol, j_of, j_od, j_or, j_ov, true_and, and_true]
    refine sp_X9_advance hl s1 (fun h2 s2 => ?_)
    have n5 : tkK (tNext B len p) ≠ 5 := tNext_n5 (PR_o s) (by omega)
    simp only [PR_sh s2, j_ref, j_ari, j_arb, j_arr, j_len, j_nar, j_oi, j_ol, j_of, j_od, j_or, j_ov, true_and, and_true]
    rw [if_pos (PR_e0 s2 n5)]
    have ei : (9 : Int32) + 14 * nI (sN S) = nI (9 + 14 * sN S) := by
      show nI 9 + nI 14 * nI (sN S) = _
      rw [pk_mul, nI_add]
    refine b_X9_readFlow_33 hG ?_
    dsimp only [q_X9_readFlow_33, j_wp, j_opB, j_opA, j_nth, j_i1, j_i2, j_l1, j_l2, j_li, j_f1, j_f2, j_d1, j_d2, j_r1, j_ai, j_aii, j_ail, j_aid, j_air, j_st1, j_st2, j_stu, j_kl, j_cond, j_args, j_out, j_few, j_cw, j_nat, j_pad, j_exp, Nat.reduceAdd]
    simp only [PR_sh s2, PR_r1 s2, PR_a1 s2, PR_x0 s2, x0, ei, j_st1, j_kl, j_ref, j_ari, j_arb, j_arr, j_len, j_nar, j_oi, j_ol, j_of, j_od, j_or, j_ov, true_and, and_true]
    refine ⟨vp_c (k := 0) (by omega) (by omega), ?_⟩
    rw [show nI (9 + 14 * sN S) + 3 = nI (9 + 14 * sN S + 3) from nI_add _ 3, show nI (9 + 14 * sN S) + 0 = nI (9 + 14 * sN S + 0) from nI_add _ 0, show nI (9 + 14 * sN S) + 1 = nI (9 + 14 * sN S + 1) from nI_add _ 1]
    refine ⟨vp_in_nI (by omega) (by omega), ?_⟩
    rw [nI_clamp (by omega)]
    have s3 := PR_dr s2 (RG_F (PR_g s2) (r := sN S) (k := 3) (by omega) (by omega) 3)
    refine sp_X9_putNumber hl s3 (k := 9 + 14 * sN S + 0) (by omega) (Mf := fun v => rsF (rsF Md (sN S) 3 3) (sN S) 0 v) (fun g v r => RG_F r (by omega) (by omega) v) (fun h4 s4 => ?_)
    simp only [j_ref, j_ari, j_arb, j_arr, j_len, j_nar, j_oi, j_ol, j_of, j_od, j_or, j_ov, true_and, and_true]
    refine sp_X9_putNumber hl s4 (k := 9 + 14 * sN S + 1) (by omega) (Mf := fun v => rsF (if tkK (tTake B len (tNext B len p) 1 16).2 = 5 then rsF Md (sN S) 3 3 else rsF (rsF Md (sN S) 3 3) (sN S) 0 (tTake B len (tNext B len p) 1 16).1) (sN S) 1 v) (fun g v r => RG_F r (by omega) (by omega) v) (fun h5 s5 => ?_)
    simp only [j_ref, j_ari, j_arb, j_arr, j_len, j_nar, j_oi, j_ol, j_of, j_od, j_or, j_ov, true_and, and_true, j_st1, j_kl]
    refine loop 800 (sFlow0 B len p S).1 (sFlow0 B len p S).2 _ h5 rfl g ?_ s5 (fun z => ?_) (fun h' pr Md' s' e1 e2 => H h' pr Md' s' e1 (fun y => ?_))
    · have a0 := phi_2 (B := B) (PR_o s) hk
      have a1 := phi_take (B := B) (lo := 1) (hi := 16) (tNext_ok (B := B) (PR_o s))
      have a2 := phi_take (B := B) (lo := 1) (hi := 60000) (tTake_ok (B := B) (lo := 1) (hi := 16) (tNext_ok (B := B) (PR_o s)))
      have a3 : tPhi len p ≤ len + 1 := by unfold tPhi; split <;> omega
      show tPhi len (tTake B len (tTake B len (tNext B len p) 1 16).2 1 60000).2 ≤ 800
      omega
    · have z2 : tkK (tTake B len (tTake B len (tNext B len p) 1 16).2 1 60000).2 ≠ 5 := z
      have z1 : tkK (tTake B len (tNext B len p) 1 16).2 ≠ 5 := fun y => z2 (by rw [tTake_5 y]; exact y)
      rw [if_neg z2, if_neg z1]
      obtain ⟨d1, d2, d3, d4, d5⟩ := hD
      refine ⟨d1, fun r k g1 g2 => ?_, fun r k g1 g2 => ?_, d4, d5⟩
      · show j_up (j_up (j_up (rF Md) (sN S) 3 3) (sN S) 0 _) (sN S) 1 _ r k = j_up (j_up (j_up (j_up (j_up (j_up (j_up (sF S) (sN S) 0 _) (sN S) 1 _) (sN S) 2 0) (sN S) 3 3) (sN S) 4 0) (sN S) 5 0) (sN S) 6 0 r k
        by_cases er : r = sN S
        · subst er
          have hz : ∀ j, rF Md (sN S) j = 0 := fun j => d3 _ _ (by omega) (Or.inl (Nat.le_refl _))
          have hc : k = 0 ∨ k = 1 ∨ k = 2 ∨ k = 3 ∨ k = 4 ∨ k = 5 ∨ k = 6 := by omega
          rcases hc with rfl | rfl | rfl | rfl | rfl | rfl | rfl <;> simp [j_up, hz]
        · simp only [j_up, er, false_and, if_false]
          exact d2 r k (by omega) g2
      · show j_up (j_up (j_up (rF Md) (sN S) 3 3) (sN S) 0 _) (sN S) 1 _ r k = 0
        simp only [j_up]
        rw [if_neg (by omega), if_neg (by omega), if_neg (by omega)]
        exact d3 r k g1 (by omega)
    · have := e2 y
      have e3 : sN (ssN (sOptions B len 800 (sFlow0 B len p S).1 (sFlow0 B len p S).2).2 (sN (sOptions B len 800 (sFlow0 B len p S).1 (sFlow0 B len p S).2).2 + 1)) = sN S + 1 := by
        show sN (sOptions B len 800 (sFlow0 B len p S).1 (sFlow0 B len p S).2).2 + 1 = sN S + 1
        rw [sOptions_N.1]
        rfl
      rw [e3]
      exact this
  · rw [if_neg g] at H
    rw [if_neg (show ¬ nI (sN S) < (6 : Int32) from nI_nlt (b := 6) (by omega) (by omega))]
    refine b_X9_readFlow_16 hG ?_
    dsimp only [q_X9_readFlow_16, j_wp, j_opB, j_opA, j_nth, j_i1, j_i2, j_l1, j_l2, j_li, j_f1, j_f2, j_d1, j_d2, j_r1, j_ai, j_aii, j_ail, j_aid, j_air, j_st1, j_st2, j_stu, j_kl, j_cond, j_args, j_out, j_few, j_cw, j_nat, j_pad, j_exp, Nat.reduceAdd]
    refine b_X9_readFlow_17 hG ?_
    dsimp only [q_X9_readFlow_17, j_wp, j_opB, j_opA, j_nth, j_i1, j_i2, j_l1, j_l2, j_li, j_f1, j_f2, j_d1, j_d2, j_r1, j_ai, j_aii, j_ail, j_aid, j_air, j_st1, j_st2, j_stu, j_kl, j_cond, j_args, j_out, j_few, j_cw, j_nat, j_pad, j_exp, Nat.reduceAdd]
    refine sp_X9_check hl s (by decide) (fun h1 s1 => ?_)
    rw [if_pos rfl] at s1
    simp only [j_ref, j_ari, j_arb, j_arr, j_len, j_nar, j_oi, j_ol, j_of, j_od, j_or, j_ov, true_and, and_true]
    refine sp_X9_advance hl s1 (fun h2 s2 => ?_)
    rw [tNext_5 (tFail_5 p 3)] at s2
    simp only [PR_sh s2, j_ref, j_ari, j_arb, j_arr, j_len, j_nar, j_oi, j_ol, j_of, j_od, j_or, j_ov, true_and, and_true]
    rw [if_neg (PR_e5 s2 (tFail_5 p 3))]
    exact H h2 _ Md s2 (tSign_5 (tFail_5 p 3)) (fun z => absurd (tFail_5 p 3) z)
end RLd
