/-! ===== the reference: forgiving, copying rows, its history ===== -/
section RefD
variable {l : Launch} {D : va_G} {bs : Nat} {E : j_E} {h0 h : j_H} {m : Nat} {M : Rf} {d : Nat} {Q : j_O → j_H → Prop}
/-- the least virtual time of the other flows that are in use: k flows more from g on; the least so far, and whether there is one -/
def rLow (M : Rf) (ns f : Nat) : Nat → Nat → Int64 → Bool → Int64 × Bool
  | 0, _, a, b => (a, b)
  | k + 1, g, a, b => if nI g = nI f ∨ rIdle M ns g = true then rLow M ns f k (g + 1) a b
    else rLow M ns f k (g + 1) (if b = true then (if rV M g < a then rV M g else a) else rV M g) true
def rFloor (M : Rf) (nf ns f : Nat) : Int64 := (rLow M ns f nf 0 0 false).1 - (rF M f 2).toInt64 * 720720 / (rF M f 0).toInt64
def rForgive (M : Rf) (nf ns f : Nat) : Rf :=
  if (rLow M ns f nf 0 0 false).2 = true ∧ rIdle M ns f = true ∧ rV M f < rFloor M nf ns f then rsF (rsV M f (rFloor M nf ns f)) f 13 (rF M f 13 + 1) else M
set_option maxRecDepth 8000 in
theorem sp_X9_forgive (hl : l.stackTraces = false) (s : ME E h0 m M h) {nf ns f : Nat} (hf : f < 6) (hnf : nf ≤ 6) (hx : rX M 0 = nI nf) (hns : ns ≤ 300) (hx3 : rX M 3 = nI ns) (hq : rSok M ns) (hw : ¬ (rF M f 0).toInt64 = 0) (H : ∀ h', ME E h0 m (rForgive M nf ns f) h' → Q (.inl none) h') : j_Met l D bs E (d + 5) n_X9_forgive [.ref m, .int (nI f)] h Q := by
  have hB := ME_b s
  unfold rForgive rFloor at H
  generalize hr : rLow M ns f nf 0 0 false = res at H
  refine j_meth hl rfl g_X9_forgive (Nat.le_of_ble_eq_true rfl) (fun _ => ⟨_, _, rfl, (ME_sh s)⟩) hB.1 hB.2 (fun G hG => ?_)
  have fin : ∀ (a : Int64) (b : Bool) (x : Value), (∀ h', ME E h0 m (if b = true ∧ rIdle M ns f = true ∧ rV M f < a - (rF M f 2).toInt64 * 720720 / (rF M f 0).toInt64 then rsF (rsV M f (a - (rF M f 2).toInt64 * 720720 / (rF M f 0).toInt64)) f 13 (rF M f 13 + 1) else M) h' → Q (.inl none) h') → G 70 [.ref m, .int (nI f), .long a, j_u, .int (if b = true then 1 else 0), x, j_u] [] h := by
    intro a b x H
    refine b_X9_forgive_70 hG ?_
    dsimp only [q_X9_forgive_70, j_wp, j_opB, j_opA, j_nth, j_i1, j_i2, j_l1, j_l2, j_li, j_f1, j_f2, j_d1, j_d2, j_r1, j_ai, j_aii, j_ail, j_aid, j_air, j_st1, j_st2, j_stu, j_kl, j_cond, j_args, j_out, j_few, j_cw, j_nat, j_pad, j_exp, Nat.reduceAdd]
    refine sp_X9_ofFlow hl s hf (k := 2) (by omega) ?_
    simp only [j_ref, j_ari, j_arb, j_arr, j_len, j_nar, j_oi, j_ol, j_of, j_od, j_or, j_ov, true_and, and_true]
    refine sp_X9_ofFlow hl s hf (k := 0) (by omega) ?_
    simp only [j_ref, j_ari, j_arb, j_arr, j_len, j_nar, j_oi, j_ol, j_of, j_od, j_or, j_ov, true_and, and_true, j_st1, j_st2, j_stu, j_kl]
    refine ⟨hw, ?_⟩
    cases b with
    | false =>
      simp only [Bool.false_eq_true, false_and, if_false] at H ⊢
      simp only [if_true]
      refine b_X9_forgive_134 hG ?_
      dsimp only [q_X9_forgive_134, j_wp, j_opB, j_opA, j_nth, j_i1, j_i2, j_l1, j_l2, j_li, j_f1, j_f2, j_d1, j_d2, j_r1, j_ai, j_aii, j_ail, j_aid, j_air, j_st1, j_st2, j_stu, j_kl, j_cond, j_args, j_out, j_few, j_cw, j_nat, j_pad, j_exp, Nat.reduceAdd]
      exact H h s
    | true =>
      simp only [true_and, if_true] at H ⊢
      rw [if_neg (by decide)]
      refine sp_X9_isUnused hl s hf hns hx3 hq ?_
      simp only [j_ref, j_ari, j_arb, j_arr, j_len, j_nar, j_oi, j_ol, j_of, j_od, j_or, j_ov, true_and, and_true]
      by_cases g : rIdle M ns f = true
      · simp only [g, true_and, if_true] at H ⊢
        rw [if_neg (by decide)]
        simp only [ME_sh s, ME_r0 s, ME_a0 s, ME_r5 s, ME_a5 s, j_ref, j_ari, j_arb, j_arr, j_len, j_nar, j_oi, j_ol, j_of, j_od, j_or, j_ov, true_and, and_true]
        refine ⟨vp_in_nI (by omega) (by omega), ?_⟩
        rw [nI_clamp (by omega), ME_gV s hf]
        by_cases g2 : rV M f < a - (rF M f 2).toInt64 * 720720 / (rF M f 0).toInt64
        · rw [if_pos g2] at H
          rw [if_pos (lg_gt.mpr g2)]
          refine ⟨vp_in_nI (by omega) (by omega), ?_⟩
          have s1 := ME_V s hf (a - (rF M f 2).toInt64 * 720720 / (rF M f 0).toInt64)
          refine sp_X9_addToFlow hl s1 hf (k := 13) (by omega) (fun h2 s2 => ?_)
          simp only [j_ref, j_ari, j_arb, j_arr, j_len, j_nar, j_oi, j_ol, j_of, j_od, j_or, j_ov, true_and, and_true]
          refine b_X9_forgive_134 hG ?_
          dsimp only [q_X9_forgive_134, j_wp, j_opB, j_opA, j_nth, j_i1, j_i2, j_l1, j_l2, j_li, j_f1, j_f2, j_d1, j_d2, j_r1, j_ai, j_aii, j_ail, j_aid, j_air, j_st1, j_st2, j_stu, j_kl, j_cond, j_args, j_out, j_few, j_cw, j_nat, j_pad, j_exp, Nat.reduceAdd]
          exact H h2 s2
        · rw [if_neg g2] at H
          rw [if_neg (fun z => g2 (lg_gt.mp z))]
          refine b_X9_forgive_134 hG ?_
          dsimp only [q_X9_forgive_134, j_wp, j_opB, j_opA, j_nth, j_i1, j_i2, j_l1, j_l2, j_li, j_f1, j_f2, j_d1, j_d2, j_r1, j_ai, j_aii, j_ail, j_aid, j_air, j_st1, j_st2, j_stu, j_kl, j_cond, j_args, j_out, j_few, j_cw, j_nat, j_pad, j_exp, Nat.reduceAdd]
          exact H h s
      · simp only [g, false_and, if_false, Bool.false_eq_true] at H ⊢
        simp only [if_true]
        refine b_X9_forgive_134 hG ?_
        dsimp only [q_X9_forgive_134, j_wp, j_opB, j_opA, j_nth, j_i1, j_i2, j_l1, j_l2, j_li, j_f1, j_f2, j_d1, j_d2, j_r1, j_ai, j_aii, j_ail, j_aid, j_air, j_st1, j_st2, j_stu, j_kl, j_cond, j_args, j_out, j_few, j_cw, j_nat, j_pad, j_exp, Nat.reduceAdd]
        exact H h s
  have loop : ∀ (k g : Nat) (a : Int64) (b : Bool), g + k = nf → rLow M ns f k g a b = res → G 8 [.ref m, .int (nI f), .long a, j_u, .int (if b = true then 1 else 0), .int (nI g), j_u] [] h := by
    intro k
    induction k with
    | zero =>
      intro g a b hg e
      unfold rLow at e
      refine b_X9_forgive_8 hG ?_
      dsimp only [q_X9_forgive_8, j_wp, j_opB, j_opA, j_nth, j_i1, j_i2, j_l1, j_l2, j_li, j_f1, j_f2, j_d1, j_d2, j_r1, j_ai, j_aii, j_ail, j_aid, j_air, j_st1, j_st2, j_stu, j_kl, j_cond, j_args, j_out, j_few, j_cw, j_nat, j_pad, j_exp, Nat.reduceAdd]
      simp only [ME_sh s, ME_r0 s, ME_a0 s, ME_r5 s, ME_a5 s, j_ref, j_ari, j_arb, j_arr, j_len, j_nar, j_oi, j_ol, j_of, j_od, j_or, j_ov, true_and, and_true, ME_x0 s, hx]
      refine ⟨vp_c (k := 0) (by omega) (by omega), ?_⟩
      rw [if_neg (nI_nlt (by omega) (by omega))]
      refine fin a b _ ?_
      rw [← e] at H
      exact H
    | succ k ih =>
      intro g a b hg e
      unfold rLow at e
      have nx : ∀ (a' : Int64) (b' : Bool), rLow M ns f k (g + 1) a' b' = res → G 64 [.ref m, .int (nI f), .long a', j_u, .int (if b' = true then 1 else 0), .int (nI g), j_u] [] h := by
        intro a' b' e'
        refine b_X9_forgive_64 hG ?_
        dsimp only [q_X9_forgive_64, j_wp, j_opB, j_opA, j_nth, j_i1, j_i2, j_l1, j_l2, j_li, j_f1, j_f2, j_d1, j_d2, j_r1, j_ai, j_aii, j_ail, j_aid, j_air, j_st1, j_st2, j_stu, j_kl, j_cond, j_args, j_out, j_few, j_cw, j_nat, j_pad, j_exp, Nat.reduceAdd]
        rw [nI_1]
        exact ih (g + 1) a' b' (by omega) e'
      refine b_X9_forgive_8 hG ?_
      dsimp only [q_X9_forgive_8, j_wp, j_opB, j_opA, j_nth, j_i1, j_i2, j_l1, j_l2, j_li, j_f1, j_f2, j_d1, j_d2, j_r1, j_ai, j_aii, j_ail, j_aid, j_air, j_st1, j_st2, j_stu, j_kl, j_cond, j_args, j_out, j_few, j_cw, j_nat, j_pad, j_exp, Nat.reduceAdd]
      simp only [ME_sh s, ME_r0 s, ME_a0 s, ME_r5 s, ME_a5 s, j_ref, j_ari, j_arb, j_arr, j_len, j_nar, j_oi, j_ol, j_of, j_od, j_or, j_ov, true_and, and_true, ME_x0 s, hx]
      refine ⟨vp_c (k := 0) (by omega) (by omega), ?_⟩
      rw [if_pos (nI_lt (by omega) (by omega))]
      by_cases g1 : nI g = nI f
      · rw [if_pos g1]
        rw [if_pos (Or.inl g1)] at e
        exact nx a b e
      · rw [if_neg g1]
        refine sp_X9_isUnused hl s (f := g) (by omega) hns hx3 hq ?_
        simp only [j_ref, j_ari, j_arb, j_arr, j_len, j_nar, j_oi, j_ol, j_of, j_od, j_or, j_ov, true_and, and_true]
        by_cases g2 : rIdle M ns g = true
        · simp only [g2, if_true]
          rw [if_neg (by decide)]
          rw [if_pos (Or.inr g2)] at e
          exact nx a b e
        · simp only [g2, if_false, Bool.false_eq_true, if_true]
          rw [if_neg (fun z => z.elim g1 g2)] at e
          cases b with
          | false =>
            simp only [Bool.false_eq_true, if_false] at e ⊢
            simp only [if_true]
            refine b_X9_forgive_53 hG ?_
            dsimp only [q_X9_forgive_53, j_wp, j_opB, j_opA, j_nth, j_i1, j_i2, j_l1, j_l2, j_li, j_f1, j_f2, j_d1, j_d2, j_r1, j_ai, j_aii, j_ail, j_aid, j_air, j_st1, j_st2, j_stu, j_kl, j_cond, j_args, j_out, j_few, j_cw, j_nat, j_pad, j_exp, Nat.reduceAdd]
            simp only [ME_sh s, ME_r0 s, ME_a0 s, ME_r5 s, ME_a5 s, j_ref, j_ari, j_arb, j_arr, j_len, j_nar, j_oi, j_ol, j_of, j_od, j_or, j_ov, true_and, and_true]
            refine ⟨vp_in_nI (by omega) (by omega), ?_⟩
            rw [nI_clamp (by omega), ME_gV s (k := g) (by omega)]
            refine b_X9_forgive_60 hG ?_
            dsimp only [q_X9_forgive_60, j_wp, j_opB, j_opA, j_nth, j_i1, j_i2, j_l1, j_l2, j_li, j_f1, j_f2, j_d1, j_d2, j_r1, j_ai, j_aii, j_ail, j_aid, j_air, j_st1, j_st2, j_stu, j_kl, j_cond, j_args, j_out, j_few, j_cw, j_nat, j_pad, j_exp, Nat.reduceAdd]
            exact nx _ true e
          | true =>
            simp only [if_true] at e ⊢
            rw [if_neg (by decide)]
            simp only [ME_sh s, ME_r0 s, ME_a0 s, ME_r5 s, ME_a5 s, j_ref, j_ari, j_arb, j_arr, j_len, j_nar, j_oi, j_ol, j_of, j_od, j_or, j_ov, true_and, and_true]
            refine ⟨vp_in_nI (by omega) (by omega), ?_⟩
            rw [nI_clamp (by omega), ME_gV s (k := g) (by omega)]
            refine b_X9_forgive_60 hG ?_
            dsimp only [q_X9_forgive_60, j_wp, j_opB, j_opA, j_nth, j_i1, j_i2, j_l1, j_l2, j_li, j_f1, j_f2, j_d1, j_d2, j_r1, j_ai, j_aii, j_ail, j_aid, j_air, j_st1, j_st2, j_stu, j_kl, j_cond, j_args, j_out, j_few, j_cw, j_nat, j_pad, j_exp, Nat.reduceAdd]
            exact nx _ true e
  refine b_X9_forgive_0 hG ?_
  dsimp only [q_X9_forgive_0, j_wp, j_opB, j_opA, j_nth, j_i1, j_i2, j_l1, j_l2, j_li, j_f1, j_f2, j_d1, j_d2, j_r1, j_ai, j_aii, j_ail, j_aid, j_air, j_st1, j_st2, j_stu, j_kl, j_cond, j_args, j_out, j_few, j_cw, j_nat, j_pad, j_exp, Nat.reduceAdd]
  exact loop nf 0 0 false (by omega) hr
theorem sp_X9_copy (hl : l.stackTraces = false) (hB : j_bd E h) {a b fr tr na nb : Nat} (ha : j_sh h a = some (.inl (0, na))) (hb : j_sh h b = some (.inl (0, nb))) (h1 : 4073 * fr + 4073 ≤ na) (h2 : 4073 * tr + 4073 ≤ nb) (hna : na < 2 ^ 31) (hnb : nb < 2 ^ 31) (hne : a ≠ b ∨ fr ≠ tr)
    (H : ∀ h', FA (fun c => c = b) h h' → (∀ k, k < 4073 → j_I h' b (4073 * tr + k) = j_I h a (4073 * fr + k)) → (∀ j, (j < 4073 * tr ∨ 4073 * tr + 4073 ≤ j) → j_I h' b j = j_I h b j) → Q (.inl none) h') : j_Met l D bs E (d + 1) n_X9_copy [.ref a, .int (nI fr), .ref b, .int (nI tr)] h Q := by
  have ei : ∀ r k : Nat, (4073 : Int32) * nI r + nI k = nI (4073 * r + k) := by
    intro r k
    show nI 4073 * nI r + nI k = _
    rw [pk_mul, nI_add]
  refine j_meth hl rfl g_X9_copy (Nat.le_of_ble_eq_true rfl) (fun z => absurd z (by decide)) hB.1 hB.2 (fun G hG => ?_)
  have loop : ∀ (k i : Nat) (h1 : j_H), i + k = 4073 → FA (fun c => c = b) h h1 → (∀ j, j < i → j_I h1 b (4073 * tr + j) = j_I h a (4073 * fr + j)) → (∀ c j, ¬ (c = b ∧ 4073 * tr ≤ j ∧ j < 4073 * tr + i) → j_I h1 c j = j_I h c j) → G 3 [.ref a, .int (nI fr), .ref b, .int (nI tr), .int (nI i)] [] h1 := by
    intro k
    induction k with
    | zero =>
      intro i h1 hi f1 e1 e2
      refine b_X9_copy_3 hG ?_
      dsimp only [q_X9_copy_3, j_wp, j_opB, j_opA, j_nth, j_i1, j_i2, j_l1, j_l2, j_li, j_f1, j_f2, j_d1, j_d2, j_r1, j_ai, j_aii, j_ail, j_aid, j_air, j_st1, j_st2, j_stu, j_kl, j_cond, j_args, j_out, j_few, j_cw, j_nat, j_pad, j_exp, Nat.reduceAdd]
      rw [if_neg (show ¬ nI i < (4073 : Int32) from nI_nlt (b := 4073) (by omega) (by omega))]
      refine b_X9_copy_37 hG ?_
      dsimp only [q_X9_copy_37, j_wp, j_opB, j_opA, j_nth, j_i1, j_i2, j_l1, j_l2, j_li, j_f1, j_f2, j_d1, j_d2, j_r1, j_ai, j_aii, j_ail, j_aid, j_air, j_st1, j_st2, j_stu, j_kl, j_cond, j_args, j_out, j_few, j_cw, j_nat, j_pad, j_exp, Nat.reduceAdd]
      exact H h1 f1 (fun j hj => e1 j (by omega)) (fun j hj => e2 b j (by omega))
    | succ k ih =>
      intro i h1 hi f1 e1 e2
      have sa : j_sh h1 a = some (.inl (0, na)) := by rw [f1.1]; exact ha
      have sb : j_sh h1 b = some (.inl (0, nb)) := by rw [f1.1]; exact hb
      refine b_X9_copy_3 hG ?_
      dsimp only [q_X9_copy_3, j_wp, j_opB, j_opA, j_nth, j_i1, j_i2, j_l1, j_l2, j_li, j_f1, j_f2, j_d1, j_d2, j_r1, j_ai, j_aii, j_ail, j_aid, j_air, j_st1, j_st2, j_stu, j_kl, j_cond, j_args, j_out, j_few, j_cw, j_nat, j_pad, j_exp, Nat.reduceAdd]
      rw [if_pos (show nI i < (4073 : Int32) from nI_lt (b := 4073) (by omega) (by omega))]
      simp only [sa, sb, ei, j_ref, j_ari, j_arb, j_arr, j_len, j_nar, j_oi, j_ol, j_of, j_od, j_or, j_ov, true_and, and_true]
      refine ⟨vp_in_nI (by omega) hna, vp_in_nI (by omega) hnb, ?_⟩
      rw [nI_clamp (by omega), nI_clamp (by omega), nI_1, e2 a (4073 * fr + i) (by omega)]
      refine ih (i + 1) _ (by omega) (FA_I f1 rfl) (fun j hj => ?_) (fun c j hj => ?_)
      · by_cases e : j = i
        · subst e
          exact jh_Is _ _ _ _
        · rw [jh_In (by omega)]
          exact e1 j (by omega)
      · rw [jh_In (by omega)]
        exact e2 c j (by omega)
  refine b_X9_copy_0 hG ?_
  dsimp only [q_X9_copy_0, j_wp, j_opB, j_opA, j_nth, j_i1, j_i2, j_l1, j_l2, j_li, j_f1, j_f2, j_d1, j_d2, j_r1, j_ai, j_aii, j_ail, j_aid, j_air, j_st1, j_st2, j_stu, j_kl, j_cond, j_args, j_out, j_few, j_cw, j_nat, j_pad, j_exp, Nat.reduceAdd]
  exact loop 4073 0 h (by omega) FA_rf (fun j hj => absurd hj (by omega)) (fun _ _ _ => rfl)
theorem sp_X9_copyTimes (hl : l.stackTraces = false) (hB : j_bd E h) {a b fr tr na nb : Nat} (ha : j_sh h a = some (.inl (1, na))) (hb : j_sh h b = some (.inl (1, nb))) (h1 : 306 * fr + 306 ≤ na) (h2 : 306 * tr + 306 ≤ nb) (hna : na < 2 ^ 31) (hnb : nb < 2 ^ 31) (hne : a ≠ b ∨ fr ≠ tr)
    (H : ∀ h', FA (fun c => c = b) h h' → (∀ k, k < 306 → j_L h' b (306 * tr + k) = j_L h a (306 * fr + k)) → (∀ j, (j < 306 * tr ∨ 306 * tr + 306 ≤ j) → j_L h' b j = j_L h b j) → Q (.inl none) h') : j_Met l D bs E (d + 1) n_X9_copyTimes [.ref a, .int (nI fr), .ref b, .int (nI tr)] h Q := by
  have ei : ∀ r k : Nat, (306 : Int32) * nI r + nI k = nI (306 * r + k) := by
    intro r k
    show nI 306 * nI r + nI k = _
    rw [pk_mul, nI_add]
  refine j_meth hl rfl g_X9_copyTimes (Nat.le_of_ble_eq_true rfl) (fun z => absurd z (by decide)) hB.1 hB.2 (fun G hG => ?_)
  have loop : ∀ (k i : Nat) (h1 : j_H), i + k = 306 → FA (fun c => c = b) h h1 → (∀ j, j < i → j_L h1 b (306 * tr + j) = j_L h a (306 * fr + j)) → (∀ c j, ¬ (c = b ∧ 306 * tr ≤ j ∧ j < 306 * tr + i) → j_L h1 c j = j_L h c j) → G 3 [.ref a, .int (nI fr), .ref b, .int (nI tr), .int (nI i)] [] h1 := by
    intro k
    induction k with
    | zero =>
      intro i h1 hi f1 e1 e2
      refine b_X9_copyTimes_3 hG ?_
      dsimp only [q_X9_copyTimes_3, j_wp, j_opB, j_opA, j_nth, j_i1, j_i2, j_l1, j_l2, j_li, j_f1, j_f2, j_d1, j_d2, j_r1, j_ai, j_aii, j_ail, j_aid, j_air, j_st1, j_st2, j_stu, j_kl, j_cond, j_args, j_out, j_few, j_cw, j_nat, j_pad, j_exp, Nat.reduceAdd]
      rw [if_neg (show ¬ nI i < (306 : Int32) from nI_nlt (b := 306) (by omega) (by omega))]
      refine b_X9_copyTimes_37 hG ?_
      dsimp only [q_X9_copyTimes_37, j_wp, j_opB, j_opA, j_nth, j_i1, j_i2, j_l1, j_l2, j_li, j_f1, j_f2, j_d1, j_d2, j_r1, j_ai, j_aii, j_ail, j_aid, j_air, j_st1, j_st2, j_stu, j_kl, j_cond, j_args, j_out, j_few, j_cw, j_nat, j_pad, j_exp, Nat.reduceAdd]
      exact H h1 f1 (fun j hj => e1 j (by omega)) (fun j hj => e2 b j (by omega))
    | succ k ih =>
      intro i h1 hi f1 e1 e2
      have sa : j_sh h1 a = some (.inl (1, na)) := by rw [f1.1]; exact ha
      have sb : j_sh h1 b = some (.inl (1, nb)) := by rw [f1.1]; exact hb
      refine b_X9_copyTimes_3 hG ?_
      dsimp only [q_X9_copyTimes_3, j_wp, j_opB, j_opA, j_nth, j_i1, j_i2, j_l1, j_l2, j_li, j_f1, j_f2, j_d1, j_d2, j_r1, j_ai, j_aii, j_ail, j_aid, j_air, j_st1, j_st2, j_stu, j_kl, j_cond, j_args, j_out, j_few, j_cw, j_nat, j_pad, j_exp, Nat.reduceAdd]
      rw [if_pos (show nI i < (306 : Int32) from nI_lt (b := 306) (by omega) (by omega))]
      simp only [sa, sb, ei, j_ref, j_ari, j_arb, j_arr, j_len, j_nar, j_oi, j_ol, j_of, j_od, j_or, j_ov, true_and, and_true]
      refine ⟨vp_in_nI (by omega) hna, vp_in_nI (by omega) hnb, ?_⟩
      rw [nI_clamp (by omega), nI_clamp (by omega), nI_1, e2 a (306 * fr + i) (by omega)]
      refine ih (i + 1) _ (by omega) (FA_L f1 rfl) (fun j hj => ?_) (fun c j hj => ?_)
      · by_cases e : j = i
        · subst e
          exact jh_Ls _ _ _ _
        · rw [jh_Ln (by omega)]
          exact e1 j (by omega)
      · rw [jh_Ln (by omega)]
        exact e2 c j (by omega)
  refine b_X9_copyTimes_0 hG ?_
  dsimp only [q_X9_copyTimes_0, j_wp, j_opB, j_opA, j_nth, j_i1, j_i2, j_l1, j_l2, j_li, j_f1, j_f2, j_d1, j_d2, j_r1, j_ai, j_aii, j_ail, j_aid, j_air, j_st1, j_st2, j_stu, j_kl, j_cond, j_args, j_out, j_few, j_cw, j_nat, j_pad, j_exp, Nat.reduceAdd]
  exact loop 306 0 h (by omega) FA_rf (fun j hj => absurd hj (by omega)) (fun _ _ _ => rfl)
/-- numbers have changed in the cells A alone, and in the cell m at the places F alone -/
def FM (A : Nat → Prop) (m : Nat) (F : Nat → Prop) (h h' : j_H) : Prop := j_sh h' = j_sh h ∧ j_R h' = j_R h ∧ j_D h' = j_D h ∧ j_z h' = j_z h ∧ j_c h' = j_c h ∧ j_k h' = j_k h ∧ (∀ b k, ¬ A b → ¬ (b = m ∧ F k) → j_I h' b k = j_I h b k) ∧ ∀ b k, ¬ A b → j_L h' b k = j_L h b k
theorem FM_rf {A F : Nat → Prop} : FM A m F h h := ⟨rfl, rfl, rfl, rfl, rfl, rfl, fun _ _ _ _ => rfl, fun _ _ _ => rfl⟩
theorem FM_tr {A F : Nat → Prop} {h' h'' : j_H} (h1 : FM A m F h h') (h2 : FM A m F h' h'') : FM A m F h h'' := by
  obtain ⟨f1, f2, f3, f4, f5, f6, f7, f8⟩ := h1
  obtain ⟨g1, g2, g3, g4, g5, g6, g7, g8⟩ := h2
  exact ⟨g1.trans f1, g2.trans f2, g3.trans f3, g4.trans f4, g5.trans f5, g6.trans f6, fun b k z y => (g7 b k z y).trans (f7 b k z y), fun b k z => (g8 b k z).trans (f8 b k z)⟩
theorem FM_mono {A A' F F' : Nat → Prop} {h' : j_H} (hF : FM A m F h h') (hA : ∀ b, A b → A' b) (hG : ∀ k, F k → F' k) : FM A' m F' h h' := by
  obtain ⟨f1, f2, f3, f4, f5, f6, f7, f8⟩ := hF
  exact ⟨f1, f2, f3, f4, f5, f6, fun b k z y => f7 b k (fun w => z (hA b w)) (fun w => y ⟨w.1, hG k w.2⟩), fun b k z => f8 b k (fun y => z (hA b y))⟩
theorem FM_FA {A F : Nat → Prop} {h' : j_H} (hF : FA A h h') : FM A m F h h' := by
  obtain ⟨f1, f2, f3, f4, f5, f6, f7, f8⟩ := hF
  exact ⟨f1, f2, f3, f4, f5, f6, fun b k z _ => f7 b k z, f8⟩
theorem FM_I {A F : Nat → Prop} {h' : j_H} {k : Nat} {v : Int32} (hF : FM A m F h h') (hk : F k) : FM A m F h (j_setI h' m k v) := by
  obtain ⟨f1, f2, f3, f4, f5, f6, f7, f8⟩ := hF
  exact ⟨f1, f2, f3, f4, f5, f6, fun b j z y => by rw [jh_In (fun w => y ⟨w.1, by rw [w.2]; exact hk⟩)]; exact f7 b j z y, f8⟩
theorem FM_bd {A F : Nat → Prop} {h' : j_H} (hF : FM A m F h h') (hB : j_bd E h) : j_bd E h' := by
  obtain ⟨f1, f2, f3, f4, f5, f6, f7, f8⟩ := hF
  unfold j_bd
  rw [f5, f6]
  exact hB
theorem mk_FM {A F : Nat → Prop} {h' : j_H} (s : mk h m) (hF : FM A m F h h') : mk h' m := by unfold mk at *; rw [hF.1, hF.2.1]; exact s
theorem mk_I {b k : Nat} {v : Int32} (s : mk h m) : mk (j_setI h b k v) m := s
theorem jh_ss (h : j_H) (a k : Nat) (v w : Int32) : j_setI (j_setI h a k v) a k w = j_setI h a k w := by
  have e : j_up (j_up h.2.1 a k v) a k w = j_up h.2.1 a k w := by
    funext b j
    simp only [j_up]
    split <;> rfl
  unfold j_setI
  dsimp only
  rw [e]
/-- row i of the history -/
def RW (h : j_H) (m i : Nat) (X : Rf) : Prop := RG (fun k => j_I h (m + 5) (4073 * i + k)) X ∧ RGV (fun k => j_L h (m + 9) (306 * i + k)) X
/-- the reference at m remembers U, uc of them -/
def HU (h : j_H) (m : Nat) (U : Nat → Rf) (uc : Nat) : Prop := j_I h m 9 = nI uc ∧ uc ≤ 10 ∧ ∀ i, i < uc → RW h m i (U i)
theorem RW_eq {h' : j_H} {i : Nat} {X : Rf} (r : RW h m i X) (e1 : ∀ k, k < 4073 → j_I h' (m + 5) (4073 * i + k) = j_I h (m + 5) (4073 * i + k)) (e2 : ∀ k, k < 306 → j_L h' (m + 9) (306 * i + k) = j_L h (m + 9) (306 * i + k)) : RW h' m i X := ⟨RG_cp r.1 e1, RGV_cp r.2 e2⟩
theorem RW_FM {A F : Nat → Prop} {h' : j_H} {i : Nat} {X : Rf} (r : RW h m i X) (hF : FM A m F h h') (h1 : ¬ A (m + 5)) (h2 : ¬ A (m + 9)) : RW h' m i X := RW_eq r (fun k _ => hF.2.2.2.2.2.2.1 _ _ h1 (fun z => absurd z.1 (by omega))) (fun k _ => hF.2.2.2.2.2.2.2 _ _ h2)
theorem HU_FM {A F : Nat → Prop} {h' : j_H} {U : Nat → Rf} {uc : Nat} (u : HU h m U uc) (hF : FM A m F h h') (h0 : ¬ A m) (h3 : ¬ F 9) (h1 : ¬ A (m + 5)) (h2 : ¬ A (m + 9)) : HU h' m U uc := ⟨by rw [hF.2.2.2.2.2.2.1 _ _ h0 (fun z => h3 z.2)]; exact u.1, u.2.1, fun i hi => RW_FM (u.2.2 i hi) hF h1 h2⟩
def rRem (U : Nat → Rf) (uc : Nat) (M : Rf) : Nat → Rf := if uc = 10 then fun i => if i = 9 then M else U (i + 1) else fun i => if i = uc then M else U i
def hA (m : Nat) : Nat → Prop := fun b => b = m + 5 ∨ b = m + 9
set_option maxRecDepth 8000 in
theorem sp_X9_remember (hl : l.stackTraces = false) (hm : mk h m) (hB : j_bd E h) (g1 : RG (j_I h (m + 1)) M) (g2 : RGV (j_L h (m + 6)) M) {U : Nat → Rf} {uc : Nat} (hu : HU h m U uc) (H : ∀ h', FM (hA m) m (fun k => k = 9) h h' → HU h' m (rRem U uc M) (min (uc + 1) 10) → Q (.inl none) h') : j_Met l D bs E (d + 2) n_X9_remember [.ref m] h Q := by
  obtain ⟨u1, u2, u3⟩ := hu
  refine j_meth hl rfl g_X9_remember (Nat.le_of_ble_eq_true rfl) (fun _ => ⟨_, _, rfl, (mk_sh hm)⟩) hB.1 hB.2 (fun G hG => ?_)
  -- a row is laid behind the others
  have fin : ∀ (n : Nat) (U1 : Nat → Rf) (h1 : j_H) (x : Value), n < 10 → FM (hA m) m (fun k => k = 9) h h1 → j_I h1 m 9 = nI n → (∀ i, i < n → RW h1 m i (U1 i)) → (∀ h', FM (hA m) m (fun k => k = 9) h h' → HU h' m (fun i => if i = n then M else U1 i) (n + 1) → Q (.inl none) h') → G 63 [.ref m, x] [] h1 := by
    intro n U1 h1 x hn f1 e1 r1 H
    have m1 := mk_FM hm f1
    have b1 := FM_bd f1 hB
    refine b_X9_remember_63 hG ?_
    dsimp only [q_X9_remember_63, j_wp, j_opB, j_opA, j_nth, j_i1, j_i2, j_l1, j_l2, j_li, j_f1, j_f2, j_d1, j_d2, j_r1, j_ai, j_aii, j_ail, j_aid, j_air, j_st1, j_st2, j_stu, j_kl, j_cond, j_args, j_out, j_few, j_cw, j_nat, j_pad, j_exp, Nat.reduceAdd]
    simp only [mk_sh m1, mk_r0 m1, mk_r4 m1, e1, j_ref, j_ari, j_arb, j_arr, j_len, j_nar, j_oi, j_ol, j_of, j_od, j_or, j_ov, true_and, and_true]
    refine sp_X9_copy hl b1 (fr := 0) (mk_a0 m1) (mk_a4 m1) (by omega) (by omega) (by omega) (by omega) (Or.inl (by omega)) (fun h2 f2 c2 o2 => ?_)
    have m2 := mk_FA m1 f2
    have b2 := FA_bd f2 b1
    have e2 : j_I h2 m 9 = nI n := by rw [f2.2.2.2.2.2.2.1 _ _ (by omega)]; exact e1
    simp only [mk_sh m2, mk_r5 m2, mk_r8 m2, e2, j_ref, j_ari, j_arb, j_arr, j_len, j_nar, j_oi, j_ol, j_of, j_od, j_or, j_ov, true_and, and_true]
    refine sp_X9_copyTimes hl b2 (fr := 0) (mk_a5 m2) (mk_a8 m2) (by omega) (by omega) (by omega) (by omega) (Or.inl (by omega)) (fun h3 f3 c3 o3 => ?_)
    have m3 := mk_FA m2 f3
    have e3 : j_I h3 m 9 = nI n := by rw [f3.2.2.2.2.2.2.1 _ _ (by omega)]; exact e2
    simp only [mk_sh m3, e3, j_ref, j_ari, j_arb, j_arr, j_len, j_nar, j_oi, j_ol, j_of, j_od, j_or, j_ov, true_and, and_true]
    rw [nI_1]
    have F3 : FM (hA m) m (fun k => k = 9) h h3 := FM_tr f1 (FM_tr (FM_FA (FA_mono f2 (fun b e => Or.inl e))) (FM_FA (FA_mono f3 (fun b e => Or.inr e))))
    refine H _ (FM_I F3 rfl) ⟨jh_Is _ _ _ _, by omega, fun i hi => ?_⟩
    show RW (j_setI h3 m 9 (nI (n + 1))) m i (if i = n then M else U1 i)
    have k5 : ∀ j, j_I (j_setI h3 m 9 (nI (n + 1))) (m + 5) j = j_I h2 (m + 5) j := fun j => by
      rw [jh_In (by omega), f3.2.2.2.2.2.2.1 _ _ (by omega)]
    by_cases e : i = n
    · rw [if_pos e]
      subst e
      refine ⟨RG_cp g1 (fun k hk => ?_), RGV_cp g2 (fun k hk => ?_)⟩
      · rw [k5, c2 k hk, show 4073 * 0 + k = k by omega]
        exact f1.2.2.2.2.2.2.1 _ _ (fun z => by unfold hA at z; omega) (by omega)
      · show j_L h3 (m + 9) (306 * i + k) = _
        rw [c3 k hk, show 306 * 0 + k = k by omega, f2.2.2.2.2.2.2.2 _ _ (by omega)]
        exact f1.2.2.2.2.2.2.2 _ _ (fun z => by unfold hA at z; omega)
    · rw [if_neg e]
      refine RW_eq (r1 i (by omega)) (fun k hk => ?_) (fun k hk => ?_)
      · rw [k5, o2 _ (by omega)]
      · show j_L h3 (m + 9) (306 * i + k) = _
        rw [o3 _ (by omega), f2.2.2.2.2.2.2.2 _ _ (by omega)]
  have loop : ∀ (k i : Nat) (h1 : j_H), i + k = 10 → 1 ≤ i → FM (hA m) m (fun k => k = 9) h h1 → j_I h1 m 9 = nI 10 → (∀ j, j < 10 → RW h1 m j (U (if j + 1 < i then j + 1 else j))) → (∀ h2 : j_H, FM (hA m) m (fun k => k = 9) h h2 → j_I h2 m 9 = nI 10 → (∀ j, j < 10 → RW h2 m j (U (if j + 1 < 10 then j + 1 else j))) → G 53 [.ref m, .int (nI 10)] [] h2) → G 11 [.ref m, .int (nI i)] [] h1 := by
    intro k
    induction k with
    | zero =>
      intro i h1 hi h1i f1 e1 r1 K
      have e : i = 10 := by omega
      subst e
      refine b_X9_remember_11 hG ?_
      dsimp only [q_X9_remember_11, j_wp, j_opB, j_opA, j_nth, j_i1, j_i2, j_l1, j_l2, j_li, j_f1, j_f2, j_d1, j_d2, j_r1, j_ai, j_aii, j_ail, j_aid, j_air, j_st1, j_st2, j_stu, j_kl, j_cond, j_args, j_out, j_few, j_cw, j_nat, j_pad, j_exp, Nat.reduceAdd]
      rw [if_neg (by decide)]
      exact K h1 f1 e1 r1
    | succ k ih =>
      intro i h1 hi h1i f1 e1 r1 K
      have m1 := mk_FM hm f1
      have b1 := FM_bd f1 hB
      obtain ⟨j, rfl⟩ : ∃ j, i = j + 1 := ⟨i - 1, by omega⟩
      refine b_X9_remember_11 hG ?_
      dsimp only [q_X9_remember_11, j_wp, j_opB, j_opA, j_nth, j_i1, j_i2, j_l1, j_l2, j_li, j_f1, j_f2, j_d1, j_d2, j_r1, j_ai, j_aii, j_ail, j_aid, j_air, j_st1, j_st2, j_stu, j_kl, j_cond, j_args, j_out, j_few, j_cw, j_nat, j_pad, j_exp, Nat.reduceAdd]
      rw [if_pos (show nI (j + 1) < (10 : Int32) from nI_lt (b := 10) (by omega) (by omega))]
      simp only [mk_sh m1, mk_r4 m1, nI_pred, j_ref, j_ari, j_arb, j_arr, j_len, j_nar, j_oi, j_ol, j_of, j_od, j_or, j_ov, true_and, and_true]
      refine sp_X9_copy hl b1 (fr := j + 1) (tr := j) (mk_a4 m1) (mk_a4 m1) (by omega) (by omega) (by omega) (by omega) (Or.inr (by omega)) (fun h2 f2 c2 o2 => ?_)
      have m2 := mk_FA m1 f2
      have b2 := FA_bd f2 b1
      simp only [mk_sh m2, mk_r8 m2, nI_pred, j_ref, j_ari, j_arb, j_arr, j_len, j_nar, j_oi, j_ol, j_of, j_od, j_or, j_ov, true_and, and_true]
      refine sp_X9_copyTimes hl b2 (fr := j + 1) (tr := j) (mk_a8 m2) (mk_a8 m2) (by omega) (by omega) (by omega) (by omega) (Or.inr (by omega)) (fun h3 f3 c3 o3 => ?_)
      simp only [j_ref, j_ari, j_arb, j_arr, j_len, j_nar, j_oi, j_ol, j_of, j_od, j_or, j_ov, true_and, and_true]
      rw [nI_1]
      have F3 : FM (hA m) m (fun k => k = 9) h h3 := FM_tr f1 (FM_tr (FM_FA (FA_mono f2 (fun b e => Or.inl e))) (FM_FA (FA_mono f3 (fun b e => Or.inr e))))
      refine ih (j + 1 + 1) h3 (by omega) (by omega) F3 ?_ (fun i hi => ?_) K
      · rw [f3.2.2.2.2.2.2.1 _ _ (by omega), f2.2.2.2.2.2.2.1 _ _ (by omega)]
        exact e1
      · have r := r1 i hi
        by_cases e : i = j
        · subst e
          have r' := r1 (i + 1) (by omega)
          rw [if_neg (by omega)] at r'
          rw [if_pos (by omega)]
          refine ⟨RG_cp r'.1 (fun k hk => ?_), RGV_cp r'.2 (fun k hk => ?_)⟩
          · rw [f3.2.2.2.2.2.2.1 _ _ (by omega), c2 k hk]
          · rw [c3 k hk, f2.2.2.2.2.2.2.2 _ _ (by omega)]
        · have ee : (if i + 1 < j + 1 + 1 then i + 1 else i) = (if i + 1 < j + 1 then i + 1 else i) := by
            split
            · rw [if_pos (by omega)]
            · rw [if_neg (by omega)]
          rw [ee]
          refine RW_eq r (fun k hk => ?_) (fun k hk => ?_)
          · rw [f3.2.2.2.2.2.2.1 _ _ (by omega), o2 _ (by omega)]
          · rw [o3 _ (by omega), f2.2.2.2.2.2.2.2 _ _ (by omega)]
  refine b_X9_remember_0 hG ?_
  dsimp only [q_X9_remember_0, j_wp, j_opB, j_opA, j_nth, j_i1, j_i2, j_l1, j_l2, j_li, j_f1, j_f2, j_d1, j_d2, j_r1, j_ai, j_aii, j_ail, j_aid, j_air, j_st1, j_st2, j_stu, j_kl, j_cond, j_args, j_out, j_few, j_cw, j_nat, j_pad, j_exp, Nat.reduceAdd]
  simp only [mk_sh hm, u1, j_ref, j_ari, j_arb, j_arr, j_len, j_nar, j_oi, j_ol, j_of, j_od, j_or, j_ov, true_and, and_true]
  unfold rRem at H
  by_cases g : uc = 10
  · subst g
    rw [if_pos (by decide)]
    rw [if_pos rfl] at H
    refine loop 9 1 h (by omega) (by omega) FM_rf u1 (fun j hj => ?_) (fun h2 f2 e2 r2 => ?_)
    · rw [if_neg (by omega)]
      exact u3 j hj
    · have m2 := mk_FM hm f2
      refine b_X9_remember_53 hG ?_
      dsimp only [q_X9_remember_53, j_wp, j_opB, j_opA, j_nth, j_i1, j_i2, j_l1, j_l2, j_li, j_f1, j_f2, j_d1, j_d2, j_r1, j_ai, j_aii, j_ail, j_aid, j_air, j_st1, j_st2, j_stu, j_kl, j_cond, j_args, j_out, j_few, j_cw, j_nat, j_pad, j_exp, Nat.reduceAdd]
      simp only [mk_sh m2, e2, nI_pred 9, j_ref, j_ari, j_arb, j_arr, j_len, j_nar, j_oi, j_ol, j_of, j_od, j_or, j_ov, true_and, and_true]
      refine fin 9 (fun i => U (i + 1)) _ _ (by omega) (FM_I f2 rfl) (jh_Is _ _ _ _) (fun i hi => ?_) H
      have r := r2 i (by omega)
      rw [if_pos (by omega)] at r
      exact RW_eq r (fun k hk => by rw [jh_In (by omega)]) (fun k hk => rfl)
  · rw [if_neg (show ¬ nI uc = 10 from fun z => g ((nI_eq (by omega) (by omega)).mp (show nI uc = nI 10 from z)))]
    rw [if_neg g, show min (uc + 1) 10 = uc + 1 by omega] at H
    exact fin uc U h _ (by omega) FM_rf u1 u3 H
end RefD
