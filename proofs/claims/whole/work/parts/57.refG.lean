/-! ===== the reference: audit, worst, spread, share, meanDelay ===== -/
section RefG
variable {l : Launch} {D : va_G} {bs : Nat} {E : j_E} {h0 h : j_H} {m : Nat} {M : Rf} {d : Nat} {Q : j_O → j_H → Prop}
theorem sp_X9_oldestTick (hl : l.stackTraces = false) (s : ME E h0 m M h) {c : Nat} (hc : c < 2 ^ 30) (hx : rX M 4 = nI c) (H : Q (.inl (some (.int (nI (c - 128))))) h) : j_Met l D bs E (d + 1) n_X9_oldestTick [.ref m] h Q := by
  have hB := ME_b s
  have e : (if (0 : Int32) < nI c - 128 then nI c - 128 else 0) = nI (c - 128) := by
    by_cases g : 128 ≤ c
    · have e1 : nI c - 128 = nI (c - 128) := pk_sub (b := 128) g
      rw [e1]
      split
      · rfl
      · rename_i z
        have : ¬ 0 < c - 128 := fun y => z (nI_lt (a := 0) y (by omega))
        rw [show c - 128 = 0 by omega]
        rfl
    · have e1 : nI c - 128 < 0 := pk_sneg (b := 128) (by omega) (by omega)
      rw [if_neg (fun z => by have := Int32.lt_iff_toInt_lt.mp z; have := Int32.lt_iff_toInt_lt.mp e1; omega), show c - 128 = 0 by omega]
      rfl
  refine j_meth hl rfl g_X9_oldestTick (Nat.le_of_ble_eq_true rfl) (fun _ => ⟨_, _, rfl, (ME_sh s)⟩) hB.1 hB.2 (fun G hG => ?_)
  refine b_X9_oldestTick_0 hG ?_
  dsimp only [q_X9_oldestTick_0, j_wp, j_opB, j_opA, j_nth, j_i1, j_i2, j_l1, j_l2, j_li, j_f1, j_f2, j_d1, j_d2, j_r1, j_ai, j_aii, j_ail, j_aid, j_air, j_st1, j_st2, j_stu, j_kl, j_cond, j_args, j_out, j_few, j_cw, j_nat, j_pad, j_exp, Nat.reduceAdd]
  simp only [ME_sh s, ME_r0 s, ME_a0 s, ME_r5 s, ME_a5 s, j_ref, j_ari, j_arb, j_arr, j_len, j_nar, j_oi, j_ol, j_of, j_od, j_or, j_ov, true_and, and_true, ME_x4 s, hx]
  refine ⟨vp_c (k := 4) (by omega) (by omega), ?_⟩
  rw [e]
  exact H
theorem sp_X9_recorded (hl : l.stackTraces = false) (s : ME E h0 m M h) {t k : Nat} (ht : t < 2 ^ 31) (hk : k < 7) (H : Q (.inl (some (.int (rW M (t % 128) k)))) h) : j_Met l D bs E (d + 1) n_X9_recorded [.ref m, .int (nI t), .int (nI k)] h Q := by
  have hB := ME_b s
  have hr : t % 128 < 128 := Nat.mod_lt _ (by omega)
  have ec : nI t - nI t / 128 * 128 = nI (t % 128) := pk_rem (d := 128) ht (by omega) (by omega)
  generalize t % 128 = r at *
  have er : (3177 : Int32) + 7 * nI r + nI k = nI (3177 + 7 * r + k) := by
    show nI 3177 + nI 7 * nI r + nI k = _
    rw [pk_mul, nI_add, nI_add]
  refine j_meth hl rfl g_X9_recorded (Nat.le_of_ble_eq_true rfl) (fun _ => ⟨_, _, rfl, (ME_sh s)⟩) hB.1 hB.2 (fun G hG => ?_)
  refine b_X9_recorded_0 hG ?_
  dsimp only [q_X9_recorded_0, j_wp, j_opB, j_opA, j_nth, j_i1, j_i2, j_l1, j_l2, j_li, j_f1, j_f2, j_d1, j_d2, j_r1, j_ai, j_aii, j_ail, j_aid, j_air, j_st1, j_st2, j_stu, j_kl, j_cond, j_args, j_out, j_few, j_cw, j_nat, j_pad, j_exp, Nat.reduceAdd]
  simp only [ME_sh s, ME_r0 s, ME_a0 s, ME_r5 s, ME_a5 s, j_ref, j_ari, j_arb, j_arr, j_len, j_nar, j_oi, j_ol, j_of, j_od, j_or, j_ov, true_and, and_true, ec, er]
  refine ⟨by decide, vp_in_nI (by omega) (by omega), ?_⟩
  rw [nI_clamp (by omega), ME_gW s hr hk]
  exact H
def rBit (b : Int32) (f : Nat) : Bool := decide (b >>> (nI f &&& 31) &&& 1 = 1)
def rAct (M : Rf) (f g t : Nat) : Bool := rBit (rW M (t % 128) 6) f && rBit (rW M (t % 128) 6) g
theorem sp_X9_areActive (hl : l.stackTraces = false) (s : ME E h0 m M h) {t f g : Nat} (ht : t < 2 ^ 31) (H : Q (.inl (some (.int (if rAct M f g t = true then 1 else 0)))) h) : j_Met l D bs E (d + 2) n_X9_areActive [.ref m, .int (nI t), .int (nI f), .int (nI g)] h Q := by
  have hB := ME_b s
  unfold rAct rBit at H
  refine j_meth hl rfl g_X9_areActive (Nat.le_of_ble_eq_true rfl) (fun _ => ⟨_, _, rfl, (ME_sh s)⟩) hB.1 hB.2 (fun G hG => ?_)
  refine b_X9_areActive_0 hG ?_
  dsimp only [q_X9_areActive_0, j_wp, j_opB, j_opA, j_nth, j_i1, j_i2, j_l1, j_l2, j_li, j_f1, j_f2, j_d1, j_d2, j_r1, j_ai, j_aii, j_ail, j_aid, j_air, j_st1, j_st2, j_stu, j_kl, j_cond, j_args, j_out, j_few, j_cw, j_nat, j_pad, j_exp, Nat.reduceAdd]
  refine sp_X9_recorded hl s ht (k := 6) (by omega) ?_
  simp only [j_ref, j_ari, j_arb, j_arr, j_len, j_nar, j_oi, j_ol, j_of, j_od, j_or, j_ov, true_and, and_true, j_st1, j_kl]
  by_cases g1 : rW M (t % 128) 6 >>> (nI f &&& 31) &&& 1 = 1
  · rw [if_pos g1]
    by_cases g2 : rW M (t % 128) 6 >>> (nI g &&& 31) &&& 1 = 1
    · rw [if_pos g2]
      simp only [g1, g2, decide_true, Bool.and_true, if_true] at H
      refine b_X9_areActive_34 hG ?_
      dsimp only [q_X9_areActive_34, j_wp, j_opB, j_opA, j_nth, j_i1, j_i2, j_l1, j_l2, j_li, j_f1, j_f2, j_d1, j_d2, j_r1, j_ai, j_aii, j_ail, j_aid, j_air, j_st1, j_st2, j_stu, j_kl, j_cond, j_args, j_out, j_few, j_cw, j_nat, j_pad, j_exp, Nat.reduceAdd]
      exact ⟨(by first | exact Or.inl rfl | exact Or.inr rfl | decide), H⟩
    · rw [if_neg g2]
      simp only [g2, decide_false, Bool.and_false, Bool.false_eq_true, if_false] at H
      refine b_X9_areActive_33 hG ?_
      dsimp only [q_X9_areActive_33, j_wp, j_opB, j_opA, j_nth, j_i1, j_i2, j_l1, j_l2, j_li, j_f1, j_f2, j_d1, j_d2, j_r1, j_ai, j_aii, j_ail, j_aid, j_air, j_st1, j_st2, j_stu, j_kl, j_cond, j_args, j_out, j_few, j_cw, j_nat, j_pad, j_exp, Nat.reduceAdd]
      refine b_X9_areActive_34 hG ?_
      dsimp only [q_X9_areActive_34, j_wp, j_opB, j_opA, j_nth, j_i1, j_i2, j_l1, j_l2, j_li, j_f1, j_f2, j_d1, j_d2, j_r1, j_ai, j_aii, j_ail, j_aid, j_air, j_st1, j_st2, j_stu, j_kl, j_cond, j_args, j_out, j_few, j_cw, j_nat, j_pad, j_exp, Nat.reduceAdd]
      exact ⟨(by first | exact Or.inl rfl | exact Or.inr rfl | decide), H⟩
  · rw [if_neg g1]
    simp only [g1, decide_false, Bool.false_and, Bool.false_eq_true, if_false] at H
    refine b_X9_areActive_33 hG ?_
    dsimp only [q_X9_areActive_33, j_wp, j_opB, j_opA, j_nth, j_i1, j_i2, j_l1, j_l2, j_li, j_f1, j_f2, j_d1, j_d2, j_r1, j_ai, j_aii, j_ail, j_aid, j_air, j_st1, j_st2, j_stu, j_kl, j_cond, j_args, j_out, j_few, j_cw, j_nat, j_pad, j_exp, Nat.reduceAdd]
    refine b_X9_areActive_34 hG ?_
    dsimp only [q_X9_areActive_34, j_wp, j_opB, j_opA, j_nth, j_i1, j_i2, j_l1, j_l2, j_li, j_f1, j_f2, j_d1, j_d2, j_r1, j_ai, j_aii, j_ail, j_aid, j_air, j_st1, j_st2, j_stu, j_kl, j_cond, j_args, j_out, j_few, j_cw, j_nat, j_pad, j_exp, Nat.reduceAdd]
    exact ⟨(by first | exact Or.inl rfl | exact Or.inr rfl | decide), H⟩
def rNorm (M : Rf) (f s t : Nat) : Int64 := (rW M (t % 128) f - rW M (s % 128) f).toInt64 * 720720 / (rF M f 0).toInt64
theorem sp_X9_normalized (hl : l.stackTraces = false) (s : ME E h0 m M h) {u t f : Nat} (hu : u < 2 ^ 31) (ht : t < 2 ^ 31) (hf : f < 6) (hw : ¬ (rF M f 0).toInt64 = 0) (H : Q (.inl (some (.long (rNorm M f u t)))) h) : j_Met l D bs E (d + 2) n_X9_normalized [.ref m, .int (nI f), .int (nI u), .int (nI t)] h Q := by
  have hB := ME_b s
  refine j_meth hl rfl g_X9_normalized (Nat.le_of_ble_eq_true rfl) (fun _ => ⟨_, _, rfl, (ME_sh s)⟩) hB.1 hB.2 (fun G hG => ?_)
  refine b_X9_normalized_0 hG ?_
  dsimp only [q_X9_normalized_0, j_wp, j_opB, j_opA, j_nth, j_i1, j_i2, j_l1, j_l2, j_li, j_f1, j_f2, j_d1, j_d2, j_r1, j_ai, j_aii, j_ail, j_aid, j_air, j_st1, j_st2, j_stu, j_kl, j_cond, j_args, j_out, j_few, j_cw, j_nat, j_pad, j_exp, Nat.reduceAdd]
  refine sp_X9_recorded hl s ht (k := f) (by omega) ?_
  simp only [j_ref, j_ari, j_arb, j_arr, j_len, j_nar, j_oi, j_ol, j_of, j_od, j_or, j_ov, true_and, and_true]
  refine sp_X9_recorded hl s hu (k := f) (by omega) ?_
  simp only [j_ref, j_ari, j_arb, j_arr, j_len, j_nar, j_oi, j_ol, j_of, j_od, j_or, j_ov, true_and, and_true]
  refine sp_X9_ofFlow hl s hf (k := 0) (by omega) ?_
  simp only [j_ref, j_ari, j_arb, j_arr, j_len, j_nar, j_oi, j_ol, j_of, j_od, j_or, j_ov, true_and, and_true]
  exact ⟨hw, H⟩
def rDif (M : Rf) (f g s t : Nat) : Int64 := labs (rNorm M f s t - rNorm M g s t)
theorem sp_X9_difference (hl : l.stackTraces = false) (s : ME E h0 m M h) {u t f g : Nat} (hu : u < 2 ^ 31) (ht : t < 2 ^ 31) (hf : f < 6) (hg : g < 6) (hw : ¬ (rF M f 0).toInt64 = 0) (hw2 : ¬ (rF M g 0).toInt64 = 0) (H : Q (.inl (some (.long (rDif M f g u t)))) h) : j_Met l D bs E (d + 3) n_X9_difference [.ref m, .int (nI f), .int (nI g), .int (nI u), .int (nI t)] h Q := by
  have hB := ME_b s
  unfold rDif labs at H
  refine j_meth hl rfl g_X9_difference (Nat.le_of_ble_eq_true rfl) (fun _ => ⟨_, _, rfl, (ME_sh s)⟩) hB.1 hB.2 (fun G hG => ?_)
  refine b_X9_difference_0 hG ?_
  dsimp only [q_X9_difference_0, j_wp, j_opB, j_opA, j_nth, j_i1, j_i2, j_l1, j_l2, j_li, j_f1, j_f2, j_d1, j_d2, j_r1, j_ai, j_aii, j_ail, j_aid, j_air, j_st1, j_st2, j_stu, j_kl, j_cond, j_args, j_out, j_few, j_cw, j_nat, j_pad, j_exp, Nat.reduceAdd]
  refine sp_X9_normalized hl s hu ht hf hw ?_
  simp only [j_ref, j_ari, j_arb, j_arr, j_len, j_nar, j_oi, j_ol, j_of, j_od, j_or, j_ov, true_and, and_true]
  refine sp_X9_normalized hl s hu ht hg hw2 ?_
  simp only [j_ref, j_ari, j_arb, j_arr, j_len, j_nar, j_oi, j_ol, j_of, j_od, j_or, j_ov, true_and, and_true]
  exact H
/-- both flows are in use in k ticks from t on -/
def rAll (M : Rf) (f g : Nat) : Nat → Nat → Bool
  | 0, _ => true
  | k + 1, t => if rAct M f g t = true then rAll M f g k (t + 1) else false
def rAudit (M : Rf) (c f g ag : Nat) : Int64 := if c = 0 ∨ c - 1 - (c - 128) < ag then -1 else if rAll M f g (ag + 1) (c - 1 - ag) = true then rDif M f g (c - 1 - ag) (c - 1) else -1
set_option maxRecDepth 8000 in
theorem sp_X9_audit (hl : l.stackTraces = false) (s : MB E m M h) {n c : Nat} (hn : n ≤ 6) (hx : rX M 0 = nI n) (hc : c < 2 ^ 30) (hx4 : rX M 4 = nI c) (hw : ∀ f, f < n → ¬ (rF M f 0).toInt64 = 0) {v w z : Int32}
    (H1 : ¬ (inx v n ∧ inx w n) → Q (.inl (some (.long 0))) (j_setI h m 10 1)) (H2 : inx v n → inx w n → (v = w ∨ z < 0) → Q (.inl (some (.long 0))) (j_setI h m 10 2))
    (H0 : ∀ f g ag, f < n → g < n → v = nI f → w = nI g → ¬ v = w → ag < 2 ^ 31 → z = nI ag → Q (.inl (some (.long (rAudit M c f g ag)))) (j_setI h m 10 0)) :
    j_Met l D bs E (d + 4) n_X9_audit [.ref m, .int v, .int w, .int z] h Q := by
  have hB := s.2.2.2
  have s0 := MB_I s (k := 10) 0
  have q := MB_q s0
  refine j_meth hl rfl g_X9_audit (Nat.le_of_ble_eq_true rfl) (fun _ => ⟨_, _, rfl, (MB_sh s)⟩) hB.1 hB.2 (fun G hG => ?_)
  have bad1 : ¬ (inx v n ∧ inx w n) → G 21 [.ref m, .int v, .int w, .int z, j_u, j_u] [] (j_setI h m 10 0) := by
    intro y
    refine b_X9_audit_21 hG ?_
    dsimp only [q_X9_audit_21, j_wp, j_opB, j_opA, j_nth, j_i1, j_i2, j_l1, j_l2, j_li, j_f1, j_f2, j_d1, j_d2, j_r1, j_ai, j_aii, j_ail, j_aid, j_air, j_st1, j_st2, j_stu, j_kl, j_cond, j_args, j_out, j_few, j_cw, j_nat, j_pad, j_exp, Nat.reduceAdd]
    refine raise0 hl s ?_
    simp only [j_ref, j_ari, j_arb, j_arr, j_len, j_nar, j_oi, j_ol, j_of, j_od, j_or, j_ov, true_and, and_true]
    exact H1 y
  have bad2 : inx v n → inx w n → (v = w ∨ z < 0) → G 37 [.ref m, .int v, .int w, .int z, j_u, j_u] [] (j_setI h m 10 0) := by
    intro y1 y2 y
    refine b_X9_audit_37 hG ?_
    dsimp only [q_X9_audit_37, j_wp, j_opB, j_opA, j_nth, j_i1, j_i2, j_l1, j_l2, j_li, j_f1, j_f2, j_d1, j_d2, j_r1, j_ai, j_aii, j_ail, j_aid, j_air, j_st1, j_st2, j_stu, j_kl, j_cond, j_args, j_out, j_few, j_cw, j_nat, j_pad, j_exp, Nat.reduceAdd]
    refine raise0 hl s ?_
    simp only [j_ref, j_ari, j_arb, j_arr, j_len, j_nar, j_oi, j_ol, j_of, j_od, j_or, j_ov, true_and, and_true]
    exact H2 y1 y2 y
  refine b_X9_audit_0 hG ?_
  dsimp only [q_X9_audit_0, j_wp, j_opB, j_opA, j_nth, j_i1, j_i2, j_l1, j_l2, j_li, j_f1, j_f2, j_d1, j_d2, j_r1, j_ai, j_aii, j_ail, j_aid, j_air, j_st1, j_st2, j_stu, j_kl, j_cond, j_args, j_out, j_few, j_cw, j_nat, j_pad, j_exp, Nat.reduceAdd]
  simp only [MB_sh s, j_ref, j_ari, j_arb, j_arr, j_len, j_nar, j_oi, j_ol, j_of, j_od, j_or, j_ov, true_and, and_true]
  refine sp_X9_isFlow hl q ?_
  simp only [j_ref, j_ari, j_arb, j_arr, j_len, j_nar, j_oi, j_ol, j_of, j_od, j_or, j_ov, true_and, and_true, hx]
  by_cases g1 : inx v n
  · simp only [rIn_y (by omega) g1, if_true]
    rw [if_neg (by decide)]
    refine sp_X9_isFlow hl q ?_
    simp only [j_ref, j_ari, j_arb, j_arr, j_len, j_nar, j_oi, j_ol, j_of, j_od, j_or, j_ov, true_and, and_true, hx]
    by_cases g2 : inx w n
    · simp only [rIn_y (by omega) g2, if_true]
      rw [if_neg (by decide)]
      refine b_X9_audit_28 hG ?_
      dsimp only [q_X9_audit_28, j_wp, j_opB, j_opA, j_nth, j_i1, j_i2, j_l1, j_l2, j_li, j_f1, j_f2, j_d1, j_d2, j_r1, j_ai, j_aii, j_ail, j_aid, j_air, j_st1, j_st2, j_stu, j_kl, j_cond, j_args, j_out, j_few, j_cw, j_nat, j_pad, j_exp, Nat.reduceAdd]
      by_cases g3 : v = w
      · rw [if_pos g3]
        exact bad2 g1 g2 (Or.inl g3)
      · rw [if_neg g3]
        by_cases g4 : z < 0
        · rw [if_pos g4]
          exact bad2 g1 g2 (Or.inr g4)
        · rw [if_neg g4]
          obtain ⟨f, hf, rfl⟩ := g1
          obtain ⟨g, hg, rfl⟩ := g2
          obtain ⟨ag, hag, rfl⟩ := nI_of g4
          have H := H0 f g ag hf hg rfl rfl g3 hag rfl
          unfold rAudit at H
          generalize hra : rAll M f g (ag + 1) (c - 1 - ag) = ra at H
          have none : ∀ x : Value, Q (.inl (some (.long (-1)))) (j_setI h m 10 0) → G 74 [.ref m, .int (nI f), .int (nI g), .int (nI ag), x, j_u] [] (j_setI h m 10 0) := by
            intro x H
            refine b_X9_audit_74 hG ?_
            dsimp only [q_X9_audit_74, j_wp, j_opB, j_opA, j_nth, j_i1, j_i2, j_l1, j_l2, j_li, j_f1, j_f2, j_d1, j_d2, j_r1, j_ai, j_aii, j_ail, j_aid, j_air, j_st1, j_st2, j_stu, j_kl, j_cond, j_args, j_out, j_few, j_cw, j_nat, j_pad, j_exp, Nat.reduceAdd]
            exact H
          refine b_X9_audit_44 hG ?_
          dsimp only [q_X9_audit_44, j_wp, j_opB, j_opA, j_nth, j_i1, j_i2, j_l1, j_l2, j_li, j_f1, j_f2, j_d1, j_d2, j_r1, j_ai, j_aii, j_ail, j_aid, j_air, j_st1, j_st2, j_stu, j_kl, j_cond, j_args, j_out, j_few, j_cw, j_nat, j_pad, j_exp, Nat.reduceAdd]
          simp only [ME_sh q, ME_r0 q, ME_a0 q, ME_r5 q, ME_a5 q, j_ref, j_ari, j_arb, j_arr, j_len, j_nar, j_oi, j_ol, j_of, j_od, j_or, j_ov, true_and, and_true, ME_x4 q, hx4]
          refine ⟨vp_c (k := 4) (by omega) (by omega), ?_⟩
          refine sp_X9_oldestTick hl q hc hx4 ?_
          simp only [j_ref, j_ari, j_arb, j_arr, j_len, j_nar, j_oi, j_ol, j_of, j_od, j_or, j_ov, true_and, and_true]
          by_cases c0 : c = 0
          · rw [if_pos (Or.inl c0)] at H
            subst c0
            rw [if_pos (by decide)]
            exact none _ H
          · have e1 : nI c - 1 = nI (c - 1) := pk_sub (b := 1) (by omega)
            rw [e1, if_neg (nI_nlt (by omega) (by omega))]
            refine sp_X9_oldestTick hl q hc hx4 ?_
            simp only [j_ref, j_ari, j_arb, j_arr, j_len, j_nar, j_oi, j_ol, j_of, j_od, j_or, j_ov, true_and, and_true]
            rw [pk_sub (a := c - 1) (b := c - 128) (by omega)]
            by_cases g5 : c - 1 - (c - 128) < ag
            · rw [if_pos (Or.inr g5)] at H
              rw [if_pos (nI_lt g5 hag)]
              exact none _ H
            · rw [if_neg (fun y => y.elim c0 g5)] at H
              rw [if_neg (nI_nlt (by omega) (by omega))]
              have e2 : nI (c - 1) - nI ag = nI (c - 1 - ag) := pk_sub (by omega)
              have loop : ∀ (k t : Nat), t + k = c → rAll M f g k t = ra → G 84 [.ref m, .int (nI f), .int (nI g), .int (nI ag), .int (nI (c - 1)), .int (nI t)] [] (j_setI h m 10 0) := by
                intro k
                induction k with
                | zero =>
                  intro t ht e
                  unfold rAll at e
                  rw [if_pos e.symm] at H
                  refine b_X9_audit_84 hG ?_
                  dsimp only [q_X9_audit_84, j_wp, j_opB, j_opA, j_nth, j_i1, j_i2, j_l1, j_l2, j_li, j_f1, j_f2, j_d1, j_d2, j_r1, j_ai, j_aii, j_ail, j_aid, j_air, j_st1, j_st2, j_stu, j_kl, j_cond, j_args, j_out, j_few, j_cw, j_nat, j_pad, j_exp, Nat.reduceAdd]
                  rw [if_pos (nI_lt (by omega) (by omega))]
                  refine b_X9_audit_112 hG ?_
                  dsimp only [q_X9_audit_112, j_wp, j_opB, j_opA, j_nth, j_i1, j_i2, j_l1, j_l2, j_li, j_f1, j_f2, j_d1, j_d2, j_r1, j_ai, j_aii, j_ail, j_aid, j_air, j_st1, j_st2, j_stu, j_kl, j_cond, j_args, j_out, j_few, j_cw, j_nat, j_pad, j_exp, Nat.reduceAdd]
                  rw [e2]
                  refine sp_X9_difference hl q (by omega) (by omega) (f := f) (g := g) (by omega) (by omega) (hw f hf) (hw g hg) ?_
                  simp only [j_ref, j_ari, j_arb, j_arr, j_len, j_nar, j_oi, j_ol, j_of, j_od, j_or, j_ov, true_and, and_true]
                  exact H
                | succ k ih =>
                  intro t ht e
                  unfold rAll at e
                  refine b_X9_audit_84 hG ?_
                  dsimp only [q_X9_audit_84, j_wp, j_opB, j_opA, j_nth, j_i1, j_i2, j_l1, j_l2, j_li, j_f1, j_f2, j_d1, j_d2, j_r1, j_ai, j_aii, j_ail, j_aid, j_air, j_st1, j_st2, j_stu, j_kl, j_cond, j_args, j_out, j_few, j_cw, j_nat, j_pad, j_exp, Nat.reduceAdd]
                  rw [if_neg (nI_nlt (by omega) (by omega))]
                  refine sp_X9_areActive hl q (t := t) (by omega) ?_
                  simp only [j_ref, j_ari, j_arb, j_arr, j_len, j_nar, j_oi, j_ol, j_of, j_od, j_or, j_ov, true_and, and_true]
                  by_cases g6 : rAct M f g t = true
                  · rw [if_pos g6] at e
                    simp only [g6, if_true]
                    rw [if_neg (by decide)]
                    refine b_X9_audit_106 hG ?_
                    dsimp only [q_X9_audit_106, j_wp, j_opB, j_opA, j_nth, j_i1, j_i2, j_l1, j_l2, j_li, j_f1, j_f2, j_d1, j_d2, j_r1, j_ai, j_aii, j_ail, j_aid, j_air, j_st1, j_st2, j_stu, j_kl, j_cond, j_args, j_out, j_few, j_cw, j_nat, j_pad, j_exp, Nat.reduceAdd]
                    rw [nI_1]
                    exact ih (t + 1) (by omega) e
                  · rw [if_neg g6] at e
                    rw [← e, if_neg (by decide)] at H
                    simp only [g6, Bool.false_eq_true, if_false, if_true]
                    exact H
              refine b_X9_audit_78 hG ?_
              dsimp only [q_X9_audit_78, j_wp, j_opB, j_opA, j_nth, j_i1, j_i2, j_l1, j_l2, j_li, j_f1, j_f2, j_d1, j_d2, j_r1, j_ai, j_aii, j_ail, j_aid, j_air, j_st1, j_st2, j_stu, j_kl, j_cond, j_args, j_out, j_few, j_cw, j_nat, j_pad, j_exp, Nat.reduceAdd]
              rw [e2]
              exact loop (ag + 1) (c - 1 - ag) (by omega) hra
    · simp only [rIn_n (by omega) g2, Bool.false_eq_true, if_false, if_true]
      exact bad1 (fun y => g2 y.2)
  · simp only [rIn_n (by omega) g1, Bool.false_eq_true, if_false, if_true]
    exact bad1 (fun y => g1 y.1)
def lmax (a b : Int64) : Int64 := if b < a then a else b
/-- the greatest difference up to the tick t: k beginnings more from u on -/
def rWIn (M : Rf) (f g t : Nat) : Nat → Nat → Int64 → Int64
  | 0, _, w => w
  | k + 1, u, w => rWIn M f g t k (u + 1) (lmax w (rDif M f g u t))
/-- k ticks more from t on; the row begins at u -/
def rWOf (M : Rf) (f g : Nat) : Nat → Nat → Nat → Int64 → Int64
  | 0, _, _, w => w
  | k + 1, t, u, w => if rAct M f g t = true then rWOf M f g k (t + 1) u (rWIn M f g t (t + 1 - u) u w) else rWOf M f g k (t + 1) (t + 1) w
set_option maxRecDepth 8000 in
theorem sp_X9_worstOf (hl : l.stackTraces = false) (s : ME E h0 m M h) {c f g : Nat} (hc : c < 2 ^ 30) (hx4 : rX M 4 = nI c) (hf : f < 6) (hg : g < 6) (hw : ¬ (rF M f 0).toInt64 = 0) (hw2 : ¬ (rF M g 0).toInt64 = 0) (H : Q (.inl (some (.long (rWOf M f g (c - (c - 128)) (c - 128) (c - 128) 0)))) h) : j_Met l D bs E (d + 4) n_X9_worstOf [.ref m, .int (nI f), .int (nI g)] h Q := by
  have hB := ME_b s
  generalize hr : rWOf M f g (c - (c - 128)) (c - 128) (c - 128) 0 = res at H
  refine j_meth hl rfl g_X9_worstOf (Nat.le_of_ble_eq_true rfl) (fun _ => ⟨_, _, rfl, (ME_sh s)⟩) hB.1 hB.2 (fun G hG => ?_)
  have inner : ∀ (t u0 : Nat) (K : Int64 → Prop), t < c → (∀ w x, K w → G 72 [.ref m, .int (nI f), .int (nI g), .long w, j_u, .int (nI u0), .int (nI t), x] [] h) → ∀ (k u : Nat) (w : Int64), u + k = t + 1 → K (rWIn M f g t k u w) → G 44 [.ref m, .int (nI f), .int (nI g), .long w, j_u, .int (nI u0), .int (nI t), .int (nI u)] [] h := by
    intro t u0 K ht nx k
    induction k with
    | zero =>
      intro u w hu e
      unfold rWIn at e
      refine b_X9_worstOf_44 hG ?_
      dsimp only [q_X9_worstOf_44, j_wp, j_opB, j_opA, j_nth, j_i1, j_i2, j_l1, j_l2, j_li, j_f1, j_f2, j_d1, j_d2, j_r1, j_ai, j_aii, j_ail, j_aid, j_air, j_st1, j_st2, j_stu, j_kl, j_cond, j_args, j_out, j_few, j_cw, j_nat, j_pad, j_exp, Nat.reduceAdd]
      rw [if_pos (nI_lt (by omega) (by omega))]
      exact nx w _ e
    | succ k ih =>
      intro u w hu e
      unfold rWIn lmax at e
      refine b_X9_worstOf_44 hG ?_
      dsimp only [q_X9_worstOf_44, j_wp, j_opB, j_opA, j_nth, j_i1, j_i2, j_l1, j_l2, j_li, j_f1, j_f2, j_d1, j_d2, j_r1, j_ai, j_aii, j_ail, j_aid, j_air, j_st1, j_st2, j_stu, j_kl, j_cond, j_args, j_out, j_few, j_cw, j_nat, j_pad, j_exp, Nat.reduceAdd]
      rw [if_neg (nI_nlt (by omega) (by omega))]
      refine sp_X9_difference hl s (u := u) (t := t) (by omega) (by omega) hf hg hw hw2 ?_
      simp only [j_ref, j_ari, j_arb, j_arr, j_len, j_nar, j_oi, j_ol, j_of, j_od, j_or, j_ov, true_and, and_true, j_st1, j_st2, j_stu, j_kl]
      rw [nI_1]
      exact ih (u + 1) _ (by omega) e
  have outer : ∀ (k t u : Nat) (w : Int64) (x : Value), t + k = c → u ≤ t → rWOf M f g k t u w = res → G 12 [.ref m, .int (nI f), .int (nI g), .long w, j_u, .int (nI u), .int (nI t), x] [] h := by
    intro k
    induction k with
    | zero =>
      intro t u w x ht hu e
      unfold rWOf at e
      subst e
      refine b_X9_worstOf_12 hG ?_
      dsimp only [q_X9_worstOf_12, j_wp, j_opB, j_opA, j_nth, j_i1, j_i2, j_l1, j_l2, j_li, j_f1, j_f2, j_d1, j_d2, j_r1, j_ai, j_aii, j_ail, j_aid, j_air, j_st1, j_st2, j_stu, j_kl, j_cond, j_args, j_out, j_few, j_cw, j_nat, j_pad, j_exp, Nat.reduceAdd]
      simp only [ME_sh s, ME_r0 s, ME_a0 s, ME_r5 s, ME_a5 s, j_ref, j_ari, j_arb, j_arr, j_len, j_nar, j_oi, j_ol, j_of, j_od, j_or, j_ov, true_and, and_true, ME_x4 s, hx4]
      refine ⟨vp_c (k := 4) (by omega) (by omega), ?_⟩
      rw [if_neg (nI_nlt (by omega) (by omega))]
      refine b_X9_worstOf_78 hG ?_
      dsimp only [q_X9_worstOf_78, j_wp, j_opB, j_opA, j_nth, j_i1, j_i2, j_l1, j_l2, j_li, j_f1, j_f2, j_d1, j_d2, j_r1, j_ai, j_aii, j_ail, j_aid, j_air, j_st1, j_st2, j_stu, j_kl, j_cond, j_args, j_out, j_few, j_cw, j_nat, j_pad, j_exp, Nat.reduceAdd]
      exact H
    | succ k ih =>
      intro t u w x ht hu e
      unfold rWOf at e
      refine b_X9_worstOf_12 hG ?_
      dsimp only [q_X9_worstOf_12, j_wp, j_opB, j_opA, j_nth, j_i1, j_i2, j_l1, j_l2, j_li, j_f1, j_f2, j_d1, j_d2, j_r1, j_ai, j_aii, j_ail, j_aid, j_air, j_st1, j_st2, j_stu, j_kl, j_cond, j_args, j_out, j_few, j_cw, j_nat, j_pad, j_exp, Nat.reduceAdd]
      simp only [ME_sh s, ME_r0 s, ME_a0 s, ME_r5 s, ME_a5 s, j_ref, j_ari, j_arb, j_arr, j_len, j_nar, j_oi, j_ol, j_of, j_od, j_or, j_ov, true_and, and_true, ME_x4 s, hx4]
      refine ⟨vp_c (k := 4) (by omega) (by omega), ?_⟩
      rw [if_pos (nI_lt (by omega) (by omega))]
      refine sp_X9_areActive hl s (t := t) (by omega) ?_
      simp only [j_ref, j_ari, j_arb, j_arr, j_len, j_nar, j_oi, j_ol, j_of, j_od, j_or, j_ov, true_and, and_true]
      by_cases g6 : rAct M f g t = true
      · rw [if_pos g6] at e
        simp only [g6, if_true]
        rw [if_neg (by decide)]
        refine b_X9_worstOf_40 hG ?_
        dsimp only [q_X9_worstOf_40, j_wp, j_opB, j_opA, j_nth, j_i1, j_i2, j_l1, j_l2, j_li, j_f1, j_f2, j_d1, j_d2, j_r1, j_ai, j_aii, j_ail, j_aid, j_air, j_st1, j_st2, j_stu, j_kl, j_cond, j_args, j_out, j_few, j_cw, j_nat, j_pad, j_exp, Nat.reduceAdd]
        refine inner t u (fun w => rWOf M f g k (t + 1) u w = res) (by omega) (fun w' x' e' => ?_) (t + 1 - u) u w (by omega) e
        refine b_X9_worstOf_72 hG ?_
        dsimp only [q_X9_worstOf_72, j_wp, j_opB, j_opA, j_nth, j_i1, j_i2, j_l1, j_l2, j_li, j_f1, j_f2, j_d1, j_d2, j_r1, j_ai, j_aii, j_ail, j_aid, j_air, j_st1, j_st2, j_stu, j_kl, j_cond, j_args, j_out, j_few, j_cw, j_nat, j_pad, j_exp, Nat.reduceAdd]
        rw [nI_1]
        exact ih (t + 1) u w' x' (by omega) (by omega) e'
      · rw [if_neg g6] at e
        simp only [g6, Bool.false_eq_true, if_false, if_true]
        rw [nI_1]
        refine b_X9_worstOf_40 hG ?_
        dsimp only [q_X9_worstOf_40, j_wp, j_opB, j_opA, j_nth, j_i1, j_i2, j_l1, j_l2, j_li, j_f1, j_f2, j_d1, j_d2, j_r1, j_ai, j_aii, j_ail, j_aid, j_air, j_st1, j_st2, j_stu, j_kl, j_cond, j_args, j_out, j_few, j_cw, j_nat, j_pad, j_exp, Nat.reduceAdd]
        refine inner t (t + 1) (fun w => rWOf M f g k (t + 1) (t + 1) w = res) (by omega) (fun w' x' e' => ?_) 0 (t + 1) w (by omega) e
        refine b_X9_worstOf_72 hG ?_
        dsimp only [q_X9_worstOf_72, j_wp, j_opB, j_opA, j_nth, j_i1, j_i2, j_l1, j_l2, j_li, j_f1, j_f2, j_d1, j_d2, j_r1, j_ai, j_aii, j_ail, j_aid, j_air, j_st1, j_st2, j_stu, j_kl, j_cond, j_args, j_out, j_few, j_cw, j_nat, j_pad, j_exp, Nat.reduceAdd]
        rw [nI_1]
        exact ih (t + 1) (t + 1) w' x' (by omega) (by omega) e'
  refine b_X9_worstOf_0 hG ?_
  dsimp only [q_X9_worstOf_0, j_wp, j_opB, j_opA, j_nth, j_i1, j_i2, j_l1, j_l2, j_li, j_f1, j_f2, j_d1, j_d2, j_r1, j_ai, j_aii, j_ail, j_aid, j_air, j_st1, j_st2, j_stu, j_kl, j_cond, j_args, j_out, j_few, j_cw, j_nat, j_pad, j_exp, Nat.reduceAdd]
  refine sp_X9_oldestTick hl s hc hx4 ?_
  simp only [j_ref, j_ari, j_arb, j_arr, j_len, j_nar, j_oi, j_ol, j_of, j_od, j_or, j_ov, true_and, and_true, j_st1, j_st2, j_stu, j_kl]
  exact outer (c - (c - 128)) (c - 128) (c - 128) 0 _ (by omega) (by omega) hr
/-- the worst of a flow a with k others from b on -/
def rWb (M : Rf) (c a : Nat) : Nat → Nat → Int64 → Int64
  | 0, _, w => w
  | k + 1, b, w => rWb M c a k (b + 1) (lmax w (rWOf M a b (c - (c - 128)) (c - 128) (c - 128) 0))
def rWa (M : Rf) (c nf : Nat) : Nat → Nat → Int64 → Int64
  | 0, _, w => w
  | k + 1, a, w => rWa M c nf k (a + 1) (rWb M c a (nf - (a + 1)) (a + 1) w)
set_option maxRecDepth 8000 in
theorem sp_X9_worst (hl : l.stackTraces = false) (s : MB E m M h) {n c : Nat} (hn : n ≤ 6) (hx : rX M 0 = nI n) (hc : c < 2 ^ 30) (hx4 : rX M 4 = nI c) (hw : ∀ f, f < n → ¬ (rF M f 0).toInt64 = 0) (H : Q (.inl (some (.long (rWa M c n n 0 0)))) (j_setI h m 10 0)) : j_Met l D bs E (d + 5) n_X9_worst [.ref m] h Q := by
  have hB := s.2.2.2
  have s0 := MB_I s (k := 10) 0
  have q := MB_q s0
  generalize hr : rWa M c n n 0 0 = res at H
  refine j_meth hl rfl g_X9_worst (Nat.le_of_ble_eq_true rfl) (fun _ => ⟨_, _, rfl, (MB_sh s)⟩) hB.1 hB.2 (fun G hG => ?_)
  have inner : ∀ (a : Nat) (K : Int64 → Prop), a < n → (∀ w x, K w → G 53 [.ref m, .long w, j_u, .int (nI a), x] [] (j_setI h m 10 0)) → ∀ (k b : Nat) (w : Int64), b + k = n → K (rWb M c a k b w) → G 24 [.ref m, .long w, j_u, .int (nI a), .int (nI b)] [] (j_setI h m 10 0) := by
    intro a K ha nx k
    induction k with
    | zero =>
      intro b w hb e
      unfold rWb at e
      refine b_X9_worst_24 hG ?_
      dsimp only [q_X9_worst_24, j_wp, j_opB, j_opA, j_nth, j_i1, j_i2, j_l1, j_l2, j_li, j_f1, j_f2, j_d1, j_d2, j_r1, j_ai, j_aii, j_ail, j_aid, j_air, j_st1, j_st2, j_stu, j_kl, j_cond, j_args, j_out, j_few, j_cw, j_nat, j_pad, j_exp, Nat.reduceAdd]
      simp only [ME_sh q, ME_r0 q, ME_a0 q, ME_r5 q, ME_a5 q, j_ref, j_ari, j_arb, j_arr, j_len, j_nar, j_oi, j_ol, j_of, j_od, j_or, j_ov, true_and, and_true, ME_x0 q, hx]
      refine ⟨vp_c (k := 0) (by omega) (by omega), ?_⟩
      rw [if_neg (nI_nlt (by omega) (by omega))]
      exact nx w _ e
    | succ k ih =>
      intro b w hb e
      unfold rWb lmax at e
      refine b_X9_worst_24 hG ?_
      dsimp only [q_X9_worst_24, j_wp, j_opB, j_opA, j_nth, j_i1, j_i2, j_l1, j_l2, j_li, j_f1, j_f2, j_d1, j_d2, j_r1, j_ai, j_aii, j_ail, j_aid, j_air, j_st1, j_st2, j_stu, j_kl, j_cond, j_args, j_out, j_few, j_cw, j_nat, j_pad, j_exp, Nat.reduceAdd]
      simp only [ME_sh q, ME_r0 q, ME_a0 q, ME_r5 q, ME_a5 q, j_ref, j_ari, j_arb, j_arr, j_len, j_nar, j_oi, j_ol, j_of, j_od, j_or, j_ov, true_and, and_true, ME_x0 q, hx]
      refine ⟨vp_c (k := 0) (by omega) (by omega), ?_⟩
      rw [if_pos (nI_lt (by omega) (by omega))]
      refine sp_X9_worstOf hl q hc hx4 (f := a) (g := b) (by omega) (by omega) (hw a ha) (hw b (by omega)) ?_
      simp only [j_ref, j_ari, j_arb, j_arr, j_len, j_nar, j_oi, j_ol, j_of, j_od, j_or, j_ov, true_and, and_true, j_st1, j_st2, j_stu, j_kl]
      rw [nI_1]
      exact ih (b + 1) _ (by omega) e
  have outer : ∀ (k a : Nat) (w : Int64) (x : Value), a + k = n → rWa M c n k a w = res → G 9 [.ref m, .long w, j_u, .int (nI a), x] [] (j_setI h m 10 0) := by
    intro k
    induction k with
    | zero =>
      intro a w x ha e
      unfold rWa at e
      subst e
      refine b_X9_worst_9 hG ?_
      dsimp only [q_X9_worst_9, j_wp, j_opB, j_opA, j_nth, j_i1, j_i2, j_l1, j_l2, j_li, j_f1, j_f2, j_d1, j_d2, j_r1, j_ai, j_aii, j_ail, j_aid, j_air, j_st1, j_st2, j_stu, j_kl, j_cond, j_args, j_out, j_few, j_cw, j_nat, j_pad, j_exp, Nat.reduceAdd]
      simp only [ME_sh q, ME_r0 q, ME_a0 q, ME_r5 q, ME_a5 q, j_ref, j_ari, j_arb, j_arr, j_len, j_nar, j_oi, j_ol, j_of, j_od, j_or, j_ov, true_and, and_true, ME_x0 q, hx]
      refine ⟨vp_c (k := 0) (by omega) (by omega), ?_⟩
      rw [if_neg (nI_nlt (by omega) (by omega))]
      refine b_X9_worst_59 hG ?_
      dsimp only [q_X9_worst_59, j_wp, j_opB, j_opA, j_nth, j_i1, j_i2, j_l1, j_l2, j_li, j_f1, j_f2, j_d1, j_d2, j_r1, j_ai, j_aii, j_ail, j_aid, j_air, j_st1, j_st2, j_stu, j_kl, j_cond, j_args, j_out, j_few, j_cw, j_nat, j_pad, j_exp, Nat.reduceAdd]
      exact H
    | succ k ih =>
      intro a w x ha e
      unfold rWa at e
      refine b_X9_worst_9 hG ?_
      dsimp only [q_X9_worst_9, j_wp, j_opB, j_opA, j_nth, j_i1, j_i2, j_l1, j_l2, j_li, j_f1, j_f2, j_d1, j_d2, j_r1, j_ai, j_aii, j_ail, j_aid, j_air, j_st1, j_st2, j_stu, j_kl, j_cond, j_args, j_out, j_few, j_cw, j_nat, j_pad, j_exp, Nat.reduceAdd]
      simp only [ME_sh q, ME_r0 q, ME_a0 q, ME_r5 q, ME_a5 q, j_ref, j_ari, j_arb, j_arr, j_len, j_nar, j_oi, j_ol, j_of, j_od, j_or, j_ov, true_and, and_true, ME_x0 q, hx]
      refine ⟨vp_c (k := 0) (by omega) (by omega), ?_⟩
      rw [if_pos (nI_lt (by omega) (by omega))]
      rw [nI_1]
      refine inner a (fun w => rWa M c n k (a + 1) w = res) (by omega) (fun w' x' e' => ?_) (n - (a + 1)) (a + 1) w (by omega) e
      refine b_X9_worst_53 hG ?_
      dsimp only [q_X9_worst_53, j_wp, j_opB, j_opA, j_nth, j_i1, j_i2, j_l1, j_l2, j_li, j_f1, j_f2, j_d1, j_d2, j_r1, j_ai, j_aii, j_ail, j_aid, j_air, j_st1, j_st2, j_stu, j_kl, j_cond, j_args, j_out, j_few, j_cw, j_nat, j_pad, j_exp, Nat.reduceAdd]
      rw [nI_1]
      exact ih (a + 1) w' x' (by omega) e'
  refine b_X9_worst_0 hG ?_
  dsimp only [q_X9_worst_0, j_wp, j_opB, j_opA, j_nth, j_i1, j_i2, j_l1, j_l2, j_li, j_f1, j_f2, j_d1, j_d2, j_r1, j_ai, j_aii, j_ail, j_aid, j_air, j_st1, j_st2, j_stu, j_kl, j_cond, j_args, j_out, j_few, j_cw, j_nat, j_pad, j_exp, Nat.reduceAdd]
  simp only [MB_sh s, j_ref, j_ari, j_arb, j_arr, j_len, j_nar, j_oi, j_ol, j_of, j_od, j_or, j_ov, true_and, and_true]
  exact outer n 0 0 _ (by omega) hr
end RefG
