/-! ===== the reference: spread, share, meanDelay, forecast, weightFor ===== -/
section RefH
variable {l : Launch} {D : va_G} {bs : Nat} {E : j_E} {h0 h : j_H} {m : Nat} {M : Rf} {d : Nat} {Q : j_O → j_H → Prop}
/-- the greatest by V of those that count, the first of equals: -1 if there is none -/
def rMost (V : Nat → Int64) (ok : Nat → Bool) : Nat → Nat → Int32 → Int32
  | 0, _, b => b
  | k + 1, f, b => rMost V ok k (f + 1) (if ok f = true ∧ (b = -1 ∨ V b.toNatClampNeg < V f) then nI f else b)
def rUse (M : Rf) (ns : Nat) : Nat → Bool := fun f => !rIdle M ns f
def rSpread (M : Rf) (nf ns : Nat) : Int64 := if lPick (rV M) (rUse M ns) nf 0 (-1) = -1 then 0 else rV M (tn (rMost (rV M) (rUse M ns) nf 0 (-1))) - rV M (tn (lPick (rV M) (rUse M ns) nf 0 (-1)))
set_option maxRecDepth 8000 in
theorem sp_X9_spread (hl : l.stackTraces = false) (s : MB E m M h) {nf ns : Nat} (hnf : nf ≤ 6) (hx : rX M 0 = nI nf) (hns : ns ≤ 300) (hx3 : rX M 3 = nI ns) (hq : rSok M ns) (H : Q (.inl (some (.long (rSpread M nf ns)))) (j_setI h m 10 0)) : j_Met l D bs E (d + 5) n_X9_spread [.ref m] h Q := by
  have hB := s.2.2.2
  have s0 := MB_I s (k := 10) 0
  have q := MB_q s0
  unfold rSpread at H
  generalize hr1 : lPick (rV M) (rUse M ns) nf 0 (-1) = r1 at H
  generalize hr2 : rMost (rV M) (rUse M ns) nf 0 (-1) = r2 at H
  refine j_meth hl rfl g_X9_spread (Nat.le_of_ble_eq_true rfl) (fun _ => ⟨_, _, rfl, (MB_sh s)⟩) hB.1 hB.2 (fun G hG => ?_)
  have loop : ∀ (k f : Nat) (b1 b2 : Int32), f + k = nf → ix 6 b1 → ix 6 b2 → (b1 = -1 ↔ b2 = -1) → lPick (rV M) (rUse M ns) k f b1 = r1 → rMost (rV M) (rUse M ns) k f b2 = r2 → G 11 [.ref m, .int b1, .int b2, .int (nI f)] [] (j_setI h m 10 0) := by
    intro k
    induction k with
    | zero =>
      intro f b1 b2 hf i1 i2 ib e1 e2
      unfold lPick at e1
      unfold rMost at e2
      subst e1
      subst e2
      refine b_X9_spread_11 hG ?_
      dsimp only [q_X9_spread_11, j_wp, j_opB, j_opA, j_nth, j_i1, j_i2, j_l1, j_l2, j_li, j_f1, j_f2, j_d1, j_d2, j_r1, j_ai, j_aii, j_ail, j_aid, j_air, j_st1, j_st2, j_stu, j_kl, j_cond, j_args, j_out, j_few, j_cw, j_nat, j_pad, j_exp, Nat.reduceAdd]
      simp only [ME_sh q, ME_r0 q, ME_a0 q, ME_r5 q, ME_a5 q, j_ref, j_ari, j_arb, j_arr, j_len, j_nar, j_oi, j_ol, j_of, j_od, j_or, j_ov, true_and, and_true, ME_x0 q, hx]
      refine ⟨vp_c (k := 0) (by omega) (by omega), ?_⟩
      rw [if_neg (nI_nlt (by omega) (by omega))]
      refine b_X9_spread_92 hG ?_
      dsimp only [q_X9_spread_92, j_wp, j_opB, j_opA, j_nth, j_i1, j_i2, j_l1, j_l2, j_li, j_f1, j_f2, j_d1, j_d2, j_r1, j_ai, j_aii, j_ail, j_aid, j_air, j_st1, j_st2, j_stu, j_kl, j_cond, j_args, j_out, j_few, j_cw, j_nat, j_pad, j_exp, Nat.reduceAdd]
      by_cases g : b1 = -1
      · rw [if_pos g] at H ⊢
        refine b_X9_spread_114 hG ?_
        dsimp only [q_X9_spread_114, j_wp, j_opB, j_opA, j_nth, j_i1, j_i2, j_l1, j_l2, j_li, j_f1, j_f2, j_d1, j_d2, j_r1, j_ai, j_aii, j_ail, j_aid, j_air, j_st1, j_st2, j_stu, j_kl, j_cond, j_args, j_out, j_few, j_cw, j_nat, j_pad, j_exp, Nat.reduceAdd]
        exact H
      · rw [if_neg g] at H ⊢
        rcases i1 with i1 | ⟨p1, hp1, i1⟩
        · exact absurd i1 g
        · rcases i2 with i2 | ⟨p2, hp2, i2⟩
          · exact absurd (ib.mpr i2) g
          · subst i1
            subst i2
            rw [tn, tn, nI_clamp (n := p1) (by omega), nI_clamp (n := p2) (by omega)] at H
            refine b_X9_spread_101 hG ?_
            dsimp only [q_X9_spread_101, j_wp, j_opB, j_opA, j_nth, j_i1, j_i2, j_l1, j_l2, j_li, j_f1, j_f2, j_d1, j_d2, j_r1, j_ai, j_aii, j_ail, j_aid, j_air, j_st1, j_st2, j_stu, j_kl, j_cond, j_args, j_out, j_few, j_cw, j_nat, j_pad, j_exp, Nat.reduceAdd]
            simp only [ME_sh q, ME_r0 q, ME_a0 q, ME_r5 q, ME_a5 q, j_ref, j_ari, j_arb, j_arr, j_len, j_nar, j_oi, j_ol, j_of, j_od, j_or, j_ov, true_and, and_true]
            refine ⟨vp_in_nI (by omega) (by omega), vp_in_nI (by omega) (by omega), ?_⟩
            rw [nI_clamp (n := p1) (by omega), nI_clamp (n := p2) (by omega), ME_gV q hp1, ME_gV q hp2]
            refine b_X9_spread_114 hG ?_
            dsimp only [q_X9_spread_114, j_wp, j_opB, j_opA, j_nth, j_i1, j_i2, j_l1, j_l2, j_li, j_f1, j_f2, j_d1, j_d2, j_r1, j_ai, j_aii, j_ail, j_aid, j_air, j_st1, j_st2, j_stu, j_kl, j_cond, j_args, j_out, j_few, j_cw, j_nat, j_pad, j_exp, Nat.reduceAdd]
            exact H
    | succ k ih =>
      intro f b1 b2 hf i1 i2 ib e1 e2
      unfold lPick at e1
      unfold rMost at e2
      have nx : ∀ (b1' b2' : Int32), ix 6 b1' → ix 6 b2' → (b1' = -1 ↔ b2' = -1) → lPick (rV M) (rUse M ns) k (f + 1) b1' = r1 → rMost (rV M) (rUse M ns) k (f + 1) b2' = r2 → G 86 [.ref m, .int b1', .int b2', .int (nI f)] [] (j_setI h m 10 0) := by
        intro b1' b2' i1' i2' ib' e1' e2'
        refine b_X9_spread_86 hG ?_
        dsimp only [q_X9_spread_86, j_wp, j_opB, j_opA, j_nth, j_i1, j_i2, j_l1, j_l2, j_li, j_f1, j_f2, j_d1, j_d2, j_r1, j_ai, j_aii, j_ail, j_aid, j_air, j_st1, j_st2, j_stu, j_kl, j_cond, j_args, j_out, j_few, j_cw, j_nat, j_pad, j_exp, Nat.reduceAdd]
        rw [nI_1]
        exact ih (f + 1) b1' b2' (by omega) i1' i2' ib' e1' e2'
      refine b_X9_spread_11 hG ?_
      dsimp only [q_X9_spread_11, j_wp, j_opB, j_opA, j_nth, j_i1, j_i2, j_l1, j_l2, j_li, j_f1, j_f2, j_d1, j_d2, j_r1, j_ai, j_aii, j_ail, j_aid, j_air, j_st1, j_st2, j_stu, j_kl, j_cond, j_args, j_out, j_few, j_cw, j_nat, j_pad, j_exp, Nat.reduceAdd]
      simp only [ME_sh q, ME_r0 q, ME_a0 q, ME_r5 q, ME_a5 q, j_ref, j_ari, j_arb, j_arr, j_len, j_nar, j_oi, j_ol, j_of, j_od, j_or, j_ov, true_and, and_true, ME_x0 q, hx]
      refine ⟨vp_c (k := 0) (by omega) (by omega), ?_⟩
      rw [if_pos (nI_lt (by omega) (by omega))]
      refine sp_X9_isUnused hl q (f := f) (by omega) hns hx3 hq ?_
      simp only [j_ref, j_ari, j_arb, j_arr, j_len, j_nar, j_oi, j_ol, j_of, j_od, j_or, j_ov, true_and, and_true]
      by_cases g : rIdle M ns f = true
      · have gu : ¬ rUse M ns f = true := by simp [rUse, g]
        rw [if_neg (fun z => gu z.1)] at e1 e2
        simp only [g, if_true]
        rw [if_neg (by decide)]
        exact nx b1 b2 i1 i2 ib e1 e2
      · have gu : rUse M ns f = true := by simp [rUse, g]
        simp only [g, Bool.false_eq_true, if_false, if_true]
        have jf : ix 6 (nI f) := Or.inr ⟨f, by omega, rfl⟩
        have nf1 : ¬ nI f = -1 := nI_ne1 (by omega)
        -- the second choice
        have snd : ∀ (b1' : Int32), ix 6 b1' → ¬ b1' = -1 → lPick (rV M) (rUse M ns) k (f + 1) b1' = r1 → G 58 [.ref m, .int b1, .int b2, .int (nI f)] [.int b1'] (j_setI h m 10 0) := by
          intro b1' i1' n1' e1'
          have take : (b2 = -1 ∨ rV M b2.toNatClampNeg < rV M f) → G 80 [.ref m, .int b1', .int b2, .int (nI f)] [] (j_setI h m 10 0) := by
            intro z
            rw [if_pos ⟨gu, z⟩] at e2
            refine b_X9_spread_80 hG ?_
            dsimp only [q_X9_spread_80, j_wp, j_opB, j_opA, j_nth, j_i1, j_i2, j_l1, j_l2, j_li, j_f1, j_f2, j_d1, j_d2, j_r1, j_ai, j_aii, j_ail, j_aid, j_air, j_st1, j_st2, j_stu, j_kl, j_cond, j_args, j_out, j_few, j_cw, j_nat, j_pad, j_exp, Nat.reduceAdd]
            refine b_X9_spread_85 hG ?_
            dsimp only [q_X9_spread_85, j_wp, j_opB, j_opA, j_nth, j_i1, j_i2, j_l1, j_l2, j_li, j_f1, j_f2, j_d1, j_d2, j_r1, j_ai, j_aii, j_ail, j_aid, j_air, j_st1, j_st2, j_stu, j_kl, j_cond, j_args, j_out, j_few, j_cw, j_nat, j_pad, j_exp, Nat.reduceAdd]
            exact nx b1' (nI f) i1' jf ⟨fun y => absurd y n1', fun y => absurd y nf1⟩ e1' e2
          refine b_X9_spread_58 hG ?_
          dsimp only [q_X9_spread_58, j_wp, j_opB, j_opA, j_nth, j_i1, j_i2, j_l1, j_l2, j_li, j_f1, j_f2, j_d1, j_d2, j_r1, j_ai, j_aii, j_ail, j_aid, j_air, j_st1, j_st2, j_stu, j_kl, j_cond, j_args, j_out, j_few, j_cw, j_nat, j_pad, j_exp, Nat.reduceAdd]
          by_cases g2 : b2 = -1
          · rw [if_pos g2]
            exact take (Or.inl g2)
          · rw [if_neg g2]
            rcases i2 with i2 | ⟨p2, hp2, i2⟩
            · exact absurd i2 g2
            · subst i2
              rw [nI_clamp (by omega)] at take e2
              simp only [ME_sh q, ME_r0 q, ME_a0 q, ME_r5 q, ME_a5 q, j_ref, j_ari, j_arb, j_arr, j_len, j_nar, j_oi, j_ol, j_of, j_od, j_or, j_ov, true_and, and_true]
              refine ⟨vp_in_nI (by omega) (by omega), vp_in_nI (by omega) (by omega), ?_⟩
              rw [nI_clamp (n := f) (by omega), nI_clamp (n := p2) (by omega), ME_gV q (k := f) (by omega), ME_gV q hp2]
              by_cases g3 : rV M p2 < rV M f
              · rw [if_pos (lg_gt.mpr g3)]
                exact take (Or.inr g3)
              · rw [if_neg (fun z => g3 (lg_gt.mp z))]
                rw [if_neg (fun z => z.2.elim g2 g3)] at e2
                refine b_X9_spread_84 hG ?_
                dsimp only [q_X9_spread_84, j_wp, j_opB, j_opA, j_nth, j_i1, j_i2, j_l1, j_l2, j_li, j_f1, j_f2, j_d1, j_d2, j_r1, j_ai, j_aii, j_ail, j_aid, j_air, j_st1, j_st2, j_stu, j_kl, j_cond, j_args, j_out, j_few, j_cw, j_nat, j_pad, j_exp, Nat.reduceAdd]
                refine b_X9_spread_85 hG ?_
                dsimp only [q_X9_spread_85, j_wp, j_opB, j_opA, j_nth, j_i1, j_i2, j_l1, j_l2, j_li, j_f1, j_f2, j_d1, j_d2, j_r1, j_ai, j_aii, j_ail, j_aid, j_air, j_st1, j_st2, j_stu, j_kl, j_cond, j_args, j_out, j_few, j_cw, j_nat, j_pad, j_exp, Nat.reduceAdd]
                exact nx b1' (nI p2) i1' (Or.inr ⟨p2, hp2, rfl⟩) ⟨fun y => absurd y n1', fun y => absurd y g2⟩ e1' e2
        refine b_X9_spread_32 hG ?_
        dsimp only [q_X9_spread_32, j_wp, j_opB, j_opA, j_nth, j_i1, j_i2, j_l1, j_l2, j_li, j_f1, j_f2, j_d1, j_d2, j_r1, j_ai, j_aii, j_ail, j_aid, j_air, j_st1, j_st2, j_stu, j_kl, j_cond, j_args, j_out, j_few, j_cw, j_nat, j_pad, j_exp, Nat.reduceAdd]
        by_cases g2 : b1 = -1
        · rw [if_pos g2]
          rw [if_pos ⟨gu, Or.inl g2⟩] at e1
          refine b_X9_spread_53 hG ?_
          dsimp only [q_X9_spread_53, j_wp, j_opB, j_opA, j_nth, j_i1, j_i2, j_l1, j_l2, j_li, j_f1, j_f2, j_d1, j_d2, j_r1, j_ai, j_aii, j_ail, j_aid, j_air, j_st1, j_st2, j_stu, j_kl, j_cond, j_args, j_out, j_few, j_cw, j_nat, j_pad, j_exp, Nat.reduceAdd]
          exact snd (nI f) jf nf1 e1
        · rw [if_neg g2]
          have i1c := i1
          rcases i1c with i1c | ⟨p1, hp1, i1c⟩
          · exact absurd i1c g2
          · subst i1c
            rw [nI_clamp (by omega)] at e1
            simp only [ME_sh q, ME_r0 q, ME_a0 q, ME_r5 q, ME_a5 q, j_ref, j_ari, j_arb, j_arr, j_len, j_nar, j_oi, j_ol, j_of, j_od, j_or, j_ov, true_and, and_true]
            refine ⟨vp_in_nI (by omega) (by omega), vp_in_nI (by omega) (by omega), ?_⟩
            rw [nI_clamp (n := f) (by omega), nI_clamp (n := p1) (by omega), ME_gV q (k := f) (by omega), ME_gV q hp1]
            by_cases g3 : rV M f < rV M p1
            · rw [if_pos (lg_lt.mpr g3)]
              rw [if_pos ⟨gu, Or.inr g3⟩] at e1
              refine b_X9_spread_53 hG ?_
              dsimp only [q_X9_spread_53, j_wp, j_opB, j_opA, j_nth, j_i1, j_i2, j_l1, j_l2, j_li, j_f1, j_f2, j_d1, j_d2, j_r1, j_ai, j_aii, j_ail, j_aid, j_air, j_st1, j_st2, j_stu, j_kl, j_cond, j_args, j_out, j_few, j_cw, j_nat, j_pad, j_exp, Nat.reduceAdd]
              exact snd (nI f) jf nf1 e1
            · rw [if_neg (fun z => g3 (lg_lt.mp z))]
              rw [if_neg (fun z => z.2.elim g2 g3)] at e1
              refine b_X9_spread_57 hG ?_
              dsimp only [q_X9_spread_57, j_wp, j_opB, j_opA, j_nth, j_i1, j_i2, j_l1, j_l2, j_li, j_f1, j_f2, j_d1, j_d2, j_r1, j_ai, j_aii, j_ail, j_aid, j_air, j_st1, j_st2, j_stu, j_kl, j_cond, j_args, j_out, j_few, j_cw, j_nat, j_pad, j_exp, Nat.reduceAdd]
              exact snd (nI p1) i1 g2 e1
  refine b_X9_spread_0 hG ?_
  dsimp only [q_X9_spread_0, j_wp, j_opB, j_opA, j_nth, j_i1, j_i2, j_l1, j_l2, j_li, j_f1, j_f2, j_d1, j_d2, j_r1, j_ai, j_aii, j_ail, j_aid, j_air, j_st1, j_st2, j_stu, j_kl, j_cond, j_args, j_out, j_few, j_cw, j_nat, j_pad, j_exp, Nat.reduceAdd]
  simp only [MB_sh s, j_ref, j_ari, j_arb, j_arr, j_len, j_nar, j_oi, j_ol, j_of, j_od, j_or, j_ov, true_and, and_true]
  exact loop nf 0 (-1) (-1) (by omega) (Or.inl rfl) (Or.inl rfl) Iff.rfl hr1 hr2
/-- the delivered bytes of k flows from f on -/
def rSumF (M : Rf) : Nat → Nat → Int32 → Int32
  | 0, _, c => c
  | k + 1, f, c => rSumF M k (f + 1) (c + rF M f 9)
theorem sp_X9_share (hl : l.stackTraces = false) (s : MB E m M h) {n : Nat} (hn : n ≤ 6) (hx : rX M 0 = nI n) {v : Int32} (hd : ∀ f, f < n → ¬ rSumF M n 0 0 = 0 → vf_n64 (FP.ddiv (FP.i2d (rF M f 9)) (FP.i2d (rSumF M n 0 0))))
    (H1 : ¬ inx v n → ∀ r, Q (.inl (some (.double r))) (j_setI h m 10 1)) (H2 : ∀ f, f < n → v = nI f → rSumF M n 0 0 = 0 → Q (.inl (some (.double FP.dconst0))) (j_setI h m 10 0)) (H0 : ∀ f, f < n → v = nI f → ¬ rSumF M n 0 0 = 0 → Q (.inl (some (.double (FP.ddiv (FP.i2d (rF M f 9)) (FP.i2d (rSumF M n 0 0)))))) (j_setI h m 10 0)) : j_Met l D bs E (d + 3) n_X9_share [.ref m, .int v] h Q := by
  have hB := s.2.2.2
  generalize hr : rSumF M n 0 0 = tot at *
  refine j_meth hl rfl g_X9_share (Nat.le_of_ble_eq_true rfl) (fun _ => ⟨_, _, rfl, (MB_sh s)⟩) hB.1 hB.2 (fun G hG => ?_)
  have loop : ∀ (t : Int32), (∀ x, G 47 [.ref m, .int v, .int tot, x] [] (j_setI h m 10 t)) → ∀ (k f : Nat) (c : Int32), f + k = n → rSumF M k f c = tot → G 21 [.ref m, .int v, .int c, .int (nI f)] [] (j_setI h m 10 t) := by
    intro t K k
    have q := MB_q (MB_I s (k := 10) t)
    induction k with
    | zero =>
      intro f c hf e
      unfold rSumF at e
      refine b_X9_share_21 hG ?_
      dsimp only [q_X9_share_21, j_wp, j_opB, j_opA, j_nth, j_i1, j_i2, j_l1, j_l2, j_li, j_f1, j_f2, j_d1, j_d2, j_r1, j_ai, j_aii, j_ail, j_aid, j_air, j_st1, j_st2, j_stu, j_kl, j_cond, j_args, j_out, j_few, j_cw, j_nat, j_pad, j_exp, Nat.reduceAdd]
      simp only [ME_sh q, ME_r0 q, ME_a0 q, ME_r5 q, ME_a5 q, j_ref, j_ari, j_arb, j_arr, j_len, j_nar, j_oi, j_ol, j_of, j_od, j_or, j_ov, true_and, and_true, ME_x0 q, hx]
      refine ⟨vp_c (k := 0) (by omega) (by omega), ?_⟩
      rw [if_neg (nI_nlt (by omega) (by omega))]
      subst e
      exact K _
    | succ k ih =>
      intro f c hf e
      unfold rSumF at e
      refine b_X9_share_21 hG ?_
      dsimp only [q_X9_share_21, j_wp, j_opB, j_opA, j_nth, j_i1, j_i2, j_l1, j_l2, j_li, j_f1, j_f2, j_d1, j_d2, j_r1, j_ai, j_aii, j_ail, j_aid, j_air, j_st1, j_st2, j_stu, j_kl, j_cond, j_args, j_out, j_few, j_cw, j_nat, j_pad, j_exp, Nat.reduceAdd]
      simp only [ME_sh q, ME_r0 q, ME_a0 q, ME_r5 q, ME_a5 q, j_ref, j_ari, j_arb, j_arr, j_len, j_nar, j_oi, j_ol, j_of, j_od, j_or, j_ov, true_and, and_true, ME_x0 q, hx]
      refine ⟨vp_c (k := 0) (by omega) (by omega), ?_⟩
      rw [if_pos (nI_lt (by omega) (by omega))]
      refine sp_X9_ofFlow hl q (f := f) (by omega) (k := 9) (by omega) ?_
      simp only [j_ref, j_ari, j_arb, j_arr, j_len, j_nar, j_oi, j_ol, j_of, j_od, j_or, j_ov, true_and, and_true, j_st1, j_kl]
      rw [nI_1]
      exact ih (f + 1) _ (by omega) e
  refine b_X9_share_0 hG ?_
  dsimp only [q_X9_share_0, j_wp, j_opB, j_opA, j_nth, j_i1, j_i2, j_l1, j_l2, j_li, j_f1, j_f2, j_d1, j_d2, j_r1, j_ai, j_aii, j_ail, j_aid, j_air, j_st1, j_st2, j_stu, j_kl, j_cond, j_args, j_out, j_few, j_cw, j_nat, j_pad, j_exp, Nat.reduceAdd]
  refine sp_X9_isFlow hl (MB_q s) ?_
  simp only [j_ref, j_ari, j_arb, j_arr, j_len, j_nar, j_oi, j_ol, j_of, j_od, j_or, j_ov, true_and, and_true, hx]
  by_cases g1 : inx v n
  · simp only [rIn_y (by omega) g1, if_true]
    rw [if_neg (by decide)]
    obtain ⟨f, hf, rfl⟩ := g1
    have s0 := MB_I s (k := 10) 0
    have q := MB_q s0
    refine b_X9_share_14 hG ?_
    dsimp only [q_X9_share_14, j_wp, j_opB, j_opA, j_nth, j_i1, j_i2, j_l1, j_l2, j_li, j_f1, j_f2, j_d1, j_d2, j_r1, j_ai, j_aii, j_ail, j_aid, j_air, j_st1, j_st2, j_stu, j_kl, j_cond, j_args, j_out, j_few, j_cw, j_nat, j_pad, j_exp, Nat.reduceAdd]
    simp only [MB_sh s, j_ref, j_ari, j_arb, j_arr, j_len, j_nar, j_oi, j_ol, j_of, j_od, j_or, j_ov, true_and, and_true]
    refine loop 0 (fun x => ?_) n 0 0 (by omega) hr
    refine b_X9_share_47 hG ?_
    dsimp only [q_X9_share_47, j_wp, j_opB, j_opA, j_nth, j_i1, j_i2, j_l1, j_l2, j_li, j_f1, j_f2, j_d1, j_d2, j_r1, j_ai, j_aii, j_ail, j_aid, j_air, j_st1, j_st2, j_stu, j_kl, j_cond, j_args, j_out, j_few, j_cw, j_nat, j_pad, j_exp, Nat.reduceAdd]
    simp only [ME_sh q, jh_Is, j_ref, j_ari, j_arb, j_arr, j_len, j_nar, j_oi, j_ol, j_of, j_od, j_or, j_ov, true_and, and_true]
    first | rw [if_pos rfl] | rw [if_pos trivial]
    by_cases g : tot = 0
    · rw [if_pos g]
      refine b_X9_share_58 hG ?_
      dsimp only [q_X9_share_58, j_wp, j_opB, j_opA, j_nth, j_i1, j_i2, j_l1, j_l2, j_li, j_f1, j_f2, j_d1, j_d2, j_r1, j_ai, j_aii, j_ail, j_aid, j_air, j_st1, j_st2, j_stu, j_kl, j_cond, j_args, j_out, j_few, j_cw, j_nat, j_pad, j_exp, Nat.reduceAdd]
      refine b_X9_share_73 hG ?_
      dsimp only [q_X9_share_73, j_wp, j_opB, j_opA, j_nth, j_i1, j_i2, j_l1, j_l2, j_li, j_f1, j_f2, j_d1, j_d2, j_r1, j_ai, j_aii, j_ail, j_aid, j_air, j_st1, j_st2, j_stu, j_kl, j_cond, j_args, j_out, j_few, j_cw, j_nat, j_pad, j_exp, Nat.reduceAdd]
      exact H2 f hf rfl g
    · rw [if_neg g]
      refine b_X9_share_62 hG ?_
      dsimp only [q_X9_share_62, j_wp, j_opB, j_opA, j_nth, j_i1, j_i2, j_l1, j_l2, j_li, j_f1, j_f2, j_d1, j_d2, j_r1, j_ai, j_aii, j_ail, j_aid, j_air, j_st1, j_st2, j_stu, j_kl, j_cond, j_args, j_out, j_few, j_cw, j_nat, j_pad, j_exp, Nat.reduceAdd]
      refine sp_X9_ofFlow hl q (f := f) (by omega) (k := 9) (by omega) ?_
      simp only [j_ref, j_ari, j_arb, j_arr, j_len, j_nar, j_oi, j_ol, j_of, j_od, j_or, j_ov, true_and, and_true]
      refine ⟨hd f hf g, ?_⟩
      refine b_X9_share_73 hG ?_
      dsimp only [q_X9_share_73, j_wp, j_opB, j_opA, j_nth, j_i1, j_i2, j_l1, j_l2, j_li, j_f1, j_f2, j_d1, j_d2, j_r1, j_ai, j_aii, j_ail, j_aid, j_air, j_st1, j_st2, j_stu, j_kl, j_cond, j_args, j_out, j_few, j_cw, j_nat, j_pad, j_exp, Nat.reduceAdd]
      exact H0 f hf rfl g
  · simp only [rIn_n (by omega) g1, Bool.false_eq_true, if_false, if_true]
    have q := MB_q (MB_I s (k := 10) 1)
    refine b_X9_share_13 hG ?_
    dsimp only [q_X9_share_13, j_wp, j_opB, j_opA, j_nth, j_i1, j_i2, j_l1, j_l2, j_li, j_f1, j_f2, j_d1, j_d2, j_r1, j_ai, j_aii, j_ail, j_aid, j_air, j_st1, j_st2, j_stu, j_kl, j_cond, j_args, j_out, j_few, j_cw, j_nat, j_pad, j_exp, Nat.reduceAdd]
    refine b_X9_share_14 hG ?_
    dsimp only [q_X9_share_14, j_wp, j_opB, j_opA, j_nth, j_i1, j_i2, j_l1, j_l2, j_li, j_f1, j_f2, j_d1, j_d2, j_r1, j_ai, j_aii, j_ail, j_aid, j_air, j_st1, j_st2, j_stu, j_kl, j_cond, j_args, j_out, j_few, j_cw, j_nat, j_pad, j_exp, Nat.reduceAdd]
    simp only [MB_sh s, j_ref, j_ari, j_arb, j_arr, j_len, j_nar, j_oi, j_ol, j_of, j_od, j_or, j_ov, true_and, and_true]
    refine loop 1 (fun x => ?_) n 0 0 (by omega) hr
    refine b_X9_share_47 hG ?_
    dsimp only [q_X9_share_47, j_wp, j_opB, j_opA, j_nth, j_i1, j_i2, j_l1, j_l2, j_li, j_f1, j_f2, j_d1, j_d2, j_r1, j_ai, j_aii, j_ail, j_aid, j_air, j_st1, j_st2, j_stu, j_kl, j_cond, j_args, j_out, j_few, j_cw, j_nat, j_pad, j_exp, Nat.reduceAdd]
    simp only [ME_sh q, jh_Is, j_ref, j_ari, j_arb, j_arr, j_len, j_nar, j_oi, j_ol, j_of, j_od, j_or, j_ov, true_and, and_true]
    rw [if_neg (by decide)]
    refine b_X9_share_58 hG ?_
    dsimp only [q_X9_share_58, j_wp, j_opB, j_opA, j_nth, j_i1, j_i2, j_l1, j_l2, j_li, j_f1, j_f2, j_d1, j_d2, j_r1, j_ai, j_aii, j_ail, j_aid, j_air, j_st1, j_st2, j_stu, j_kl, j_cond, j_args, j_out, j_few, j_cw, j_nat, j_pad, j_exp, Nat.reduceAdd]
    refine b_X9_share_73 hG ?_
    dsimp only [q_X9_share_73, j_wp, j_opB, j_opA, j_nth, j_i1, j_i2, j_l1, j_l2, j_li, j_f1, j_f2, j_d1, j_d2, j_r1, j_ai, j_aii, j_ail, j_aid, j_air, j_st1, j_st2, j_stu, j_kl, j_cond, j_args, j_out, j_few, j_cw, j_nat, j_pad, j_exp, Nat.reduceAdd]
    exact H1 g1 _
/-- the delays of k packets from p on of the flow v: their sum and their number -/
def rDelG (P : Nat → Nat → Int32) (v : Int32) : Nat → Nat → Int32 → Int32 → Int32 × Int32
  | 0, _, a, b => (a, b)
  | k + 1, p, a, b => if P p 0 = v ∧ P p 3 = 2 then rDelG P v k (p + 1) (a + (P p 5 - P p 2)) (b + 1) else rDelG P v k (p + 1) a b
set_option maxRecDepth 8000 in
theorem sp_X9_meanDelay (hl : l.stackTraces = false) (s : MB E m M h) {n np : Nat} (hn : n ≤ 6) (hx : rX M 0 = nI n) (hnp : np ≤ 100) (hx2 : rX M 2 = nI np) {v : Int32} (hd : ¬ (rDelG (rP M) v np 0 0 0).2 = 0 → vf_n32 (FP.fdiv (FP.i2f (rDelG (rP M) v np 0 0 0).1) (FP.i2f (rDelG (rP M) v np 0 0 0).2)))
    (H1 : ¬ inx v n → ∀ r, Q (.inl (some (.float r))) (j_setI h m 10 1)) (H2 : inx v n → (rDelG (rP M) v np 0 0 0).2 = 0 → Q (.inl (some (.float FP.fconst0))) (j_setI h m 10 0)) (H0 : inx v n → ¬ (rDelG (rP M) v np 0 0 0).2 = 0 → Q (.inl (some (.float (FP.fdiv (FP.i2f (rDelG (rP M) v np 0 0 0).1) (FP.i2f (rDelG (rP M) v np 0 0 0).2))))) (j_setI h m 10 0)) : j_Met l D bs E (d + 3) n_X9_meanDelay [.ref m, .int v] h Q := by
  have hB := s.2.2.2
  generalize hr : rDelG (rP M) v np 0 0 0 = res at *
  refine j_meth hl rfl g_X9_meanDelay (Nat.le_of_ble_eq_true rfl) (fun _ => ⟨_, _, rfl, (MB_sh s)⟩) hB.1 hB.2 (fun G hG => ?_)
  have fin : ∀ (t : Int32) (x : Value), (res.2 = 0 → Q (.inl (some (.float FP.fconst0))) (j_setI h m 10 t)) → (¬ res.2 = 0 → Q (.inl (some (.float (FP.fdiv (FP.i2f res.1) (FP.i2f res.2))))) (j_setI h m 10 t)) → G 84 [.ref m, .int v, .int res.1, .int res.2, x] [] (j_setI h m 10 t) := by
    intro t x K1 K2
    refine b_X9_meanDelay_84 hG ?_
    dsimp only [q_X9_meanDelay_84, j_wp, j_opB, j_opA, j_nth, j_i1, j_i2, j_l1, j_l2, j_li, j_f1, j_f2, j_d1, j_d2, j_r1, j_ai, j_aii, j_ail, j_aid, j_air, j_st1, j_st2, j_stu, j_kl, j_cond, j_args, j_out, j_few, j_cw, j_nat, j_pad, j_exp, Nat.reduceAdd]
    by_cases g : res.2 = 0
    · rw [if_pos g]
      refine b_X9_meanDelay_97 hG ?_
      dsimp only [q_X9_meanDelay_97, j_wp, j_opB, j_opA, j_nth, j_i1, j_i2, j_l1, j_l2, j_li, j_f1, j_f2, j_d1, j_d2, j_r1, j_ai, j_aii, j_ail, j_aid, j_air, j_st1, j_st2, j_stu, j_kl, j_cond, j_args, j_out, j_few, j_cw, j_nat, j_pad, j_exp, Nat.reduceAdd]
      exact K1 g
    · rw [if_neg g]
      refine b_X9_meanDelay_92 hG ?_
      dsimp only [q_X9_meanDelay_92, j_wp, j_opB, j_opA, j_nth, j_i1, j_i2, j_l1, j_l2, j_li, j_f1, j_f2, j_d1, j_d2, j_r1, j_ai, j_aii, j_ail, j_aid, j_air, j_st1, j_st2, j_stu, j_kl, j_cond, j_args, j_out, j_few, j_cw, j_nat, j_pad, j_exp, Nat.reduceAdd]
      refine ⟨hd g, ?_⟩
      refine b_X9_meanDelay_97 hG ?_
      dsimp only [q_X9_meanDelay_97, j_wp, j_opB, j_opA, j_nth, j_i1, j_i2, j_l1, j_l2, j_li, j_f1, j_f2, j_d1, j_d2, j_r1, j_ai, j_aii, j_ail, j_aid, j_air, j_st1, j_st2, j_stu, j_kl, j_cond, j_args, j_out, j_few, j_cw, j_nat, j_pad, j_exp, Nat.reduceAdd]
      exact K2 g
  have loop : ∀ (t : Int32), (∀ x, G 84 [.ref m, .int v, .int res.1, .int res.2, x] [] (j_setI h m 10 t)) → ∀ (k p : Nat) (a b : Int32), p + k = np → rDelG (rP M) v k p a b = res → G 24 [.ref m, .int v, .int a, .int b, .int (nI p)] [] (j_setI h m 10 t) := by
    intro t K k
    have q := MB_q (MB_I s (k := 10) t)
    induction k with
    | zero =>
      intro p a b hp e
      unfold rDelG at e
      subst e
      refine b_X9_meanDelay_24 hG ?_
      dsimp only [q_X9_meanDelay_24, j_wp, j_opB, j_opA, j_nth, j_i1, j_i2, j_l1, j_l2, j_li, j_f1, j_f2, j_d1, j_d2, j_r1, j_ai, j_aii, j_ail, j_aid, j_air, j_st1, j_st2, j_stu, j_kl, j_cond, j_args, j_out, j_few, j_cw, j_nat, j_pad, j_exp, Nat.reduceAdd]
      simp only [ME_sh q, ME_r0 q, ME_a0 q, ME_r5 q, ME_a5 q, j_ref, j_ari, j_arb, j_arr, j_len, j_nar, j_oi, j_ol, j_of, j_od, j_or, j_ov, true_and, and_true, ME_x2 q, hx2]
      refine ⟨vp_c (k := 2) (by omega) (by omega), ?_⟩
      rw [if_neg (nI_nlt (by omega) (by omega))]
      exact K _
    | succ k ih =>
      intro p a b hp e
      unfold rDelG at e
      have nx : ∀ (a' b' : Int32), rDelG (rP M) v k (p + 1) a' b' = res → G 78 [.ref m, .int v, .int a', .int b', .int (nI p)] [] (j_setI h m 10 t) := by
        intro a' b' e'
        refine b_X9_meanDelay_78 hG ?_
        dsimp only [q_X9_meanDelay_78, j_wp, j_opB, j_opA, j_nth, j_i1, j_i2, j_l1, j_l2, j_li, j_f1, j_f2, j_d1, j_d2, j_r1, j_ai, j_aii, j_ail, j_aid, j_air, j_st1, j_st2, j_stu, j_kl, j_cond, j_args, j_out, j_few, j_cw, j_nat, j_pad, j_exp, Nat.reduceAdd]
        rw [nI_1]
        exact ih (p + 1) a' b' (by omega) e'
      refine b_X9_meanDelay_24 hG ?_
      dsimp only [q_X9_meanDelay_24, j_wp, j_opB, j_opA, j_nth, j_i1, j_i2, j_l1, j_l2, j_li, j_f1, j_f2, j_d1, j_d2, j_r1, j_ai, j_aii, j_ail, j_aid, j_air, j_st1, j_st2, j_stu, j_kl, j_cond, j_args, j_out, j_few, j_cw, j_nat, j_pad, j_exp, Nat.reduceAdd]
      simp only [ME_sh q, ME_r0 q, ME_a0 q, ME_r5 q, ME_a5 q, j_ref, j_ari, j_arb, j_arr, j_len, j_nar, j_oi, j_ol, j_of, j_od, j_or, j_ov, true_and, and_true, ME_x2 q, hx2]
      refine ⟨vp_c (k := 2) (by omega) (by omega), ?_⟩
      rw [if_pos (nI_lt (by omega) (by omega))]
      refine sp_X9_ofPacket hl q (f := p) (by omega) (k := 0) (by omega) ?_
      simp only [j_ref, j_ari, j_arb, j_arr, j_len, j_nar, j_oi, j_ol, j_of, j_od, j_or, j_ov, true_and, and_true]
      by_cases g1 : rP M p 0 = v
      · rw [if_pos g1]
        refine sp_X9_ofPacket hl q (f := p) (by omega) (k := 3) (by omega) ?_
        simp only [j_ref, j_ari, j_arb, j_arr, j_len, j_nar, j_oi, j_ol, j_of, j_od, j_or, j_ov, true_and, and_true]
        by_cases g2 : rP M p 3 = 2
        · rw [if_pos g2]
          rw [if_pos ⟨g1, g2⟩] at e
          refine sp_X9_ofPacket hl q (f := p) (by omega) (k := 5) (by omega) ?_
          simp only [j_ref, j_ari, j_arb, j_arr, j_len, j_nar, j_oi, j_ol, j_of, j_od, j_or, j_ov, true_and, and_true]
          refine sp_X9_ofPacket hl q (f := p) (by omega) (k := 2) (by omega) ?_
          simp only [j_ref, j_ari, j_arb, j_arr, j_len, j_nar, j_oi, j_ol, j_of, j_od, j_or, j_ov, true_and, and_true, j_st1, j_kl]
          exact nx _ _ e
        · rw [if_neg g2]
          rw [if_neg (fun z => g2 z.2)] at e
          exact nx a b e
      · rw [if_neg g1]
        rw [if_neg (fun z => g1 z.1)] at e
        exact nx a b e
  refine b_X9_meanDelay_0 hG ?_
  dsimp only [q_X9_meanDelay_0, j_wp, j_opB, j_opA, j_nth, j_i1, j_i2, j_l1, j_l2, j_li, j_f1, j_f2, j_d1, j_d2, j_r1, j_ai, j_aii, j_ail, j_aid, j_air, j_st1, j_st2, j_stu, j_kl, j_cond, j_args, j_out, j_few, j_cw, j_nat, j_pad, j_exp, Nat.reduceAdd]
  refine sp_X9_isFlow hl (MB_q s) ?_
  simp only [j_ref, j_ari, j_arb, j_arr, j_len, j_nar, j_oi, j_ol, j_of, j_od, j_or, j_ov, true_and, and_true, hx]
  by_cases g1 : inx v n
  · simp only [rIn_y (by omega) g1, if_true]
    rw [if_neg (by decide)]
    refine b_X9_meanDelay_14 hG ?_
    dsimp only [q_X9_meanDelay_14, j_wp, j_opB, j_opA, j_nth, j_i1, j_i2, j_l1, j_l2, j_li, j_f1, j_f2, j_d1, j_d2, j_r1, j_ai, j_aii, j_ail, j_aid, j_air, j_st1, j_st2, j_stu, j_kl, j_cond, j_args, j_out, j_few, j_cw, j_nat, j_pad, j_exp, Nat.reduceAdd]
    simp only [MB_sh s, j_ref, j_ari, j_arb, j_arr, j_len, j_nar, j_oi, j_ol, j_of, j_od, j_or, j_ov, true_and, and_true]
    exact loop 0 (fun x => fin 0 x (H2 g1) (H0 g1)) np 0 0 0 (by omega) hr
  · simp only [rIn_n (by omega) g1, Bool.false_eq_true, if_false, if_true]
    refine b_X9_meanDelay_13 hG ?_
    dsimp only [q_X9_meanDelay_13, j_wp, j_opB, j_opA, j_nth, j_i1, j_i2, j_l1, j_l2, j_li, j_f1, j_f2, j_d1, j_d2, j_r1, j_ai, j_aii, j_ail, j_aid, j_air, j_st1, j_st2, j_stu, j_kl, j_cond, j_args, j_out, j_few, j_cw, j_nat, j_pad, j_exp, Nat.reduceAdd]
    refine b_X9_meanDelay_14 hG ?_
    dsimp only [q_X9_meanDelay_14, j_wp, j_opB, j_opA, j_nth, j_i1, j_i2, j_l1, j_l2, j_li, j_f1, j_f2, j_d1, j_d2, j_r1, j_ai, j_aii, j_ail, j_aid, j_air, j_st1, j_st2, j_stu, j_kl, j_cond, j_args, j_out, j_few, j_cw, j_nat, j_pad, j_exp, Nat.reduceAdd]
    simp only [MB_sh s, j_ref, j_ari, j_arb, j_arr, j_len, j_nar, j_oi, j_ol, j_of, j_od, j_or, j_ov, true_and, and_true]
    exact loop 1 (fun x => fin 1 x (fun _ => H1 g1 _) (fun _ => H1 g1 _)) np 0 0 0 (by omega) hr
/-- the cells that forecasting changes -/
def kA (m : Nat) : Nat → Prop := fun b => b = m + 1 ∨ b = m + 6 ∨ b = m + 3 ∨ b = m + 7
/-- the traffic is laid aside: M now, K kept -/
def MK (E : j_E) (m : Nat) (h : j_H) (M K : Rf) (h' : j_H) : Prop := MB E m M h' ∧ (RG (j_I h' (m + 3)) K ∧ RGV (j_L h' (m + 7)) K) ∧ FA (kA m) h h'
theorem MK_q {K M2 : Rf} {h1 h2 : j_H} (s : MK E m h M K h1) (q : ME E h1 m M2 h2) : MK E m h M2 K h2 := by
  refine ⟨MB_of q, ⟨RG_cp s.2.1.1 (fun k _ => q.2.2.2.1.2.2.2.2.2.2.1 _ _ (fun z => by unfold tA at z; omega)), RGV_cp s.2.1.2 (fun k _ => q.2.2.2.1.2.2.2.2.2.2.2 _ _ (fun z => by unfold tA at z; omega))⟩, FA_tr s.2.2 (FA_mono q.2.2.2.1 (fun b e => e.elim Or.inl (fun z => Or.inr (Or.inl z))))⟩
theorem sp_X9_layAside (hl : l.stackTraces = false) (s : MB E m M h) (H : ∀ h', MK E m h M M h' → Q (.inl none) h') : j_Met l D bs E (d + 2) n_X9_layAside [.ref m] h Q := by
  have hB := s.2.2.2
  have m1 := s.1
  refine j_meth hl rfl g_X9_layAside (Nat.le_of_ble_eq_true rfl) (fun _ => ⟨_, _, rfl, (MB_sh s)⟩) hB.1 hB.2 (fun G hG => ?_)
  refine b_X9_layAside_0 hG ?_
  dsimp only [q_X9_layAside_0, j_wp, j_opB, j_opA, j_nth, j_i1, j_i2, j_l1, j_l2, j_li, j_f1, j_f2, j_d1, j_d2, j_r1, j_ai, j_aii, j_ail, j_aid, j_air, j_st1, j_st2, j_stu, j_kl, j_cond, j_args, j_out, j_few, j_cw, j_nat, j_pad, j_exp, Nat.reduceAdd]
  simp only [mk_sh m1, mk_r2 m1, mk_r0 m1, j_ref, j_ari, j_arb, j_arr, j_len, j_nar, j_oi, j_ol, j_of, j_od, j_or, j_ov, true_and, and_true]
  refine sp_X9_copy hl hB (fr := 0) (tr := 0) (mk_a0 m1) (mk_a2 m1) (by omega) (by omega) (by omega) (by omega) (Or.inl (by omega)) (fun h2 f2 c2 o2 => ?_)
  have m2 := mk_FA m1 f2
  simp only [mk_sh m2, mk_r6 m2, mk_r5 m2, j_ref, j_ari, j_arb, j_arr, j_len, j_nar, j_oi, j_ol, j_of, j_od, j_or, j_ov, true_and, and_true]
  refine sp_X9_copyTimes hl (FA_bd f2 hB) (fr := 0) (tr := 0) (mk_a5 m2) (mk_a6 m2) (by omega) (by omega) (by omega) (by omega) (Or.inl (by omega)) (fun h3 f3 c3 o3 => ?_)
  simp only [j_ref, j_ari, j_arb, j_arr, j_len, j_nar, j_oi, j_ol, j_of, j_od, j_or, j_ov, true_and, and_true]
  have F3 : FA (fun b => b = m + 3 ∨ b = m + 7) h h3 := FA_tr (FA_mono f2 (fun b e => Or.inl e)) (FA_mono f3 (fun b e => Or.inr e))
  refine H h3 ⟨⟨mk_FA m2 f3, RG_cp s.2.1 (fun k _ => F3.2.2.2.2.2.2.1 _ _ (by omega)), RGV_cp s.2.2.1 (fun k _ => F3.2.2.2.2.2.2.2 _ _ (by omega)), FA_bd F3 hB⟩, ⟨RG_cp s.2.1 (fun k hk => ?_), RGV_cp s.2.2.1 (fun k hk => ?_)⟩, FA_mono F3 (fun b e => Or.inr (Or.inr e))⟩
  · have := c2 k hk
    rw [show 4073 * 0 + k = k by omega] at this
    rw [f3.2.2.2.2.2.2.1 _ _ (by omega)]
    exact this
  · have := c3 k hk
    rw [show 306 * 0 + k = k by omega, f2.2.2.2.2.2.2.2 _ _ (by omega)] at this
    exact this
theorem sp_X9_layBack (hl : l.stackTraces = false) {K : Rf} {h1 : j_H} (s : MK E m h M K h1) (H : ∀ h', MK E m h K K h' → Q (.inl none) h') : j_Met l D bs E (d + 2) n_X9_layBack [.ref m] h1 Q := by
  obtain ⟨⟨m1, g1, g2, hB⟩, ⟨k1, k2⟩, f1⟩ := s
  refine j_meth hl rfl g_X9_layBack (Nat.le_of_ble_eq_true rfl) (fun _ => ⟨_, _, rfl, (mk_sh m1)⟩) hB.1 hB.2 (fun G hG => ?_)
  refine b_X9_layBack_0 hG ?_
  dsimp only [q_X9_layBack_0, j_wp, j_opB, j_opA, j_nth, j_i1, j_i2, j_l1, j_l2, j_li, j_f1, j_f2, j_d1, j_d2, j_r1, j_ai, j_aii, j_ail, j_aid, j_air, j_st1, j_st2, j_stu, j_kl, j_cond, j_args, j_out, j_few, j_cw, j_nat, j_pad, j_exp, Nat.reduceAdd]
  simp only [mk_sh m1, mk_r2 m1, mk_r0 m1, j_ref, j_ari, j_arb, j_arr, j_len, j_nar, j_oi, j_ol, j_of, j_od, j_or, j_ov, true_and, and_true]
  refine sp_X9_copy hl hB (fr := 0) (tr := 0) (mk_a2 m1) (mk_a0 m1) (by omega) (by omega) (by omega) (by omega) (Or.inl (by omega)) (fun h2 f2 c2 o2 => ?_)
  have m2 := mk_FA m1 f2
  simp only [mk_sh m2, mk_r6 m2, mk_r5 m2, j_ref, j_ari, j_arb, j_arr, j_len, j_nar, j_oi, j_ol, j_of, j_od, j_or, j_ov, true_and, and_true]
  refine sp_X9_copyTimes hl (FA_bd f2 hB) (fr := 0) (tr := 0) (mk_a6 m2) (mk_a5 m2) (by omega) (by omega) (by omega) (by omega) (Or.inl (by omega)) (fun h3 f3 c3 o3 => ?_)
  simp only [j_ref, j_ari, j_arb, j_arr, j_len, j_nar, j_oi, j_ol, j_of, j_od, j_or, j_ov, true_and, and_true]
  have F3 : FA (fun b => b = m + 1 ∨ b = m + 6) h1 h3 := FA_tr (FA_mono f2 (fun b e => Or.inl e)) (FA_mono f3 (fun b e => Or.inr e))
  refine H h3 ⟨⟨mk_FA m2 f3, RG_cp k1 (fun k hk => ?_), RGV_cp k2 (fun k hk => ?_), FA_bd F3 hB⟩, ⟨RG_cp k1 (fun k _ => F3.2.2.2.2.2.2.1 _ _ (by omega)), RGV_cp k2 (fun k _ => F3.2.2.2.2.2.2.2 _ _ (by omega))⟩, FA_tr f1 (FA_mono F3 (fun b e => e.elim Or.inl (fun z => Or.inr (Or.inl z))))⟩
  · have := c2 k hk
    rw [show 4073 * 0 + k = k by omega] at this
    rw [f3.2.2.2.2.2.2.1 _ _ (by omega)]
    exact this
  · have := c3 k hk
    rw [show 306 * 0 + k = k by omega, f2.2.2.2.2.2.2.2 _ _ (by omega)] at this
    exact this
/-- how many ticks until the packet is delivered: at most k more, c so far -/
def rTil (nf p : Nat) : Nat → Nat → Rf → Int32
  | 0, c, M => if rP M p 3 = 2 then nI c else -1
  | k + 1, c, M => if rP M p 3 = 2 then nI c else rTil nf p k (c + 1) (rTick nf M)
theorem sp_X9_ticksUntilDelivered (hl : l.stackTraces = false) {K : Rf} {h1 : j_H} (s : MK E m h M K h1) {T : Nat → Rf → Prop} {nf p lim : Nat} (hp : p < 100) (hlim : lim < 100000) (hT : T lim M) (hok : ∀ n M, T (n + 1) M → rTickOk nf M ∧ T n (rTick nf M)) (H : ∀ h' M', MK E m h M' K h' → Q (.inl (some (.int (rTil nf p lim 0 M)))) h') : j_Met l D bs E (d + 7) n_X9_ticksUntilDelivered [.ref m, .int (nI p), .int (nI lim)] h1 Q := by
  have hB := s.1.2.2.2
  generalize hr : rTil nf p lim 0 M = res at H
  refine j_meth hl rfl g_X9_ticksUntilDelivered (Nat.le_of_ble_eq_true rfl) (fun _ => ⟨_, _, rfl, (MB_sh s.1)⟩) hB.1 hB.2 (fun G hG => ?_)
  have fin : ∀ (c : Nat) (M1 : Rf) (h2 : j_H), MK E m h M1 K h2 → (if rP M1 p 3 = 2 then nI c else -1) = res → G 27 [.ref m, .int (nI p), .int (nI lim), .int (nI c)] [] h2 := by
    intro c M1 h2 s2 e
    refine b_X9_ticksUntilDelivered_27 hG ?_
    dsimp only [q_X9_ticksUntilDelivered_27, j_wp, j_opB, j_opA, j_nth, j_i1, j_i2, j_l1, j_l2, j_li, j_f1, j_f2, j_d1, j_d2, j_r1, j_ai, j_aii, j_ail, j_aid, j_air, j_st1, j_st2, j_stu, j_kl, j_cond, j_args, j_out, j_few, j_cw, j_nat, j_pad, j_exp, Nat.reduceAdd]
    refine sp_X9_ofPacket hl (MB_q s2.1) hp (k := 3) (by omega) ?_
    simp only [j_ref, j_ari, j_arb, j_arr, j_len, j_nar, j_oi, j_ol, j_of, j_od, j_or, j_ov, true_and, and_true]
    by_cases g : rP M1 p 3 = 2
    · rw [if_pos g] at e ⊢
      refine b_X9_ticksUntilDelivered_42 hG ?_
      dsimp only [q_X9_ticksUntilDelivered_42, j_wp, j_opB, j_opA, j_nth, j_i1, j_i2, j_l1, j_l2, j_li, j_f1, j_f2, j_d1, j_d2, j_r1, j_ai, j_aii, j_ail, j_aid, j_air, j_st1, j_st2, j_stu, j_kl, j_cond, j_args, j_out, j_few, j_cw, j_nat, j_pad, j_exp, Nat.reduceAdd]
      rw [e]
      exact ⟨trivial, H h2 M1 s2⟩
    · rw [if_neg g] at e ⊢
      refine b_X9_ticksUntilDelivered_41 hG ?_
      dsimp only [q_X9_ticksUntilDelivered_41, j_wp, j_opB, j_opA, j_nth, j_i1, j_i2, j_l1, j_l2, j_li, j_f1, j_f2, j_d1, j_d2, j_r1, j_ai, j_aii, j_ail, j_aid, j_air, j_st1, j_st2, j_stu, j_kl, j_cond, j_args, j_out, j_few, j_cw, j_nat, j_pad, j_exp, Nat.reduceAdd]
      refine b_X9_ticksUntilDelivered_42 hG ?_
      dsimp only [q_X9_ticksUntilDelivered_42, j_wp, j_opB, j_opA, j_nth, j_i1, j_i2, j_l1, j_l2, j_li, j_f1, j_f2, j_d1, j_d2, j_r1, j_ai, j_aii, j_ail, j_aid, j_air, j_st1, j_st2, j_stu, j_kl, j_cond, j_args, j_out, j_few, j_cw, j_nat, j_pad, j_exp, Nat.reduceAdd]
      rw [e]
      exact ⟨trivial, H h2 M1 s2⟩
  have loop : ∀ (k c : Nat) (M1 : Rf) (h2 : j_H), c + k = lim → T k M1 → MK E m h M1 K h2 → rTil nf p k c M1 = res → G 2 [.ref m, .int (nI p), .int (nI lim), .int (nI c)] [] h2 := by
    intro k
    induction k with
    | zero =>
      intro c M1 h2 hc t1 s2 e
      unfold rTil at e
      refine b_X9_ticksUntilDelivered_2 hG ?_
      dsimp only [q_X9_ticksUntilDelivered_2, j_wp, j_opB, j_opA, j_nth, j_i1, j_i2, j_l1, j_l2, j_li, j_f1, j_f2, j_d1, j_d2, j_r1, j_ai, j_aii, j_ail, j_aid, j_air, j_st1, j_st2, j_stu, j_kl, j_cond, j_args, j_out, j_few, j_cw, j_nat, j_pad, j_exp, Nat.reduceAdd]
      rw [if_neg (nI_nlt (by omega) (by omega))]
      exact fin c M1 h2 s2 e
    | succ k ih =>
      intro c M1 h2 hc t1 s2 e
      unfold rTil at e
      refine b_X9_ticksUntilDelivered_2 hG ?_
      dsimp only [q_X9_ticksUntilDelivered_2, j_wp, j_opB, j_opA, j_nth, j_i1, j_i2, j_l1, j_l2, j_li, j_f1, j_f2, j_d1, j_d2, j_r1, j_ai, j_aii, j_ail, j_aid, j_air, j_st1, j_st2, j_stu, j_kl, j_cond, j_args, j_out, j_few, j_cw, j_nat, j_pad, j_exp, Nat.reduceAdd]
      rw [if_pos (nI_lt (by omega) (by omega))]
      refine sp_X9_ofPacket hl (MB_q s2.1) hp (k := 3) (by omega) ?_
      simp only [j_ref, j_ari, j_arb, j_arr, j_len, j_nar, j_oi, j_ol, j_of, j_od, j_or, j_ov, true_and, and_true]
      by_cases g : rP M1 p 3 = 2
      · rw [if_pos g] at e ⊢
        exact fin c M1 h2 s2 (by rw [if_pos g]; exact e)
      · rw [if_neg g] at e ⊢
        refine sp_X9_tick hl (MB_q s2.1) (hok k M1 t1).1 (fun h3 q3 => ?_)
        simp only [j_ref, j_ari, j_arb, j_arr, j_len, j_nar, j_oi, j_ol, j_of, j_od, j_or, j_ov, true_and, and_true]
        rw [nI_1]
        exact ih (c + 1) _ h3 (by omega) (hok k M1 t1).2 (MK_q s2 q3) e
  refine b_X9_ticksUntilDelivered_0 hG ?_
  dsimp only [q_X9_ticksUntilDelivered_0, j_wp, j_opB, j_opA, j_nth, j_i1, j_i2, j_l1, j_l2, j_li, j_f1, j_f2, j_d1, j_d2, j_r1, j_ai, j_aii, j_ail, j_aid, j_air, j_st1, j_st2, j_stu, j_kl, j_cond, j_args, j_out, j_few, j_cw, j_nat, j_pad, j_exp, Nat.reduceAdd]
  exact loop lim 0 M h1 (by omega) hT s hr
theorem sp_X9_mayForecast (hl : l.stackTraces = false) (s : MB E m M h) {n : Nat} (hn : n ≤ 100) (hx : rX M 2 = nI n) {v w : Int32} {most : Nat} (hm : most < 2 ^ 29) (H1 : ¬ inx v n → Q (.inl (some (.int 0))) (j_setI h m 10 1)) (H2 : inx v n → ¬ inx w (most + 1) → Q (.inl (some (.int 0))) (j_setI h m 10 2)) (H0 : inx v n → inx w (most + 1) → Q (.inl (some (.int 1))) (j_setI h m 10 0)) : j_Met l D bs E (d + 3) n_X9_mayForecast [.ref m, .int v, .int w, .int (nI most)] h Q := by
  have hB := s.2.2.2
  refine j_meth hl rfl g_X9_mayForecast (Nat.le_of_ble_eq_true rfl) (fun _ => ⟨_, _, rfl, (MB_sh s)⟩) hB.1 hB.2 (fun G hG => ?_)
  have fin : ∀ (t : Int32), Q (.inl (some (.int (if t = 0 then 1 else 0)))) (j_setI h m 10 t) → G 27 [.ref m, .int v, .int w, .int (nI most)] [.int t, .ref m] h := by
    intro t K
    have q := MB_sh (MB_I s (k := 10) t)
    refine b_X9_mayForecast_27 hG ?_
    dsimp only [q_X9_mayForecast_27, j_wp, j_opB, j_opA, j_nth, j_i1, j_i2, j_l1, j_l2, j_li, j_f1, j_f2, j_d1, j_d2, j_r1, j_ai, j_aii, j_ail, j_aid, j_air, j_st1, j_st2, j_stu, j_kl, j_cond, j_args, j_out, j_few, j_cw, j_nat, j_pad, j_exp, Nat.reduceAdd]
    simp only [MB_sh s, q, jh_Is, j_ref, j_ari, j_arb, j_arr, j_len, j_nar, j_oi, j_ol, j_of, j_od, j_or, j_ov, true_and, and_true]
    by_cases g : t = 0
    · rw [if_pos g] at K ⊢
      refine b_X9_mayForecast_42 hG ?_
      dsimp only [q_X9_mayForecast_42, j_wp, j_opB, j_opA, j_nth, j_i1, j_i2, j_l1, j_l2, j_li, j_f1, j_f2, j_d1, j_d2, j_r1, j_ai, j_aii, j_ail, j_aid, j_air, j_st1, j_st2, j_stu, j_kl, j_cond, j_args, j_out, j_few, j_cw, j_nat, j_pad, j_exp, Nat.reduceAdd]
      exact ⟨(by first | exact Or.inl rfl | exact Or.inr rfl | decide), K⟩
    · rw [if_neg g] at K ⊢
      refine b_X9_mayForecast_41 hG ?_
      dsimp only [q_X9_mayForecast_41, j_wp, j_opB, j_opA, j_nth, j_i1, j_i2, j_l1, j_l2, j_li, j_f1, j_f2, j_d1, j_d2, j_r1, j_ai, j_aii, j_ail, j_aid, j_air, j_st1, j_st2, j_stu, j_kl, j_cond, j_args, j_out, j_few, j_cw, j_nat, j_pad, j_exp, Nat.reduceAdd]
      refine b_X9_mayForecast_42 hG ?_
      dsimp only [q_X9_mayForecast_42, j_wp, j_opB, j_opA, j_nth, j_i1, j_i2, j_l1, j_l2, j_li, j_f1, j_f2, j_d1, j_d2, j_r1, j_ai, j_aii, j_ail, j_aid, j_air, j_st1, j_st2, j_stu, j_kl, j_cond, j_args, j_out, j_few, j_cw, j_nat, j_pad, j_exp, Nat.reduceAdd]
      exact ⟨(by first | exact Or.inl rfl | exact Or.inr rfl | decide), K⟩
  refine b_X9_mayForecast_0 hG ?_
  dsimp only [q_X9_mayForecast_0, j_wp, j_opB, j_opA, j_nth, j_i1, j_i2, j_l1, j_l2, j_li, j_f1, j_f2, j_d1, j_d2, j_r1, j_ai, j_aii, j_ail, j_aid, j_air, j_st1, j_st2, j_stu, j_kl, j_cond, j_args, j_out, j_few, j_cw, j_nat, j_pad, j_exp, Nat.reduceAdd]
  refine sp_X9_isPacket hl (MB_q s) ?_
  simp only [j_ref, j_ari, j_arb, j_arr, j_len, j_nar, j_oi, j_ol, j_of, j_od, j_or, j_ov, true_and, and_true, hx]
  by_cases g1 : inx v n
  · simp only [rIn_y (by omega) g1, if_true]
    rw [if_neg (by decide)]
    refine b_X9_mayForecast_13 hG ?_
    dsimp only [q_X9_mayForecast_13, j_wp, j_opB, j_opA, j_nth, j_i1, j_i2, j_l1, j_l2, j_li, j_f1, j_f2, j_d1, j_d2, j_r1, j_ai, j_aii, j_ail, j_aid, j_air, j_st1, j_st2, j_stu, j_kl, j_cond, j_args, j_out, j_few, j_cw, j_nat, j_pad, j_exp, Nat.reduceAdd]
    refine sp_X9_inRange hl hB ?_
    simp only [j_ref, j_ari, j_arb, j_arr, j_len, j_nar, j_oi, j_ol, j_of, j_od, j_or, j_ov, true_and, and_true]
    have e1 : nI most = nI (most + 1) - 1 := (nI_pred most).symm
    rw [e1]
    by_cases g2 : inx w (most + 1)
    · simp only [rIn_y (by omega) g2, if_true]
      rw [if_neg (by decide), ← e1]
      exact fin 0 (H0 g1 g2)
    · simp only [rIn_n (by omega) g2, Bool.false_eq_true, if_false, if_true]
      rw [← e1]
      refine b_X9_mayForecast_26 hG ?_
      dsimp only [q_X9_mayForecast_26, j_wp, j_opB, j_opA, j_nth, j_i1, j_i2, j_l1, j_l2, j_li, j_f1, j_f2, j_d1, j_d2, j_r1, j_ai, j_aii, j_ail, j_aid, j_air, j_st1, j_st2, j_stu, j_kl, j_cond, j_args, j_out, j_few, j_cw, j_nat, j_pad, j_exp, Nat.reduceAdd]
      exact fin 2 (H2 g1 g2)
  · simp only [rIn_n (by omega) g1, Bool.false_eq_true, if_false, if_true]
    exact fin 1 (H1 g1)
theorem sp_X9_forecast (hl : l.stackTraces = false) (s : MB E m M h) {n nf : Nat} (hn : n ≤ 100) (hx : rX M 2 = nI n) {T : Nat → Rf → Prop} (hT : ∀ k, k < 1001 → T k M) (hok : ∀ n M, T (n + 1) M → rTickOk nf M ∧ T n (rTick nf M)) {v w : Int32} (H1 : ¬ inx v n → Q (.inl (some (.int 0))) (j_setI h m 10 1)) (H2 : inx v n → ¬ inx w 1001 → Q (.inl (some (.int 0))) (j_setI h m 10 2)) (H0 : ∀ p k, p < n → v = nI p → k < 1001 → w = nI k → ∀ h', MK E m (j_setI h m 10 0) M M h' → Q (.inl (some (.int (rTil nf p k 0 M)))) h') : j_Met l D bs E (d + 8) n_X9_forecast [.ref m, .int v, .int w] h Q := by
  have hB := s.2.2.2
  refine j_meth hl rfl g_X9_forecast (Nat.le_of_ble_eq_true rfl) (fun _ => ⟨_, _, rfl, (MB_sh s)⟩) hB.1 hB.2 (fun G hG => ?_)
  refine b_X9_forecast_0 hG ?_
  dsimp only [q_X9_forecast_0, j_wp, j_opB, j_opA, j_nth, j_i1, j_i2, j_l1, j_l2, j_li, j_f1, j_f2, j_d1, j_d2, j_r1, j_ai, j_aii, j_ail, j_aid, j_air, j_st1, j_st2, j_stu, j_kl, j_cond, j_args, j_out, j_few, j_cw, j_nat, j_pad, j_exp, Nat.reduceAdd]
  refine sp_X9_mayForecast hl s hn hx (most := 1000) (by omega) (fun g1 => ?_) (fun g1 g2 => ?_) (fun g1 g2 => ?_)
  · simp only [j_ref, j_ari, j_arb, j_arr, j_len, j_nar, j_oi, j_ol, j_of, j_od, j_or, j_ov, true_and, and_true, if_true]
    exact H1 g1
  · simp only [j_ref, j_ari, j_arb, j_arr, j_len, j_nar, j_oi, j_ol, j_of, j_od, j_or, j_ov, true_and, and_true, if_true]
    exact H2 g1 g2
  · simp only [j_ref, j_ari, j_arb, j_arr, j_len, j_nar, j_oi, j_ol, j_of, j_od, j_or, j_ov, true_and, and_true]
    rw [if_neg (by decide)]
    obtain ⟨p, hp, rfl⟩ := g1
    obtain ⟨k, hk, rfl⟩ := g2
    refine b_X9_forecast_14 hG ?_
    dsimp only [q_X9_forecast_14, j_wp, j_opB, j_opA, j_nth, j_i1, j_i2, j_l1, j_l2, j_li, j_f1, j_f2, j_d1, j_d2, j_r1, j_ai, j_aii, j_ail, j_aid, j_air, j_st1, j_st2, j_stu, j_kl, j_cond, j_args, j_out, j_few, j_cw, j_nat, j_pad, j_exp, Nat.reduceAdd]
    refine sp_X9_layAside hl (MB_I s (k := 10) 0) (fun h1 k1 => ?_)
    simp only [j_ref, j_ari, j_arb, j_arr, j_len, j_nar, j_oi, j_ol, j_of, j_od, j_or, j_ov, true_and, and_true]
    refine sp_X9_ticksUntilDelivered hl k1 (p := p) (lim := k) (by omega) (by omega) (hT k hk) hok (fun h2 M2 k2 => ?_)
    simp only [j_ref, j_ari, j_arb, j_arr, j_len, j_nar, j_oi, j_ol, j_of, j_od, j_or, j_ov, true_and, and_true, j_st1, j_kl]
    refine sp_X9_layBack hl k2 (fun h3 k3 => ?_)
    simp only [j_ref, j_ari, j_arb, j_arr, j_len, j_nar, j_oi, j_ol, j_of, j_od, j_or, j_ov, true_and, and_true]
    exact H0 p k hp rfl hk rfl h3 k3
/-- the least weight, of k from w on, with which the packet p of the flow f is delivered in time -/
def rWgt (nf p f lim : Nat) (M : Rf) : Nat → Nat → Int32
  | 0, _ => -1
  | k + 1, w => if rTil nf p lim 0 (rsF M f 0 (nI w)) = -1 then rWgt nf p f lim M k (w + 1) else nI w
set_option maxRecDepth 8000 in
theorem sp_X9_weightFor (hl : l.stackTraces = false) (s : MB E m M h) {n nf : Nat} (hn : n ≤ 100) (hx : rX M 2 = nI n) (hpf : ∀ p, p < n → ∃ f, f < 6 ∧ rP M p 0 = nI f) {T : Nat → Rf → Prop} (hT : ∀ p f w k, p < n → rP M p 0 = nI f → 1 ≤ w → w ≤ 16 → k < 301 → T k (rsF M f 0 (nI w))) (hok : ∀ n M, T (n + 1) M → rTickOk nf M ∧ T n (rTick nf M)) {v w : Int32} (H1 : ¬ inx v n → Q (.inl (some (.int 0))) (j_setI h m 10 1)) (H2 : inx v n → ¬ inx w 301 → Q (.inl (some (.int 0))) (j_setI h m 10 2)) (H0 : ∀ p k f, p < n → v = nI p → k < 301 → w = nI k → f < 6 → rP M p 0 = nI f → ∀ h', MK E m (j_setI h m 10 0) M M h' → Q (.inl (some (.int (rWgt nf p f k M 16 1)))) h') : j_Met l D bs E (d + 8) n_X9_weightFor [.ref m, .int v, .int w] h Q := by
  have hB := s.2.2.2
  refine j_meth hl rfl g_X9_weightFor (Nat.le_of_ble_eq_true rfl) (fun _ => ⟨_, _, rfl, (MB_sh s)⟩) hB.1 hB.2 (fun G hG => ?_)
  refine b_X9_weightFor_0 hG ?_
  dsimp only [q_X9_weightFor_0, j_wp, j_opB, j_opA, j_nth, j_i1, j_i2, j_l1, j_l2, j_li, j_f1, j_f2, j_d1, j_d2, j_r1, j_ai, j_aii, j_ail, j_aid, j_air, j_st1, j_st2, j_stu, j_kl, j_cond, j_args, j_out, j_few, j_cw, j_nat, j_pad, j_exp, Nat.reduceAdd]
  refine sp_X9_mayForecast hl s hn hx (most := 300) (by omega) (fun g1 => ?_) (fun g1 g2 => ?_) (fun g1 g2 => ?_)
  · simp only [j_ref, j_ari, j_arb, j_arr, j_len, j_nar, j_oi, j_ol, j_of, j_od, j_or, j_ov, true_and, and_true, if_true]
    exact H1 g1
  · simp only [j_ref, j_ari, j_arb, j_arr, j_len, j_nar, j_oi, j_ol, j_of, j_od, j_or, j_ov, true_and, and_true, if_true]
    exact H2 g1 g2
  · simp only [j_ref, j_ari, j_arb, j_arr, j_len, j_nar, j_oi, j_ol, j_of, j_od, j_or, j_ov, true_and, and_true]
    rw [if_neg (by decide)]
    obtain ⟨p, hp, rfl⟩ := g1
    obtain ⟨k, hk, rfl⟩ := g2
    obtain ⟨f, hf, ef⟩ := hpf p hp
    have H := H0 p k f hp rfl hk rfl hf ef
    generalize hr : rWgt nf p f k M 16 1 = res at H
    have loop : ∀ (j w : Nat) (h1 : j_H), w + j = 17 → 1 ≤ w → MK E m (j_setI h m 10 0) M M h1 → rWgt nf p f k M j w = res → G 23 [.ref m, .int (nI p), .int (nI k), .int (-1), .int (nI w)] [] h1 := by
      intro j
      induction j with
      | zero =>
        intro w h1 hw hw1 k1 e
        unfold rWgt at e
        refine b_X9_weightFor_23 hG ?_
        dsimp only [q_X9_weightFor_23, j_wp, j_opB, j_opA, j_nth, j_i1, j_i2, j_l1, j_l2, j_li, j_f1, j_f2, j_d1, j_d2, j_r1, j_ai, j_aii, j_ail, j_aid, j_air, j_st1, j_st2, j_stu, j_kl, j_cond, j_args, j_out, j_few, j_cw, j_nat, j_pad, j_exp, Nat.reduceAdd]
        rw [if_pos (show (16 : Int32) < nI w from nI_lt (a := 16) (by omega) (by omega))]
        refine b_X9_weightFor_83 hG ?_
        dsimp only [q_X9_weightFor_83, j_wp, j_opB, j_opA, j_nth, j_i1, j_i2, j_l1, j_l2, j_li, j_f1, j_f2, j_d1, j_d2, j_r1, j_ai, j_aii, j_ail, j_aid, j_air, j_st1, j_st2, j_stu, j_kl, j_cond, j_args, j_out, j_few, j_cw, j_nat, j_pad, j_exp, Nat.reduceAdd]
        rw [e]
        exact ⟨trivial, H h1 k1⟩
      | succ j ih =>
        intro w h1 hw hw1 k1 e
        unfold rWgt at e
        have q1 := MB_q k1.1
        have ei : (9 : Int32) + 14 * nI f + 0 = nI (9 + 14 * f + 0) := r_ixF (k := 0)
        refine b_X9_weightFor_23 hG ?_
        dsimp only [q_X9_weightFor_23, j_wp, j_opB, j_opA, j_nth, j_i1, j_i2, j_l1, j_l2, j_li, j_f1, j_f2, j_d1, j_d2, j_r1, j_ai, j_aii, j_ail, j_aid, j_air, j_st1, j_st2, j_stu, j_kl, j_cond, j_args, j_out, j_few, j_cw, j_nat, j_pad, j_exp, Nat.reduceAdd]
        rw [if_neg (show ¬ (16 : Int32) < nI w from nI_nlt (b := w) (a := 16) (by omega) (by omega)), if_pos rfl]
        simp only [ME_sh q1, ME_r0 q1, ME_a0 q1, ME_r5 q1, ME_a5 q1, j_ref, j_ari, j_arb, j_arr, j_len, j_nar, j_oi, j_ol, j_of, j_od, j_or, j_ov, true_and, and_true]
        refine sp_X9_ofPacket hl q1 (f := p) (by omega) (k := 0) (by omega) ?_
        simp only [ME_sh q1, ME_r0 q1, ME_a0 q1, ME_r5 q1, ME_a5 q1, j_ref, j_ari, j_arb, j_arr, j_len, j_nar, j_oi, j_ol, j_of, j_od, j_or, j_ov, true_and, and_true, ef, ei]
        refine ⟨vp_in_nI (by omega) (by omega), ?_⟩
        rw [nI_clamp (by omega)]
        have q2 := ME_F q1 hf (k := 0) (by omega) (nI w)
        refine sp_X9_ticksUntilDelivered hl (MK_q k1 q2) (p := p) (lim := k) (by omega) (by omega) (hT p f w k hp ef (by omega) (by omega) hk) hok (fun h3 M3 k3 => ?_)
        simp only [j_ref, j_ari, j_arb, j_arr, j_len, j_nar, j_oi, j_ol, j_of, j_od, j_or, j_ov, true_and, and_true]
        by_cases g : rTil nf p k 0 (rsF M f 0 (nI w)) = -1
        · rw [if_pos g] at e ⊢
          refine b_X9_weightFor_72 hG ?_
          dsimp only [q_X9_weightFor_72, j_wp, j_opB, j_opA, j_nth, j_i1, j_i2, j_l1, j_l2, j_li, j_f1, j_f2, j_d1, j_d2, j_r1, j_ai, j_aii, j_ail, j_aid, j_air, j_st1, j_st2, j_stu, j_kl, j_cond, j_args, j_out, j_few, j_cw, j_nat, j_pad, j_exp, Nat.reduceAdd]
          refine sp_X9_layBack hl k3 (fun h4 k4 => ?_)
          simp only [j_ref, j_ari, j_arb, j_arr, j_len, j_nar, j_oi, j_ol, j_of, j_od, j_or, j_ov, true_and, and_true]
          rw [nI_1]
          exact ih (w + 1) h4 (by omega) (by omega) k4 e
        · rw [if_neg g] at e ⊢
          refine b_X9_weightFor_70 hG ?_
          dsimp only [q_X9_weightFor_70, j_wp, j_opB, j_opA, j_nth, j_i1, j_i2, j_l1, j_l2, j_li, j_f1, j_f2, j_d1, j_d2, j_r1, j_ai, j_aii, j_ail, j_aid, j_air, j_st1, j_st2, j_stu, j_kl, j_cond, j_args, j_out, j_few, j_cw, j_nat, j_pad, j_exp, Nat.reduceAdd]
          refine b_X9_weightFor_72 hG ?_
          dsimp only [q_X9_weightFor_72, j_wp, j_opB, j_opA, j_nth, j_i1, j_i2, j_l1, j_l2, j_li, j_f1, j_f2, j_d1, j_d2, j_r1, j_ai, j_aii, j_ail, j_aid, j_air, j_st1, j_st2, j_stu, j_kl, j_cond, j_args, j_out, j_few, j_cw, j_nat, j_pad, j_exp, Nat.reduceAdd]
          refine sp_X9_layBack hl k3 (fun h4 k4 => ?_)
          simp only [j_ref, j_ari, j_arb, j_arr, j_len, j_nar, j_oi, j_ol, j_of, j_od, j_or, j_ov, true_and, and_true]
          refine b_X9_weightFor_23 hG ?_
          dsimp only [q_X9_weightFor_23, j_wp, j_opB, j_opA, j_nth, j_i1, j_i2, j_l1, j_l2, j_li, j_f1, j_f2, j_d1, j_d2, j_r1, j_ai, j_aii, j_ail, j_aid, j_air, j_st1, j_st2, j_stu, j_kl, j_cond, j_args, j_out, j_few, j_cw, j_nat, j_pad, j_exp, Nat.reduceAdd]
          rw [if_neg (show ¬ nI w = -1 from nI_ne1 (by omega))]
          have fin : G 83 [.ref m, .int (nI p), .int (nI k), .int (nI w), .int (nI w + 1)] [] h4 := by
            refine b_X9_weightFor_83 hG ?_
            dsimp only [q_X9_weightFor_83, j_wp, j_opB, j_opA, j_nth, j_i1, j_i2, j_l1, j_l2, j_li, j_f1, j_f2, j_d1, j_d2, j_r1, j_ai, j_aii, j_ail, j_aid, j_air, j_st1, j_st2, j_stu, j_kl, j_cond, j_args, j_out, j_few, j_cw, j_nat, j_pad, j_exp, Nat.reduceAdd]
            rw [e]
            exact ⟨trivial, H h4 k4⟩
          split
          · exact fin
          · exact fin
    refine b_X9_weightFor_14 hG ?_
    dsimp only [q_X9_weightFor_14, j_wp, j_opB, j_opA, j_nth, j_i1, j_i2, j_l1, j_l2, j_li, j_f1, j_f2, j_d1, j_d2, j_r1, j_ai, j_aii, j_ail, j_aid, j_air, j_st1, j_st2, j_stu, j_kl, j_cond, j_args, j_out, j_few, j_cw, j_nat, j_pad, j_exp, Nat.reduceAdd]
    refine sp_X9_layAside hl (MB_I s (k := 10) 0) (fun h1 k1 => ?_)
    simp only [j_ref, j_ari, j_arb, j_arr, j_len, j_nar, j_oi, j_ol, j_of, j_od, j_or, j_ov, true_and, and_true, j_st1, j_kl]
    exact loop 16 1 h1 (by omega) (by omega) k1 hr
end RefH
