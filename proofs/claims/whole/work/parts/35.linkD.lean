/-! ===== Link: choosing a flow, sending, arriving ===== -/
theorem lg_lt {x y : Int64} : lg_cmp x y < 0 ↔ x < y := by
  unfold lg_cmp
  constructor
  · intro h
    split at h
    · exact absurd h (by decide)
    · split at h
      · exact absurd h (by decide)
      · rename_i h1 h2
        rw [Int64.lt_iff_toInt_lt]
        have h3 : ¬ y.toInt < x.toInt := fun z => h1 (Int64.lt_iff_toInt_lt.mpr z)
        have h4 : x.toInt ≠ y.toInt := fun z => h2 (Int64.toInt_inj.mp z)
        omega
  · intro h
    have h0 := Int64.lt_iff_toInt_lt.mp h
    rw [if_neg (fun z => by have := Int64.lt_iff_toInt_lt.mp z; omega), if_neg (fun z => by rw [z] at h0; omega)]
    decide
theorem lg_gt {x y : Int64} : 0 < lg_cmp x y ↔ y < x := by
  unfold lg_cmp
  constructor
  · intro h
    split at h
    · assumption
    · split at h
      · exact absurd h (by decide)
      · exact absurd h (by decide)
  · intro h
    rw [if_pos h]
    decide
/-- the least by V of those that count, the first of equals: -1 if there is none -/
def lPick (V : Nat → Int64) (ok : Nat → Bool) : Nat → Nat → Int32 → Int32
  | 0, _, b => b
  | k + 1, f, b => lPick V ok k (f + 1) (if ok f = true ∧ (b = -1 ∨ V f < V b.toNatClampNeg) then nI f else b)
theorem lPick_ix {V : Nat → Int64} {ok : Nat → Bool} {N : Nat} : ∀ {k f : Nat} {b : Int32}, f + k ≤ N → ix N b → ix N (lPick V ok k f b) := by
  intro k
  induction k with
  | zero => intro f b _ hb; exact hb
  | succ k ih =>
    intro f b h hb
    unfold lPick
    refine ih (by omega) ?_
    split
    · exact Or.inr ⟨f, by omega, rfl⟩
    · exact hb
section LnkD
variable {l : Launch} {D : va_G} {bs : Nat} {E : j_E} {h0 h : j_H} {a : Nat} {L : Lnk} {d : Nat} {Q : j_O → j_H → Prop}
def lServe (L : Lnk) (nf : Nat) : Int32 := lPick (lV L) (fun f => decide (0 < lF L f 7)) nf 0 (-1)
theorem sp_X1_flowToServe (hl : l.stackTraces = false) (s : LQ E h0 a L h) {nf : Nat} (hnf : nf ≤ 6) (hx : lX L 5 = nI nf) (H : Q (.inl (some (.int (lServe L nf)))) h) : j_Met l D bs E (d + 2) n_X1_flowToServe [.ref a] h Q := by
  have hB := s.2.2
  unfold lServe at H
  generalize hr : lPick (lV L) (fun f => decide (0 < lF L f 7)) nf 0 (-1) = res at H
  have loop : ∀ {G : j_G}, j_clo (j_Met l D bs E (d + 1)) E Q m_X1_flowToServe G → ∀ (k f : Nat) (b : Int32), f + k = nf → ix 6 b → lPick (lV L) (fun f => decide (0 < lF L f 7)) k f b = res → G 4 [.ref a, .int b, .int (nI f)] [] h := by
    intro G hG k
    induction k with
    | zero =>
      intro f b hf _ hw
      have e : b = res := hw
      subst e
      refine b_X1_flowToServe_4 hG ?_
      dsimp only [q_X1_flowToServe_4, j_wp, j_opB, j_opA, j_nth, j_i1, j_i2, j_l1, j_l2, j_li, j_f1, j_f2, j_d1, j_d2, j_r1, j_ai, j_aii, j_ail, j_aid, j_air, j_st1, j_st2, j_stu, j_kl, j_cond, j_args, j_out, j_few, j_cw, j_nat, j_pad, j_exp, Nat.reduceAdd]
      simp only [LQ_sh s, LQ_R0 s, LQ_R1 s, LQ_R2 s, LQ_R3 s, LQ_R4 s, j_ref, j_ari, j_arb, j_arr, j_len, j_nar, j_oi, j_ol, j_of, j_od, j_or, j_ov, true_and, and_true, LQ_x5 s, hx]
      rw [if_neg (nI_nlt (by omega) (by omega))]
      refine b_X1_flowToServe_52 hG ?_
      dsimp only [q_X1_flowToServe_52, j_wp, j_opB, j_opA, j_nth, j_i1, j_i2, j_l1, j_l2, j_li, j_f1, j_f2, j_d1, j_d2, j_r1, j_ai, j_aii, j_ail, j_aid, j_air, j_st1, j_st2, j_stu, j_kl, j_cond, j_args, j_out, j_few, j_cw, j_nat, j_pad, j_exp, Nat.reduceAdd]
      simp only [LQ_sh s, LQ_R0 s, LQ_R1 s, LQ_R2 s, LQ_R3 s, LQ_R4 s, j_ref, j_ari, j_arb, j_arr, j_len, j_nar, j_oi, j_ol, j_of, j_od, j_or, j_ov, true_and, and_true]
      exact H
    | succ k ih =>
      intro f b hf hb hw
      have nxt : ∀ b', ix 6 b' → lPick (lV L) (fun f => decide (0 < lF L f 7)) k (f + 1) b' = res → G 46 [.ref a, .int b', .int (nI f)] [] h := by
        intro b' hb' hw'
        refine b_X1_flowToServe_46 hG ?_
        dsimp only [q_X1_flowToServe_46, j_wp, j_opB, j_opA, j_nth, j_i1, j_i2, j_l1, j_l2, j_li, j_f1, j_f2, j_d1, j_d2, j_r1, j_ai, j_aii, j_ail, j_aid, j_air, j_st1, j_st2, j_stu, j_kl, j_cond, j_args, j_out, j_few, j_cw, j_nat, j_pad, j_exp, Nat.reduceAdd]
        rw [nI_1]
        exact ih (f + 1) b' (by omega) hb' hw'
      unfold lPick at hw
      refine b_X1_flowToServe_4 hG ?_
      dsimp only [q_X1_flowToServe_4, j_wp, j_opB, j_opA, j_nth, j_i1, j_i2, j_l1, j_l2, j_li, j_f1, j_f2, j_d1, j_d2, j_r1, j_ai, j_aii, j_ail, j_aid, j_air, j_st1, j_st2, j_stu, j_kl, j_cond, j_args, j_out, j_few, j_cw, j_nat, j_pad, j_exp, Nat.reduceAdd]
      simp only [LQ_sh s, LQ_R0 s, LQ_R1 s, LQ_R2 s, LQ_R3 s, LQ_R4 s, j_ref, j_ari, j_arb, j_arr, j_len, j_nar, j_oi, j_ol, j_of, j_od, j_or, j_ov, true_and, and_true, LQ_x5 s, hx]
      rw [if_pos (nI_lt (by omega) (by omega))]
      refine lf_get hl s (f := f) (by omega) (k := 7) (by omega) ?_
      simp only [LQ_sh s, LQ_R0 s, LQ_R1 s, LQ_R2 s, LQ_R3 s, LQ_R4 s, j_ref, j_ari, j_arb, j_arr, j_len, j_nar, j_oi, j_ol, j_of, j_od, j_or, j_ov, true_and, and_true]
      split
      · rename_i g
        split
        · rename_i g2
          rw [if_pos ⟨by simp [g], Or.inl g2⟩] at hw
          refine b_X1_flowToServe_44 hG ?_
          dsimp only [q_X1_flowToServe_44, j_wp, j_opB, j_opA, j_nth, j_i1, j_i2, j_l1, j_l2, j_li, j_f1, j_f2, j_d1, j_d2, j_r1, j_ai, j_aii, j_ail, j_aid, j_air, j_st1, j_st2, j_stu, j_kl, j_cond, j_args, j_out, j_few, j_cw, j_nat, j_pad, j_exp, Nat.reduceAdd]
          exact nxt _ (Or.inr ⟨f, by omega, rfl⟩) hw
        · rename_i g2
          rcases hb with hb | ⟨q, hq, hb⟩
          · exact absurd hb g2
          · subst hb
            refine lz_get hl s (f := f) (by omega) ?_
            simp only [LQ_sh s, LQ_R0 s, LQ_R1 s, LQ_R2 s, LQ_R3 s, LQ_R4 s, j_ref, j_ari, j_arb, j_arr, j_len, j_nar, j_oi, j_ol, j_of, j_od, j_or, j_ov, true_and, and_true]
            refine lz_get hl s (f := q) (by omega) ?_
            simp only [LQ_sh s, LQ_R0 s, LQ_R1 s, LQ_R2 s, LQ_R3 s, LQ_R4 s, j_ref, j_ari, j_arb, j_arr, j_len, j_nar, j_oi, j_ol, j_of, j_od, j_or, j_ov, true_and, and_true]
            split
            · rename_i g3
              rw [if_pos ⟨by simp [g], Or.inr (by rw [nI_clamp (by omega)]; exact lg_lt.mp g3)⟩] at hw
              refine b_X1_flowToServe_44 hG ?_
              dsimp only [q_X1_flowToServe_44, j_wp, j_opB, j_opA, j_nth, j_i1, j_i2, j_l1, j_l2, j_li, j_f1, j_f2, j_d1, j_d2, j_r1, j_ai, j_aii, j_ail, j_aid, j_air, j_st1, j_st2, j_stu, j_kl, j_cond, j_args, j_out, j_few, j_cw, j_nat, j_pad, j_exp, Nat.reduceAdd]
              exact nxt _ (Or.inr ⟨f, by omega, rfl⟩) hw
            · rename_i g3
              rw [if_neg (fun z => z.2.elim g2 (fun z => g3 (lg_lt.mpr (by rw [nI_clamp (by omega)] at z; exact z))))] at hw
              exact nxt _ (Or.inr ⟨q, by omega, rfl⟩) hw
      · rename_i g
        rw [if_neg (fun z => by simp [g] at z)] at hw
        exact nxt _ hb hw
  refine j_meth hl rfl g_X1_flowToServe (Nat.le_of_ble_eq_true rfl) (fun _ => ⟨_, _, rfl, (LQ_sh s)⟩) hB.1 hB.2 (fun G hG => ?_)
  refine b_X1_flowToServe_0 hG ?_
  dsimp only [q_X1_flowToServe_0, j_wp, j_opB, j_opA, j_nth, j_i1, j_i2, j_l1, j_l2, j_li, j_f1, j_f2, j_d1, j_d2, j_r1, j_ai, j_aii, j_ail, j_aid, j_air, j_st1, j_st2, j_stu, j_kl, j_cond, j_args, j_out, j_few, j_cw, j_nat, j_pad, j_exp, Nat.reduceAdd]
  exact loop hG nf 0 (-1) (by omega) (Or.inl rfl) hr
def lLeast (L : Lnk) (nf : Nat) (x : Int32) : Int32 := lPick (lV L) (fun f => decide (¬ nI f = x) && lBusy L f) nf 0 (-1)
theorem sp_X1_leastBusyFlow (hl : l.stackTraces = false) (s : LQ E h0 a L h) {nf : Nat} {x : Int32} (hnf : nf ≤ 6) (hx : lX L 5 = nI nf) (H : Q (.inl (some (.int (lLeast L nf x)))) h) : j_Met l D bs E (d + 3) n_X1_leastBusyFlow [.ref a, .int x] h Q := by
  have hB := s.2.2
  unfold lLeast at H
  generalize hr : lPick (lV L) (fun f => decide (¬ nI f = x) && lBusy L f) nf 0 (-1) = res at H
  have loop : ∀ {G : j_G}, j_clo (j_Met l D bs E (d + 2)) E Q m_X1_leastBusyFlow G → ∀ (k f : Nat) (b : Int32), f + k = nf → ix 6 b → lPick (lV L) (fun f => decide (¬ nI f = x) && lBusy L f) k f b = res → G 4 [.ref a, .int x, .int b, .int (nI f)] [] h := by
    intro G hG k
    induction k with
    | zero =>
      intro f b hf _ hw
      have e : b = res := hw
      subst e
      refine b_X1_leastBusyFlow_4 hG ?_
      dsimp only [q_X1_leastBusyFlow_4, j_wp, j_opB, j_opA, j_nth, j_i1, j_i2, j_l1, j_l2, j_li, j_f1, j_f2, j_d1, j_d2, j_r1, j_ai, j_aii, j_ail, j_aid, j_air, j_st1, j_st2, j_stu, j_kl, j_cond, j_args, j_out, j_few, j_cw, j_nat, j_pad, j_exp, Nat.reduceAdd]
      simp only [LQ_sh s, LQ_R0 s, LQ_R1 s, LQ_R2 s, LQ_R3 s, LQ_R4 s, j_ref, j_ari, j_arb, j_arr, j_len, j_nar, j_oi, j_ol, j_of, j_od, j_or, j_ov, true_and, and_true, LQ_x5 s, hx]
      rw [if_neg (nI_nlt (by omega) (by omega))]
      refine b_X1_leastBusyFlow_52 hG ?_
      dsimp only [q_X1_leastBusyFlow_52, j_wp, j_opB, j_opA, j_nth, j_i1, j_i2, j_l1, j_l2, j_li, j_f1, j_f2, j_d1, j_d2, j_r1, j_ai, j_aii, j_ail, j_aid, j_air, j_st1, j_st2, j_stu, j_kl, j_cond, j_args, j_out, j_few, j_cw, j_nat, j_pad, j_exp, Nat.reduceAdd]
      simp only [LQ_sh s, LQ_R0 s, LQ_R1 s, LQ_R2 s, LQ_R3 s, LQ_R4 s, j_ref, j_ari, j_arb, j_arr, j_len, j_nar, j_oi, j_ol, j_of, j_od, j_or, j_ov, true_and, and_true]
      exact H
    | succ k ih =>
      intro f b hf hb hw
      have nxt : ∀ b', ix 6 b' → lPick (lV L) (fun f => decide (¬ nI f = x) && lBusy L f) k (f + 1) b' = res → G 46 [.ref a, .int x, .int b', .int (nI f)] [] h := by
        intro b' hb' hw'
        refine b_X1_leastBusyFlow_46 hG ?_
        dsimp only [q_X1_leastBusyFlow_46, j_wp, j_opB, j_opA, j_nth, j_i1, j_i2, j_l1, j_l2, j_li, j_f1, j_f2, j_d1, j_d2, j_r1, j_ai, j_aii, j_ail, j_aid, j_air, j_st1, j_st2, j_stu, j_kl, j_cond, j_args, j_out, j_few, j_cw, j_nat, j_pad, j_exp, Nat.reduceAdd]
        rw [nI_1]
        exact ih (f + 1) b' (by omega) hb' hw'
      unfold lPick at hw
      refine b_X1_leastBusyFlow_4 hG ?_
      dsimp only [q_X1_leastBusyFlow_4, j_wp, j_opB, j_opA, j_nth, j_i1, j_i2, j_l1, j_l2, j_li, j_f1, j_f2, j_d1, j_d2, j_r1, j_ai, j_aii, j_ail, j_aid, j_air, j_st1, j_st2, j_stu, j_kl, j_cond, j_args, j_out, j_few, j_cw, j_nat, j_pad, j_exp, Nat.reduceAdd]
      simp only [LQ_sh s, LQ_R0 s, LQ_R1 s, LQ_R2 s, LQ_R3 s, LQ_R4 s, j_ref, j_ari, j_arb, j_arr, j_len, j_nar, j_oi, j_ol, j_of, j_od, j_or, j_ov, true_and, and_true, LQ_x5 s, hx]
      rw [if_pos (nI_lt (by omega) (by omega))]
      split
      · rename_i g0
        rw [if_neg (fun z => by simp [g0] at z)] at hw
        exact nxt _ hb hw
      · rename_i g0
        refine sp_X1_isBusy hl s (f := f) (by omega) ?_
        simp only [LQ_sh s, LQ_R0 s, LQ_R1 s, LQ_R2 s, LQ_R3 s, LQ_R4 s, j_ref, j_ari, j_arb, j_arr, j_len, j_nar, j_oi, j_ol, j_of, j_od, j_or, j_ov, true_and, and_true]
        by_cases g : lBusy L f = true
        · simp only [g, if_true]
          rw [if_neg (by decide)]
          split
          · rename_i g2
            rw [if_pos ⟨by simp [g0, g], Or.inl g2⟩] at hw
            refine b_X1_leastBusyFlow_44 hG ?_
            dsimp only [q_X1_leastBusyFlow_44, j_wp, j_opB, j_opA, j_nth, j_i1, j_i2, j_l1, j_l2, j_li, j_f1, j_f2, j_d1, j_d2, j_r1, j_ai, j_aii, j_ail, j_aid, j_air, j_st1, j_st2, j_stu, j_kl, j_cond, j_args, j_out, j_few, j_cw, j_nat, j_pad, j_exp, Nat.reduceAdd]
            exact nxt _ (Or.inr ⟨f, by omega, rfl⟩) hw
          · rename_i g2
            rcases hb with hb | ⟨q, hq, hb⟩
            · exact absurd hb g2
            · subst hb
              refine lz_get hl s (f := f) (by omega) ?_
              simp only [LQ_sh s, LQ_R0 s, LQ_R1 s, LQ_R2 s, LQ_R3 s, LQ_R4 s, j_ref, j_ari, j_arb, j_arr, j_len, j_nar, j_oi, j_ol, j_of, j_od, j_or, j_ov, true_and, and_true]
              refine lz_get hl s (f := q) (by omega) ?_
              simp only [LQ_sh s, LQ_R0 s, LQ_R1 s, LQ_R2 s, LQ_R3 s, LQ_R4 s, j_ref, j_ari, j_arb, j_arr, j_len, j_nar, j_oi, j_ol, j_of, j_od, j_or, j_ov, true_and, and_true]
              split
              · rename_i g3
                rw [if_pos ⟨by simp [g0, g], Or.inr (by rw [nI_clamp (by omega)]; exact lg_lt.mp g3)⟩] at hw
                refine b_X1_leastBusyFlow_44 hG ?_
                dsimp only [q_X1_leastBusyFlow_44, j_wp, j_opB, j_opA, j_nth, j_i1, j_i2, j_l1, j_l2, j_li, j_f1, j_f2, j_d1, j_d2, j_r1, j_ai, j_aii, j_ail, j_aid, j_air, j_st1, j_st2, j_stu, j_kl, j_cond, j_args, j_out, j_few, j_cw, j_nat, j_pad, j_exp, Nat.reduceAdd]
                exact nxt _ (Or.inr ⟨f, by omega, rfl⟩) hw
              · rename_i g3
                rw [if_neg (fun z => z.2.elim g2 (fun z => g3 (lg_lt.mpr (by rw [nI_clamp (by omega)] at z; exact z))))] at hw
                exact nxt _ (Or.inr ⟨q, by omega, rfl⟩) hw
        · simp only [g, Bool.false_eq_true, if_false, if_true]
          rw [if_neg (fun z => by simp [g] at z)] at hw
          exact nxt _ hb hw
  refine j_meth hl rfl g_X1_leastBusyFlow (Nat.le_of_ble_eq_true rfl) (fun _ => ⟨_, _, rfl, (LQ_sh s)⟩) hB.1 hB.2 (fun G hG => ?_)
  refine b_X1_leastBusyFlow_0 hG ?_
  dsimp only [q_X1_leastBusyFlow_0, j_wp, j_opB, j_opA, j_nth, j_i1, j_i2, j_l1, j_l2, j_li, j_f1, j_f2, j_d1, j_d2, j_r1, j_ai, j_aii, j_ail, j_aid, j_air, j_st1, j_st2, j_stu, j_kl, j_cond, j_args, j_out, j_few, j_cw, j_nat, j_pad, j_exp, Nat.reduceAdd]
  exact loop hG nf 0 (-1) (by omega) (Or.inl rfl) hr
def lSend (L : Lnk) (n f p : Nat) : Lnk :=
  let ch := lP L p 1 * lUnit L f
  let L1 := lsX L 10 (nI n + 1)
  let L2 := lsF L1 f 9 (lF L1 f 9 + 1)
  let L3 := lsF L2 f 16 (lF L2 f 16 + 1)
  let L4 := lsP L3 p 3 1
  let L5 := lsP L4 p 4 (lP L4 p 4 + 1)
  let L6 := lsP L5 p 10 (nI n)
  let L7 := lsS L6 n 0 (nI p)
  let L8 := lsS L7 n 1 (lX L7 11)
  let L9 := lsS L8 n 2 (lAckT L8 f)
  let L10 := lsS L9 n 3 0
  let L11 := lsS L10 n 4 1
  let L12 := lsS L11 n 5 ch
  let L13 := lsV L12 f (lV L12 f + ch.toInt64)
  lsX L13 16 (if lDue L13 n < lX L13 16 then lDue L13 n else lX L13 16)
set_option maxRecDepth 8000 in
theorem sp_X1_send (hl : l.stackTraces = false) (s : LQ E h0 a L h) {n p f : Nat} (hn : n < 300) (hp : p < 100) (hf : f < 6) (H : ∀ h', LQ E h0 a (lSend L n f p) h' → Q (.inl none) h') : j_Met l D bs E (d + 3) n_X1_send [.ref a, .int (nI n), .int (nI f), .int (nI p)] h Q := by
  have hB := s.2.2
  refine j_meth hl rfl g_X1_send (Nat.le_of_ble_eq_true rfl) (fun _ => ⟨_, _, rfl, (LQ_sh s)⟩) hB.1 hB.2 (fun G hG => ?_)
  refine b_X1_send_0 hG ?_
  dsimp only [q_X1_send_0, j_wp, j_opB, j_opA, j_nth, j_i1, j_i2, j_l1, j_l2, j_li, j_f1, j_f2, j_d1, j_d2, j_r1, j_ai, j_aii, j_ail, j_aid, j_air, j_st1, j_st2, j_stu, j_kl, j_cond, j_args, j_out, j_few, j_cw, j_nat, j_pad, j_exp, Nat.reduceAdd]
  simp only [LQ_sh s, LQ_R0 s, LQ_R1 s, LQ_R2 s, LQ_R3 s, LQ_R4 s, j_ref, j_ari, j_arb, j_arr, j_len, j_nar, j_oi, j_ol, j_of, j_od, j_or, j_ov, true_and, and_true]
  refine lp_get hl s hp (k := 1) (by omega) ?_
  simp only [LQ_sh s, LQ_R0 s, LQ_R1 s, LQ_R2 s, LQ_R3 s, LQ_R4 s, j_ref, j_ari, j_arb, j_arr, j_len, j_nar, j_oi, j_ol, j_of, j_od, j_or, j_ov, true_and, and_true]
  refine sp_X1_unitOf hl s.2.2 s.1 hf ?_
  simp only [LQ_sh s, LQ_R0 s, LQ_R1 s, LQ_R2 s, LQ_R3 s, LQ_R4 s, j_ref, j_ari, j_arb, j_arr, j_len, j_nar, j_oi, j_ol, j_of, j_od, j_or, j_ov, true_and, and_true]
  have s1 := LQ_X s 10 (nI n + 1)
  simp only [LQ_sh s1, LQ_R0 s1, LQ_R1 s1, LQ_R2 s1, LQ_R3 s1, LQ_R4 s1, j_ref, j_ari, j_arb, j_arr, j_len, j_nar, j_oi, j_ol, j_of, j_od, j_or, j_ov, true_and, and_true]
  refine lf_add hl s1 hf (k := 9) (by omega) (fun h2 s2 => ?_)
  simp only [LQ_sh s2, LQ_R0 s2, LQ_R1 s2, LQ_R2 s2, LQ_R3 s2, LQ_R4 s2, j_ref, j_ari, j_arb, j_arr, j_len, j_nar, j_oi, j_ol, j_of, j_od, j_or, j_ov, true_and, and_true]
  refine lf_add hl s2 hf (k := 16) (by omega) (fun h3 s3 => ?_)
  simp only [LQ_sh s3, LQ_R0 s3, LQ_R1 s3, LQ_R2 s3, LQ_R3 s3, LQ_R4 s3, j_ref, j_ari, j_arb, j_arr, j_len, j_nar, j_oi, j_ol, j_of, j_od, j_or, j_ov, true_and, and_true]
  refine lp_set hl s3 hp (k := 3) (by omega) (fun h4 s4 => ?_)
  simp only [LQ_sh s4, LQ_R0 s4, LQ_R1 s4, LQ_R2 s4, LQ_R3 s4, LQ_R4 s4, j_ref, j_ari, j_arb, j_arr, j_len, j_nar, j_oi, j_ol, j_of, j_od, j_or, j_ov, true_and, and_true]
  refine lp_add hl s4 hp (k := 4) (by omega) (fun h5 s5 => ?_)
  simp only [LQ_sh s5, LQ_R0 s5, LQ_R1 s5, LQ_R2 s5, LQ_R3 s5, LQ_R4 s5, j_ref, j_ari, j_arb, j_arr, j_len, j_nar, j_oi, j_ol, j_of, j_od, j_or, j_ov, true_and, and_true]
  refine lp_set hl s5 hp (k := 10) (by omega) (fun h6 s6 => ?_)
  simp only [LQ_sh s6, LQ_R0 s6, LQ_R1 s6, LQ_R2 s6, LQ_R3 s6, LQ_R4 s6, j_ref, j_ari, j_arb, j_arr, j_len, j_nar, j_oi, j_ol, j_of, j_od, j_or, j_ov, true_and, and_true]
  refine ls_set hl s6 hn (k := 0) (by omega) (fun h7 s7 => ?_)
  simp only [LQ_sh s7, LQ_R0 s7, LQ_R1 s7, LQ_R2 s7, LQ_R3 s7, LQ_R4 s7, j_ref, j_ari, j_arb, j_arr, j_len, j_nar, j_oi, j_ol, j_of, j_od, j_or, j_ov, true_and, and_true, LQ_x11 s7]
  refine ls_set hl s7 hn (k := 1) (by omega) (fun h8 s8 => ?_)
  simp only [LQ_sh s8, LQ_R0 s8, LQ_R1 s8, LQ_R2 s8, LQ_R3 s8, LQ_R4 s8, j_ref, j_ari, j_arb, j_arr, j_len, j_nar, j_oi, j_ol, j_of, j_od, j_or, j_ov, true_and, and_true]
  refine sp_X1_acknowledgmentTick hl s8 hf ?_
  simp only [LQ_sh s8, LQ_R0 s8, LQ_R1 s8, LQ_R2 s8, LQ_R3 s8, LQ_R4 s8, j_ref, j_ari, j_arb, j_arr, j_len, j_nar, j_oi, j_ol, j_of, j_od, j_or, j_ov, true_and, and_true]
  refine ls_set hl s8 hn (k := 2) (by omega) (fun h9 s9 => ?_)
  simp only [LQ_sh s9, LQ_R0 s9, LQ_R1 s9, LQ_R2 s9, LQ_R3 s9, LQ_R4 s9, j_ref, j_ari, j_arb, j_arr, j_len, j_nar, j_oi, j_ol, j_of, j_od, j_or, j_ov, true_and, and_true]
  refine ls_set hl s9 hn (k := 3) (by omega) (fun h10 s10 => ?_)
  simp only [LQ_sh s10, LQ_R0 s10, LQ_R1 s10, LQ_R2 s10, LQ_R3 s10, LQ_R4 s10, j_ref, j_ari, j_arb, j_arr, j_len, j_nar, j_oi, j_ol, j_of, j_od, j_or, j_ov, true_and, and_true]
  refine ls_set hl s10 hn (k := 4) (by omega) (fun h11 s11 => ?_)
  simp only [LQ_sh s11, LQ_R0 s11, LQ_R1 s11, LQ_R2 s11, LQ_R3 s11, LQ_R4 s11, j_ref, j_ari, j_arb, j_arr, j_len, j_nar, j_oi, j_ol, j_of, j_od, j_or, j_ov, true_and, and_true]
  refine ls_set hl s11 hn (k := 5) (by omega) (fun h12 s12 => ?_)
  simp only [LQ_sh s12, LQ_R0 s12, LQ_R1 s12, LQ_R2 s12, LQ_R3 s12, LQ_R4 s12, j_ref, j_ari, j_arb, j_arr, j_len, j_nar, j_oi, j_ol, j_of, j_od, j_or, j_ov, true_and, and_true]
  refine lz_get hl s12 hf ?_
  simp only [LQ_sh s12, LQ_R0 s12, LQ_R1 s12, LQ_R2 s12, LQ_R3 s12, LQ_R4 s12, j_ref, j_ari, j_arb, j_arr, j_len, j_nar, j_oi, j_ol, j_of, j_od, j_or, j_ov, true_and, and_true]
  refine lz_put hl s12 hf (fun h13 s13 => ?_)
  simp only [LQ_sh s13, LQ_R0 s13, LQ_R1 s13, LQ_R2 s13, LQ_R3 s13, LQ_R4 s13, j_ref, j_ari, j_arb, j_arr, j_len, j_nar, j_oi, j_ol, j_of, j_od, j_or, j_ov, true_and, and_true, LQ_x16 s13]
  refine sp_X1_dueTick hl s13 hn ?_
  simp only [LQ_sh s13, LQ_R0 s13, LQ_R1 s13, LQ_R2 s13, LQ_R3 s13, LQ_R4 s13, j_ref, j_ari, j_arb, j_arr, j_len, j_nar, j_oi, j_ol, j_of, j_od, j_or, j_ov, true_and, and_true]
  exact H _ (LQ_X s13 16 _)
def lRaise (L : Lnk) (nf f : Nat) : Lnk :=
  let z := lLeast L nf (nI f)
  if z = -1 then L
  else
    let fl := lV L z.toNatClampNeg - (lF L f 2).toInt64 * (lUnit L f).toInt64
    if lV L f < fl then lsF (lsV L f fl) f 15 (lF (lsV L f fl) f 15 + 1) else L
theorem sp_X1_raiseVirtual (hl : l.stackTraces = false) (s : LQ E h0 a L h) {nf f : Nat} (hnf : nf ≤ 6) (hx : lX L 5 = nI nf) (hf : f < 6) (H : ∀ h', LQ E h0 a (lRaise L nf f) h' → Q (.inl none) h') : j_Met l D bs E (d + 4) n_X1_raiseVirtual [.ref a, .int (nI f)] h Q := by
  have hB := s.2.2
  dsimp only [lRaise] at H
  have hz : ix 6 (lLeast L nf (nI f)) := lPick_ix (by omega) (Or.inl rfl)
  refine j_meth hl rfl g_X1_raiseVirtual (Nat.le_of_ble_eq_true rfl) (fun _ => ⟨_, _, rfl, (LQ_sh s)⟩) hB.1 hB.2 (fun G hG => ?_)
  refine b_X1_raiseVirtual_0 hG ?_
  dsimp only [q_X1_raiseVirtual_0, j_wp, j_opB, j_opA, j_nth, j_i1, j_i2, j_l1, j_l2, j_li, j_f1, j_f2, j_d1, j_d2, j_r1, j_ai, j_aii, j_ail, j_aid, j_air, j_st1, j_st2, j_stu, j_kl, j_cond, j_args, j_out, j_few, j_cw, j_nat, j_pad, j_exp, Nat.reduceAdd]
  refine sp_X1_leastBusyFlow hl s hnf hx ?_
  simp only [LQ_sh s, LQ_R0 s, LQ_R1 s, LQ_R2 s, LQ_R3 s, LQ_R4 s, j_ref, j_ari, j_arb, j_arr, j_len, j_nar, j_oi, j_ol, j_of, j_od, j_or, j_ov, true_and, and_true]
  rcases hz with hz | ⟨q, hq, hz⟩
  · rw [if_pos hz]
    rw [if_pos hz] at H
    exact H h s
  · have hz1 : ¬ lLeast L nf (nI f) = -1 := by rw [hz]; exact nI_ne1 (by omega)
    rw [if_neg hz1]
    rw [if_neg hz1, show (lLeast L nf (nI f)).toNatClampNeg = q by rw [hz]; exact nI_clamp (by omega)] at H
    rw [hz]
    refine b_X1_raiseVirtual_12 hG ?_
    dsimp only [q_X1_raiseVirtual_12, j_wp, j_opB, j_opA, j_nth, j_i1, j_i2, j_l1, j_l2, j_li, j_f1, j_f2, j_d1, j_d2, j_r1, j_ai, j_aii, j_ail, j_aid, j_air, j_st1, j_st2, j_stu, j_kl, j_cond, j_args, j_out, j_few, j_cw, j_nat, j_pad, j_exp, Nat.reduceAdd]
    simp only [LQ_sh s, LQ_R0 s, LQ_R1 s, LQ_R2 s, LQ_R3 s, LQ_R4 s, j_ref, j_ari, j_arb, j_arr, j_len, j_nar, j_oi, j_ol, j_of, j_od, j_or, j_ov, true_and, and_true]
    refine lf_get hl s hf (k := 2) (by omega) ?_
    simp only [LQ_sh s, LQ_R0 s, LQ_R1 s, LQ_R2 s, LQ_R3 s, LQ_R4 s, j_ref, j_ari, j_arb, j_arr, j_len, j_nar, j_oi, j_ol, j_of, j_od, j_or, j_ov, true_and, and_true]
    refine sp_X1_unitOf hl s.2.2 s.1 hf ?_
    simp only [LQ_sh s, LQ_R0 s, LQ_R1 s, LQ_R2 s, LQ_R3 s, LQ_R4 s, j_ref, j_ari, j_arb, j_arr, j_len, j_nar, j_oi, j_ol, j_of, j_od, j_or, j_ov, true_and, and_true]
    refine lz_get hl s hq ?_
    simp only [LQ_sh s, LQ_R0 s, LQ_R1 s, LQ_R2 s, LQ_R3 s, LQ_R4 s, j_ref, j_ari, j_arb, j_arr, j_len, j_nar, j_oi, j_ol, j_of, j_od, j_or, j_ov, true_and, and_true]
    refine lz_get hl s hf ?_
    simp only [LQ_sh s, LQ_R0 s, LQ_R1 s, LQ_R2 s, LQ_R3 s, LQ_R4 s, j_ref, j_ari, j_arb, j_arr, j_len, j_nar, j_oi, j_ol, j_of, j_od, j_or, j_ov, true_and, and_true]
    split
    · rename_i g
      rw [if_pos (lg_gt.mp g)] at H
      refine lz_put hl s hf (fun h1 s1 => ?_)
      simp only [LQ_sh s1, LQ_R0 s1, LQ_R1 s1, LQ_R2 s1, LQ_R3 s1, LQ_R4 s1, j_ref, j_ari, j_arb, j_arr, j_len, j_nar, j_oi, j_ol, j_of, j_od, j_or, j_ov, true_and, and_true]
      refine lf_add hl s1 hf (k := 15) (by omega) (fun h2 s2 => ?_)
      simp only [LQ_sh s2, LQ_R0 s2, LQ_R1 s2, LQ_R2 s2, LQ_R3 s2, LQ_R4 s2, j_ref, j_ari, j_arb, j_arr, j_len, j_nar, j_oi, j_ol, j_of, j_od, j_or, j_ov, true_and, and_true]
      refine b_X1_raiseVirtual_68 hG ?_
      dsimp only [q_X1_raiseVirtual_68, j_wp, j_opB, j_opA, j_nth, j_i1, j_i2, j_l1, j_l2, j_li, j_f1, j_f2, j_d1, j_d2, j_r1, j_ai, j_aii, j_ail, j_aid, j_air, j_st1, j_st2, j_stu, j_kl, j_cond, j_args, j_out, j_few, j_cw, j_nat, j_pad, j_exp, Nat.reduceAdd]
      exact H h2 s2
    · rename_i g
      rw [if_neg (fun z => g (lg_gt.mpr z))] at H
      refine b_X1_raiseVirtual_68 hG ?_
      dsimp only [q_X1_raiseVirtual_68, j_wp, j_opB, j_opA, j_nth, j_i1, j_i2, j_l1, j_l2, j_li, j_f1, j_f2, j_d1, j_d2, j_r1, j_ai, j_aii, j_ail, j_aid, j_air, j_st1, j_st2, j_stu, j_kl, j_cond, j_args, j_out, j_few, j_cw, j_nat, j_pad, j_exp, Nat.reduceAdd]
      exact H h s
end LnkD
