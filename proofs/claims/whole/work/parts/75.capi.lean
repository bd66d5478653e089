/-! ===== the class: what it answers ===== -/
section CaA
variable {l : Launch} {D : va_G} {bs : Nat} {E : j_E} {h0 h : j_H} {x u w : Nat} {L : Lnk} {d : Nat} {Q : j_O → j_H → Prop}
/-- the class's object at x, its parts behind it; the setup at u, the spare one at w -/
def px (h : j_H) (x u w : Nat) : Prop := j_sh h x = some (.inr 10) ∧ j_R h x 0 = some (x + 1) ∧ j_R h x 1 = some (x + 48) ∧ j_R h x 2 = some (x + 8) ∧ j_R h x 3 = some (x + 24) ∧ j_R h x 4 = some (x + 35) ∧ j_R h x 5 = some (x + 46) ∧ j_R h x 6 = some (x + 49) ∧ j_R h x 7 = some u ∧ j_R h x 8 = some w
theorem px_s (p : px h x u w) : j_sh h x = some (.inr 10) := p.1
theorem px_0 (p : px h x u w) : j_R h x 0 = some (x + 1) := p.2.1
theorem px_1 (p : px h x u w) : j_R h x 1 = some (x + 48) := p.2.2.1
theorem px_2 (p : px h x u w) : j_R h x 2 = some (x + 8) := p.2.2.2.1
theorem px_3 (p : px h x u w) : j_R h x 3 = some (x + 24) := p.2.2.2.2.1
theorem px_4 (p : px h x u w) : j_R h x 4 = some (x + 35) := p.2.2.2.2.2.1
theorem px_5 (p : px h x u w) : j_R h x 5 = some (x + 46) := p.2.2.2.2.2.2.1
theorem px_6 (p : px h x u w) : j_R h x 6 = some (x + 49) := p.2.2.2.2.2.2.2.1
theorem px_7 (p : px h x u w) : j_R h x 7 = some u := p.2.2.2.2.2.2.2.2.1
theorem px_8 (p : px h x u w) : j_R h x 8 = some w := p.2.2.2.2.2.2.2.2.2
/-- there is room for a throw -/
def rm (E : j_E) (h : j_H) : Prop := j_c h + 1 ≤ E.2.1 ∧ j_k h + 6 ≤ E.2.2
theorem rm_bd (r : rm E h) : j_bd E h := ⟨by have := r.1; omega, by have := r.2; omega⟩
theorem sp_X8_requireRange (hl : l.stackTraces = false) (r : rm E h) {v lo hi : Int32} (H1 : ¬ rIn v lo hi = true → ∀ z, j_z h ≤ z → Q (.inr 1) (j_thr h z)) (H0 : rIn v lo hi = true → Q (.inl none) h) : j_Met l D bs E (d + 1) n_X8_requireRange [.int v, .int lo, .int hi] h Q := by
  have hB := rm_bd r
  refine j_meth hl rfl g_X8_requireRange (Nat.le_of_ble_eq_true rfl) (fun z => absurd z (by decide)) hB.1 hB.2 (fun G hG => ?_)
  have bad : ¬ rIn v lo hi = true → G 10 [.int v, .int lo, .int hi] [] h := by
    intro z
    refine b_X8_requireRange_10 hG ?_
    dsimp only [q_X8_requireRange_10, j_wp, j_opB, j_opA, j_nth, j_i1, j_i2, j_l1, j_l2, j_li, j_f1, j_f2, j_d1, j_d2, j_r1, j_ai, j_aii, j_ail, j_aid, j_air, j_st1, j_st2, j_stu, j_kl, j_cond, j_args, j_out, j_few, j_cw, j_nat, j_pad, j_exp, Nat.reduceAdd]
    exact ⟨r.1, r.2, H1 z⟩
  refine b_X8_requireRange_0 hG ?_
  dsimp only [q_X8_requireRange_0, j_wp, j_opB, j_opA, j_nth, j_i1, j_i2, j_l1, j_l2, j_li, j_f1, j_f2, j_d1, j_d2, j_r1, j_ai, j_aii, j_ail, j_aid, j_air, j_st1, j_st2, j_stu, j_kl, j_cond, j_args, j_out, j_few, j_cw, j_nat, j_pad, j_exp, Nat.reduceAdd]
  by_cases g1 : v < lo
  · rw [if_pos g1]
    exact bad (by rw [rIn_f1 g1]; decide)
  · rw [if_neg g1]
    by_cases g2 : hi < v
    · rw [if_pos g2]
      exact bad (by rw [rIn_f2 g2]; decide)
    · rw [if_neg g2]
      refine b_X8_requireRange_21 hG ?_
      dsimp only [q_X8_requireRange_21, j_wp, j_opB, j_opA, j_nth, j_i1, j_i2, j_l1, j_l2, j_li, j_f1, j_f2, j_d1, j_d2, j_r1, j_ai, j_aii, j_ail, j_aid, j_air, j_st1, j_st2, j_stu, j_kl, j_cond, j_args, j_out, j_few, j_cw, j_nat, j_pad, j_exp, Nat.reduceAdd]
      exact H0 (rIn_t g1 g2)
theorem rIn_inx {v : Int32} {n : Nat} (hn : n < 2 ^ 30) : rIn v 0 (nI n - 1) = true ↔ inx v n := by
  constructor
  · intro z
    exact Classical.byContradiction (fun y => by rw [rIn_n hn y] at z; exact absurd z (by decide))
  · exact rIn_y hn
theorem sp_X8_requireAddress (hl : l.stackTraces = false) (r : rm E h) {a b c : Int32} (H1 : ¬ (inx a 256 ∧ inx b 256 ∧ inx c 256) → ∀ z, j_z h ≤ z → Q (.inr 1) (j_thr h z)) (H0 : inx a 256 ∧ inx b 256 ∧ inx c 256 → Q (.inl none) h) : j_Met l D bs E (d + 2) n_X8_requireAddress [.int a, .int b, .int c] h Q := by
  have hB := rm_bd r
  have e : ∀ {v : Int32}, rIn v 0 255 = true ↔ inx v 256 := fun {v} => rIn_inx (n := 256) (by omega)
  refine j_meth hl rfl g_X8_requireAddress (Nat.le_of_ble_eq_true rfl) (fun z => absurd z (by decide)) hB.1 hB.2 (fun G hG => ?_)
  refine b_X8_requireAddress_0 hG ?_
  dsimp only [q_X8_requireAddress_0, j_wp, j_opB, j_opA, j_nth, j_i1, j_i2, j_l1, j_l2, j_li, j_f1, j_f2, j_d1, j_d2, j_r1, j_ai, j_aii, j_ail, j_aid, j_air, j_st1, j_st2, j_stu, j_kl, j_cond, j_args, j_out, j_few, j_cw, j_nat, j_pad, j_exp, Nat.reduceAdd]
  refine sp_X8_requireRange hl r (fun g1 z hz => ?_) (fun g1 => ?_)
  · simp only [j_ref, j_ari, j_arb, j_arr, j_len, j_nar, j_oi, j_ol, j_of, j_od, j_or, j_ov, true_and, and_true]
    exact H1 (fun y => g1 (e.mpr y.1)) z hz
  · simp only [j_ref, j_ari, j_arb, j_arr, j_len, j_nar, j_oi, j_ol, j_of, j_od, j_or, j_ov, true_and, and_true]
    refine sp_X8_requireRange hl r (fun g2 z hz => ?_) (fun g2 => ?_)
    · simp only [j_ref, j_ari, j_arb, j_arr, j_len, j_nar, j_oi, j_ol, j_of, j_od, j_or, j_ov, true_and, and_true]
      exact H1 (fun y => g2 (e.mpr y.2.1)) z hz
    · simp only [j_ref, j_ari, j_arb, j_arr, j_len, j_nar, j_oi, j_ol, j_of, j_od, j_or, j_ov, true_and, and_true]
      refine sp_X8_requireRange hl r (fun g3 z hz => ?_) (fun g3 => ?_)
      · simp only [j_ref, j_ari, j_arb, j_arr, j_len, j_nar, j_oi, j_ol, j_of, j_od, j_or, j_ov, true_and, and_true]
        exact H1 (fun y => g3 (e.mpr y.2.2)) z hz
      · simp only [j_ref, j_ari, j_arb, j_arr, j_len, j_nar, j_oi, j_ol, j_of, j_od, j_or, j_ov, true_and, and_true]
        exact H0 ⟨e.mp g1, e.mp g2, e.mp g3⟩
theorem sp_X8_requireProperty (hl : l.stackTraces = false) (r : rm E h) {v : Int32} {n : Nat} (hn : n < 2 ^ 30) (H1 : ¬ inx v n → ∀ z, j_z h ≤ z → Q (.inr 0) (j_thr h z)) (H0 : inx v n → Q (.inl none) h) : j_Met l D bs E (d + 1) n_X8_requireProperty [.int v, .int (nI n)] h Q := by
  have hB := rm_bd r
  refine j_meth hl rfl g_X8_requireProperty (Nat.le_of_ble_eq_true rfl) (fun z => absurd z (by decide)) hB.1 hB.2 (fun G hG => ?_)
  have bad : ¬ inx v n → G 9 [.int v, .int (nI n)] [] h := by
    intro z
    refine b_X8_requireProperty_9 hG ?_
    dsimp only [q_X8_requireProperty_9, j_wp, j_opB, j_opA, j_nth, j_i1, j_i2, j_l1, j_l2, j_li, j_f1, j_f2, j_d1, j_d2, j_r1, j_ai, j_aii, j_ail, j_aid, j_air, j_st1, j_st2, j_stu, j_kl, j_cond, j_args, j_out, j_few, j_cw, j_nat, j_pad, j_exp, Nat.reduceAdd]
    exact ⟨r.1, r.2, H1 z⟩
  refine b_X8_requireProperty_0 hG ?_
  dsimp only [q_X8_requireProperty_0, j_wp, j_opB, j_opA, j_nth, j_i1, j_i2, j_l1, j_l2, j_li, j_f1, j_f2, j_d1, j_d2, j_r1, j_ai, j_aii, j_ail, j_aid, j_air, j_st1, j_st2, j_stu, j_kl, j_cond, j_args, j_out, j_few, j_cw, j_nat, j_pad, j_exp, Nat.reduceAdd]
  by_cases g1 : v < 0
  · rw [if_pos g1]
    exact bad (fun z => (inx_y (by omega) z).1 g1)
  · rw [if_neg g1]
    by_cases g2 : v < nI n
    · rw [if_pos g2]
      refine b_X8_requireProperty_20 hG ?_
      dsimp only [q_X8_requireProperty_20, j_wp, j_opB, j_opA, j_nth, j_i1, j_i2, j_l1, j_l2, j_li, j_f1, j_f2, j_d1, j_d2, j_r1, j_ai, j_aii, j_ail, j_aid, j_air, j_st1, j_st2, j_stu, j_kl, j_cond, j_args, j_out, j_few, j_cw, j_nat, j_pad, j_exp, Nat.reduceAdd]
      exact H0 (inx_of (by omega) g1 g2)
    · rw [if_neg g2]
      exact bad (fun z => g2 (inx_y (by omega) z).2)
theorem sp_X8_requireFlow (hl : l.stackTraces = false) (p : px h x u w) (q : LQ E h (x + 8) L h) (r : rm E h) {v : Int32} {n : Nat} (hn : n ≤ 6) (hx : lX L 5 = nI n) (H1 : ¬ inx v n → ∀ z, j_z h ≤ z → Q (.inr 0) (j_thr h z)) (H0 : inx v n → Q (.inl none) h) : j_Met l D bs E (d + 1) n_X8_requireFlow [.ref x, .int v] h Q := by
  have hB := rm_bd r
  refine j_meth hl rfl g_X8_requireFlow (Nat.le_of_ble_eq_true rfl) (fun _ => ⟨_, _, rfl, (px_s p)⟩) hB.1 hB.2 (fun G hG => ?_)
  have bad : ¬ inx v n → G 15 [.ref x, .int v] [] h := by
    intro z
    refine b_X8_requireFlow_15 hG ?_
    dsimp only [q_X8_requireFlow_15, j_wp, j_opB, j_opA, j_nth, j_i1, j_i2, j_l1, j_l2, j_li, j_f1, j_f2, j_d1, j_d2, j_r1, j_ai, j_aii, j_ail, j_aid, j_air, j_st1, j_st2, j_stu, j_kl, j_cond, j_args, j_out, j_few, j_cw, j_nat, j_pad, j_exp, Nat.reduceAdd]
    exact ⟨r.1, r.2, H1 z⟩
  refine b_X8_requireFlow_0 hG ?_
  dsimp only [q_X8_requireFlow_0, j_wp, j_opB, j_opA, j_nth, j_i1, j_i2, j_l1, j_l2, j_li, j_f1, j_f2, j_d1, j_d2, j_r1, j_ai, j_aii, j_ail, j_aid, j_air, j_st1, j_st2, j_stu, j_kl, j_cond, j_args, j_out, j_few, j_cw, j_nat, j_pad, j_exp, Nat.reduceAdd]
  simp only [px_s p, px_2 p, LQ_sh q, LQ_x5 q, hx, j_ref, j_ari, j_arb, j_arr, j_len, j_nar, j_oi, j_ol, j_of, j_od, j_or, j_ov, true_and, and_true]
  by_cases g1 : v < 0
  · rw [if_pos g1]
    exact bad (fun z => (inx_y (by omega) z).1 g1)
  · rw [if_neg g1]
    by_cases g2 : v < nI n
    · rw [if_pos g2]
      refine b_X8_requireFlow_26 hG ?_
      dsimp only [q_X8_requireFlow_26, j_wp, j_opB, j_opA, j_nth, j_i1, j_i2, j_l1, j_l2, j_li, j_f1, j_f2, j_d1, j_d2, j_r1, j_ai, j_aii, j_ail, j_aid, j_air, j_st1, j_st2, j_stu, j_kl, j_cond, j_args, j_out, j_few, j_cw, j_nat, j_pad, j_exp, Nat.reduceAdd]
      exact H0 (inx_of (by omega) g1 g2)
    · rw [if_neg g2]
      exact bad (fun z => g2 (inx_y (by omega) z).2)
theorem sp_X8_requirePacket (hl : l.stackTraces = false) (p : px h x u w) (q : LQ E h (x + 8) L h) (r : rm E h) {v : Int32} {n : Nat} (hn : n ≤ 100) (hx : lX L 9 = nI n) (H1 : ¬ inx v n → ∀ z, j_z h ≤ z → Q (.inr 0) (j_thr h z)) (H0 : inx v n → Q (.inl none) h) : j_Met l D bs E (d + 1) n_X8_requirePacket [.ref x, .int v] h Q := by
  have hB := rm_bd r
  refine j_meth hl rfl g_X8_requirePacket (Nat.le_of_ble_eq_true rfl) (fun _ => ⟨_, _, rfl, (px_s p)⟩) hB.1 hB.2 (fun G hG => ?_)
  have bad : ¬ inx v n → G 15 [.ref x, .int v] [] h := by
    intro z
    refine b_X8_requirePacket_15 hG ?_
    dsimp only [q_X8_requirePacket_15, j_wp, j_opB, j_opA, j_nth, j_i1, j_i2, j_l1, j_l2, j_li, j_f1, j_f2, j_d1, j_d2, j_r1, j_ai, j_aii, j_ail, j_aid, j_air, j_st1, j_st2, j_stu, j_kl, j_cond, j_args, j_out, j_few, j_cw, j_nat, j_pad, j_exp, Nat.reduceAdd]
    exact ⟨r.1, r.2, H1 z⟩
  refine b_X8_requirePacket_0 hG ?_
  dsimp only [q_X8_requirePacket_0, j_wp, j_opB, j_opA, j_nth, j_i1, j_i2, j_l1, j_l2, j_li, j_f1, j_f2, j_d1, j_d2, j_r1, j_ai, j_aii, j_ail, j_aid, j_air, j_st1, j_st2, j_stu, j_kl, j_cond, j_args, j_out, j_few, j_cw, j_nat, j_pad, j_exp, Nat.reduceAdd]
  simp only [px_s p, px_2 p, LQ_sh q, LQ_x9 q, hx, j_ref, j_ari, j_arb, j_arr, j_len, j_nar, j_oi, j_ol, j_of, j_od, j_or, j_ov, true_and, and_true]
  by_cases g1 : v < 0
  · rw [if_pos g1]
    exact bad (fun z => (inx_y (by omega) z).1 g1)
  · rw [if_neg g1]
    by_cases g2 : v < nI n
    · rw [if_pos g2]
      refine b_X8_requirePacket_26 hG ?_
      dsimp only [q_X8_requirePacket_26, j_wp, j_opB, j_opA, j_nth, j_i1, j_i2, j_l1, j_l2, j_li, j_f1, j_f2, j_d1, j_d2, j_r1, j_ai, j_aii, j_ail, j_aid, j_air, j_st1, j_st2, j_stu, j_kl, j_cond, j_args, j_out, j_few, j_cw, j_nat, j_pad, j_exp, Nat.reduceAdd]
      exact H0 (inx_of (by omega) g1 g2)
    · rw [if_neg g2]
      exact bad (fun z => g2 (inx_y (by omega) z).2)
theorem sp_X8_requireTransmission (hl : l.stackTraces = false) (p : px h x u w) (q : LQ E h (x + 8) L h) (r : rm E h) {v : Int32} {n : Nat} (hn : n ≤ 300) (hx : lX L 10 = nI n) (H1 : ¬ inx v n → ∀ z, j_z h ≤ z → Q (.inr 0) (j_thr h z)) (H0 : inx v n → Q (.inl none) h) : j_Met l D bs E (d + 1) n_X8_requireTransmission [.ref x, .int v] h Q := by
  have hB := rm_bd r
  refine j_meth hl rfl g_X8_requireTransmission (Nat.le_of_ble_eq_true rfl) (fun _ => ⟨_, _, rfl, (px_s p)⟩) hB.1 hB.2 (fun G hG => ?_)
  have bad : ¬ inx v n → G 15 [.ref x, .int v] [] h := by
    intro z
    refine b_X8_requireTransmission_15 hG ?_
    dsimp only [q_X8_requireTransmission_15, j_wp, j_opB, j_opA, j_nth, j_i1, j_i2, j_l1, j_l2, j_li, j_f1, j_f2, j_d1, j_d2, j_r1, j_ai, j_aii, j_ail, j_aid, j_air, j_st1, j_st2, j_stu, j_kl, j_cond, j_args, j_out, j_few, j_cw, j_nat, j_pad, j_exp, Nat.reduceAdd]
    exact ⟨r.1, r.2, H1 z⟩
  refine b_X8_requireTransmission_0 hG ?_
  dsimp only [q_X8_requireTransmission_0, j_wp, j_opB, j_opA, j_nth, j_i1, j_i2, j_l1, j_l2, j_li, j_f1, j_f2, j_d1, j_d2, j_r1, j_ai, j_aii, j_ail, j_aid, j_air, j_st1, j_st2, j_stu, j_kl, j_cond, j_args, j_out, j_few, j_cw, j_nat, j_pad, j_exp, Nat.reduceAdd]
  simp only [px_s p, px_2 p, LQ_sh q, LQ_x10 q, hx, j_ref, j_ari, j_arb, j_arr, j_len, j_nar, j_oi, j_ol, j_of, j_od, j_or, j_ov, true_and, and_true]
  by_cases g1 : v < 0
  · rw [if_pos g1]
    exact bad (fun z => (inx_y (by omega) z).1 g1)
  · rw [if_neg g1]
    by_cases g2 : v < nI n
    · rw [if_pos g2]
      refine b_X8_requireTransmission_26 hG ?_
      dsimp only [q_X8_requireTransmission_26, j_wp, j_opB, j_opA, j_nth, j_i1, j_i2, j_l1, j_l2, j_li, j_f1, j_f2, j_d1, j_d2, j_r1, j_ai, j_aii, j_ail, j_aid, j_air, j_st1, j_st2, j_stu, j_kl, j_cond, j_args, j_out, j_few, j_cw, j_nat, j_pad, j_exp, Nat.reduceAdd]
      exact H0 (inx_of (by omega) g1 g2)
    · rw [if_neg g2]
      exact bad (fun z => g2 (inx_y (by omega) z).2)
theorem sp_X8_flowCount (hl : l.stackTraces = false) (p : px h x u w) (q : LQ E h (x + 8) L h) (H : Q (.inl (some (.int (lX L 5)))) h) : j_Met l D bs E (d + 1) n_X8_flowCount [.ref x] h Q := by
  have hB := q.2.2
  refine j_meth hl rfl g_X8_flowCount (Nat.le_of_ble_eq_true rfl) (fun _ => ⟨_, _, rfl, (px_s p)⟩) hB.1 hB.2 (fun G hG => ?_)
  refine b_X8_flowCount_0 hG ?_
  dsimp only [q_X8_flowCount_0, j_wp, j_opB, j_opA, j_nth, j_i1, j_i2, j_l1, j_l2, j_li, j_f1, j_f2, j_d1, j_d2, j_r1, j_ai, j_aii, j_ail, j_aid, j_air, j_st1, j_st2, j_stu, j_kl, j_cond, j_args, j_out, j_few, j_cw, j_nat, j_pad, j_exp, Nat.reduceAdd]
  simp only [px_s p, px_2 p, LQ_sh q, LQ_x5 q, j_ref, j_ari, j_arb, j_arr, j_len, j_nar, j_oi, j_ol, j_of, j_od, j_or, j_ov, true_and, and_true]
  exact H
theorem sp_X8_packetCount (hl : l.stackTraces = false) (p : px h x u w) (q : LQ E h (x + 8) L h) (H : Q (.inl (some (.int (lX L 9)))) h) : j_Met l D bs E (d + 1) n_X8_packetCount [.ref x] h Q := by
  have hB := q.2.2
  refine j_meth hl rfl g_X8_packetCount (Nat.le_of_ble_eq_true rfl) (fun _ => ⟨_, _, rfl, (px_s p)⟩) hB.1 hB.2 (fun G hG => ?_)
  refine b_X8_packetCount_0 hG ?_
  dsimp only [q_X8_packetCount_0, j_wp, j_opB, j_opA, j_nth, j_i1, j_i2, j_l1, j_l2, j_li, j_f1, j_f2, j_d1, j_d2, j_r1, j_ai, j_aii, j_ail, j_aid, j_air, j_st1, j_st2, j_stu, j_kl, j_cond, j_args, j_out, j_few, j_cw, j_nat, j_pad, j_exp, Nat.reduceAdd]
  simp only [px_s p, px_2 p, LQ_sh q, LQ_x9 q, j_ref, j_ari, j_arb, j_arr, j_len, j_nar, j_oi, j_ol, j_of, j_od, j_or, j_ov, true_and, and_true]
  exact H
theorem sp_X8_transmissionCount (hl : l.stackTraces = false) (p : px h x u w) (q : LQ E h (x + 8) L h) (H : Q (.inl (some (.int (lX L 10)))) h) : j_Met l D bs E (d + 1) n_X8_transmissionCount [.ref x] h Q := by
  have hB := q.2.2
  refine j_meth hl rfl g_X8_transmissionCount (Nat.le_of_ble_eq_true rfl) (fun _ => ⟨_, _, rfl, (px_s p)⟩) hB.1 hB.2 (fun G hG => ?_)
  refine b_X8_transmissionCount_0 hG ?_
  dsimp only [q_X8_transmissionCount_0, j_wp, j_opB, j_opA, j_nth, j_i1, j_i2, j_l1, j_l2, j_li, j_f1, j_f2, j_d1, j_d2, j_r1, j_ai, j_aii, j_ail, j_aid, j_air, j_st1, j_st2, j_stu, j_kl, j_cond, j_args, j_out, j_few, j_cw, j_nat, j_pad, j_exp, Nat.reduceAdd]
  simp only [px_s p, px_2 p, LQ_sh q, LQ_x10 q, j_ref, j_ari, j_arb, j_arr, j_len, j_nar, j_oi, j_ol, j_of, j_od, j_or, j_ov, true_and, and_true]
  exact H
theorem sp_X8_clock (hl : l.stackTraces = false) (p : px h x u w) (q : LQ E h (x + 8) L h) (H : Q (.inl (some (.int (lX L 11)))) h) : j_Met l D bs E (d + 1) n_X8_clock [.ref x] h Q := by
  have hB := q.2.2
  refine j_meth hl rfl g_X8_clock (Nat.le_of_ble_eq_true rfl) (fun _ => ⟨_, _, rfl, (px_s p)⟩) hB.1 hB.2 (fun G hG => ?_)
  refine b_X8_clock_0 hG ?_
  dsimp only [q_X8_clock_0, j_wp, j_opB, j_opA, j_nth, j_i1, j_i2, j_l1, j_l2, j_li, j_f1, j_f2, j_d1, j_d2, j_r1, j_ai, j_aii, j_ail, j_aid, j_air, j_st1, j_st2, j_stu, j_kl, j_cond, j_args, j_out, j_few, j_cw, j_nat, j_pad, j_exp, Nat.reduceAdd]
  simp only [px_s p, px_2 p, LQ_sh q, LQ_x11 q, j_ref, j_ari, j_arb, j_arr, j_len, j_nar, j_oi, j_ol, j_of, j_od, j_or, j_ov, true_and, and_true]
  exact H
theorem sp_X8_credit (hl : l.stackTraces = false) (p : px h x u w) (q : LQ E h (x + 8) L h) (H : Q (.inl (some (.int (lX L 12)))) h) : j_Met l D bs E (d + 1) n_X8_credit [.ref x] h Q := by
  have hB := q.2.2
  refine j_meth hl rfl g_X8_credit (Nat.le_of_ble_eq_true rfl) (fun _ => ⟨_, _, rfl, (px_s p)⟩) hB.1 hB.2 (fun G hG => ?_)
  refine b_X8_credit_0 hG ?_
  dsimp only [q_X8_credit_0, j_wp, j_opB, j_opA, j_nth, j_i1, j_i2, j_l1, j_l2, j_li, j_f1, j_f2, j_d1, j_d2, j_r1, j_ai, j_aii, j_ail, j_aid, j_air, j_st1, j_st2, j_stu, j_kl, j_cond, j_args, j_out, j_few, j_cw, j_nat, j_pad, j_exp, Nat.reduceAdd]
  simp only [px_s p, px_2 p, LQ_sh q, LQ_x12 q, j_ref, j_ari, j_arb, j_arr, j_len, j_nar, j_oi, j_ol, j_of, j_od, j_or, j_ov, true_and, and_true]
  exact H
theorem sp_X8_ruleCount (hl : l.stackTraces = false) (p : px h x u w) (hB : j_bd E h) {S : Sup} (s : SK h u S) (H : Q (.inl (some (.int (nI (sM S))))) h) : j_Met l D bs E (d + 1) n_X8_ruleCount [.ref x] h Q := by
  refine j_meth hl rfl g_X8_ruleCount (Nat.le_of_ble_eq_true rfl) (fun _ => ⟨_, _, rfl, (px_s p)⟩) hB.1 hB.2 (fun G hG => ?_)
  refine b_X8_ruleCount_0 hG ?_
  dsimp only [q_X8_ruleCount_0, j_wp, j_opB, j_opA, j_nth, j_i1, j_i2, j_l1, j_l2, j_li, j_f1, j_f2, j_d1, j_d2, j_r1, j_ai, j_aii, j_ail, j_aid, j_air, j_st1, j_st2, j_stu, j_kl, j_cond, j_args, j_out, j_few, j_cw, j_nat, j_pad, j_exp, Nat.reduceAdd]
  simp only [px_s p, px_7 p, SK_sh s, SK_3 s, j_ref, j_ari, j_arb, j_arr, j_len, j_nar, j_oi, j_ol, j_of, j_od, j_or, j_ov, true_and, and_true]
  exact H
theorem sp_X8_errorPosition (hl : l.stackTraces = false) (p : px h x u w) (hB : j_bd E h) {B : Nat → Int32} {sz len : Nat} {k : Tk} (t : TX h (x + 1) B sz len k) (H : Q (.inl (some (.int (tkA k)))) h) : j_Met l D bs E (d + 1) n_X8_errorPosition [.ref x] h Q := by
  refine j_meth hl rfl g_X8_errorPosition (Nat.le_of_ble_eq_true rfl) (fun _ => ⟨_, _, rfl, (px_s p)⟩) hB.1 hB.2 (fun G hG => ?_)
  refine b_X8_errorPosition_0 hG ?_
  dsimp only [q_X8_errorPosition_0, j_wp, j_opB, j_opA, j_nth, j_i1, j_i2, j_l1, j_l2, j_li, j_f1, j_f2, j_d1, j_d2, j_r1, j_ai, j_aii, j_ail, j_aid, j_air, j_st1, j_st2, j_stu, j_kl, j_cond, j_args, j_out, j_few, j_cw, j_nat, j_pad, j_exp, Nat.reduceAdd]
  simp only [px_s p, px_0 p, TX_sh t, TX_7 t, j_ref, j_ari, j_arb, j_arr, j_len, j_nar, j_oi, j_ol, j_of, j_od, j_or, j_ov, true_and, and_true]
  exact H
theorem sp_X8_classify (hl : l.stackTraces = false) (p : px h x u w) (r : rm E h) {S : Sup} (s : SK h u S) {a b c : Int32} (H1 : ¬ (inx a 256 ∧ inx b 256 ∧ inx c 256) → ∀ z, j_z h ≤ z → Q (.inr 1) (j_thr h z)) (H0 : inx a 256 ∧ inx b 256 ∧ inx c 256 → Q (.inl (some (.int (sFor S a b c (sM S) 0)))) h) : j_Met l D bs E (d + 4) n_X8_classify [.ref x, .int a, .int b, .int c] h Q := by
  have hB := rm_bd r
  refine j_meth hl rfl g_X8_classify (Nat.le_of_ble_eq_true rfl) (fun _ => ⟨_, _, rfl, (px_s p)⟩) hB.1 hB.2 (fun G hG => ?_)
  refine b_X8_classify_0 hG ?_
  dsimp only [q_X8_classify_0, j_wp, j_opB, j_opA, j_nth, j_i1, j_i2, j_l1, j_l2, j_li, j_f1, j_f2, j_d1, j_d2, j_r1, j_ai, j_aii, j_ail, j_aid, j_air, j_st1, j_st2, j_stu, j_kl, j_cond, j_args, j_out, j_few, j_cw, j_nat, j_pad, j_exp, Nat.reduceAdd]
  refine sp_X8_requireAddress hl r (fun g z hz => ?_) (fun g => ?_)
  · simp only [j_ref, j_ari, j_arb, j_arr, j_len, j_nar, j_oi, j_ol, j_of, j_od, j_or, j_ov, true_and, and_true]
    exact H1 g z hz
  · simp only [px_s p, px_7 p, j_ref, j_ari, j_arb, j_arr, j_len, j_nar, j_oi, j_ol, j_of, j_od, j_or, j_ov, true_and, and_true]
    refine sp_X5_flowFor hl s hB ?_
    simp only [j_ref, j_ari, j_arb, j_arr, j_len, j_nar, j_oi, j_ol, j_of, j_od, j_or, j_ov, true_and, and_true]
    exact H0 g
theorem sp_X8_flow (hl : l.stackTraces = false) (p : px h x u w) (q : LQ E h (x + 8) L h) (r : rm E h) {v y : Int32} {n : Nat} (hn : n ≤ 6) (hx : lX L 5 = nI n) (H1 : ¬ (inx v n ∧ inx y 16) → ∀ z, j_z h ≤ z → Q (.inr 0) (j_thr h z)) (H0 : ∀ i k, i < n → k < 16 → v = nI i → y = nI k → Q (.inl (some (.int (lF L i k)))) h) : j_Met l D bs E (d + 2) n_X8_flow [.ref x, .int v, .int y] h Q := by
  have hB := rm_bd r
  refine j_meth hl rfl g_X8_flow (Nat.le_of_ble_eq_true rfl) (fun _ => ⟨_, _, rfl, (px_s p)⟩) hB.1 hB.2 (fun G hG => ?_)
  refine b_X8_flow_0 hG ?_
  dsimp only [q_X8_flow_0, j_wp, j_opB, j_opA, j_nth, j_i1, j_i2, j_l1, j_l2, j_li, j_f1, j_f2, j_d1, j_d2, j_r1, j_ai, j_aii, j_ail, j_aid, j_air, j_st1, j_st2, j_stu, j_kl, j_cond, j_args, j_out, j_few, j_cw, j_nat, j_pad, j_exp, Nat.reduceAdd]
  refine sp_X8_requireFlow hl p q r hn hx (fun g z hz => ?_) (fun g => ?_)
  · simp only [j_ref, j_ari, j_arb, j_arr, j_len, j_nar, j_oi, j_ol, j_of, j_od, j_or, j_ov, true_and, and_true]
    exact H1 (fun y => g y.1) z hz
  · simp only [j_ref, j_ari, j_arb, j_arr, j_len, j_nar, j_oi, j_ol, j_of, j_od, j_or, j_ov, true_and, and_true]
    refine sp_X8_requireProperty hl r (n := 16) (by omega) (fun g2 z hz => ?_) (fun g2 => ?_)
    · simp only [j_ref, j_ari, j_arb, j_arr, j_len, j_nar, j_oi, j_ol, j_of, j_od, j_or, j_ov, true_and, and_true]
      exact H1 (fun y => g2 y.2) z hz
    · simp only [px_s p, px_2 p, LQ_sh q, LQ_R0 q, LQ_R1 q, LQ_R2 q, LQ_R3 q, LQ_R4 q, j_ref, j_ari, j_arb, j_arr, j_len, j_nar, j_oi, j_ol, j_of, j_od, j_or, j_ov, true_and, and_true]
      obtain ⟨i, hi, rfl⟩ := g
      obtain ⟨k, hk, rfl⟩ := g2
      refine lf_get hl q (f := i) (by omega) (k := k) (by omega) ?_
      simp only [j_ref, j_ari, j_arb, j_arr, j_len, j_nar, j_oi, j_ol, j_of, j_od, j_or, j_ov, true_and, and_true]
      exact H0 i k hi hk rfl rfl
theorem sp_X8_packet (hl : l.stackTraces = false) (p : px h x u w) (q : LQ E h (x + 8) L h) (r : rm E h) {v y : Int32} {n : Nat} (hn : n ≤ 100) (hx : lX L 9 = nI n) (H1 : ¬ (inx v n ∧ inx y 9) → ∀ z, j_z h ≤ z → Q (.inr 0) (j_thr h z)) (H0 : ∀ i k, i < n → k < 9 → v = nI i → y = nI k → Q (.inl (some (.int (lP L i k)))) h) : j_Met l D bs E (d + 2) n_X8_packet [.ref x, .int v, .int y] h Q := by
  have hB := rm_bd r
  refine j_meth hl rfl g_X8_packet (Nat.le_of_ble_eq_true rfl) (fun _ => ⟨_, _, rfl, (px_s p)⟩) hB.1 hB.2 (fun G hG => ?_)
  refine b_X8_packet_0 hG ?_
  dsimp only [q_X8_packet_0, j_wp, j_opB, j_opA, j_nth, j_i1, j_i2, j_l1, j_l2, j_li, j_f1, j_f2, j_d1, j_d2, j_r1, j_ai, j_aii, j_ail, j_aid, j_air, j_st1, j_st2, j_stu, j_kl, j_cond, j_args, j_out, j_few, j_cw, j_nat, j_pad, j_exp, Nat.reduceAdd]
  refine sp_X8_requirePacket hl p q r hn hx (fun g z hz => ?_) (fun g => ?_)
  · simp only [j_ref, j_ari, j_arb, j_arr, j_len, j_nar, j_oi, j_ol, j_of, j_od, j_or, j_ov, true_and, and_true]
    exact H1 (fun y => g y.1) z hz
  · simp only [j_ref, j_ari, j_arb, j_arr, j_len, j_nar, j_oi, j_ol, j_of, j_od, j_or, j_ov, true_and, and_true]
    refine sp_X8_requireProperty hl r (n := 9) (by omega) (fun g2 z hz => ?_) (fun g2 => ?_)
    · simp only [j_ref, j_ari, j_arb, j_arr, j_len, j_nar, j_oi, j_ol, j_of, j_od, j_or, j_ov, true_and, and_true]
      exact H1 (fun y => g2 y.2) z hz
    · simp only [px_s p, px_2 p, LQ_sh q, LQ_R0 q, LQ_R1 q, LQ_R2 q, LQ_R3 q, LQ_R4 q, j_ref, j_ari, j_arb, j_arr, j_len, j_nar, j_oi, j_ol, j_of, j_od, j_or, j_ov, true_and, and_true]
      obtain ⟨i, hi, rfl⟩ := g
      obtain ⟨k, hk, rfl⟩ := g2
      refine lp_get hl q (f := i) (by omega) (k := k) (by omega) ?_
      simp only [j_ref, j_ari, j_arb, j_arr, j_len, j_nar, j_oi, j_ol, j_of, j_od, j_or, j_ov, true_and, and_true]
      exact H0 i k hi hk rfl rfl
theorem sp_X8_transmission (hl : l.stackTraces = false) (p : px h x u w) (q : LQ E h (x + 8) L h) (r : rm E h) {v y : Int32} {n : Nat} (hn : n ≤ 300) (hx : lX L 10 = nI n) (H1 : ¬ (inx v n ∧ inx y 5) → ∀ z, j_z h ≤ z → Q (.inr 0) (j_thr h z)) (H0 : ∀ i k, i < n → k < 5 → v = nI i → y = nI k → Q (.inl (some (.int (lS L i k)))) h) : j_Met l D bs E (d + 2) n_X8_transmission [.ref x, .int v, .int y] h Q := by
  have hB := rm_bd r
  refine j_meth hl rfl g_X8_transmission (Nat.le_of_ble_eq_true rfl) (fun _ => ⟨_, _, rfl, (px_s p)⟩) hB.1 hB.2 (fun G hG => ?_)
  refine b_X8_transmission_0 hG ?_
  dsimp only [q_X8_transmission_0, j_wp, j_opB, j_opA, j_nth, j_i1, j_i2, j_l1, j_l2, j_li, j_f1, j_f2, j_d1, j_d2, j_r1, j_ai, j_aii, j_ail, j_aid, j_air, j_st1, j_st2, j_stu, j_kl, j_cond, j_args, j_out, j_few, j_cw, j_nat, j_pad, j_exp, Nat.reduceAdd]
  refine sp_X8_requireTransmission hl p q r hn hx (fun g z hz => ?_) (fun g => ?_)
  · simp only [j_ref, j_ari, j_arb, j_arr, j_len, j_nar, j_oi, j_ol, j_of, j_od, j_or, j_ov, true_and, and_true]
    exact H1 (fun y => g y.1) z hz
  · simp only [j_ref, j_ari, j_arb, j_arr, j_len, j_nar, j_oi, j_ol, j_of, j_od, j_or, j_ov, true_and, and_true]
    refine sp_X8_requireProperty hl r (n := 5) (by omega) (fun g2 z hz => ?_) (fun g2 => ?_)
    · simp only [j_ref, j_ari, j_arb, j_arr, j_len, j_nar, j_oi, j_ol, j_of, j_od, j_or, j_ov, true_and, and_true]
      exact H1 (fun y => g2 y.2) z hz
    · simp only [px_s p, px_2 p, LQ_sh q, LQ_R0 q, LQ_R1 q, LQ_R2 q, LQ_R3 q, LQ_R4 q, j_ref, j_ari, j_arb, j_arr, j_len, j_nar, j_oi, j_ol, j_of, j_od, j_or, j_ov, true_and, and_true]
      obtain ⟨i, hi, rfl⟩ := g
      obtain ⟨k, hk, rfl⟩ := g2
      refine ls_get hl q (f := i) (by omega) (k := k) (by omega) ?_
      simp only [j_ref, j_ari, j_arb, j_arr, j_len, j_nar, j_oi, j_ol, j_of, j_od, j_or, j_ov, true_and, and_true]
      exact H0 i k hi hk rfl rfl
theorem sp_X8_virtualTime (hl : l.stackTraces = false) (p : px h x u w) (q : LQ E h (x + 8) L h) (r : rm E h) {v : Int32} {n : Nat} (hn : n ≤ 6) (hx : lX L 5 = nI n) (H1 : ¬ inx v n → ∀ z, j_z h ≤ z → Q (.inr 0) (j_thr h z)) (H0 : ∀ i, i < n → v = nI i → Q (.inl (some (.long (lV L i)))) h) : j_Met l D bs E (d + 2) n_X8_virtualTime [.ref x, .int v] h Q := by
  have hB := rm_bd r
  refine j_meth hl rfl g_X8_virtualTime (Nat.le_of_ble_eq_true rfl) (fun _ => ⟨_, _, rfl, (px_s p)⟩) hB.1 hB.2 (fun G hG => ?_)
  refine b_X8_virtualTime_0 hG ?_
  dsimp only [q_X8_virtualTime_0, j_wp, j_opB, j_opA, j_nth, j_i1, j_i2, j_l1, j_l2, j_li, j_f1, j_f2, j_d1, j_d2, j_r1, j_ai, j_aii, j_ail, j_aid, j_air, j_st1, j_st2, j_stu, j_kl, j_cond, j_args, j_out, j_few, j_cw, j_nat, j_pad, j_exp, Nat.reduceAdd]
  refine sp_X8_requireFlow hl p q r hn hx (fun g z hz => ?_) (fun g => ?_)
  · simp only [j_ref, j_ari, j_arb, j_arr, j_len, j_nar, j_oi, j_ol, j_of, j_od, j_or, j_ov, true_and, and_true]
    exact H1 g z hz
  · simp only [px_s p, px_2 p, LQ_sh q, LQ_R0 q, LQ_R1 q, LQ_R2 q, LQ_R3 q, LQ_R4 q, j_ref, j_ari, j_arb, j_arr, j_len, j_nar, j_oi, j_ol, j_of, j_od, j_or, j_ov, true_and, and_true]
    obtain ⟨i, hi, rfl⟩ := g
    refine lz_get hl q (f := i) (by omega) ?_
    simp only [j_ref, j_ari, j_arb, j_arr, j_len, j_nar, j_oi, j_ol, j_of, j_od, j_or, j_ov, true_and, and_true]
    exact H0 i hi rfl
theorem sp_X8_isIdle (hl : l.stackTraces = false) (p : px h x u w) (q : LQ E h (x + 8) L h) (r : rm E h) {v : Int32} {n : Nat} (hn : n ≤ 6) (hx : lX L 5 = nI n) (H1 : ¬ inx v n → ∀ z, j_z h ≤ z → Q (.inr 0) (j_thr h z)) (H0 : ∀ i, i < n → v = nI i → Q (.inl (some (.int (if lBusy L i = true then 0 else 1)))) h) : j_Met l D bs E (d + 3) n_X8_isIdle [.ref x, .int v] h Q := by
  have hB := rm_bd r
  refine j_meth hl rfl g_X8_isIdle (Nat.le_of_ble_eq_true rfl) (fun _ => ⟨_, _, rfl, (px_s p)⟩) hB.1 hB.2 (fun G hG => ?_)
  refine b_X8_isIdle_0 hG ?_
  dsimp only [q_X8_isIdle_0, j_wp, j_opB, j_opA, j_nth, j_i1, j_i2, j_l1, j_l2, j_li, j_f1, j_f2, j_d1, j_d2, j_r1, j_ai, j_aii, j_ail, j_aid, j_air, j_st1, j_st2, j_stu, j_kl, j_cond, j_args, j_out, j_few, j_cw, j_nat, j_pad, j_exp, Nat.reduceAdd]
  refine sp_X8_requireFlow hl p q r hn hx (fun g z hz => ?_) (fun g => ?_)
  · simp only [j_ref, j_ari, j_arb, j_arr, j_len, j_nar, j_oi, j_ol, j_of, j_od, j_or, j_ov, true_and, and_true]
    exact H1 g z hz
  · simp only [px_s p, px_2 p, LQ_sh q, LQ_R0 q, LQ_R1 q, LQ_R2 q, LQ_R3 q, LQ_R4 q, j_ref, j_ari, j_arb, j_arr, j_len, j_nar, j_oi, j_ol, j_of, j_od, j_or, j_ov, true_and, and_true]
    obtain ⟨i, hi, rfl⟩ := g
    have H := H0 i hi rfl
    refine sp_X1_isBusy hl q (f := i) (by omega) ?_
    simp only [j_ref, j_ari, j_arb, j_arr, j_len, j_nar, j_oi, j_ol, j_of, j_od, j_or, j_ov, true_and, and_true]
    by_cases g2 : lBusy L i = true
    · simp only [g2, if_true] at H ⊢
      rw [if_neg (by decide)]
      refine b_X8_isIdle_20 hG ?_
      dsimp only [q_X8_isIdle_20, j_wp, j_opB, j_opA, j_nth, j_i1, j_i2, j_l1, j_l2, j_li, j_f1, j_f2, j_d1, j_d2, j_r1, j_ai, j_aii, j_ail, j_aid, j_air, j_st1, j_st2, j_stu, j_kl, j_cond, j_args, j_out, j_few, j_cw, j_nat, j_pad, j_exp, Nat.reduceAdd]
      refine b_X8_isIdle_21 hG ?_
      dsimp only [q_X8_isIdle_21, j_wp, j_opB, j_opA, j_nth, j_i1, j_i2, j_l1, j_l2, j_li, j_f1, j_f2, j_d1, j_d2, j_r1, j_ai, j_aii, j_ail, j_aid, j_air, j_st1, j_st2, j_stu, j_kl, j_cond, j_args, j_out, j_few, j_cw, j_nat, j_pad, j_exp, Nat.reduceAdd]
      exact ⟨(by first | exact Or.inl rfl | exact Or.inr rfl | decide), H⟩
    · simp only [g2, if_false, Bool.false_eq_true, if_true] at H ⊢
      refine b_X8_isIdle_21 hG ?_
      dsimp only [q_X8_isIdle_21, j_wp, j_opB, j_opA, j_nth, j_i1, j_i2, j_l1, j_l2, j_li, j_f1, j_f2, j_d1, j_d2, j_r1, j_ai, j_aii, j_ail, j_aid, j_air, j_st1, j_st2, j_stu, j_kl, j_cond, j_args, j_out, j_few, j_cw, j_nat, j_pad, j_exp, Nat.reduceAdd]
      exact ⟨(by first | exact Or.inl rfl | exact Or.inr rfl | decide), H⟩
theorem sp_X8_queued (hl : l.stackTraces = false) (p : px h x u w) (q : LQ E h (x + 8) L h) (r : rm E h) {v y : Int32} {n : Nat} (hn : n ≤ 6) (hx : lX L 5 = nI n) (hok : ∀ f i, f < n → i < 2 ^ 31 → nI i < lF L f 7 → lNthOk L i (lF L f 17)) (H1 : (¬ inx v n ∨ y < 0) → ∀ z, j_z h ≤ z → Q (.inr 0) (j_thr h z)) (H0 : ∀ f i, f < n → v = nI f → i < 2 ^ 31 → y = nI i → Q (.inl (some (.int (if nI i < lF L f 7 then lNth L i (lF L f 17) else -1)))) h) : j_Met l D bs E (d + 3) n_X8_queued [.ref x, .int v, .int y] h Q := by
  have hB := rm_bd r
  refine j_meth hl rfl g_X8_queued (Nat.le_of_ble_eq_true rfl) (fun _ => ⟨_, _, rfl, (px_s p)⟩) hB.1 hB.2 (fun G hG => ?_)
  refine b_X8_queued_0 hG ?_
  dsimp only [q_X8_queued_0, j_wp, j_opB, j_opA, j_nth, j_i1, j_i2, j_l1, j_l2, j_li, j_f1, j_f2, j_d1, j_d2, j_r1, j_ai, j_aii, j_ail, j_aid, j_air, j_st1, j_st2, j_stu, j_kl, j_cond, j_args, j_out, j_few, j_cw, j_nat, j_pad, j_exp, Nat.reduceAdd]
  refine sp_X8_requireFlow hl p q r hn hx (fun g z hz => ?_) (fun g => ?_)
  · simp only [j_ref, j_ari, j_arb, j_arr, j_len, j_nar, j_oi, j_ol, j_of, j_od, j_or, j_ov, true_and, and_true]
    exact H1 (Or.inl g) z hz
  · simp only [j_ref, j_ari, j_arb, j_arr, j_len, j_nar, j_oi, j_ol, j_of, j_od, j_or, j_ov, true_and, and_true]
    by_cases g2 : y < 0
    · rw [if_pos g2]
      exact ⟨r.1, r.2, H1 (Or.inr g2)⟩
    · rw [if_neg g2]
      obtain ⟨f, hf, rfl⟩ := g
      obtain ⟨i, hi, rfl⟩ := nI_of g2
      refine b_X8_queued_19 hG ?_
      dsimp only [q_X8_queued_19, j_wp, j_opB, j_opA, j_nth, j_i1, j_i2, j_l1, j_l2, j_li, j_f1, j_f2, j_d1, j_d2, j_r1, j_ai, j_aii, j_ail, j_aid, j_air, j_st1, j_st2, j_stu, j_kl, j_cond, j_args, j_out, j_few, j_cw, j_nat, j_pad, j_exp, Nat.reduceAdd]
      simp only [px_s p, px_2 p, LQ_sh q, LQ_R0 q, LQ_R1 q, LQ_R2 q, LQ_R3 q, LQ_R4 q, j_ref, j_ari, j_arb, j_arr, j_len, j_nar, j_oi, j_ol, j_of, j_od, j_or, j_ov, true_and, and_true]
      refine sp_X1_packetInQueue hl q (f := f) (by omega) hi (hok f i hf hi) ?_
      simp only [j_ref, j_ari, j_arb, j_arr, j_len, j_nar, j_oi, j_ol, j_of, j_od, j_or, j_ov, true_and, and_true]
      exact H0 f i hf rfl hi rfl
theorem sp_X8_nextFlow (hl : l.stackTraces = false) (p : px h x u w) (q : LQ E h (x + 8) L h) {n : Nat} (hn : n ≤ 6) (hx : lX L 5 = nI n) (H : Q (.inl (some (.int (lServe L n)))) h) : j_Met l D bs E (d + 3) n_X8_nextFlow [.ref x] h Q := by
  have hB := q.2.2
  refine j_meth hl rfl g_X8_nextFlow (Nat.le_of_ble_eq_true rfl) (fun _ => ⟨_, _, rfl, (px_s p)⟩) hB.1 hB.2 (fun G hG => ?_)
  refine b_X8_nextFlow_0 hG ?_
  dsimp only [q_X8_nextFlow_0, j_wp, j_opB, j_opA, j_nth, j_i1, j_i2, j_l1, j_l2, j_li, j_f1, j_f2, j_d1, j_d2, j_r1, j_ai, j_aii, j_ail, j_aid, j_air, j_st1, j_st2, j_stu, j_kl, j_cond, j_args, j_out, j_few, j_cw, j_nat, j_pad, j_exp, Nat.reduceAdd]
  simp only [px_s p, px_2 p, LQ_sh q, LQ_R0 q, LQ_R1 q, LQ_R2 q, LQ_R3 q, LQ_R4 q, j_ref, j_ari, j_arb, j_arr, j_len, j_nar, j_oi, j_ol, j_of, j_od, j_or, j_ov, true_and, and_true]
  refine sp_X1_flowToServe hl q hn hx ?_
  simp only [j_ref, j_ari, j_arb, j_arr, j_len, j_nar, j_oi, j_ol, j_of, j_od, j_or, j_ov, true_and, and_true]
  exact H
theorem sp_X8_charge (hl : l.stackTraces = false) (p : px h x u w) (q : LQ E h (x + 8) L h) (r : rm E h) {v : Int32} {n : Nat} (hn : n ≤ 300) (hx : lX L 10 = nI n) (H1 : ¬ inx v n → ∀ z, j_z h ≤ z → Q (.inr 0) (j_thr h z)) (H0 : ∀ i, i < n → v = nI i → Q (.inl (some (.long (lS L i 5).toInt64))) h) : j_Met l D bs E (d + 2) n_X8_charge [.ref x, .int v] h Q := by
  have hB := rm_bd r
  refine j_meth hl rfl g_X8_charge (Nat.le_of_ble_eq_true rfl) (fun _ => ⟨_, _, rfl, (px_s p)⟩) hB.1 hB.2 (fun G hG => ?_)
  refine b_X8_charge_0 hG ?_
  dsimp only [q_X8_charge_0, j_wp, j_opB, j_opA, j_nth, j_i1, j_i2, j_l1, j_l2, j_li, j_f1, j_f2, j_d1, j_d2, j_r1, j_ai, j_aii, j_ail, j_aid, j_air, j_st1, j_st2, j_stu, j_kl, j_cond, j_args, j_out, j_few, j_cw, j_nat, j_pad, j_exp, Nat.reduceAdd]
  refine sp_X8_requireTransmission hl p q r hn hx (fun g z hz => ?_) (fun g => ?_)
  · simp only [j_ref, j_ari, j_arb, j_arr, j_len, j_nar, j_oi, j_ol, j_of, j_od, j_or, j_ov, true_and, and_true]
    exact H1 g z hz
  · simp only [px_s p, px_2 p, LQ_sh q, LQ_R0 q, LQ_R1 q, LQ_R2 q, LQ_R3 q, LQ_R4 q, j_ref, j_ari, j_arb, j_arr, j_len, j_nar, j_oi, j_ol, j_of, j_od, j_or, j_ov, true_and, and_true]
    obtain ⟨i, hi, rfl⟩ := g
    refine ls_get hl q (f := i) (by omega) (k := 5) (by omega) ?_
    simp only [j_ref, j_ari, j_arb, j_arr, j_len, j_nar, j_oi, j_ol, j_of, j_od, j_or, j_ov, true_and, and_true]
    exact H0 i hi rfl
theorem sp_X8_outstanding (hl : l.stackTraces = false) (p : px h x u w) (q : LQ E h (x + 8) L h) (r : rm E h) {v : Int32} {n : Nat} (hn : n ≤ 6) (hx : lX L 5 = nI n) (H1 : ¬ inx v n → ∀ z, j_z h ≤ z → Q (.inr 0) (j_thr h z)) (H0 : ∀ i, i < n → v = nI i → Q (.inl (some (.int (lF L i 16)))) h) : j_Met l D bs E (d + 2) n_X8_outstanding [.ref x, .int v] h Q := by
  have hB := rm_bd r
  refine j_meth hl rfl g_X8_outstanding (Nat.le_of_ble_eq_true rfl) (fun _ => ⟨_, _, rfl, (px_s p)⟩) hB.1 hB.2 (fun G hG => ?_)
  refine b_X8_outstanding_0 hG ?_
  dsimp only [q_X8_outstanding_0, j_wp, j_opB, j_opA, j_nth, j_i1, j_i2, j_l1, j_l2, j_li, j_f1, j_f2, j_d1, j_d2, j_r1, j_ai, j_aii, j_ail, j_aid, j_air, j_st1, j_st2, j_stu, j_kl, j_cond, j_args, j_out, j_few, j_cw, j_nat, j_pad, j_exp, Nat.reduceAdd]
  refine sp_X8_requireFlow hl p q r hn hx (fun g z hz => ?_) (fun g => ?_)
  · simp only [j_ref, j_ari, j_arb, j_arr, j_len, j_nar, j_oi, j_ol, j_of, j_od, j_or, j_ov, true_and, and_true]
    exact H1 g z hz
  · simp only [px_s p, px_2 p, LQ_sh q, LQ_R0 q, LQ_R1 q, LQ_R2 q, LQ_R3 q, LQ_R4 q, j_ref, j_ari, j_arb, j_arr, j_len, j_nar, j_oi, j_ol, j_of, j_od, j_or, j_ov, true_and, and_true]
    obtain ⟨i, hi, rfl⟩ := g
    refine lf_get hl q (f := i) (by omega) (k := 16) (by omega) ?_
    simp only [j_ref, j_ari, j_arb, j_arr, j_len, j_nar, j_oi, j_ol, j_of, j_od, j_or, j_ov, true_and, and_true]
    exact H0 i hi rfl
variable {kp : Nat} {lt : Int32} {R : Nat → Nat → Int32}
theorem sp_X8_audit (hl : l.stackTraces = false) (p : px h x u w) (s : LR E h (x + 8) L kp lt R h) (r : rm E h) {v y ag : Int32} {n t : Nat} (hn : n ≤ 6) (hx : lX L 5 = nI n) (hkp : kp ≤ 128) (ht : t < 128) (hlt : 0 < kp → lt = nI t) (H1 : ¬ (inx v n ∧ inx y n) → ∀ z, j_z h ≤ z → Q (.inr 0) (j_thr h z)) (H2 : inx v n → inx y n → (v = y ∨ ag < 0) → ∀ z, j_z h ≤ z → Q (.inr 1) (j_thr h z)) (H0 : ∀ f g a, f < n → g < n → v = nI f → y = nI g → ¬ v = y → a < 2 ^ 31 → ag = nI a → Q (.inl (some (.long (lDiff L R kp t f g a)))) h) : j_Met l D bs E (d + 6) n_X8_audit [.ref x, .int v, .int y, .int ag] h Q := by
  have hB := rm_bd r
  have q := LR_q s
  refine j_meth hl rfl g_X8_audit (Nat.le_of_ble_eq_true rfl) (fun _ => ⟨_, _, rfl, (px_s p)⟩) hB.1 hB.2 (fun G hG => ?_)
  have bad : inx v n → inx y n → (v = y ∨ ag < 0) → G 19 [.ref x, .int v, .int y, .int ag] [] h := by
    intro z1 z2 z3
    refine b_X8_audit_19 hG ?_
    dsimp only [q_X8_audit_19, j_wp, j_opB, j_opA, j_nth, j_i1, j_i2, j_l1, j_l2, j_li, j_f1, j_f2, j_d1, j_d2, j_r1, j_ai, j_aii, j_ail, j_aid, j_air, j_st1, j_st2, j_stu, j_kl, j_cond, j_args, j_out, j_few, j_cw, j_nat, j_pad, j_exp, Nat.reduceAdd]
    exact ⟨r.1, r.2, H2 z1 z2 z3⟩
  refine b_X8_audit_0 hG ?_
  dsimp only [q_X8_audit_0, j_wp, j_opB, j_opA, j_nth, j_i1, j_i2, j_l1, j_l2, j_li, j_f1, j_f2, j_d1, j_d2, j_r1, j_ai, j_aii, j_ail, j_aid, j_air, j_st1, j_st2, j_stu, j_kl, j_cond, j_args, j_out, j_few, j_cw, j_nat, j_pad, j_exp, Nat.reduceAdd]
  refine sp_X8_requireFlow hl p q r hn hx (fun g z hz => ?_) (fun g1 => ?_)
  · simp only [j_ref, j_ari, j_arb, j_arr, j_len, j_nar, j_oi, j_ol, j_of, j_od, j_or, j_ov, true_and, and_true]
    exact H1 (fun y => g y.1) z hz
  · simp only [j_ref, j_ari, j_arb, j_arr, j_len, j_nar, j_oi, j_ol, j_of, j_od, j_or, j_ov, true_and, and_true]
    refine sp_X8_requireFlow hl p q r hn hx (fun g z hz => ?_) (fun g2 => ?_)
    · simp only [j_ref, j_ari, j_arb, j_arr, j_len, j_nar, j_oi, j_ol, j_of, j_od, j_or, j_ov, true_and, and_true]
      exact H1 (fun y => g y.2) z hz
    · simp only [j_ref, j_ari, j_arb, j_arr, j_len, j_nar, j_oi, j_ol, j_of, j_od, j_or, j_ov, true_and, and_true]
      by_cases g3 : v = y
      · rw [if_pos g3]
        exact bad g1 g2 (Or.inl g3)
      · rw [if_neg g3]
        by_cases g4 : ag < 0
        · rw [if_pos g4]
          exact bad g1 g2 (Or.inr g4)
        · rw [if_neg g4]
          obtain ⟨f, hf, rfl⟩ := g1
          obtain ⟨g, hg, rfl⟩ := g2
          obtain ⟨a, ha, rfl⟩ := nI_of g4
          refine b_X8_audit_29 hG ?_
          dsimp only [q_X8_audit_29, j_wp, j_opB, j_opA, j_nth, j_i1, j_i2, j_l1, j_l2, j_li, j_f1, j_f2, j_d1, j_d2, j_r1, j_ai, j_aii, j_ail, j_aid, j_air, j_st1, j_st2, j_stu, j_kl, j_cond, j_args, j_out, j_few, j_cw, j_nat, j_pad, j_exp, Nat.reduceAdd]
          simp only [px_s p, px_2 p, LQ_sh q, LQ_R0 q, LQ_R1 q, LQ_R2 q, LQ_R3 q, LQ_R4 q, j_ref, j_ari, j_arb, j_arr, j_len, j_nar, j_oi, j_ol, j_of, j_od, j_or, j_ov, true_and, and_true]
          refine sp_X1_differenceSince hl s hkp ht hlt ha (f := f) (g := g) (by omega) (by omega) ?_
          simp only [j_ref, j_ari, j_arb, j_arr, j_len, j_nar, j_oi, j_ol, j_of, j_od, j_or, j_ov, true_and, and_true]
          exact H0 f g a hf hg rfl rfl g3 ha rfl
/-- the worst of the flow a with k others from b on -/
def cWb (L : Lnk) (R : Nat → Nat → Int32) (t kp a : Nat) : Nat → Nat → Int64 → Int64
  | 0, _, w => w
  | k + 1, b, w => cWb L R t kp a k (b + 1) (lmax w (lGreat L R t a b kp 0 0 0 0 false))
def cWa (L : Lnk) (R : Nat → Nat → Int32) (t kp nf : Nat) : Nat → Nat → Int64 → Int64
  | 0, _, w => w
  | k + 1, a, w => cWa L R t kp nf k (a + 1) (cWb L R t kp a (nf - (a + 1)) (a + 1) w)
set_option maxRecDepth 8000 in
theorem sp_X8_worst (hl : l.stackTraces = false) (p : px h x u w) (s : LR E h (x + 8) L kp lt R h) {n t : Nat} (hn : n ≤ 6) (hx : lX L 5 = nI n) (hkp : kp ≤ 128) (ht : t < 128) (hlt : 0 < kp → lt = nI t) (H : Q (.inl (some (.long (cWa L R t kp n n 0 0)))) h) : j_Met l D bs E (d + 6) n_X8_worst [.ref x] h Q := by
  have hB := s.2.2.2
  have q := LR_q s
  generalize hr : cWa L R t kp n n 0 0 = res at H
  refine j_meth hl rfl g_X8_worst (Nat.le_of_ble_eq_true rfl) (fun _ => ⟨_, _, rfl, (px_s p)⟩) hB.1 hB.2 (fun G hG => ?_)
  have inner : ∀ (a : Nat) (K : Int64 → Prop), a < n → (∀ v y, K v → G 53 [.ref x, .long v, j_u, .int (nI a), y] [] h) → ∀ (k b : Nat) (v : Int64), b + k = n → K (cWb L R t kp a k b v) → G 20 [.ref x, .long v, j_u, .int (nI a), .int (nI b)] [] h := by
    intro a K ha nx k
    induction k with
    | zero =>
      intro b v hb e
      unfold cWb at e
      refine b_X8_worst_20 hG ?_
      dsimp only [q_X8_worst_20, j_wp, j_opB, j_opA, j_nth, j_i1, j_i2, j_l1, j_l2, j_li, j_f1, j_f2, j_d1, j_d2, j_r1, j_ai, j_aii, j_ail, j_aid, j_air, j_st1, j_st2, j_stu, j_kl, j_cond, j_args, j_out, j_few, j_cw, j_nat, j_pad, j_exp, Nat.reduceAdd]
      simp only [px_s p, px_2 p, LQ_x5 q, hx, LQ_sh q, LQ_R0 q, LQ_R1 q, LQ_R2 q, LQ_R3 q, LQ_R4 q, j_ref, j_ari, j_arb, j_arr, j_len, j_nar, j_oi, j_ol, j_of, j_od, j_or, j_ov, true_and, and_true]
      rw [if_neg (nI_nlt (by omega) (by omega))]
      exact nx v _ e
    | succ k ih =>
      intro b v hb e
      unfold cWb lmax at e
      refine b_X8_worst_20 hG ?_
      dsimp only [q_X8_worst_20, j_wp, j_opB, j_opA, j_nth, j_i1, j_i2, j_l1, j_l2, j_li, j_f1, j_f2, j_d1, j_d2, j_r1, j_ai, j_aii, j_ail, j_aid, j_air, j_st1, j_st2, j_stu, j_kl, j_cond, j_args, j_out, j_few, j_cw, j_nat, j_pad, j_exp, Nat.reduceAdd]
      simp only [px_s p, px_2 p, LQ_x5 q, hx, LQ_sh q, LQ_R0 q, LQ_R1 q, LQ_R2 q, LQ_R3 q, LQ_R4 q, j_ref, j_ari, j_arb, j_arr, j_len, j_nar, j_oi, j_ol, j_of, j_od, j_or, j_ov, true_and, and_true]
      rw [if_pos (nI_lt (by omega) (by omega))]
      refine sp_X1_greatestDifference hl s hkp ht hlt (f := a) (g := b) (by omega) (by omega) ?_
      simp only [j_ref, j_ari, j_arb, j_arr, j_len, j_nar, j_oi, j_ol, j_of, j_od, j_or, j_ov, true_and, and_true, j_st1, j_st2, j_stu, j_kl]
      rw [nI_1]
      exact ih (b + 1) _ (by omega) e
  have outer : ∀ (k a : Nat) (v : Int64) (y : Value), a + k = n → cWa L R t kp n k a v = res → G 4 [.ref x, .long v, j_u, .int (nI a), y] [] h := by
    intro k
    induction k with
    | zero =>
      intro a v y ha e
      unfold cWa at e
      subst e
      refine b_X8_worst_4 hG ?_
      dsimp only [q_X8_worst_4, j_wp, j_opB, j_opA, j_nth, j_i1, j_i2, j_l1, j_l2, j_li, j_f1, j_f2, j_d1, j_d2, j_r1, j_ai, j_aii, j_ail, j_aid, j_air, j_st1, j_st2, j_stu, j_kl, j_cond, j_args, j_out, j_few, j_cw, j_nat, j_pad, j_exp, Nat.reduceAdd]
      simp only [px_s p, px_2 p, LQ_x5 q, hx, LQ_sh q, LQ_R0 q, LQ_R1 q, LQ_R2 q, LQ_R3 q, LQ_R4 q, j_ref, j_ari, j_arb, j_arr, j_len, j_nar, j_oi, j_ol, j_of, j_od, j_or, j_ov, true_and, and_true]
      rw [if_neg (nI_nlt (by omega) (by omega))]
      refine b_X8_worst_59 hG ?_
      dsimp only [q_X8_worst_59, j_wp, j_opB, j_opA, j_nth, j_i1, j_i2, j_l1, j_l2, j_li, j_f1, j_f2, j_d1, j_d2, j_r1, j_ai, j_aii, j_ail, j_aid, j_air, j_st1, j_st2, j_stu, j_kl, j_cond, j_args, j_out, j_few, j_cw, j_nat, j_pad, j_exp, Nat.reduceAdd]
      exact H
    | succ k ih =>
      intro a v y ha e
      unfold cWa at e
      refine b_X8_worst_4 hG ?_
      dsimp only [q_X8_worst_4, j_wp, j_opB, j_opA, j_nth, j_i1, j_i2, j_l1, j_l2, j_li, j_f1, j_f2, j_d1, j_d2, j_r1, j_ai, j_aii, j_ail, j_aid, j_air, j_st1, j_st2, j_stu, j_kl, j_cond, j_args, j_out, j_few, j_cw, j_nat, j_pad, j_exp, Nat.reduceAdd]
      simp only [px_s p, px_2 p, LQ_x5 q, hx, LQ_sh q, LQ_R0 q, LQ_R1 q, LQ_R2 q, LQ_R3 q, LQ_R4 q, j_ref, j_ari, j_arb, j_arr, j_len, j_nar, j_oi, j_ol, j_of, j_od, j_or, j_ov, true_and, and_true]
      rw [if_pos (nI_lt (by omega) (by omega))]
      rw [nI_1]
      refine inner a (fun v => cWa L R t kp n k (a + 1) v = res) (by omega) (fun v' y' e' => ?_) (n - (a + 1)) (a + 1) v (by omega) e
      refine b_X8_worst_53 hG ?_
      dsimp only [q_X8_worst_53, j_wp, j_opB, j_opA, j_nth, j_i1, j_i2, j_l1, j_l2, j_li, j_f1, j_f2, j_d1, j_d2, j_r1, j_ai, j_aii, j_ail, j_aid, j_air, j_st1, j_st2, j_stu, j_kl, j_cond, j_args, j_out, j_few, j_cw, j_nat, j_pad, j_exp, Nat.reduceAdd]
      rw [nI_1]
      exact ih (a + 1) v' y' (by omega) e'
  refine b_X8_worst_0 hG ?_
  dsimp only [q_X8_worst_0, j_wp, j_opB, j_opA, j_nth, j_i1, j_i2, j_l1, j_l2, j_li, j_f1, j_f2, j_d1, j_d2, j_r1, j_ai, j_aii, j_ail, j_aid, j_air, j_st1, j_st2, j_stu, j_kl, j_cond, j_args, j_out, j_few, j_cw, j_nat, j_pad, j_exp, Nat.reduceAdd]
  exact outer n 0 0 _ (by omega) hr
/-- the greatest virtual time of the busy ones of k flows from f on -/
def cMax (L : Lnk) : Nat → Nat → Int64 → Int64
  | 0, _, v => v
  | k + 1, f, v => cMax L k (f + 1) (if lBusy L f = true then lmax v (lV L f) else v)
def cSpread (L : Lnk) (nf : Nat) : Int64 := if lLeast L nf (-1) = -1 then 0 else cMax L nf 0 (lV L (tn (lLeast L nf (-1)))) - lV L (tn (lLeast L nf (-1)))
set_option maxRecDepth 8000 in
theorem sp_X8_spread (hl : l.stackTraces = false) (p : px h x u w) (q : LQ E h (x + 8) L h) {n : Nat} (hn : n ≤ 6) (hx : lX L 5 = nI n) (H : Q (.inl (some (.long (cSpread L n)))) h) : j_Met l D bs E (d + 4) n_X8_spread [.ref x] h Q := by
  have hB := q.2.2
  have hz : ix 6 (lLeast L n (-1)) := lPick_ix (by omega) (Or.inl rfl)
  unfold cSpread at H
  refine j_meth hl rfl g_X8_spread (Nat.le_of_ble_eq_true rfl) (fun _ => ⟨_, _, rfl, (px_s p)⟩) hB.1 hB.2 (fun G hG => ?_)
  refine b_X8_spread_0 hG ?_
  dsimp only [q_X8_spread_0, j_wp, j_opB, j_opA, j_nth, j_i1, j_i2, j_l1, j_l2, j_li, j_f1, j_f2, j_d1, j_d2, j_r1, j_ai, j_aii, j_ail, j_aid, j_air, j_st1, j_st2, j_stu, j_kl, j_cond, j_args, j_out, j_few, j_cw, j_nat, j_pad, j_exp, Nat.reduceAdd]
  simp only [px_s p, px_2 p, LQ_sh q, LQ_R0 q, LQ_R1 q, LQ_R2 q, LQ_R3 q, LQ_R4 q, j_ref, j_ari, j_arb, j_arr, j_len, j_nar, j_oi, j_ol, j_of, j_od, j_or, j_ov, true_and, and_true]
  refine sp_X1_leastBusyFlow hl q hn hx ?_
  simp only [j_ref, j_ari, j_arb, j_arr, j_len, j_nar, j_oi, j_ol, j_of, j_od, j_or, j_ov, true_and, and_true, j_st1, j_kl]
  by_cases g : lLeast L n (-1) = -1
  · rw [if_pos g] at H ⊢
    exact H
  · rw [if_neg g] at H ⊢
    rcases hz with hz | ⟨f, hf, hz⟩
    · exact absurd hz g
    · rw [hz, tn, nI_clamp (by omega)] at H
      rw [hz]
      generalize hr : cMax L n 0 (lV L f) = res at H
      have loop : ∀ (k g : Nat) (v : Int64), g + k = n → cMax L k g v = res → G 28 [.ref x, .int (nI f), .long v, j_u, .int (nI g)] [] h := by
        intro k
        induction k with
        | zero =>
          intro g v hg e
          unfold cMax at e
          subst e
          refine b_X8_spread_28 hG ?_
          dsimp only [q_X8_spread_28, j_wp, j_opB, j_opA, j_nth, j_i1, j_i2, j_l1, j_l2, j_li, j_f1, j_f2, j_d1, j_d2, j_r1, j_ai, j_aii, j_ail, j_aid, j_air, j_st1, j_st2, j_stu, j_kl, j_cond, j_args, j_out, j_few, j_cw, j_nat, j_pad, j_exp, Nat.reduceAdd]
          simp only [px_s p, px_2 p, LQ_x5 q, hx, LQ_sh q, LQ_R0 q, LQ_R1 q, LQ_R2 q, LQ_R3 q, LQ_R4 q, j_ref, j_ari, j_arb, j_arr, j_len, j_nar, j_oi, j_ol, j_of, j_od, j_or, j_ov, true_and, and_true]
          rw [if_neg (nI_nlt (by omega) (by omega))]
          refine b_X8_spread_72 hG ?_
          dsimp only [q_X8_spread_72, j_wp, j_opB, j_opA, j_nth, j_i1, j_i2, j_l1, j_l2, j_li, j_f1, j_f2, j_d1, j_d2, j_r1, j_ai, j_aii, j_ail, j_aid, j_air, j_st1, j_st2, j_stu, j_kl, j_cond, j_args, j_out, j_few, j_cw, j_nat, j_pad, j_exp, Nat.reduceAdd]
          simp only [px_s p, px_2 p, LQ_sh q, LQ_R0 q, LQ_R1 q, LQ_R2 q, LQ_R3 q, LQ_R4 q, j_ref, j_ari, j_arb, j_arr, j_len, j_nar, j_oi, j_ol, j_of, j_od, j_or, j_ov, true_and, and_true]
          refine lz_get hl q hf ?_
          simp only [j_ref, j_ari, j_arb, j_arr, j_len, j_nar, j_oi, j_ol, j_of, j_od, j_or, j_ov, true_and, and_true]
          exact H
        | succ k ih =>
          intro g v hg e
          unfold cMax lmax at e
          have nx : ∀ v' : Int64, cMax L k (g + 1) v' = res → G 66 [.ref x, .int (nI f), .long v', j_u, .int (nI g)] [] h := by
            intro v' e'
            refine b_X8_spread_66 hG ?_
            dsimp only [q_X8_spread_66, j_wp, j_opB, j_opA, j_nth, j_i1, j_i2, j_l1, j_l2, j_li, j_f1, j_f2, j_d1, j_d2, j_r1, j_ai, j_aii, j_ail, j_aid, j_air, j_st1, j_st2, j_stu, j_kl, j_cond, j_args, j_out, j_few, j_cw, j_nat, j_pad, j_exp, Nat.reduceAdd]
            rw [nI_1]
            exact ih (g + 1) v' (by omega) e'
          refine b_X8_spread_28 hG ?_
          dsimp only [q_X8_spread_28, j_wp, j_opB, j_opA, j_nth, j_i1, j_i2, j_l1, j_l2, j_li, j_f1, j_f2, j_d1, j_d2, j_r1, j_ai, j_aii, j_ail, j_aid, j_air, j_st1, j_st2, j_stu, j_kl, j_cond, j_args, j_out, j_few, j_cw, j_nat, j_pad, j_exp, Nat.reduceAdd]
          simp only [px_s p, px_2 p, LQ_x5 q, hx, LQ_sh q, LQ_R0 q, LQ_R1 q, LQ_R2 q, LQ_R3 q, LQ_R4 q, j_ref, j_ari, j_arb, j_arr, j_len, j_nar, j_oi, j_ol, j_of, j_od, j_or, j_ov, true_and, and_true]
          rw [if_pos (nI_lt (by omega) (by omega))]
          refine sp_X1_isBusy hl q (f := g) (by omega) ?_
          simp only [px_s p, px_2 p, LQ_sh q, LQ_R0 q, LQ_R1 q, LQ_R2 q, LQ_R3 q, LQ_R4 q, j_ref, j_ari, j_arb, j_arr, j_len, j_nar, j_oi, j_ol, j_of, j_od, j_or, j_ov, true_and, and_true]
          by_cases g2 : lBusy L g = true
          · simp only [g2, if_true] at e ⊢
            rw [if_neg (by decide)]
            refine lz_get hl q (f := g) (by omega) ?_
            simp only [j_ref, j_ari, j_arb, j_arr, j_len, j_nar, j_oi, j_ol, j_of, j_od, j_or, j_ov, true_and, and_true, j_st1, j_st2, j_stu, j_kl]
            exact nx _ e
          · simp only [g2, if_false, Bool.false_eq_true, if_true] at e ⊢
            exact nx _ e
      refine b_X8_spread_16 hG ?_
      dsimp only [q_X8_spread_16, j_wp, j_opB, j_opA, j_nth, j_i1, j_i2, j_l1, j_l2, j_li, j_f1, j_f2, j_d1, j_d2, j_r1, j_ai, j_aii, j_ail, j_aid, j_air, j_st1, j_st2, j_stu, j_kl, j_cond, j_args, j_out, j_few, j_cw, j_nat, j_pad, j_exp, Nat.reduceAdd]
      simp only [px_s p, px_2 p, LQ_sh q, LQ_R0 q, LQ_R1 q, LQ_R2 q, LQ_R3 q, LQ_R4 q, j_ref, j_ari, j_arb, j_arr, j_len, j_nar, j_oi, j_ol, j_of, j_od, j_or, j_ov, true_and, and_true]
      refine lz_get hl q hf ?_
      simp only [j_ref, j_ari, j_arb, j_arr, j_len, j_nar, j_oi, j_ol, j_of, j_od, j_or, j_ov, true_and, and_true, j_st1, j_st2, j_stu, j_kl]
      exact loop n 0 _ (by omega) hr
/-- the delivered bytes of k flows from f on -/
def cSumF (L : Lnk) : Nat → Nat → Int32 → Int32
  | 0, _, c => c
  | k + 1, f, c => cSumF L k (f + 1) (c + lF L f 10)
theorem sp_X8_share (hl : l.stackTraces = false) (p : px h x u w) (q : LQ E h (x + 8) L h) (r : rm E h) {v : Int32} {n : Nat} (hn : n ≤ 6) (hx : lX L 5 = nI n) (hd : ∀ f, f < n → 0 < cSumF L n 0 0 → vf_n64 (FP.ddiv (FP.i2d (lF L f 10)) (FP.i2d (cSumF L n 0 0)))) (H1 : ¬ inx v n → ∀ z, j_z h ≤ z → Q (.inr 0) (j_thr h z)) (H2 : ∀ f, f < n → v = nI f → ¬ 0 < cSumF L n 0 0 → Q (.inl (some (.double FP.dconst0))) h) (H0 : ∀ f, f < n → v = nI f → 0 < cSumF L n 0 0 → Q (.inl (some (.double (FP.ddiv (FP.i2d (lF L f 10)) (FP.i2d (cSumF L n 0 0)))))) h) : j_Met l D bs E (d + 2) n_X8_share [.ref x, .int v] h Q := by
  have hB := rm_bd r
  generalize hr : cSumF L n 0 0 = tot at *
  refine j_meth hl rfl g_X8_share (Nat.le_of_ble_eq_true rfl) (fun _ => ⟨_, _, rfl, (px_s p)⟩) hB.1 hB.2 (fun G hG => ?_)
  have loop : (∀ y, G 42 [.ref x, .int v, .int tot, y] [] h) → ∀ (k f : Nat) (c : Int32), f + k = n → cSumF L k f c = tot → G 9 [.ref x, .int v, .int c, .int (nI f)] [] h := by
    intro K k
    induction k with
    | zero =>
      intro f c hf e
      unfold cSumF at e
      subst e
      refine b_X8_share_9 hG ?_
      dsimp only [q_X8_share_9, j_wp, j_opB, j_opA, j_nth, j_i1, j_i2, j_l1, j_l2, j_li, j_f1, j_f2, j_d1, j_d2, j_r1, j_ai, j_aii, j_ail, j_aid, j_air, j_st1, j_st2, j_stu, j_kl, j_cond, j_args, j_out, j_few, j_cw, j_nat, j_pad, j_exp, Nat.reduceAdd]
      simp only [px_s p, px_2 p, LQ_x5 q, hx, LQ_sh q, LQ_R0 q, LQ_R1 q, LQ_R2 q, LQ_R3 q, LQ_R4 q, j_ref, j_ari, j_arb, j_arr, j_len, j_nar, j_oi, j_ol, j_of, j_od, j_or, j_ov, true_and, and_true]
      rw [if_neg (nI_nlt (by omega) (by omega))]
      exact K _
    | succ k ih =>
      intro f c hf e
      unfold cSumF at e
      refine b_X8_share_9 hG ?_
      dsimp only [q_X8_share_9, j_wp, j_opB, j_opA, j_nth, j_i1, j_i2, j_l1, j_l2, j_li, j_f1, j_f2, j_d1, j_d2, j_r1, j_ai, j_aii, j_ail, j_aid, j_air, j_st1, j_st2, j_stu, j_kl, j_cond, j_args, j_out, j_few, j_cw, j_nat, j_pad, j_exp, Nat.reduceAdd]
      simp only [px_s p, px_2 p, LQ_x5 q, hx, LQ_sh q, LQ_R0 q, LQ_R1 q, LQ_R2 q, LQ_R3 q, LQ_R4 q, j_ref, j_ari, j_arb, j_arr, j_len, j_nar, j_oi, j_ol, j_of, j_od, j_or, j_ov, true_and, and_true]
      rw [if_pos (nI_lt (by omega) (by omega))]
      refine lf_get hl q (f := f) (by omega) (k := 10) (by omega) ?_
      simp only [j_ref, j_ari, j_arb, j_arr, j_len, j_nar, j_oi, j_ol, j_of, j_od, j_or, j_ov, true_and, and_true, j_st1, j_kl]
      rw [nI_1]
      exact ih (f + 1) _ (by omega) e
  refine b_X8_share_0 hG ?_
  dsimp only [q_X8_share_0, j_wp, j_opB, j_opA, j_nth, j_i1, j_i2, j_l1, j_l2, j_li, j_f1, j_f2, j_d1, j_d2, j_r1, j_ai, j_aii, j_ail, j_aid, j_air, j_st1, j_st2, j_stu, j_kl, j_cond, j_args, j_out, j_few, j_cw, j_nat, j_pad, j_exp, Nat.reduceAdd]
  refine sp_X8_requireFlow hl p q r hn hx (fun g z hz => ?_) (fun g => ?_)
  · simp only [j_ref, j_ari, j_arb, j_arr, j_len, j_nar, j_oi, j_ol, j_of, j_od, j_or, j_ov, true_and, and_true]
    exact H1 g z hz
  · simp only [j_ref, j_ari, j_arb, j_arr, j_len, j_nar, j_oi, j_ol, j_of, j_od, j_or, j_ov, true_and, and_true, j_st1, j_kl]
    obtain ⟨f, hf, rfl⟩ := g
    refine loop (fun y => ?_) n 0 0 (by omega) hr
    refine b_X8_share_42 hG ?_
    dsimp only [q_X8_share_42, j_wp, j_opB, j_opA, j_nth, j_i1, j_i2, j_l1, j_l2, j_li, j_f1, j_f2, j_d1, j_d2, j_r1, j_ai, j_aii, j_ail, j_aid, j_air, j_st1, j_st2, j_stu, j_kl, j_cond, j_args, j_out, j_few, j_cw, j_nat, j_pad, j_exp, Nat.reduceAdd]
    by_cases g2 : 0 < tot
    · rw [if_pos g2]
      refine b_X8_share_48 hG ?_
      dsimp only [q_X8_share_48, j_wp, j_opB, j_opA, j_nth, j_i1, j_i2, j_l1, j_l2, j_li, j_f1, j_f2, j_d1, j_d2, j_r1, j_ai, j_aii, j_ail, j_aid, j_air, j_st1, j_st2, j_stu, j_kl, j_cond, j_args, j_out, j_few, j_cw, j_nat, j_pad, j_exp, Nat.reduceAdd]
      simp only [px_s p, px_2 p, LQ_sh q, LQ_R0 q, LQ_R1 q, LQ_R2 q, LQ_R3 q, LQ_R4 q, j_ref, j_ari, j_arb, j_arr, j_len, j_nar, j_oi, j_ol, j_of, j_od, j_or, j_ov, true_and, and_true]
      refine lf_get hl q (f := f) (by omega) (k := 10) (by omega) ?_
      simp only [j_ref, j_ari, j_arb, j_arr, j_len, j_nar, j_oi, j_ol, j_of, j_od, j_or, j_ov, true_and, and_true]
      exact ⟨hd f hf g2, H0 f hf rfl g2⟩
    · rw [if_neg g2]
      exact H2 f hf rfl g2
set_option maxRecDepth 8000 in
theorem sp_X8_meanDelay (hl : l.stackTraces = false) (p : px h x u w) (q : LQ E h (x + 8) L h) (r : rm E h) {v : Int32} {n np : Nat} (hn : n ≤ 6) (hx : lX L 5 = nI n) (hnp : np ≤ 100) (hx9 : lX L 9 = nI np) (hd : 0 < (rDelG (lP L) v np 0 0 0).2 → vf_n32 (FP.fdiv (FP.i2f (rDelG (lP L) v np 0 0 0).1) (FP.i2f (rDelG (lP L) v np 0 0 0).2))) (H1 : ¬ inx v n → ∀ z, j_z h ≤ z → Q (.inr 0) (j_thr h z)) (H2 : inx v n → ¬ 0 < (rDelG (lP L) v np 0 0 0).2 → Q (.inl (some (.float FP.fconst0))) h) (H0 : inx v n → 0 < (rDelG (lP L) v np 0 0 0).2 → Q (.inl (some (.float (FP.fdiv (FP.i2f (rDelG (lP L) v np 0 0 0).1) (FP.i2f (rDelG (lP L) v np 0 0 0).2))))) h) : j_Met l D bs E (d + 3) n_X8_meanDelay [.ref x, .int v] h Q := by
  have hB := rm_bd r
  generalize hr : rDelG (lP L) v np 0 0 0 = res at *
  refine j_meth hl rfl g_X8_meanDelay (Nat.le_of_ble_eq_true rfl) (fun _ => ⟨_, _, rfl, (px_s p)⟩) hB.1 hB.2 (fun G hG => ?_)
  have loop : (∀ y, G 92 [.ref x, .int v, .int res.1, .int res.2, y] [] h) → ∀ (k i : Nat) (a b : Int32), i + k = np → rDelG (lP L) v k i a b = res → G 12 [.ref x, .int v, .int a, .int b, .int (nI i)] [] h := by
    intro K k
    induction k with
    | zero =>
      intro i a b hi e
      unfold rDelG at e
      subst e
      refine b_X8_meanDelay_12 hG ?_
      dsimp only [q_X8_meanDelay_12, j_wp, j_opB, j_opA, j_nth, j_i1, j_i2, j_l1, j_l2, j_li, j_f1, j_f2, j_d1, j_d2, j_r1, j_ai, j_aii, j_ail, j_aid, j_air, j_st1, j_st2, j_stu, j_kl, j_cond, j_args, j_out, j_few, j_cw, j_nat, j_pad, j_exp, Nat.reduceAdd]
      simp only [px_s p, px_2 p, LQ_x9 q, hx9, LQ_sh q, LQ_R0 q, LQ_R1 q, LQ_R2 q, LQ_R3 q, LQ_R4 q, j_ref, j_ari, j_arb, j_arr, j_len, j_nar, j_oi, j_ol, j_of, j_od, j_or, j_ov, true_and, and_true]
      rw [if_neg (nI_nlt (by omega) (by omega))]
      exact K _
    | succ k ih =>
      intro i a b hi e
      unfold rDelG at e
      have nx : ∀ (a' b' : Int32), rDelG (lP L) v k (i + 1) a' b' = res → G 86 [.ref x, .int v, .int a', .int b', .int (nI i)] [] h := by
        intro a' b' e'
        refine b_X8_meanDelay_86 hG ?_
        dsimp only [q_X8_meanDelay_86, j_wp, j_opB, j_opA, j_nth, j_i1, j_i2, j_l1, j_l2, j_li, j_f1, j_f2, j_d1, j_d2, j_r1, j_ai, j_aii, j_ail, j_aid, j_air, j_st1, j_st2, j_stu, j_kl, j_cond, j_args, j_out, j_few, j_cw, j_nat, j_pad, j_exp, Nat.reduceAdd]
        rw [nI_1]
        exact ih (i + 1) a' b' (by omega) e'
      refine b_X8_meanDelay_12 hG ?_
      dsimp only [q_X8_meanDelay_12, j_wp, j_opB, j_opA, j_nth, j_i1, j_i2, j_l1, j_l2, j_li, j_f1, j_f2, j_d1, j_d2, j_r1, j_ai, j_aii, j_ail, j_aid, j_air, j_st1, j_st2, j_stu, j_kl, j_cond, j_args, j_out, j_few, j_cw, j_nat, j_pad, j_exp, Nat.reduceAdd]
      simp only [px_s p, px_2 p, LQ_x9 q, hx9, LQ_sh q, LQ_R0 q, LQ_R1 q, LQ_R2 q, LQ_R3 q, LQ_R4 q, j_ref, j_ari, j_arb, j_arr, j_len, j_nar, j_oi, j_ol, j_of, j_od, j_or, j_ov, true_and, and_true]
      rw [if_pos (nI_lt (by omega) (by omega))]
      refine lp_get hl q (f := i) (by omega) (k := 0) (by omega) ?_
      simp only [px_s p, px_2 p, LQ_sh q, LQ_R0 q, LQ_R1 q, LQ_R2 q, LQ_R3 q, LQ_R4 q, j_ref, j_ari, j_arb, j_arr, j_len, j_nar, j_oi, j_ol, j_of, j_od, j_or, j_ov, true_and, and_true]
      by_cases g1 : lP L i 0 = v
      · rw [if_pos g1]
        refine sp_X1_isDelivered hl q (p := i) (by omega) ?_
        simp only [px_s p, px_2 p, LQ_sh q, LQ_R0 q, LQ_R1 q, LQ_R2 q, LQ_R3 q, LQ_R4 q, j_ref, j_ari, j_arb, j_arr, j_len, j_nar, j_oi, j_ol, j_of, j_od, j_or, j_ov, true_and, and_true]
        by_cases g2 : lP L i 3 = 2
        · rw [if_pos ⟨g1, g2⟩] at e
          rw [if_pos g2, if_neg (by decide)]
          refine lp_get hl q (f := i) (by omega) (k := 5) (by omega) ?_
          simp only [px_s p, px_2 p, LQ_sh q, LQ_R0 q, LQ_R1 q, LQ_R2 q, LQ_R3 q, LQ_R4 q, j_ref, j_ari, j_arb, j_arr, j_len, j_nar, j_oi, j_ol, j_of, j_od, j_or, j_ov, true_and, and_true]
          refine lp_get hl q (f := i) (by omega) (k := 2) (by omega) ?_
          simp only [j_ref, j_ari, j_arb, j_arr, j_len, j_nar, j_oi, j_ol, j_of, j_od, j_or, j_ov, true_and, and_true, j_st1, j_kl]
          exact nx _ _ e
        · rw [if_neg (fun z => g2 z.2)] at e
          rw [if_neg g2]
          first | rw [if_pos rfl] | rw [if_pos trivial]
          exact nx a b e
      · rw [if_neg g1]
        rw [if_neg (fun z => g1 z.1)] at e
        exact nx a b e
  refine b_X8_meanDelay_0 hG ?_
  dsimp only [q_X8_meanDelay_0, j_wp, j_opB, j_opA, j_nth, j_i1, j_i2, j_l1, j_l2, j_li, j_f1, j_f2, j_d1, j_d2, j_r1, j_ai, j_aii, j_ail, j_aid, j_air, j_st1, j_st2, j_stu, j_kl, j_cond, j_args, j_out, j_few, j_cw, j_nat, j_pad, j_exp, Nat.reduceAdd]
  refine sp_X8_requireFlow hl p q r hn hx (fun g z hz => ?_) (fun g => ?_)
  · simp only [j_ref, j_ari, j_arb, j_arr, j_len, j_nar, j_oi, j_ol, j_of, j_od, j_or, j_ov, true_and, and_true]
    exact H1 g z hz
  · simp only [j_ref, j_ari, j_arb, j_arr, j_len, j_nar, j_oi, j_ol, j_of, j_od, j_or, j_ov, true_and, and_true, j_st1, j_kl]
    refine loop (fun y => ?_) np 0 0 0 (by omega) hr
    refine b_X8_meanDelay_92 hG ?_
    dsimp only [q_X8_meanDelay_92, j_wp, j_opB, j_opA, j_nth, j_i1, j_i2, j_l1, j_l2, j_li, j_f1, j_f2, j_d1, j_d2, j_r1, j_ai, j_aii, j_ail, j_aid, j_air, j_st1, j_st2, j_stu, j_kl, j_cond, j_args, j_out, j_few, j_cw, j_nat, j_pad, j_exp, Nat.reduceAdd]
    by_cases g2 : 0 < res.2
    · rw [if_pos g2]
      refine b_X8_meanDelay_98 hG ?_
      dsimp only [q_X8_meanDelay_98, j_wp, j_opB, j_opA, j_nth, j_i1, j_i2, j_l1, j_l2, j_li, j_f1, j_f2, j_d1, j_d2, j_r1, j_ai, j_aii, j_ail, j_aid, j_air, j_st1, j_st2, j_stu, j_kl, j_cond, j_args, j_out, j_few, j_cw, j_nat, j_pad, j_exp, Nat.reduceAdd]
      exact ⟨hd g2, H0 g g2⟩
    · rw [if_neg g2]
      exact H2 g g2
end CaA
