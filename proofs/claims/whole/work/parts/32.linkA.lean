/-! ===== Link: small methods ===== -/
/-- the link at a holds L; since h0 nothing but its numbers (not its records) has changed; there is room -/
def LQ (E : j_E) (h0 : j_H) (a : Nat) (L : Lnk) (h : j_H) : Prop := LK h a L ∧ Fr a (a + 8) h0 h ∧ j_bd E h
section LnkA
variable {l : Launch} {D : va_G} {bs : Nat} {E : j_E} {h0 h : j_H} {a : Nat} {L : Lnk}
theorem LQ_sh (s : LQ E h0 a L h) : j_sh h a = some (.inr 3) := s.1.1.1
theorem LQ_R0 (s : LQ E h0 a L h) : j_R h a 0 = some (a + 1) := s.1.1.2.1
theorem LQ_R1 (s : LQ E h0 a L h) : j_R h a 1 = some (a + 3) := s.1.1.2.2.1
theorem LQ_R2 (s : LQ E h0 a L h) : j_R h a 2 = some (a + 4) := s.1.1.2.2.2.1
theorem LQ_R3 (s : LQ E h0 a L h) : j_R h a 3 = some (a + 6) := s.1.1.2.2.2.2.1
theorem LQ_R4 (s : LQ E h0 a L h) : j_R h a 4 = some (a + 8) := s.1.1.2.2.2.2.2.1
theorem LQ_tF (s : LQ E h0 a L h) : TB h (a + 1) (a + 2) 19 114 := s.1.1.2.2.2.2.2.2.1
theorem LQ_tP (s : LQ E h0 a L h) : TB h (a + 4) (a + 5) 11 1100 := s.1.1.2.2.2.2.2.2.2.2.1
theorem LQ_tS (s : LQ E h0 a L h) : TB h (a + 6) (a + 7) 6 1800 := s.1.1.2.2.2.2.2.2.2.2.2.1
theorem LQ_x (s : LQ E h0 a L h) (k : Nat) (h1 : 5 ≤ k) (h2 : k < 17) : j_I h a k = lX L k := s.1.2.1 k h1 h2
theorem LQ_x5 (s : LQ E h0 a L h) : j_I h a 5 = lX L 5 := LQ_x s 5 (by omega) (by omega)
theorem LQ_x6 (s : LQ E h0 a L h) : j_I h a 6 = lX L 6 := LQ_x s 6 (by omega) (by omega)
theorem LQ_x7 (s : LQ E h0 a L h) : j_I h a 7 = lX L 7 := LQ_x s 7 (by omega) (by omega)
theorem LQ_x8 (s : LQ E h0 a L h) : j_I h a 8 = lX L 8 := LQ_x s 8 (by omega) (by omega)
theorem LQ_x9 (s : LQ E h0 a L h) : j_I h a 9 = lX L 9 := LQ_x s 9 (by omega) (by omega)
theorem LQ_x10 (s : LQ E h0 a L h) : j_I h a 10 = lX L 10 := LQ_x s 10 (by omega) (by omega)
theorem LQ_x11 (s : LQ E h0 a L h) : j_I h a 11 = lX L 11 := LQ_x s 11 (by omega) (by omega)
theorem LQ_x12 (s : LQ E h0 a L h) : j_I h a 12 = lX L 12 := LQ_x s 12 (by omega) (by omega)
theorem LQ_x13 (s : LQ E h0 a L h) : j_I h a 13 = lX L 13 := LQ_x s 13 (by omega) (by omega)
theorem LQ_x14 (s : LQ E h0 a L h) : j_I h a 14 = lX L 14 := LQ_x s 14 (by omega) (by omega)
theorem LQ_x15 (s : LQ E h0 a L h) : j_I h a 15 = lX L 15 := LQ_x s 15 (by omega) (by omega)
theorem LQ_x16 (s : LQ E h0 a L h) : j_I h a 16 = lX L 16 := LQ_x s 16 (by omega) (by omega)
theorem LQ_X (s : LQ E h0 a L h) (k : Nat) (v : Int32) : LQ E h0 a (lsX L k v) (j_setI h a k v) := ⟨LK_X s.1, Fr_I s.2.1 (by omega) (by omega), s.2.2⟩
theorem LQ_V (s : LQ E h0 a L h) (k : Nat) (v : Int64) : LQ E h0 a (lsV L k v) (j_setL h (a + 3) k v) := ⟨LK_V s.1, Fr_L s.2.1 (by omega) (by omega), s.2.2⟩
variable {d : Nat} {Q : j_O → j_H → Prop}
theorem lf_get (hl : l.stackTraces = false) (s : LQ E h0 a L h) {f k : Nat} (hf : f < 6) (hk : k < 19) (H : Q (.inl (some (.int (lF L f k)))) h) : j_Met l D bs E (d + 1) n_X6_get [.ref (a + 1), .int (nI f), .int (nI k)] h Q :=
  sp_X6_get hl s.2.2 (LQ_tF s) hk (by omega) (by rw [s.1.2.2.1 f k hf hk]; exact H)
theorem lf_set (hl : l.stackTraces = false) (s : LQ E h0 a L h) {f k : Nat} {v : Int32} (hf : f < 6) (hk : k < 19) (H : ∀ h', LQ E h0 a (lsF L f k v) h' → Q (.inl none) h') : j_Met l D bs E (d + 1) n_X6_set [.ref (a + 1), .int (nI f), .int (nI k), .int v] h Q :=
  sp_X6_set hl s.2.2 (LQ_tF s) hk (by omega) (H _ ⟨LK_F s.1 hf hk, Fr_I s.2.1 (by omega) (by omega), s.2.2⟩)
theorem lf_add (hl : l.stackTraces = false) (s : LQ E h0 a L h) {f k : Nat} {v : Int32} (hf : f < 6) (hk : k < 19) (H : ∀ h', LQ E h0 a (lsF L f k (lF L f k + v)) h' → Q (.inl none) h') : j_Met l D bs E (d + 1) n_X6_add [.ref (a + 1), .int (nI f), .int (nI k), .int v] h Q :=
  sp_X6_add hl s.2.2 (LQ_tF s) hk (by omega) (by rw [s.1.2.2.1 f k hf hk]; exact H _ ⟨LK_F s.1 hf hk, Fr_I s.2.1 (by omega) (by omega), s.2.2⟩)
theorem lp_get (hl : l.stackTraces = false) (s : LQ E h0 a L h) {f k : Nat} (hf : f < 100) (hk : k < 11) (H : Q (.inl (some (.int (lP L f k)))) h) : j_Met l D bs E (d + 1) n_X6_get [.ref (a + 4), .int (nI f), .int (nI k)] h Q :=
  sp_X6_get hl s.2.2 (LQ_tP s) hk (by omega) (by rw [s.1.2.2.2.1 f k hf hk]; exact H)
theorem lp_set (hl : l.stackTraces = false) (s : LQ E h0 a L h) {f k : Nat} {v : Int32} (hf : f < 100) (hk : k < 11) (H : ∀ h', LQ E h0 a (lsP L f k v) h' → Q (.inl none) h') : j_Met l D bs E (d + 1) n_X6_set [.ref (a + 4), .int (nI f), .int (nI k), .int v] h Q :=
  sp_X6_set hl s.2.2 (LQ_tP s) hk (by omega) (H _ ⟨LK_P s.1 hf hk, Fr_I s.2.1 (by omega) (by omega), s.2.2⟩)
theorem lp_add (hl : l.stackTraces = false) (s : LQ E h0 a L h) {f k : Nat} {v : Int32} (hf : f < 100) (hk : k < 11) (H : ∀ h', LQ E h0 a (lsP L f k (lP L f k + v)) h' → Q (.inl none) h') : j_Met l D bs E (d + 1) n_X6_add [.ref (a + 4), .int (nI f), .int (nI k), .int v] h Q :=
  sp_X6_add hl s.2.2 (LQ_tP s) hk (by omega) (by rw [s.1.2.2.2.1 f k hf hk]; exact H _ ⟨LK_P s.1 hf hk, Fr_I s.2.1 (by omega) (by omega), s.2.2⟩)
theorem ls_get (hl : l.stackTraces = false) (s : LQ E h0 a L h) {f k : Nat} (hf : f < 300) (hk : k < 6) (H : Q (.inl (some (.int (lS L f k)))) h) : j_Met l D bs E (d + 1) n_X6_get [.ref (a + 6), .int (nI f), .int (nI k)] h Q :=
  sp_X6_get hl s.2.2 (LQ_tS s) hk (by omega) (by rw [s.1.2.2.2.2.1 f k hf hk]; exact H)
theorem ls_set (hl : l.stackTraces = false) (s : LQ E h0 a L h) {f k : Nat} {v : Int32} (hf : f < 300) (hk : k < 6) (H : ∀ h', LQ E h0 a (lsS L f k v) h' → Q (.inl none) h') : j_Met l D bs E (d + 1) n_X6_set [.ref (a + 6), .int (nI f), .int (nI k), .int v] h Q :=
  sp_X6_set hl s.2.2 (LQ_tS s) hk (by omega) (H _ ⟨LK_S s.1 hf hk, Fr_I s.2.1 (by omega) (by omega), s.2.2⟩)
theorem lz_get (hl : l.stackTraces = false) (s : LQ E h0 a L h) {f : Nat} (hf : f < 6) (H : Q (.inl (some (.long (lV L f)))) h) : j_Met l D bs E (d + 1) n_X1_virtualOf [.ref a, .int (nI f)] h Q := sp_X1_virtualOf hl s.2.2 s.1 hf H
theorem lz_put (hl : l.stackTraces = false) (s : LQ E h0 a L h) {f : Nat} {v : Int64} (hf : f < 6) (H : ∀ h', LQ E h0 a (lsV L f v) h' → Q (.inl none) h') : j_Met l D bs E (d + 1) n_X1_setVirtual [.ref a, .int (nI f), .long v] h Q := sp_X1_setVirtual hl s.2.2 s.1 hf (H _ (LQ_V s f v))
def lBusy (L : Lnk) (f : Nat) : Bool := decide (0 < lF L f 7) || decide (0 < lF L f 16)
theorem sp_X1_isBusy (hl : l.stackTraces = false) (s : LQ E h0 a L h) {f : Nat} (hf : f < 6) (H : Q (.inl (some (.int (if lBusy L f = true then 1 else 0)))) h) : j_Met l D bs E (d + 2) n_X1_isBusy [.ref a, .int (nI f)] h Q := by
  have hB := s.2.2
  unfold lBusy at H
  refine j_meth hl rfl g_X1_isBusy (Nat.le_of_ble_eq_true rfl) (fun _ => ⟨_, _, rfl, (LQ_sh s)⟩) hB.1 hB.2 (fun G hG => ?_)
  refine b_X1_isBusy_0 hG ?_
  dsimp only [q_X1_isBusy_0, j_wp, j_opB, j_opA, j_nth, j_i1, j_i2, j_l1, j_l2, j_li, j_f1, j_f2, j_d1, j_d2, j_r1, j_ai, j_aii, j_ail, j_aid, j_air, j_st1, j_st2, j_stu, j_kl, j_cond, j_args, j_out, j_few, j_cw, j_nat, j_pad, j_exp, Nat.reduceAdd]
  simp only [LQ_sh s, LQ_R0 s, LQ_R1 s, LQ_R2 s, LQ_R3 s, LQ_R4 s, j_ref, j_ari, j_arb, j_arr, j_len, j_nar, j_oi, j_ol, j_of, j_od, j_or, j_ov, true_and, and_true]
  refine lf_get hl s hf (k := 7) (by omega) ?_
  simp only [LQ_sh s, LQ_R0 s, LQ_R1 s, LQ_R2 s, LQ_R3 s, LQ_R4 s, j_ref, j_ari, j_arb, j_arr, j_len, j_nar, j_oi, j_ol, j_of, j_od, j_or, j_ov, true_and, and_true]
  split
  · rename_i g
    simp only [g, decide_true, Bool.true_or, if_true] at H
    refine b_X1_isBusy_26 hG ?_
    dsimp only [q_X1_isBusy_26, j_wp, j_opB, j_opA, j_nth, j_i1, j_i2, j_l1, j_l2, j_li, j_f1, j_f2, j_d1, j_d2, j_r1, j_ai, j_aii, j_ail, j_aid, j_air, j_st1, j_st2, j_stu, j_kl, j_cond, j_args, j_out, j_few, j_cw, j_nat, j_pad, j_exp, Nat.reduceAdd]
    refine b_X1_isBusy_31 hG ?_
    dsimp only [q_X1_isBusy_31, j_wp, j_opB, j_opA, j_nth, j_i1, j_i2, j_l1, j_l2, j_li, j_f1, j_f2, j_d1, j_d2, j_r1, j_ai, j_aii, j_ail, j_aid, j_air, j_st1, j_st2, j_stu, j_kl, j_cond, j_args, j_out, j_few, j_cw, j_nat, j_pad, j_exp, Nat.reduceAdd]
    exact ⟨Or.inr rfl, H⟩
  · rename_i g
    refine lf_get hl s hf (k := 16) (by omega) ?_
    simp only [j_ref, j_ari, j_arb, j_arr, j_len, j_nar, j_oi, j_ol, j_of, j_od, j_or, j_ov, true_and, and_true]
    split
    · rename_i g2
      simp only [g, g2, decide_true, decide_false, Bool.false_or, if_true] at H
      refine b_X1_isBusy_26 hG ?_
      dsimp only [q_X1_isBusy_26, j_wp, j_opB, j_opA, j_nth, j_i1, j_i2, j_l1, j_l2, j_li, j_f1, j_f2, j_d1, j_d2, j_r1, j_ai, j_aii, j_ail, j_aid, j_air, j_st1, j_st2, j_stu, j_kl, j_cond, j_args, j_out, j_few, j_cw, j_nat, j_pad, j_exp, Nat.reduceAdd]
      refine b_X1_isBusy_31 hG ?_
      dsimp only [q_X1_isBusy_31, j_wp, j_opB, j_opA, j_nth, j_i1, j_i2, j_l1, j_l2, j_li, j_f1, j_f2, j_d1, j_d2, j_r1, j_ai, j_aii, j_ail, j_aid, j_air, j_st1, j_st2, j_stu, j_kl, j_cond, j_args, j_out, j_few, j_cw, j_nat, j_pad, j_exp, Nat.reduceAdd]
      exact ⟨Or.inr rfl, H⟩
    · rename_i g2
      simp only [g, g2, decide_false, Bool.false_or, Bool.false_eq_true, if_false] at H
      refine b_X1_isBusy_30 hG ?_
      dsimp only [q_X1_isBusy_30, j_wp, j_opB, j_opA, j_nth, j_i1, j_i2, j_l1, j_l2, j_li, j_f1, j_f2, j_d1, j_d2, j_r1, j_ai, j_aii, j_ail, j_aid, j_air, j_st1, j_st2, j_stu, j_kl, j_cond, j_args, j_out, j_few, j_cw, j_nat, j_pad, j_exp, Nat.reduceAdd]
      refine b_X1_isBusy_31 hG ?_
      dsimp only [q_X1_isBusy_31, j_wp, j_opB, j_opA, j_nth, j_i1, j_i2, j_l1, j_l2, j_li, j_f1, j_f2, j_d1, j_d2, j_r1, j_ai, j_aii, j_ail, j_aid, j_air, j_st1, j_st2, j_stu, j_kl, j_cond, j_args, j_out, j_few, j_cw, j_nat, j_pad, j_exp, Nat.reduceAdd]
      exact ⟨Or.inl rfl, H⟩
theorem sp_X1_isDelivered (hl : l.stackTraces = false) (s : LQ E h0 a L h) {p : Nat} (hp : p < 100) (H : Q (.inl (some (.int (if lP L p 3 = 2 then 1 else 0)))) h) : j_Met l D bs E (d + 2) n_X1_isDelivered [.ref a, .int (nI p)] h Q := by
  have hB := s.2.2
  refine j_meth hl rfl g_X1_isDelivered (Nat.le_of_ble_eq_true rfl) (fun _ => ⟨_, _, rfl, (LQ_sh s)⟩) hB.1 hB.2 (fun G hG => ?_)
  refine b_X1_isDelivered_0 hG ?_
  dsimp only [q_X1_isDelivered_0, j_wp, j_opB, j_opA, j_nth, j_i1, j_i2, j_l1, j_l2, j_li, j_f1, j_f2, j_d1, j_d2, j_r1, j_ai, j_aii, j_ail, j_aid, j_air, j_st1, j_st2, j_stu, j_kl, j_cond, j_args, j_out, j_few, j_cw, j_nat, j_pad, j_exp, Nat.reduceAdd]
  simp only [LQ_sh s, LQ_R0 s, LQ_R1 s, LQ_R2 s, LQ_R3 s, LQ_R4 s, j_ref, j_ari, j_arb, j_arr, j_len, j_nar, j_oi, j_ol, j_of, j_od, j_or, j_ov, true_and, and_true]
  refine lp_get hl s hp (k := 3) (by omega) ?_
  simp only [j_ref, j_ari, j_arb, j_arr, j_len, j_nar, j_oi, j_ol, j_of, j_od, j_or, j_ov, true_and, and_true]
  split
  · rename_i g
    rw [if_pos g] at H
    refine b_X1_isDelivered_18 hG ?_
    dsimp only [q_X1_isDelivered_18, j_wp, j_opB, j_opA, j_nth, j_i1, j_i2, j_l1, j_l2, j_li, j_f1, j_f2, j_d1, j_d2, j_r1, j_ai, j_aii, j_ail, j_aid, j_air, j_st1, j_st2, j_stu, j_kl, j_cond, j_args, j_out, j_few, j_cw, j_nat, j_pad, j_exp, Nat.reduceAdd]
    exact ⟨Or.inr rfl, H⟩
  · rename_i g
    rw [if_neg g] at H
    refine b_X1_isDelivered_17 hG ?_
    dsimp only [q_X1_isDelivered_17, j_wp, j_opB, j_opA, j_nth, j_i1, j_i2, j_l1, j_l2, j_li, j_f1, j_f2, j_d1, j_d2, j_r1, j_ai, j_aii, j_ail, j_aid, j_air, j_st1, j_st2, j_stu, j_kl, j_cond, j_args, j_out, j_few, j_cw, j_nat, j_pad, j_exp, Nat.reduceAdd]
    refine b_X1_isDelivered_18 hG ?_
    dsimp only [q_X1_isDelivered_18, j_wp, j_opB, j_opA, j_nth, j_i1, j_i2, j_l1, j_l2, j_li, j_f1, j_f2, j_d1, j_d2, j_r1, j_ai, j_aii, j_ail, j_aid, j_air, j_st1, j_st2, j_stu, j_kl, j_cond, j_args, j_out, j_few, j_cw, j_nat, j_pad, j_exp, Nat.reduceAdd]
    exact ⟨Or.inl rfl, H⟩
def lCount (L : Lnk) (f p : Nat) (n : Int32) : Lnk :=
  let L1 := lsX L 13 (lX L 13 + n)
  let L2 := lsF L1 f 7 (lF L1 f 7 + n)
  lsF L2 f 8 (lF L2 f 8 + n * lP L2 p 1)
theorem sp_X1_countQueued (hl : l.stackTraces = false) (s : LQ E h0 a L h) {f p : Nat} {n : Int32} (hf : f < 6) (hp : p < 100) (H : ∀ h', LQ E h0 a (lCount L f p n) h' → Q (.inl none) h') : j_Met l D bs E (d + 2) n_X1_countQueued [.ref a, .int (nI f), .int (nI p), .int n] h Q := by
  have hB := s.2.2
  refine j_meth hl rfl g_X1_countQueued (Nat.le_of_ble_eq_true rfl) (fun _ => ⟨_, _, rfl, (LQ_sh s)⟩) hB.1 hB.2 (fun G hG => ?_)
  refine b_X1_countQueued_0 hG ?_
  dsimp only [q_X1_countQueued_0, j_wp, j_opB, j_opA, j_nth, j_i1, j_i2, j_l1, j_l2, j_li, j_f1, j_f2, j_d1, j_d2, j_r1, j_ai, j_aii, j_ail, j_aid, j_air, j_st1, j_st2, j_stu, j_kl, j_cond, j_args, j_out, j_few, j_cw, j_nat, j_pad, j_exp, Nat.reduceAdd]
  simp only [LQ_sh s, LQ_R0 s, LQ_R1 s, LQ_R2 s, LQ_R3 s, LQ_R4 s, j_ref, j_ari, j_arb, j_arr, j_len, j_nar, j_oi, j_ol, j_of, j_od, j_or, j_ov, true_and, and_true, LQ_x13 s]
  have s1 := LQ_X s 13 (lX L 13 + n)
  simp only [LQ_sh s1, LQ_R0 s1, LQ_R1 s1, LQ_R2 s1, LQ_R3 s1, LQ_R4 s1, j_ref, j_ari, j_arb, j_arr, j_len, j_nar, j_oi, j_ol, j_of, j_od, j_or, j_ov, true_and, and_true]
  refine lf_add hl s1 hf (k := 7) (by omega) (fun h2 s2 => ?_)
  simp only [LQ_sh s2, LQ_R0 s2, LQ_R1 s2, LQ_R2 s2, LQ_R3 s2, LQ_R4 s2, j_ref, j_ari, j_arb, j_arr, j_len, j_nar, j_oi, j_ol, j_of, j_od, j_or, j_ov, true_and, and_true]
  refine lp_get hl s2 hp (k := 1) (by omega) ?_
  simp only [j_ref, j_ari, j_arb, j_arr, j_len, j_nar, j_oi, j_ol, j_of, j_od, j_or, j_ov, true_and, and_true]
  refine lf_add hl s2 hf (k := 8) (by omega) (fun h3 s3 => ?_)
  exact H h3 s3
def lRefund (L : Lnk) (f n : Nat) : Lnk :=
  if lS L n 4 = 1 then
    let L1 := lsS L n 4 0
    lsV L1 f (lV L1 f - (lS L1 n 5).toInt64)
  else L
theorem sp_X1_refund (hl : l.stackTraces = false) (s : LQ E h0 a L h) {f n : Nat} (hf : f < 6) (hn : n < 300) (H : ∀ h', LQ E h0 a (lRefund L f n) h' → Q (.inl none) h') : j_Met l D bs E (d + 2) n_X1_refund [.ref a, .int (nI f), .int (nI n)] h Q := by
  have hB := s.2.2
  unfold lRefund at H
  refine j_meth hl rfl g_X1_refund (Nat.le_of_ble_eq_true rfl) (fun _ => ⟨_, _, rfl, (LQ_sh s)⟩) hB.1 hB.2 (fun G hG => ?_)
  refine b_X1_refund_0 hG ?_
  dsimp only [q_X1_refund_0, j_wp, j_opB, j_opA, j_nth, j_i1, j_i2, j_l1, j_l2, j_li, j_f1, j_f2, j_d1, j_d2, j_r1, j_ai, j_aii, j_ail, j_aid, j_air, j_st1, j_st2, j_stu, j_kl, j_cond, j_args, j_out, j_few, j_cw, j_nat, j_pad, j_exp, Nat.reduceAdd]
  simp only [LQ_sh s, LQ_R0 s, LQ_R1 s, LQ_R2 s, LQ_R3 s, LQ_R4 s, j_ref, j_ari, j_arb, j_arr, j_len, j_nar, j_oi, j_ol, j_of, j_od, j_or, j_ov, true_and, and_true]
  refine ls_get hl s hn (k := 4) (by omega) ?_
  simp only [LQ_sh s, LQ_R0 s, LQ_R1 s, LQ_R2 s, LQ_R3 s, LQ_R4 s, j_ref, j_ari, j_arb, j_arr, j_len, j_nar, j_oi, j_ol, j_of, j_od, j_or, j_ov, true_and, and_true]
  split
  · rename_i g
    rw [if_pos g] at H
    refine ls_set hl s hn (k := 4) (by omega) (fun h1 s1 => ?_)
    simp only [j_ref, j_ari, j_arb, j_arr, j_len, j_nar, j_oi, j_ol, j_of, j_od, j_or, j_ov, true_and, and_true]
    refine lz_get hl s1 hf ?_
    simp only [LQ_sh s1, LQ_R0 s1, LQ_R1 s1, LQ_R2 s1, LQ_R3 s1, LQ_R4 s1, j_ref, j_ari, j_arb, j_arr, j_len, j_nar, j_oi, j_ol, j_of, j_od, j_or, j_ov, true_and, and_true]
    refine ls_get hl s1 hn (k := 5) (by omega) ?_
    simp only [j_ref, j_ari, j_arb, j_arr, j_len, j_nar, j_oi, j_ol, j_of, j_od, j_or, j_ov, true_and, and_true]
    refine lz_put hl s1 hf (fun h2 s2 => ?_)
    simp only [j_ref, j_ari, j_arb, j_arr, j_len, j_nar, j_oi, j_ol, j_of, j_od, j_or, j_ov, true_and, and_true]
    refine b_X1_refund_44 hG ?_
    dsimp only [q_X1_refund_44, j_wp, j_opB, j_opA, j_nth, j_i1, j_i2, j_l1, j_l2, j_li, j_f1, j_f2, j_d1, j_d2, j_r1, j_ai, j_aii, j_ail, j_aid, j_air, j_st1, j_st2, j_stu, j_kl, j_cond, j_args, j_out, j_few, j_cw, j_nat, j_pad, j_exp, Nat.reduceAdd]
    exact H h2 s2
  · rename_i g
    rw [if_neg g] at H
    refine b_X1_refund_44 hG ?_
    dsimp only [q_X1_refund_44, j_wp, j_opB, j_opA, j_nth, j_i1, j_i2, j_l1, j_l2, j_li, j_f1, j_f2, j_d1, j_d2, j_r1, j_ai, j_aii, j_ail, j_aid, j_air, j_st1, j_st2, j_stu, j_kl, j_cond, j_args, j_out, j_few, j_cw, j_nat, j_pad, j_exp, Nat.reduceAdd]
    exact H h s
end LnkA
