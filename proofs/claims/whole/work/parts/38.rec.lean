/-! ===== Records, and what a link does with them ===== -/
section Rec
variable {l : Launch} {D : va_G} {bs : Nat} {E : j_E} {h0 h : j_H} {a : Nat} {L : Lnk} {d : Nat} {Q : j_O → j_H → Prop}
def jfm (x y : Int32) : Int32 := if x ^^^ y < 0 ∧ ¬ irm x y = 0 then irm x y + y else irm x y
theorem sp_J9_floorMod (hl : l.stackTraces = false) {x y : Int32} (hB : j_bd E h) (hy : ¬ y = 0) (H : Q (.inl (some (.int (jfm x y)))) h) : j_Met l D bs E (d + 1) n_J9_floorMod_7cf53 [.int x, .int y] h Q := by
  unfold jfm irm at H
  refine j_methF hl rfl g_J9_floorMod_7cf53 (Nat.le_of_ble_eq_true rfl) (fun z => absurd z (by decide)) hB.1 hB.2 (fun G hG => ?_)
  refine b_J9_floorMod_7cf53_0 hG ?_
  dsimp only [q_J9_floorMod_7cf53_0, j_wp, j_opB, j_opA, j_nth, j_i1, j_i2, j_l1, j_l2, j_li, j_f1, j_f2, j_d1, j_d2, j_r1, j_ai, j_aii, j_ail, j_aid, j_air, j_st1, j_st2, j_stu, j_kl, j_cond, j_args, j_out, j_few, j_cw, j_nat, j_pad, j_exp, Nat.reduceAdd]
  refine ⟨hy, ?_⟩
  split
  · rename_i g
    split
    · rename_i g2
      rw [if_neg (fun z => z.2 g2)] at H
      refine b_J9_floorMod_7cf53_18 hG ?_
      dsimp only [q_J9_floorMod_7cf53_18, j_wp, j_opB, j_opA, j_nth, j_i1, j_i2, j_l1, j_l2, j_li, j_f1, j_f2, j_d1, j_d2, j_r1, j_ai, j_aii, j_ail, j_aid, j_air, j_st1, j_st2, j_stu, j_kl, j_cond, j_args, j_out, j_few, j_cw, j_nat, j_pad, j_exp, Nat.reduceAdd]
      exact ⟨trivial, H⟩
    · rename_i g2
      rw [if_pos ⟨g, g2⟩] at H
      exact ⟨trivial, H⟩
  · rename_i g
    rw [if_neg (fun z => g z.1)] at H
    refine b_J9_floorMod_7cf53_18 hG ?_
    dsimp only [q_J9_floorMod_7cf53_18, j_wp, j_opB, j_opA, j_nth, j_i1, j_i2, j_l1, j_l2, j_li, j_f1, j_f2, j_d1, j_d2, j_r1, j_ai, j_aii, j_ail, j_aid, j_air, j_st1, j_st2, j_stu, j_kl, j_cond, j_args, j_out, j_few, j_cw, j_nat, j_pad, j_exp, Nat.reduceAdd]
    exact ⟨trivial, H⟩
theorem jfm_p : ∀ k : Fin 128, jfm (nI k.1) 128 = nI k.1 := by decide +kernel
theorem jfm_n : ∀ k : Fin 128, jfm (-(nI k.1)) 128 = nI ((128 - k.1) % 128) := by decide +kernel
/-- the row of a record -/
def rr (lt ag : Nat) : Nat := (lt + 128 - ag) % 128
theorem jfm_rr {lt ag : Nat} (h1 : lt < 128) (h2 : ag < 128) : jfm (nI lt - nI ag) 128 = nI (rr lt ag) := by
  unfold rr
  by_cases g : ag ≤ lt
  · rw [pk_sub g, jfm_p ⟨lt - ag, by omega⟩]
    congr 1
    show lt - ag = _
    omega
  · have e : nI lt - nI ag = -(nI (ag - lt)) := by
      rw [← pk_sub (show lt ≤ ag by omega), Int32.neg_sub]
    rw [e, jfm_n ⟨ag - lt, by omega⟩]
    congr 1
    show (128 - (ag - lt)) % 128 = _
    congr 1
    omega
theorem rr_lt (lt ag : Nat) : rr lt ag < 128 := Nat.mod_lt _ (by omega)
def RK (h : j_H) (a kp : Nat) (lt : Int32) (R : Nat → Nat → Int32) : Prop := j_I h (a + 8) 1 = nI kp ∧ j_I h (a + 8) 2 = lt ∧ ∀ r k, r < 128 → k < 7 → j_I h (a + 10) (r * 7 + k) = R r k
/-- the link at a holds L, its records kp, lt, R; since h0 nothing but its numbers has changed -/
def LR (E : j_E) (h0 : j_H) (a : Nat) (L : Lnk) (kp : Nat) (lt : Int32) (R : Nat → Nat → Int32) (h : j_H) : Prop := LK h a L ∧ RK h a kp lt R ∧ Fr a (a + 11) h0 h ∧ j_bd E h
variable {kp : Nat} {lt : Int32} {R : Nat → Nat → Int32}
theorem Fr_wide {lo hi lo' hi' : Nat} {h h' : j_H} (hF : Fr lo hi h h') (h1 : lo' ≤ lo) (h2 : hi ≤ hi') : Fr lo' hi' h h' := by
  obtain ⟨f1, f2, f3, f4, f5, f6, f7, f8⟩ := hF
  exact ⟨f1, f2, f3, f4, f5, f6, fun b k g => f7 b k (by omega), fun b k g => f8 b k (by omega)⟩
theorem LR_q (s : LR E h0 a L kp lt R h) : LQ E h a L h := ⟨s.1, Fr_rf, s.2.2.2⟩
theorem RK_Fr {h h' : j_H} (hR : RK h a kp lt R) (hF : Fr a (a + 8) h h') : RK h' a kp lt R := by
  obtain ⟨r1, r2, r3⟩ := hR
  obtain ⟨f1, f2, f3, f4, f5, f6, f7, f8⟩ := hF
  exact ⟨by rw [f7 _ _ (by omega)]; exact r1, by rw [f7 _ _ (by omega)]; exact r2, fun r k g1 g2 => by rw [f7 _ _ (by omega)]; exact r3 r k g1 g2⟩
/-- behind a piece that left the records alone -/
theorem LR_of {h' : j_H} {L' : Lnk} (s : LR E h0 a L kp lt R h) (q : LQ E h a L' h') : LR E h0 a L' kp lt R h' := ⟨q.1, RK_Fr s.2.1 q.2.1, Fr_tr s.2.2.1 (Fr_wide q.2.1 (by omega) (by omega)), q.2.2⟩
theorem LR_s8 (s : LR E h0 a L kp lt R h) : j_sh h (a + 8) = some (.inr 6) := s.1.1.2.2.2.2.2.2.2.2.2.2.1
theorem LR_r8 (s : LR E h0 a L kp lt R h) : j_R h (a + 8) 0 = some (a + 9) := s.1.1.2.2.2.2.2.2.2.2.2.2.2.1
theorem LR_t9 (s : LR E h0 a L kp lt R h) : TB h (a + 9) (a + 10) 7 896 := s.1.1.2.2.2.2.2.2.2.2.2.2.2.2
theorem LR_kp (s : LR E h0 a L kp lt R h) : j_I h (a + 8) 1 = nI kp := s.2.1.1
theorem LR_lt (s : LR E h0 a L kp lt R h) : j_I h (a + 8) 2 = lt := s.2.1.2.1
theorem LK_8 {k : Nat} {v : Int32} {b : Nat} (hL : LK h a L) (hb : b = a + 8 ∨ b = a + 10) : LK (j_setI h b k v) a L := by
  obtain ⟨h0, h1, h2, h3, h4, h5⟩ := hL
  refine ⟨lk_setI h0 (by omega) (by omega) (by omega) (by omega), fun j g1 g2 => ?_, fun r j g1 g2 => ?_, fun r j g1 g2 => ?_, fun r j g1 g2 => ?_, h5⟩
  · rw [jh_In (by omega)]; exact h1 j g1 g2
  · rw [jh_In (by omega)]; exact h2 r j g1 g2
  · rw [jh_In (by omega)]; exact h3 r j g1 g2
  · rw [jh_In (by omega)]; exact h4 r j g1 g2
theorem LR_setK (s : LR E h0 a L kp lt R h) (n : Nat) : LR E h0 a L n lt R (j_setI h (a + 8) 1 (nI n)) := by
  obtain ⟨s1, ⟨r1, r2, r3⟩, s3, s4⟩ := s
  exact ⟨LK_8 s1 (by omega), ⟨jh_Is _ _ _ _, by rw [jh_In (by omega)]; exact r2, fun r k g1 g2 => by rw [jh_In (by omega)]; exact r3 r k g1 g2⟩, Fr_I s3 (by omega) (by omega), s4⟩
theorem LR_setT (s : LR E h0 a L kp lt R h) (v : Int32) : LR E h0 a L kp v R (j_setI h (a + 8) 2 v) := by
  obtain ⟨s1, ⟨r1, r2, r3⟩, s3, s4⟩ := s
  exact ⟨LK_8 s1 (by omega), ⟨by rw [jh_In (by omega)]; exact r1, jh_Is _ _ _ _, fun r k g1 g2 => by rw [jh_In (by omega)]; exact r3 r k g1 g2⟩, Fr_I s3 (by omega) (by omega), s4⟩
theorem LR_setR (s : LR E h0 a L kp lt R h) {r k : Nat} {v : Int32} (hr : r < 128) (hk : k < 7) : LR E h0 a L kp lt (j_up R r k v) (j_setI h (a + 10) (r * 7 + k) v) := by
  obtain ⟨s1, ⟨r1, r2, r3⟩, s3, s4⟩ := s
  refine ⟨LK_8 s1 (by omega), ⟨by rw [jh_In (by omega)]; exact r1, by rw [jh_In (by omega)]; exact r2, fun r' k' g1 g2 => ?_⟩, Fr_I s3 (by omega) (by omega), s4⟩
  rw [jh_I]
  by_cases e : r' = r ∧ k' = k
  · obtain ⟨rfl, rfl⟩ := e; simp [j_up]
  · rw [if_neg (by omega), r3 r' k' g1 g2]
    simp [j_up, e]
theorem lr_get (hl : l.stackTraces = false) (s : LR E h0 a L kp lt R h) {r k : Nat} (hr : r < 128) (hk : k < 7) (H : Q (.inl (some (.int (R r k)))) h) : j_Met l D bs E (d + 1) n_X6_get [.ref (a + 9), .int (nI r), .int (nI k)] h Q :=
  sp_X6_get hl s.2.2.2 (LR_t9 s) hk (by omega) (by rw [s.2.1.2.2 r k hr hk]; exact H)
theorem lr_set (hl : l.stackTraces = false) (s : LR E h0 a L kp lt R h) {r k : Nat} {v : Int32} (hr : r < 128) (hk : k < 7) (H : ∀ h', LR E h0 a L kp lt (j_up R r k v) h' → Q (.inl none) h') : j_Met l D bs E (d + 1) n_X6_set [.ref (a + 9), .int (nI r), .int (nI k), .int v] h Q :=
  sp_X6_set hl s.2.2.2 (LR_t9 s) hk (by omega) (H _ (LR_setR s hr hk))
theorem sp_X4_reset (hl : l.stackTraces = false) (s : LR E h0 a L kp lt R h) (H : ∀ h', LR E h0 a L 0 (-1) R h' → Q (.inl none) h') : j_Met l D bs E (d + 1) n_X4_reset [.ref (a + 8)] h Q := by
  have hB := s.2.2.2
  refine j_meth hl rfl g_X4_reset (Nat.le_of_ble_eq_true rfl) (fun _ => ⟨_, _, rfl, (LR_s8 s)⟩) hB.1 hB.2 (fun G hG => ?_)
  refine b_X4_reset_0 hG ?_
  dsimp only [q_X4_reset_0, j_wp, j_opB, j_opA, j_nth, j_i1, j_i2, j_l1, j_l2, j_li, j_f1, j_f2, j_d1, j_d2, j_r1, j_ai, j_aii, j_ail, j_aid, j_air, j_st1, j_st2, j_stu, j_kl, j_cond, j_args, j_out, j_few, j_cw, j_nat, j_pad, j_exp, Nat.reduceAdd]
  simp only [LR_s8 s, j_ref, j_ari, j_arb, j_arr, j_len, j_nar, j_oi, j_ol, j_of, j_od, j_or, j_ov, true_and, and_true]
  have s1 := LR_setK s 0
  rw [nI_0] at s1
  simp only [LR_s8 s1, j_ref, j_ari, j_arb, j_arr, j_len, j_nar, j_oi, j_ol, j_of, j_od, j_or, j_ov, true_and, and_true]
  exact H _ (LR_setT s1 _)
theorem sp_X4_addRow (hl : l.stackTraces = false) {t : Nat} (s : LR E h0 a L kp lt R h) (hk : kp ≤ 128) (ht : t < 128) (e : lt + 1 = nI t ∨ (lt + 1 = 128 ∧ t = 0)) (H : ∀ h', LR E h0 a L (min (kp + 1) 128) (nI t) R h' → Q (.inl (some (.int (nI t)))) h') : j_Met l D bs E (d + 1) n_X4_addRow [.ref (a + 8)] h Q := by
  have hB := s.2.2.2
  have fin : ∀ {G : j_G}, j_clo (j_Met l D bs E d) E Q m_X4_addRow G → G 23 [.ref (a + 8)] [.int (nI t), .ref (a + 8)] h := by
    intro G hG
    refine b_X4_addRow_23 hG ?_
    dsimp only [q_X4_addRow_23, j_wp, j_opB, j_opA, j_nth, j_i1, j_i2, j_l1, j_l2, j_li, j_f1, j_f2, j_d1, j_d2, j_r1, j_ai, j_aii, j_ail, j_aid, j_air, j_st1, j_st2, j_stu, j_kl, j_cond, j_args, j_out, j_few, j_cw, j_nat, j_pad, j_exp, Nat.reduceAdd]
    simp only [LR_s8 s, j_ref, j_ari, j_arb, j_arr, j_len, j_nar, j_oi, j_ol, j_of, j_od, j_or, j_ov, true_and, and_true]
    have s1 := LR_setT s (nI t)
    simp only [LR_s8 s1, LR_kp s1, j_ref, j_ari, j_arb, j_arr, j_len, j_nar, j_oi, j_ol, j_of, j_od, j_or, j_ov, true_and, and_true]
    have em : (if 128 < nI kp + 1 then 128 else nI kp + 1) = nI (min (kp + 1) 128) := by
      rw [nI_1]
      by_cases g : kp + 1 ≤ 128
      · rw [if_neg (show ¬ (128 : Int32) < nI (kp + 1) from nI_nlt (a := 128) g (by omega)), Nat.min_eq_left g]
      · have : kp = 128 := by omega
        subst this
        decide
    rw [em]
    have s2 := LR_setK s1 (min (kp + 1) 128)
    simp only [LR_s8 s2, LR_lt s2, j_ref, j_ari, j_arb, j_arr, j_len, j_nar, j_oi, j_ol, j_of, j_od, j_or, j_ov, true_and, and_true]
    exact H _ s2
  refine j_meth hl rfl g_X4_addRow (Nat.le_of_ble_eq_true rfl) (fun _ => ⟨_, _, rfl, (LR_s8 s)⟩) hB.1 hB.2 (fun G hG => ?_)
  refine b_X4_addRow_0 hG ?_
  dsimp only [q_X4_addRow_0, j_wp, j_opB, j_opA, j_nth, j_i1, j_i2, j_l1, j_l2, j_li, j_f1, j_f2, j_d1, j_d2, j_r1, j_ai, j_aii, j_ail, j_aid, j_air, j_st1, j_st2, j_stu, j_kl, j_cond, j_args, j_out, j_few, j_cw, j_nat, j_pad, j_exp, Nat.reduceAdd]
  simp only [LR_s8 s, LR_lt s, j_ref, j_ari, j_arb, j_arr, j_len, j_nar, j_oi, j_ol, j_of, j_od, j_or, j_ov, true_and, and_true]
  rcases e with e | ⟨e, e2⟩
  · rw [e, if_pos (show nI t < 128 from nI_lt (b := 128) ht (by omega))]
    exact fin hG
  · rw [e, if_neg (by decide)]
    refine b_X4_addRow_22 hG ?_
    dsimp only [q_X4_addRow_22, j_wp, j_opB, j_opA, j_nth, j_i1, j_i2, j_l1, j_l2, j_li, j_f1, j_f2, j_d1, j_d2, j_r1, j_ai, j_aii, j_ail, j_aid, j_air, j_st1, j_st2, j_stu, j_kl, j_cond, j_args, j_out, j_few, j_cw, j_nat, j_pad, j_exp, Nat.reduceAdd]
    subst e2
    exact fin hG
theorem sp_X4_rowOf (hl : l.stackTraces = false) {t ag : Nat} (s : LR E h0 a L kp (nI t) R h) (ht : t < 128) (hag : ag < 128) (H : Q (.inl (some (.int (nI (rr t ag))))) h) : j_Met l D bs E (d + 2) n_X4_rowOf [.ref (a + 8), .int (nI ag)] h Q := by
  have hB := s.2.2.2
  refine j_meth hl rfl g_X4_rowOf (Nat.le_of_ble_eq_true rfl) (fun _ => ⟨_, _, rfl, (LR_s8 s)⟩) hB.1 hB.2 (fun G hG => ?_)
  refine b_X4_rowOf_0 hG ?_
  dsimp only [q_X4_rowOf_0, j_wp, j_opB, j_opA, j_nth, j_i1, j_i2, j_l1, j_l2, j_li, j_f1, j_f2, j_d1, j_d2, j_r1, j_ai, j_aii, j_ail, j_aid, j_air, j_st1, j_st2, j_stu, j_kl, j_cond, j_args, j_out, j_few, j_cw, j_nat, j_pad, j_exp, Nat.reduceAdd]
  simp only [LR_s8 s, LR_lt s, j_ref, j_ari, j_arb, j_arr, j_len, j_nar, j_oi, j_ol, j_of, j_od, j_or, j_ov, true_and, and_true]
  refine sp_J9_floorMod hl hB (by decide) ?_
  rw [jfm_rr ht hag]
  simp only [j_ref, j_ari, j_arb, j_arr, j_len, j_nar, j_oi, j_ol, j_of, j_od, j_or, j_ov, true_and, and_true]
  exact H
/-- are both flows busy in the mask -/
def lBoth (b : Int32) (f g : Nat) : Bool := decide ((b >>> (nI f &&& 31)) &&& (b >>> (nI g &&& 31)) &&& 1 = 1)
theorem sp_X4_areBusy (hl : l.stackTraces = false) {t ag f g : Nat} (s : LR E h0 a L kp (nI t) R h) (ht : t < 128) (hag : ag < 128) (H : Q (.inl (some (.int (if lBoth (R (rr t ag) 6) f g = true then 1 else 0)))) h) : j_Met l D bs E (d + 3) n_X4_areBusy [.ref (a + 8), .int (nI ag), .int (nI f), .int (nI g)] h Q := by
  have hB := s.2.2.2
  unfold lBoth at H
  refine j_meth hl rfl g_X4_areBusy (Nat.le_of_ble_eq_true rfl) (fun _ => ⟨_, _, rfl, (LR_s8 s)⟩) hB.1 hB.2 (fun G hG => ?_)
  refine b_X4_areBusy_0 hG ?_
  dsimp only [q_X4_areBusy_0, j_wp, j_opB, j_opA, j_nth, j_i1, j_i2, j_l1, j_l2, j_li, j_f1, j_f2, j_d1, j_d2, j_r1, j_ai, j_aii, j_ail, j_aid, j_air, j_st1, j_st2, j_stu, j_kl, j_cond, j_args, j_out, j_few, j_cw, j_nat, j_pad, j_exp, Nat.reduceAdd]
  simp only [LR_s8 s, LR_r8 s, j_ref, j_ari, j_arb, j_arr, j_len, j_nar, j_oi, j_ol, j_of, j_od, j_or, j_ov, true_and, and_true]
  refine sp_X4_rowOf hl s ht hag ?_
  simp only [j_ref, j_ari, j_arb, j_arr, j_len, j_nar, j_oi, j_ol, j_of, j_od, j_or, j_ov, true_and, and_true]
  refine lr_get hl s (rr_lt _ _) (k := 6) (by omega) ?_
  simp only [j_ref, j_ari, j_arb, j_arr, j_len, j_nar, j_oi, j_ol, j_of, j_od, j_or, j_ov, true_and, and_true, j_st1]
  split
  · rename_i e
    simp only [e, decide_true, if_true] at H
    refine b_X4_areBusy_36 hG ?_
    dsimp only [q_X4_areBusy_36, j_wp, j_opB, j_opA, j_nth, j_i1, j_i2, j_l1, j_l2, j_li, j_f1, j_f2, j_d1, j_d2, j_r1, j_ai, j_aii, j_ail, j_aid, j_air, j_st1, j_st2, j_stu, j_kl, j_cond, j_args, j_out, j_few, j_cw, j_nat, j_pad, j_exp, Nat.reduceAdd]
    exact ⟨Or.inr rfl, H⟩
  · rename_i e
    simp only [e, decide_false, Bool.false_eq_true, if_false] at H
    refine b_X4_areBusy_35 hG ?_
    dsimp only [q_X4_areBusy_35, j_wp, j_opB, j_opA, j_nth, j_i1, j_i2, j_l1, j_l2, j_li, j_f1, j_f2, j_d1, j_d2, j_r1, j_ai, j_aii, j_ail, j_aid, j_air, j_st1, j_st2, j_stu, j_kl, j_cond, j_args, j_out, j_few, j_cw, j_nat, j_pad, j_exp, Nat.reduceAdd]
    refine b_X4_areBusy_36 hG ?_
    dsimp only [q_X4_areBusy_36, j_wp, j_opB, j_opA, j_nth, j_i1, j_i2, j_l1, j_l2, j_li, j_f1, j_f2, j_d1, j_d2, j_r1, j_ai, j_aii, j_ail, j_aid, j_air, j_st1, j_st2, j_stu, j_kl, j_cond, j_args, j_out, j_few, j_cw, j_nat, j_pad, j_exp, Nat.reduceAdd]
    exact ⟨Or.inl rfl, H⟩
theorem sp_X4_bytesOf (hl : l.stackTraces = false) {t ag f : Nat} (s : LR E h0 a L kp (nI t) R h) (ht : t < 128) (hag : ag < 128) (hf : f < 7) (H : Q (.inl (some (.int (R (rr t ag) f)))) h) : j_Met l D bs E (d + 3) n_X4_bytesOf [.ref (a + 8), .int (nI ag), .int (nI f)] h Q := by
  have hB := s.2.2.2
  refine j_meth hl rfl g_X4_bytesOf (Nat.le_of_ble_eq_true rfl) (fun _ => ⟨_, _, rfl, (LR_s8 s)⟩) hB.1 hB.2 (fun G hG => ?_)
  refine b_X4_bytesOf_0 hG ?_
  dsimp only [q_X4_bytesOf_0, j_wp, j_opB, j_opA, j_nth, j_i1, j_i2, j_l1, j_l2, j_li, j_f1, j_f2, j_d1, j_d2, j_r1, j_ai, j_aii, j_ail, j_aid, j_air, j_st1, j_st2, j_stu, j_kl, j_cond, j_args, j_out, j_few, j_cw, j_nat, j_pad, j_exp, Nat.reduceAdd]
  simp only [LR_s8 s, LR_r8 s, j_ref, j_ari, j_arb, j_arr, j_len, j_nar, j_oi, j_ol, j_of, j_od, j_or, j_ov, true_and, and_true]
  refine sp_X4_rowOf hl s ht hag ?_
  simp only [j_ref, j_ari, j_arb, j_arr, j_len, j_nar, j_oi, j_ol, j_of, j_od, j_or, j_ov, true_and, and_true]
  refine lr_get hl s (rr_lt _ _) hf ?_
  simp only [j_ref, j_ari, j_arb, j_arr, j_len, j_nar, j_oi, j_ol, j_of, j_od, j_or, j_ov, true_and, and_true]
  exact H
def lLead (L : Lnk) (R : Nat → Nat → Int32) (t f g ag : Nat) : Int64 := (R (rr t ag) f).toInt64 * (lUnit L f).toInt64 - (R (rr t ag) g).toInt64 * (lUnit L g).toInt64
theorem sp_X1_lead (hl : l.stackTraces = false) {t ag f g : Nat} (s : LR E h0 a L kp (nI t) R h) (ht : t < 128) (hag : ag < 128) (hf : f < 6) (hg : g < 6) (H : Q (.inl (some (.long (lLead L R t f g ag)))) h) : j_Met l D bs E (d + 4) n_X1_lead [.ref a, .int (nI f), .int (nI g), .int (nI ag)] h Q := by
  have hB := s.2.2.2
  have q := LR_q s
  refine j_meth hl rfl g_X1_lead (Nat.le_of_ble_eq_true rfl) (fun _ => ⟨_, _, rfl, (LQ_sh q)⟩) hB.1 hB.2 (fun G hG => ?_)
  refine b_X1_lead_0 hG ?_
  dsimp only [q_X1_lead_0, j_wp, j_opB, j_opA, j_nth, j_i1, j_i2, j_l1, j_l2, j_li, j_f1, j_f2, j_d1, j_d2, j_r1, j_ai, j_aii, j_ail, j_aid, j_air, j_st1, j_st2, j_stu, j_kl, j_cond, j_args, j_out, j_few, j_cw, j_nat, j_pad, j_exp, Nat.reduceAdd]
  simp only [LQ_sh q, LQ_R0 q, LQ_R1 q, LQ_R2 q, LQ_R3 q, LQ_R4 q, j_ref, j_ari, j_arb, j_arr, j_len, j_nar, j_oi, j_ol, j_of, j_od, j_or, j_ov, true_and, and_true]
  refine sp_X4_bytesOf hl s ht hag (f := f) (by omega) ?_
  simp only [LQ_sh q, LQ_R0 q, LQ_R1 q, LQ_R2 q, LQ_R3 q, LQ_R4 q, j_ref, j_ari, j_arb, j_arr, j_len, j_nar, j_oi, j_ol, j_of, j_od, j_or, j_ov, true_and, and_true]
  refine sp_X1_unitOf hl hB q.1 hf ?_
  simp only [LQ_sh q, LQ_R0 q, LQ_R1 q, LQ_R2 q, LQ_R3 q, LQ_R4 q, j_ref, j_ari, j_arb, j_arr, j_len, j_nar, j_oi, j_ol, j_of, j_od, j_or, j_ov, true_and, and_true]
  refine sp_X4_bytesOf hl s ht hag (f := g) (by omega) ?_
  simp only [LQ_sh q, LQ_R0 q, LQ_R1 q, LQ_R2 q, LQ_R3 q, LQ_R4 q, j_ref, j_ari, j_arb, j_arr, j_len, j_nar, j_oi, j_ol, j_of, j_od, j_or, j_ov, true_and, and_true]
  refine sp_X1_unitOf hl hB q.1 hg ?_
  simp only [LQ_sh q, LQ_R0 q, LQ_R1 q, LQ_R2 q, LQ_R3 q, LQ_R4 q, j_ref, j_ari, j_arb, j_arr, j_len, j_nar, j_oi, j_ol, j_of, j_od, j_or, j_ov, true_and, and_true]
  exact H
/-- both flows are busy in the records of ages i .. i + k - 1 -/
def lAll (R : Nat → Nat → Int32) (t f g : Nat) : Nat → Nat → Bool
  | 0, _ => true
  | k + 1, i => if lBoth (R (rr t i) 6) f g = true then lAll R t f g k (i + 1) else false
def labs (x : Int64) : Int64 := if 0 < x then x else -x
def lDiff (L : Lnk) (R : Nat → Nat → Int32) (kp t f g ag : Nat) : Int64 := if ag < kp then (if lAll R t f g (ag + 1) 0 = true then labs (lLead L R t f g 0 - lLead L R t f g ag) else -1) else -1
theorem sp_X1_differenceSince (hl : l.stackTraces = false) {t ag f g : Nat} (s : LR E h0 a L kp lt R h) (hkp : kp ≤ 128) (ht : t < 128) (hlt : 0 < kp → lt = nI t) (hag : ag < 2 ^ 31) (hf : f < 6) (hg : g < 6) (H : Q (.inl (some (.long (lDiff L R kp t f g ag)))) h) : j_Met l D bs E (d + 5) n_X1_differenceSince [.ref a, .int (nI f), .int (nI g), .int (nI ag)] h Q := by
  have hB := s.2.2.2
  have q := LR_q s
  unfold lDiff at H
  refine j_meth hl rfl g_X1_differenceSince (Nat.le_of_ble_eq_true rfl) (fun _ => ⟨_, _, rfl, (LQ_sh q)⟩) hB.1 hB.2 (fun G hG => ?_)
  refine b_X1_differenceSince_0 hG ?_
  dsimp only [q_X1_differenceSince_0, j_wp, j_opB, j_opA, j_nth, j_i1, j_i2, j_l1, j_l2, j_li, j_f1, j_f2, j_d1, j_d2, j_r1, j_ai, j_aii, j_ail, j_aid, j_air, j_st1, j_st2, j_stu, j_kl, j_cond, j_args, j_out, j_few, j_cw, j_nat, j_pad, j_exp, Nat.reduceAdd]
  simp only [LQ_sh q, LQ_R0 q, LQ_R1 q, LQ_R2 q, LQ_R3 q, LQ_R4 q, j_ref, j_ari, j_arb, j_arr, j_len, j_nar, j_oi, j_ol, j_of, j_od, j_or, j_ov, true_and, and_true, LR_s8 s, LR_kp s]
  by_cases g1 : ag < kp
  · rw [if_pos (nI_lt g1 (by omega))]
    rw [if_pos g1] at H
    have hlt' := hlt (by omega)
    subst hlt'
    refine b_X1_differenceSince_15 hG ?_
    dsimp only [q_X1_differenceSince_15, j_wp, j_opB, j_opA, j_nth, j_i1, j_i2, j_l1, j_l2, j_li, j_f1, j_f2, j_d1, j_d2, j_r1, j_ai, j_aii, j_ail, j_aid, j_air, j_st1, j_st2, j_stu, j_kl, j_cond, j_args, j_out, j_few, j_cw, j_nat, j_pad, j_exp, Nat.reduceAdd]
    have loop : ∀ (k i : Nat), i + k = ag + 1 → lAll R t f g k i = lAll R t f g (ag + 1) 0 → G 18 [.ref a, .int (nI f), .int (nI g), .int (nI ag), .int (nI i)] [] h := by
      intro k
      induction k with
      | zero =>
        intro i hi e
        have e' : lAll R t f g (ag + 1) 0 = true := e.symm
        rw [if_pos e'] at H
        refine b_X1_differenceSince_18 hG ?_
        dsimp only [q_X1_differenceSince_18, j_wp, j_opB, j_opA, j_nth, j_i1, j_i2, j_l1, j_l2, j_li, j_f1, j_f2, j_d1, j_d2, j_r1, j_ai, j_aii, j_ail, j_aid, j_air, j_st1, j_st2, j_stu, j_kl, j_cond, j_args, j_out, j_few, j_cw, j_nat, j_pad, j_exp, Nat.reduceAdd]
        rw [if_pos (nI_lt (by omega) (by omega))]
        refine b_X1_differenceSince_48 hG ?_
        dsimp only [q_X1_differenceSince_48, j_wp, j_opB, j_opA, j_nth, j_i1, j_i2, j_l1, j_l2, j_li, j_f1, j_f2, j_d1, j_d2, j_r1, j_ai, j_aii, j_ail, j_aid, j_air, j_st1, j_st2, j_stu, j_kl, j_cond, j_args, j_out, j_few, j_cw, j_nat, j_pad, j_exp, Nat.reduceAdd]
        refine sp_X1_lead hl s ht (ag := 0) (by omega) hf hg ?_
        simp only [LQ_sh q, LQ_R0 q, LQ_R1 q, LQ_R2 q, LQ_R3 q, LQ_R4 q, j_ref, j_ari, j_arb, j_arr, j_len, j_nar, j_oi, j_ol, j_of, j_od, j_or, j_ov, true_and, and_true]
        refine sp_X1_lead hl s ht (ag := ag) (by omega) hf hg ?_
        simp only [LQ_sh q, LQ_R0 q, LQ_R1 q, LQ_R2 q, LQ_R3 q, LQ_R4 q, j_ref, j_ari, j_arb, j_arr, j_len, j_nar, j_oi, j_ol, j_of, j_od, j_or, j_ov, true_and, and_true]
        exact H
      | succ k ih =>
        intro i hi e
        refine b_X1_differenceSince_18 hG ?_
        dsimp only [q_X1_differenceSince_18, j_wp, j_opB, j_opA, j_nth, j_i1, j_i2, j_l1, j_l2, j_li, j_f1, j_f2, j_d1, j_d2, j_r1, j_ai, j_aii, j_ail, j_aid, j_air, j_st1, j_st2, j_stu, j_kl, j_cond, j_args, j_out, j_few, j_cw, j_nat, j_pad, j_exp, Nat.reduceAdd]
        rw [if_neg (nI_nlt (by omega) (by omega))]
        simp only [LQ_sh q, LQ_R0 q, LQ_R1 q, LQ_R2 q, LQ_R3 q, LQ_R4 q, j_ref, j_ari, j_arb, j_arr, j_len, j_nar, j_oi, j_ol, j_of, j_od, j_or, j_ov, true_and, and_true]
        refine sp_X4_areBusy hl s ht (ag := i) (by omega) ?_
        simp only [LQ_sh q, LQ_R0 q, LQ_R1 q, LQ_R2 q, LQ_R3 q, LQ_R4 q, j_ref, j_ari, j_arb, j_arr, j_len, j_nar, j_oi, j_ol, j_of, j_od, j_or, j_ov, true_and, and_true]
        unfold lAll at e
        by_cases g2 : lBoth (R (rr t i) 6) f g = true
        · simp only [g2, if_true] at e ⊢
          rw [if_neg (by decide)]
          refine b_X1_differenceSince_42 hG ?_
          dsimp only [q_X1_differenceSince_42, j_wp, j_opB, j_opA, j_nth, j_i1, j_i2, j_l1, j_l2, j_li, j_f1, j_f2, j_d1, j_d2, j_r1, j_ai, j_aii, j_ail, j_aid, j_air, j_st1, j_st2, j_stu, j_kl, j_cond, j_args, j_out, j_few, j_cw, j_nat, j_pad, j_exp, Nat.reduceAdd]
          rw [nI_1]
          exact ih (i + 1) (by omega) (by rw [e]; rfl)
        · simp only [g2, if_false, if_true] at e ⊢
          have e' : ¬ lAll R t f g (ag + 1) 0 = true := by
            show ¬ (if lBoth (R (rr t 0) 6) f g = true then lAll R t f g ag (0 + 1) else false) = true
            rw [← e]
            simp
          rw [if_neg e'] at H
          exact H
    exact loop (ag + 1) 0 (by omega) rfl
  · rw [if_neg (nI_nlt (by omega) (by omega))]
    rw [if_neg g1] at H
    exact H
/-- the greatest difference: k records more from age i on; worst, least, greatest lead of the row, and whether there is one -/
def lGreat (L : Lnk) (R : Nat → Nat → Int32) (t f g : Nat) : Nat → Nat → Int64 → Int64 → Int64 → Bool → Int64
  | 0, _, w, _, _, _ => w
  | k + 1, i, w, lo, hi, b => if lBoth (R (rr t i) 6) f g = true then
      let x := lLead L R t f g i
      let lo' := if b = true then (if x < lo then x else lo) else x
      let hi' := if b = true then (if x < hi then hi else x) else x
      lGreat L R t f g k (i + 1) (if hi' - lo' < w then w else hi' - lo') lo' hi' true
    else lGreat L R t f g k (i + 1) w lo hi false
theorem sp_X1_greatestDifference (hl : l.stackTraces = false) {t f g : Nat} (s : LR E h0 a L kp lt R h) (hkp : kp ≤ 128) (ht : t < 128) (hlt : 0 < kp → lt = nI t) (hf : f < 6) (hg : g < 6) (H : Q (.inl (some (.long (lGreat L R t f g kp 0 0 0 0 false)))) h) : j_Met l D bs E (d + 5) n_X1_greatestDifference [.ref a, .int (nI f), .int (nI g)] h Q := by
  have hB := s.2.2.2
  have q := LR_q s
  generalize hr : lGreat L R t f g kp 0 0 0 0 false = res at H
  refine j_meth hl rfl g_X1_greatestDifference (Nat.le_of_ble_eq_true rfl) (fun _ => ⟨_, _, rfl, (LQ_sh q)⟩) hB.1 hB.2 (fun G hG => ?_)
  have loop : ∀ (k i : Nat) (w lo hi : Int64) (b : Bool) (x11 x12 : Value), i + k = kp → lGreat L R t f g k i w lo hi b = res → G 14 [.ref a, .int (nI f), .int (nI g), .long w, j_u, .long lo, j_u, .long hi, j_u, .int (if b = true then 1 else 0), .int (nI i), x11, x12] [] h := by
    intro k
    induction k with
    | zero =>
      intro i w lo hi b x11 x12 hi' e
      have e' : w = res := e
      subst e'
      refine b_X1_greatestDifference_14 hG ?_
      dsimp only [q_X1_greatestDifference_14, j_wp, j_opB, j_opA, j_nth, j_i1, j_i2, j_l1, j_l2, j_li, j_f1, j_f2, j_d1, j_d2, j_r1, j_ai, j_aii, j_ail, j_aid, j_air, j_st1, j_st2, j_stu, j_kl, j_cond, j_args, j_out, j_few, j_cw, j_nat, j_pad, j_exp, Nat.reduceAdd]
      simp only [LQ_sh q, LQ_R0 q, LQ_R1 q, LQ_R2 q, LQ_R3 q, LQ_R4 q, j_ref, j_ari, j_arb, j_arr, j_len, j_nar, j_oi, j_ol, j_of, j_od, j_or, j_ov, true_and, and_true, LR_s8 s, LR_kp s]
      rw [if_neg (nI_nlt (by omega) (by omega))]
      refine b_X1_greatestDifference_113 hG ?_
      dsimp only [q_X1_greatestDifference_113, j_wp, j_opB, j_opA, j_nth, j_i1, j_i2, j_l1, j_l2, j_li, j_f1, j_f2, j_d1, j_d2, j_r1, j_ai, j_aii, j_ail, j_aid, j_air, j_st1, j_st2, j_stu, j_kl, j_cond, j_args, j_out, j_few, j_cw, j_nat, j_pad, j_exp, Nat.reduceAdd]
      exact H
    | succ k ih =>
      intro i w lo hi b x11 x12 hi' e
      have hlt' := hlt (by omega)
      subst hlt'
      refine b_X1_greatestDifference_14 hG ?_
      dsimp only [q_X1_greatestDifference_14, j_wp, j_opB, j_opA, j_nth, j_i1, j_i2, j_l1, j_l2, j_li, j_f1, j_f2, j_d1, j_d2, j_r1, j_ai, j_aii, j_ail, j_aid, j_air, j_st1, j_st2, j_stu, j_kl, j_cond, j_args, j_out, j_few, j_cw, j_nat, j_pad, j_exp, Nat.reduceAdd]
      simp only [LQ_sh q, LQ_R0 q, LQ_R1 q, LQ_R2 q, LQ_R3 q, LQ_R4 q, j_ref, j_ari, j_arb, j_arr, j_len, j_nar, j_oi, j_ol, j_of, j_od, j_or, j_ov, true_and, and_true, LR_s8 s, LR_kp s]
      rw [if_pos (nI_lt (by omega) (by omega))]
      refine sp_X4_areBusy hl s ht (ag := i) (by omega) ?_
      simp only [LQ_sh q, LQ_R0 q, LQ_R1 q, LQ_R2 q, LQ_R3 q, LQ_R4 q, j_ref, j_ari, j_arb, j_arr, j_len, j_nar, j_oi, j_ol, j_of, j_od, j_or, j_ov, true_and, and_true]
      unfold lGreat at e
      by_cases g2 : lBoth (R (rr t i) 6) f g = true
      · simp only [g2, if_true] at e ⊢
        rw [if_neg (by decide)]
        refine sp_X1_lead hl s ht (ag := i) (by omega) hf hg ?_
        simp only [LQ_sh q, LQ_R0 q, LQ_R1 q, LQ_R2 q, LQ_R3 q, LQ_R4 q, j_ref, j_ari, j_arb, j_arr, j_len, j_nar, j_oi, j_ol, j_of, j_od, j_or, j_ov, true_and, and_true, j_st2, j_st1, j_stu, j_kl]
        cases b with
        | true =>
          simp only [if_true] at e ⊢
          rw [if_neg (by decide)]
          refine b_X1_greatestDifference_67 hG ?_
          dsimp only [q_X1_greatestDifference_67, j_wp, j_opB, j_opA, j_nth, j_i1, j_i2, j_l1, j_l2, j_li, j_f1, j_f2, j_d1, j_d2, j_r1, j_ai, j_aii, j_ail, j_aid, j_air, j_st1, j_st2, j_stu, j_kl, j_cond, j_args, j_out, j_few, j_cw, j_nat, j_pad, j_exp, Nat.reduceAdd]
          rw [if_neg (by decide)]
          refine b_X1_greatestDifference_86 hG ?_
          dsimp only [q_X1_greatestDifference_86, j_wp, j_opB, j_opA, j_nth, j_i1, j_i2, j_l1, j_l2, j_li, j_f1, j_f2, j_d1, j_d2, j_r1, j_ai, j_aii, j_ail, j_aid, j_air, j_st1, j_st2, j_stu, j_kl, j_cond, j_args, j_out, j_few, j_cw, j_nat, j_pad, j_exp, Nat.reduceAdd]
          refine b_X1_greatestDifference_107 hG ?_
          dsimp only [q_X1_greatestDifference_107, j_wp, j_opB, j_opA, j_nth, j_i1, j_i2, j_l1, j_l2, j_li, j_f1, j_f2, j_d1, j_d2, j_r1, j_ai, j_aii, j_ail, j_aid, j_air, j_st1, j_st2, j_stu, j_kl, j_cond, j_args, j_out, j_few, j_cw, j_nat, j_pad, j_exp, Nat.reduceAdd]
          rw [nI_1]
          exact ih (i + 1) _ _ _ true _ _ (by omega) e
        | false =>
          simp only [if_false, Bool.false_eq_true, if_true] at e ⊢
          refine b_X1_greatestDifference_65 hG ?_
          dsimp only [q_X1_greatestDifference_65, j_wp, j_opB, j_opA, j_nth, j_i1, j_i2, j_l1, j_l2, j_li, j_f1, j_f2, j_d1, j_d2, j_r1, j_ai, j_aii, j_ail, j_aid, j_air, j_st1, j_st2, j_stu, j_kl, j_cond, j_args, j_out, j_few, j_cw, j_nat, j_pad, j_exp, Nat.reduceAdd]
          refine b_X1_greatestDifference_67 hG ?_
          dsimp only [q_X1_greatestDifference_67, j_wp, j_opB, j_opA, j_nth, j_i1, j_i2, j_l1, j_l2, j_li, j_f1, j_f2, j_d1, j_d2, j_r1, j_ai, j_aii, j_ail, j_aid, j_air, j_st1, j_st2, j_stu, j_kl, j_cond, j_args, j_out, j_few, j_cw, j_nat, j_pad, j_exp, Nat.reduceAdd]
          simp only [if_true]
          refine b_X1_greatestDifference_84 hG ?_
          dsimp only [q_X1_greatestDifference_84, j_wp, j_opB, j_opA, j_nth, j_i1, j_i2, j_l1, j_l2, j_li, j_f1, j_f2, j_d1, j_d2, j_r1, j_ai, j_aii, j_ail, j_aid, j_air, j_st1, j_st2, j_stu, j_kl, j_cond, j_args, j_out, j_few, j_cw, j_nat, j_pad, j_exp, Nat.reduceAdd]
          refine b_X1_greatestDifference_86 hG ?_
          dsimp only [q_X1_greatestDifference_86, j_wp, j_opB, j_opA, j_nth, j_i1, j_i2, j_l1, j_l2, j_li, j_f1, j_f2, j_d1, j_d2, j_r1, j_ai, j_aii, j_ail, j_aid, j_air, j_st1, j_st2, j_stu, j_kl, j_cond, j_args, j_out, j_few, j_cw, j_nat, j_pad, j_exp, Nat.reduceAdd]
          refine b_X1_greatestDifference_107 hG ?_
          dsimp only [q_X1_greatestDifference_107, j_wp, j_opB, j_opA, j_nth, j_i1, j_i2, j_l1, j_l2, j_li, j_f1, j_f2, j_d1, j_d2, j_r1, j_ai, j_aii, j_ail, j_aid, j_air, j_st1, j_st2, j_stu, j_kl, j_cond, j_args, j_out, j_few, j_cw, j_nat, j_pad, j_exp, Nat.reduceAdd]
          rw [nI_1]
          exact ih (i + 1) _ _ _ true _ _ (by omega) e
      · simp only [g2, if_false, if_true] at e ⊢
        refine b_X1_greatestDifference_104 hG ?_
        dsimp only [q_X1_greatestDifference_104, j_wp, j_opB, j_opA, j_nth, j_i1, j_i2, j_l1, j_l2, j_li, j_f1, j_f2, j_d1, j_d2, j_r1, j_ai, j_aii, j_ail, j_aid, j_air, j_st1, j_st2, j_stu, j_kl, j_cond, j_args, j_out, j_few, j_cw, j_nat, j_pad, j_exp, Nat.reduceAdd]
        refine b_X1_greatestDifference_107 hG ?_
        dsimp only [q_X1_greatestDifference_107, j_wp, j_opB, j_opA, j_nth, j_i1, j_i2, j_l1, j_l2, j_li, j_f1, j_f2, j_d1, j_d2, j_r1, j_ai, j_aii, j_ail, j_aid, j_air, j_st1, j_st2, j_stu, j_kl, j_cond, j_args, j_out, j_few, j_cw, j_nat, j_pad, j_exp, Nat.reduceAdd]
        rw [nI_1]
        exact ih (i + 1) _ _ _ false _ _ (by omega) e
  refine b_X1_greatestDifference_0 hG ?_
  dsimp only [q_X1_greatestDifference_0, j_wp, j_opB, j_opA, j_nth, j_i1, j_i2, j_l1, j_l2, j_li, j_f1, j_f2, j_d1, j_d2, j_r1, j_ai, j_aii, j_ail, j_aid, j_air, j_st1, j_st2, j_stu, j_kl, j_cond, j_args, j_out, j_few, j_cw, j_nat, j_pad, j_exp, Nat.reduceAdd]
  exact loop kp 0 0 0 0 false _ _ (by omega) hr
/-- the mask of the busy flows: k flows more, from f on -/
def lMask (L : Lnk) : Nat → Nat → Int32 → Int32
  | 0, _, b => b
  | k + 1, f, b => lMask L k (f + 1) (if lBusy L f = true then b ||| ((1 : Int32) <<< (nI f &&& 31)) else b)
/-- a record's row: k flows more, from f on -/
def lRow (L : Lnk) (r : Nat) : Nat → Nat → (Nat → Nat → Int32) → Nat → Nat → Int32
  | 0, _, R => R
  | k + 1, f, R => lRow L r k (f + 1) (j_up R r f (lF L f 10))
def lRecord (L : Lnk) (nf r : Nat) (R : Nat → Nat → Int32) : Nat → Nat → Int32 := j_up (lRow L r nf 0 R) r 6 (lMask L nf 0 0)
theorem sp_X1_addRecord (hl : l.stackTraces = false) {nf t : Nat} (s : LR E h0 a L kp lt R h) (hnf : nf ≤ 6) (hx : lX L 5 = nI nf) (hk : kp ≤ 128) (ht : t < 128) (e : lt + 1 = nI t ∨ (lt + 1 = 128 ∧ t = 0)) (H : ∀ h', LR E h0 a L (min (kp + 1) 128) (nI t) (lRecord L nf t R) h' → Q (.inl none) h') : j_Met l D bs E (d + 3) n_X1_addRecord [.ref a] h Q := by
  have hB := s.2.2.2
  have q := LR_q s
  unfold lRecord at H
  refine j_meth hl rfl g_X1_addRecord (Nat.le_of_ble_eq_true rfl) (fun _ => ⟨_, _, rfl, (LQ_sh q)⟩) hB.1 hB.2 (fun G hG => ?_)
  refine b_X1_addRecord_0 hG ?_
  dsimp only [q_X1_addRecord_0, j_wp, j_opB, j_opA, j_nth, j_i1, j_i2, j_l1, j_l2, j_li, j_f1, j_f2, j_d1, j_d2, j_r1, j_ai, j_aii, j_ail, j_aid, j_air, j_st1, j_st2, j_stu, j_kl, j_cond, j_args, j_out, j_few, j_cw, j_nat, j_pad, j_exp, Nat.reduceAdd]
  simp only [LQ_sh q, LQ_R0 q, LQ_R1 q, LQ_R2 q, LQ_R3 q, LQ_R4 q, j_ref, j_ari, j_arb, j_arr, j_len, j_nar, j_oi, j_ol, j_of, j_od, j_or, j_ov, true_and, and_true]
  refine sp_X4_addRow hl s hk ht e (fun h1 s1 => ?_)
  simp only [j_ref, j_ari, j_arb, j_arr, j_len, j_nar, j_oi, j_ol, j_of, j_od, j_or, j_ov, true_and, and_true, j_st1]
  have loop : ∀ (k f : Nat) (b : Int32) (R1 : Nat → Nat → Int32) (h2 : j_H), f + k = nf → LR E h0 a L (min (kp + 1) 128) (nI t) R1 h2 → (∀ h', LR E h0 a L (min (kp + 1) 128) (nI t) (j_up (lRow L t k f R1) t 6 (lMask L k f b)) h' → Q (.inl none) h') → G 12 [.ref a, .int (nI t), .int b, .int (nI f)] [] h2 := by
    intro k
    induction k with
    | zero =>
      intro f b R1 h2 hf s2 H
      have q2 := LR_q s2
      refine b_X1_addRecord_12 hG ?_
      dsimp only [q_X1_addRecord_12, j_wp, j_opB, j_opA, j_nth, j_i1, j_i2, j_l1, j_l2, j_li, j_f1, j_f2, j_d1, j_d2, j_r1, j_ai, j_aii, j_ail, j_aid, j_air, j_st1, j_st2, j_stu, j_kl, j_cond, j_args, j_out, j_few, j_cw, j_nat, j_pad, j_exp, Nat.reduceAdd]
      simp only [LQ_sh q2, LQ_R0 q2, LQ_R1 q2, LQ_R2 q2, LQ_R3 q2, LQ_R4 q2, j_ref, j_ari, j_arb, j_arr, j_len, j_nar, j_oi, j_ol, j_of, j_od, j_or, j_ov, true_and, and_true, LQ_x5 q2, hx]
      rw [if_neg (nI_nlt (by omega) (by omega))]
      refine b_X1_addRecord_62 hG ?_
      dsimp only [q_X1_addRecord_62, j_wp, j_opB, j_opA, j_nth, j_i1, j_i2, j_l1, j_l2, j_li, j_f1, j_f2, j_d1, j_d2, j_r1, j_ai, j_aii, j_ail, j_aid, j_air, j_st1, j_st2, j_stu, j_kl, j_cond, j_args, j_out, j_few, j_cw, j_nat, j_pad, j_exp, Nat.reduceAdd]
      simp only [LQ_sh q2, LQ_R0 q2, LQ_R1 q2, LQ_R2 q2, LQ_R3 q2, LQ_R4 q2, j_ref, j_ari, j_arb, j_arr, j_len, j_nar, j_oi, j_ol, j_of, j_od, j_or, j_ov, true_and, and_true, LR_s8 s2, LR_r8 s2]
      refine lr_set hl s2 ht (k := 6) (by omega) (fun h3 s3 => ?_)
      simp only [j_ref, j_ari, j_arb, j_arr, j_len, j_nar, j_oi, j_ol, j_of, j_od, j_or, j_ov, true_and, and_true]
      exact H h3 s3
    | succ k ih =>
      intro f b R1 h2 hf s2 H
      have q2 := LR_q s2
      refine b_X1_addRecord_12 hG ?_
      dsimp only [q_X1_addRecord_12, j_wp, j_opB, j_opA, j_nth, j_i1, j_i2, j_l1, j_l2, j_li, j_f1, j_f2, j_d1, j_d2, j_r1, j_ai, j_aii, j_ail, j_aid, j_air, j_st1, j_st2, j_stu, j_kl, j_cond, j_args, j_out, j_few, j_cw, j_nat, j_pad, j_exp, Nat.reduceAdd]
      simp only [LQ_sh q2, LQ_R0 q2, LQ_R1 q2, LQ_R2 q2, LQ_R3 q2, LQ_R4 q2, j_ref, j_ari, j_arb, j_arr, j_len, j_nar, j_oi, j_ol, j_of, j_od, j_or, j_ov, true_and, and_true, LQ_x5 q2, hx, LR_s8 s2, LR_r8 s2]
      rw [if_pos (nI_lt (by omega) (by omega))]
      refine lf_get hl q2 (f := f) (by omega) (k := 10) (by omega) ?_
      simp only [j_ref, j_ari, j_arb, j_arr, j_len, j_nar, j_oi, j_ol, j_of, j_od, j_or, j_ov, true_and, and_true]
      refine lr_set hl s2 ht (k := f) (by omega) (fun h3 s3 => ?_)
      simp only [j_ref, j_ari, j_arb, j_arr, j_len, j_nar, j_oi, j_ol, j_of, j_od, j_or, j_ov, true_and, and_true]
      have q3 := LR_q s3
      refine sp_X1_isBusy hl q3 (f := f) (by omega) ?_
      simp only [j_ref, j_ari, j_arb, j_arr, j_len, j_nar, j_oi, j_ol, j_of, j_od, j_or, j_ov, true_and, and_true]
      unfold lRow lMask at H
      by_cases g : lBusy L f = true
      · simp only [g, if_true] at H ⊢
        rw [if_neg (by decide)]
        refine b_X1_addRecord_56 hG ?_
        dsimp only [q_X1_addRecord_56, j_wp, j_opB, j_opA, j_nth, j_i1, j_i2, j_l1, j_l2, j_li, j_f1, j_f2, j_d1, j_d2, j_r1, j_ai, j_aii, j_ail, j_aid, j_air, j_st1, j_st2, j_stu, j_kl, j_cond, j_args, j_out, j_few, j_cw, j_nat, j_pad, j_exp, Nat.reduceAdd]
        rw [nI_1]
        exact ih (f + 1) _ _ h3 (by omega) s3 H
      · simp only [g, if_false, Bool.false_eq_true, if_true] at H ⊢
        refine b_X1_addRecord_56 hG ?_
        dsimp only [q_X1_addRecord_56, j_wp, j_opB, j_opA, j_nth, j_i1, j_i2, j_l1, j_l2, j_li, j_f1, j_f2, j_d1, j_d2, j_r1, j_ai, j_aii, j_ail, j_aid, j_air, j_st1, j_st2, j_stu, j_kl, j_cond, j_args, j_out, j_few, j_cw, j_nat, j_pad, j_exp, Nat.reduceAdd]
        rw [nI_1]
        exact ih (f + 1) _ _ h3 (by omega) s3 H
  exact loop nf 0 0 R h1 (by omega) s1 H
end Rec
