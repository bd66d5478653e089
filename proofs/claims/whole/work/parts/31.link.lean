/-! ===== Link: its shape, and what it holds as plain functions =====
A link at a: flows a+1 (cells a+2), virtualTimes a+3, packets a+4 (a+5), transmissions a+6 (a+7), records a+8, its rows a+9 (a+10). -/
def lk (h : j_H) (a : Nat) : Prop := j_sh h a = some (.inr 3) ∧ j_R h a 0 = some (a + 1) ∧ j_R h a 1 = some (a + 3) ∧ j_R h a 2 = some (a + 4) ∧ j_R h a 3 = some (a + 6) ∧ j_R h a 4 = some (a + 8) ∧ TB h (a + 1) (a + 2) 19 114 ∧ j_sh h (a + 3) = some (.inl (1, 6)) ∧ TB h (a + 4) (a + 5) 11 1100 ∧ TB h (a + 6) (a + 7) 6 1800 ∧ j_sh h (a + 8) = some (.inr 6) ∧ j_R h (a + 8) 0 = some (a + 9) ∧ TB h (a + 9) (a + 10) 7 896
theorem TB_setI {h : j_H} {t c w n b k : Nat} {v : Int32} (hT : TB h t c w n) (hb : b ≠ t) : TB (j_setI h b k v) t c w n := by
  obtain ⟨t1, t2, t3, t4, t5⟩ := hT
  exact ⟨t1, by rw [jh_In (fun z => hb z.1.symm)]; exact t2, t3, t4, t5⟩
theorem lk_setI {h : j_H} {a b k : Nat} {v : Int32} (hL : lk h a) (h1 : b ≠ a + 1) (h2 : b ≠ a + 4) (h3 : b ≠ a + 6) (h4 : b ≠ a + 9) : lk (j_setI h b k v) a := by
  obtain ⟨l1, l2, l3, l4, l5, l6, l7, l8, l9, l10, l11, l12, l13⟩ := hL
  exact ⟨l1, l2, l3, l4, l5, l6, TB_setI l7 h1, l8, TB_setI l9 h2, TB_setI l10 h3, l11, l12, TB_setI l13 h4⟩
theorem lk_setL {h : j_H} {a b k : Nat} {v : Int64} (hL : lk h a) : lk (j_setL h b k v) a := hL
/-- numbers, flows, packets, transmissions, virtual times -/
abbrev Lnk : Type := (Nat → Int32) × (Nat → Nat → Int32) × (Nat → Nat → Int32) × (Nat → Nat → Int32) × (Nat → Int64)
def lX (L : Lnk) : Nat → Int32 := L.1
def lF (L : Lnk) : Nat → Nat → Int32 := L.2.1
def lP (L : Lnk) : Nat → Nat → Int32 := L.2.2.1
def lS (L : Lnk) : Nat → Nat → Int32 := L.2.2.2.1
def lV (L : Lnk) : Nat → Int64 := L.2.2.2.2
def up1 {α : Type} (f : Nat → α) (k : Nat) (v : α) : Nat → α := fun j => if j = k then v else f j
def lsX (L : Lnk) (k : Nat) (v : Int32) : Lnk := (up1 L.1 k v, L.2)
def lsF (L : Lnk) (r k : Nat) (v : Int32) : Lnk := (L.1, j_up L.2.1 r k v, L.2.2)
def lsP (L : Lnk) (r k : Nat) (v : Int32) : Lnk := (L.1, L.2.1, j_up L.2.2.1 r k v, L.2.2.2)
def lsS (L : Lnk) (r k : Nat) (v : Int32) : Lnk := (L.1, L.2.1, L.2.2.1, j_up L.2.2.2.1 r k v, L.2.2.2.2)
def lsV (L : Lnk) (k : Nat) (v : Int64) : Lnk := (L.1, L.2.1, L.2.2.1, L.2.2.2.1, up1 L.2.2.2.2 k v)
def LK (h : j_H) (a : Nat) (L : Lnk) : Prop := lk h a ∧ (∀ k, 5 ≤ k → k < 17 → j_I h a k = lX L k) ∧ (∀ r k, r < 6 → k < 19 → j_I h (a + 2) (r * 19 + k) = lF L r k) ∧ (∀ r k, r < 100 → k < 11 → j_I h (a + 5) (r * 11 + k) = lP L r k) ∧ (∀ r k, r < 300 → k < 6 → j_I h (a + 7) (r * 6 + k) = lS L r k) ∧ ∀ k, k < 6 → j_L h (a + 3) k = lV L k
theorem LK_X {h : j_H} {a k : Nat} {L : Lnk} {v : Int32} (hL : LK h a L) : LK (j_setI h a k v) a (lsX L k v) := by
  obtain ⟨h0, h1, h2, h3, h4, h5⟩ := hL
  refine ⟨lk_setI h0 (by omega) (by omega) (by omega) (by omega), fun j g1 g2 => ?_, fun r j g1 g2 => ?_, fun r j g1 g2 => ?_, fun r j g1 g2 => ?_, h5⟩
  · rw [jh_I]
    by_cases e : j = k
    · subst e; simp [lX, lsX, up1]
    · rw [if_neg (by simp [e]), h1 j g1 g2]
      simp [lX, lsX, up1, e]
  · rw [jh_In (by omega)]; exact h2 r j g1 g2
  · rw [jh_In (by omega)]; exact h3 r j g1 g2
  · rw [jh_In (by omega)]; exact h4 r j g1 g2
theorem LK_F {h : j_H} {a r k : Nat} {L : Lnk} {v : Int32} (hL : LK h a L) (hr : r < 6) (hk : k < 19) : LK (j_setI h (a + 2) (r * 19 + k) v) a (lsF L r k v) := by
  obtain ⟨h0, h1, h2, h3, h4, h5⟩ := hL
  refine ⟨lk_setI h0 (by omega) (by omega) (by omega) (by omega), fun j g1 g2 => ?_, fun r' j g1 g2 => ?_, fun r' j g1 g2 => ?_, fun r' j g1 g2 => ?_, h5⟩
  · rw [jh_In (by omega)]; exact h1 j g1 g2
  · rw [jh_I]
    by_cases e : r' = r ∧ j = k
    · obtain ⟨rfl, rfl⟩ := e; simp [lF, lsF, j_up]
    · rw [if_neg (by omega), h2 r' j g1 g2]
      simp [lF, lsF, j_up, e]
  · rw [jh_In (by omega)]; exact h3 r' j g1 g2
  · rw [jh_In (by omega)]; exact h4 r' j g1 g2
theorem LK_P {h : j_H} {a r k : Nat} {L : Lnk} {v : Int32} (hL : LK h a L) (hr : r < 100) (hk : k < 11) : LK (j_setI h (a + 5) (r * 11 + k) v) a (lsP L r k v) := by
  obtain ⟨h0, h1, h2, h3, h4, h5⟩ := hL
  refine ⟨lk_setI h0 (by omega) (by omega) (by omega) (by omega), fun j g1 g2 => ?_, fun r' j g1 g2 => ?_, fun r' j g1 g2 => ?_, fun r' j g1 g2 => ?_, h5⟩
  · rw [jh_In (by omega)]; exact h1 j g1 g2
  · rw [jh_In (by omega)]; exact h2 r' j g1 g2
  · rw [jh_I]
    by_cases e : r' = r ∧ j = k
    · obtain ⟨rfl, rfl⟩ := e; simp [lP, lsP, j_up]
    · rw [if_neg (by omega), h3 r' j g1 g2]
      simp [lP, lsP, j_up, e]
  · rw [jh_In (by omega)]; exact h4 r' j g1 g2
theorem LK_S {h : j_H} {a r k : Nat} {L : Lnk} {v : Int32} (hL : LK h a L) (hr : r < 300) (hk : k < 6) : LK (j_setI h (a + 7) (r * 6 + k) v) a (lsS L r k v) := by
  obtain ⟨h0, h1, h2, h3, h4, h5⟩ := hL
  refine ⟨lk_setI h0 (by omega) (by omega) (by omega) (by omega), fun j g1 g2 => ?_, fun r' j g1 g2 => ?_, fun r' j g1 g2 => ?_, fun r' j g1 g2 => ?_, h5⟩
  · rw [jh_In (by omega)]; exact h1 j g1 g2
  · rw [jh_In (by omega)]; exact h2 r' j g1 g2
  · rw [jh_In (by omega)]; exact h3 r' j g1 g2
  · rw [jh_I]
    by_cases e : r' = r ∧ j = k
    · obtain ⟨rfl, rfl⟩ := e; simp [lS, lsS, j_up]
    · rw [if_neg (by omega), h4 r' j g1 g2]
      simp [lS, lsS, j_up, e]
theorem LK_V {h : j_H} {a k : Nat} {L : Lnk} {v : Int64} (hL : LK h a L) : LK (j_setL h (a + 3) k v) a (lsV L k v) := by
  obtain ⟨h0, h1, h2, h3, h4, h5⟩ := hL
  refine ⟨h0, h1, h2, h3, h4, fun j g1 => ?_⟩
  rw [jh_L]
  by_cases e : j = k
  · subst e; simp [lV, lsV, up1]
  · rw [if_neg (by simp [e]), h5 j g1]
    simp [lV, lsV, up1, e]
/-- only cells from lo to hi (without hi) have changed, and only numbers in them -/
def Fr (lo hi : Nat) (h h' : j_H) : Prop := j_sh h' = j_sh h ∧ j_R h' = j_R h ∧ j_D h' = j_D h ∧ j_z h' = j_z h ∧ j_c h' = j_c h ∧ j_k h' = j_k h ∧ (∀ b k, (b < lo ∨ hi ≤ b) → j_I h' b k = j_I h b k) ∧ ∀ b k, (b < lo ∨ hi ≤ b) → j_L h' b k = j_L h b k
theorem Fr_rf {lo hi : Nat} {h : j_H} : Fr lo hi h h := ⟨rfl, rfl, rfl, rfl, rfl, rfl, fun _ _ _ => rfl, fun _ _ _ => rfl⟩
theorem Fr_I {lo hi : Nat} {h h' : j_H} {b k : Nat} {v : Int32} (hF : Fr lo hi h h') (h1 : lo ≤ b) (h2 : b < hi) : Fr lo hi h (j_setI h' b k v) := by
  obtain ⟨f1, f2, f3, f4, f5, f6, f7, f8⟩ := hF
  exact ⟨f1, f2, f3, f4, f5, f6, fun b' k' g => by rw [jh_In (by omega)]; exact f7 b' k' g, f8⟩
theorem Fr_L {lo hi : Nat} {h h' : j_H} {b k : Nat} {v : Int64} (hF : Fr lo hi h h') (h1 : lo ≤ b) (h2 : b < hi) : Fr lo hi h (j_setL h' b k v) := by
  obtain ⟨f1, f2, f3, f4, f5, f6, f7, f8⟩ := hF
  exact ⟨f1, f2, f3, f4, f5, f6, f7, fun b' k' g => by rw [jh_Ln (by omega)]; exact f8 b' k' g⟩
theorem Fr_tr {lo hi : Nat} {h h' h'' : j_H} (h1 : Fr lo hi h h') (h2 : Fr lo hi h' h'') : Fr lo hi h h'' := by
  obtain ⟨f1, f2, f3, f4, f5, f6, f7, f8⟩ := h1
  obtain ⟨g1, g2, g3, g4, g5, g6, g7, g8⟩ := h2
  exact ⟨g1.trans f1, g2.trans f2, g3.trans f3, g4.trans f4, g5.trans f5, g6.trans f6, fun b k z => (g7 b k z).trans (f7 b k z), fun b k z => (g8 b k z).trans (f8 b k z)⟩
theorem Fr_bd {lo hi : Nat} {E : j_E} {h h' : j_H} (hF : Fr lo hi h h') (hB : j_bd E h) : j_bd E h' := by
  obtain ⟨f1, f2, f3, f4, f5, f6, f7, f8⟩ := hF
  unfold j_bd
  rw [f5, f6]
  exact hB
section Lnk1
variable {l : Launch} {D : va_G} {bs : Nat} {E : j_E}
theorem sp_X1_virtualOf (hl : l.stackTraces = false) {d : Nat} {h : j_H} {a f : Nat} {L : Lnk} {Q : j_O → j_H → Prop} (hB : j_bd E h) (hL : LK h a L) (hf : f < 6) (H : Q (.inl (some (.long (lV L f)))) h) :
    j_Met l D bs E (d + 1) n_X1_virtualOf [.ref a, .int (nI f)] h Q := by
  obtain ⟨⟨l1, l2, l3, l4, l5, l6, l7, l8, l9, l10, l11, l12, l13⟩, h1, h2, h3, h4, h5⟩ := hL
  refine j_meth hl rfl g_X1_virtualOf (Nat.le_of_ble_eq_true rfl) (fun _ => ⟨_, _, rfl, l1⟩) hB.1 hB.2 (fun G hG => ?_)
  refine b_X1_virtualOf_0 hG ?_
  dsimp only [q_X1_virtualOf_0, j_wp, j_opB, j_opA, j_nth, j_i1, j_i2, j_l1, j_l2, j_li, j_f1, j_f2, j_d1, j_d2, j_r1, j_ai, j_aii, j_ail, j_aid, j_air, j_st1, j_st2, j_stu, j_kl, j_cond, j_args, j_out, j_few, j_cw, j_nat, j_pad, j_exp, Nat.reduceAdd]
  simp only [l1, l3, l8, j_ref, j_ari, j_arb, j_arr, j_len, j_nar, j_oi, j_ol, j_of, j_od, j_or, j_ov, true_and, and_true]
  rw [if_neg (nI_pos (by omega)), if_pos (nI_lt hf (by omega))]
  refine ⟨vp_in_nI hf (by omega), ?_⟩
  refine b_X1_virtualOf_23 hG ?_
  dsimp only [q_X1_virtualOf_23, j_wp, j_opB, j_opA, j_nth, j_i1, j_i2, j_l1, j_l2, j_li, j_f1, j_f2, j_d1, j_d2, j_r1, j_ai, j_aii, j_ail, j_aid, j_air, j_st1, j_st2, j_stu, j_kl, j_cond, j_args, j_out, j_few, j_cw, j_nat, j_pad, j_exp, Nat.reduceAdd]
  rw [nI_clamp (by omega), h5 f hf]
  exact H
theorem sp_X1_setVirtual (hl : l.stackTraces = false) {d : Nat} {h : j_H} {a f : Nat} {L : Lnk} {v : Int64} {Q : j_O → j_H → Prop} (hB : j_bd E h) (hL : LK h a L) (hf : f < 6) (H : Q (.inl none) (j_setL h (a + 3) f v)) :
    j_Met l D bs E (d + 1) n_X1_setVirtual [.ref a, .int (nI f), .long v] h Q := by
  obtain ⟨⟨l1, l2, l3, l4, l5, l6, l7, l8, l9, l10, l11, l12, l13⟩, h1, h2, h3, h4, h5⟩ := hL
  refine j_meth hl rfl g_X1_setVirtual (Nat.le_of_ble_eq_true rfl) (fun _ => ⟨_, _, rfl, l1⟩) hB.1 hB.2 (fun G hG => ?_)
  refine b_X1_setVirtual_0 hG ?_
  dsimp only [q_X1_setVirtual_0, j_wp, j_opB, j_opA, j_nth, j_i1, j_i2, j_l1, j_l2, j_li, j_f1, j_f2, j_d1, j_d2, j_r1, j_ai, j_aii, j_ail, j_aid, j_air, j_st1, j_st2, j_stu, j_kl, j_cond, j_args, j_out, j_few, j_cw, j_nat, j_pad, j_exp, Nat.reduceAdd]
  simp only [l1, l3, l8, j_ref, j_ari, j_arb, j_arr, j_len, j_nar, j_oi, j_ol, j_of, j_od, j_or, j_ov, true_and, and_true]
  rw [if_neg (nI_pos (by omega)), if_pos (nI_lt hf (by omega))]
  refine ⟨vp_in_nI hf (by omega), ?_⟩
  refine b_X1_setVirtual_20 hG ?_
  dsimp only [q_X1_setVirtual_20, j_wp, j_opB, j_opA, j_nth, j_i1, j_i2, j_l1, j_l2, j_li, j_f1, j_f2, j_d1, j_d2, j_r1, j_ai, j_aii, j_ail, j_aid, j_air, j_st1, j_st2, j_stu, j_kl, j_cond, j_args, j_out, j_few, j_cw, j_nat, j_pad, j_exp, Nat.reduceAdd]
  rw [nI_clamp (by omega)]
  exact H
/-- what a byte costs -/
def lUnit (L : Lnk) (f : Nat) : Int32 := if 0 < lF L f 0 then 720720 / lF L f 0 else 0
theorem sp_X1_unitOf (hl : l.stackTraces = false) {d : Nat} {h : j_H} {a f : Nat} {L : Lnk} {Q : j_O → j_H → Prop} (hB : j_bd E h) (hL : LK h a L) (hf : f < 6) (H : Q (.inl (some (.int (lUnit L f)))) h) :
    j_Met l D bs E (d + 2) n_X1_unitOf [.ref a, .int (nI f)] h Q := by
  obtain ⟨⟨l1, l2, l3, l4, l5, l6, l7, l8, l9, l10, l11, l12, l13⟩, h1, h2, h3, h4, h5⟩ := hL
  refine j_meth hl rfl g_X1_unitOf (Nat.le_of_ble_eq_true rfl) (fun _ => ⟨_, _, rfl, l1⟩) hB.1 hB.2 (fun G hG => ?_)
  refine b_X1_unitOf_0 hG ?_
  dsimp only [q_X1_unitOf_0, j_wp, j_opB, j_opA, j_nth, j_i1, j_i2, j_l1, j_l2, j_li, j_f1, j_f2, j_d1, j_d2, j_r1, j_ai, j_aii, j_ail, j_aid, j_air, j_st1, j_st2, j_stu, j_kl, j_cond, j_args, j_out, j_few, j_cw, j_nat, j_pad, j_exp, Nat.reduceAdd]
  simp only [l1, l2, j_ref, j_ari, j_arb, j_arr, j_len, j_nar, j_oi, j_ol, j_of, j_od, j_or, j_ov, true_and, and_true]
  refine sp_X6_get hl (r := f) (k := 0) hB l7 (by omega) (by omega) ?_
  simp only [j_ref, j_ari, j_arb, j_arr, j_len, j_nar, j_oi, j_ol, j_of, j_od, j_or, j_ov, true_and, and_true, h2 f 0 hf (by omega)]
  unfold lUnit at H
  split
  · rename_i hw
    rw [if_pos hw] at H
    refine ⟨fun z => by rw [z] at hw; exact absurd hw (by decide), ?_⟩
    refine b_X1_unitOf_22 hG ?_
    dsimp only [q_X1_unitOf_22, j_wp, j_opB, j_opA, j_nth, j_i1, j_i2, j_l1, j_l2, j_li, j_f1, j_f2, j_d1, j_d2, j_r1, j_ai, j_aii, j_ail, j_aid, j_air, j_st1, j_st2, j_stu, j_kl, j_cond, j_args, j_out, j_few, j_cw, j_nat, j_pad, j_exp, Nat.reduceAdd]
    simp only [j_ref, j_ari, j_arb, j_arr, j_len, j_nar, j_oi, j_ol, j_of, j_od, j_or, j_ov, true_and, and_true]
    exact H
  · rename_i hw
    rw [if_neg hw] at H
    refine b_X1_unitOf_21 hG ?_
    dsimp only [q_X1_unitOf_21, j_wp, j_opB, j_opA, j_nth, j_i1, j_i2, j_l1, j_l2, j_li, j_f1, j_f2, j_d1, j_d2, j_r1, j_ai, j_aii, j_ail, j_aid, j_air, j_st1, j_st2, j_stu, j_kl, j_cond, j_args, j_out, j_few, j_cw, j_nat, j_pad, j_exp, Nat.reduceAdd]
    refine b_X1_unitOf_22 hG ?_
    dsimp only [q_X1_unitOf_22, j_wp, j_opB, j_opA, j_nth, j_i1, j_i2, j_l1, j_l2, j_li, j_f1, j_f2, j_d1, j_d2, j_r1, j_ai, j_aii, j_ail, j_aid, j_air, j_st1, j_st2, j_stu, j_kl, j_cond, j_args, j_out, j_few, j_cw, j_nat, j_pad, j_exp, Nat.reduceAdd]
    simp only [j_ref, j_ari, j_arb, j_arr, j_len, j_nar, j_oi, j_ol, j_of, j_od, j_or, j_ov, true_and, and_true]
    exact H
end Lnk1
