/-! ===== the own heap: reading behind writing ===== -/
def j_bd (E : j_E) (h : j_H) : Prop := j_c h ≤ E.2.1 ∧ j_k h ≤ E.2.2
theorem jh_shI (h : j_H) (a k : Nat) (v : Int32) : j_sh (j_setI h a k v) = j_sh h := rfl
theorem jh_shL (h : j_H) (a k : Nat) (v : Int64) : j_sh (j_setL h a k v) = j_sh h := rfl
theorem jh_shR (h : j_H) (a k : Nat) (v : Option Nat) : j_sh (j_setR h a k v) = j_sh h := rfl
theorem jh_RI (h : j_H) (a k : Nat) (v : Int32) : j_R (j_setI h a k v) = j_R h := rfl
theorem jh_RL (h : j_H) (a k : Nat) (v : Int64) : j_R (j_setL h a k v) = j_R h := rfl
theorem jh_LI (h : j_H) (a k : Nat) (v : Int32) : j_L (j_setI h a k v) = j_L h := rfl
theorem jh_IL (h : j_H) (a k : Nat) (v : Int64) : j_I (j_setL h a k v) = j_I h := rfl
theorem jh_IR (h : j_H) (a k : Nat) (v : Option Nat) : j_I (j_setR h a k v) = j_I h := rfl
theorem jh_LR (h : j_H) (a k : Nat) (v : Option Nat) : j_L (j_setR h a k v) = j_L h := rfl
theorem jh_I (h : j_H) (a k b j : Nat) (v : Int32) : j_I (j_setI h a k v) b j = if b = a ∧ j = k then v else j_I h b j := rfl
theorem jh_Is (h : j_H) (a k : Nat) (v : Int32) : j_I (j_setI h a k v) a k = v := by simp [jh_I]
theorem jh_In {h : j_H} {a k b j : Nat} {v : Int32} (e : ¬ (b = a ∧ j = k)) : j_I (j_setI h a k v) b j = j_I h b j := by rw [jh_I, if_neg e]
theorem jh_L (h : j_H) (a k b j : Nat) (v : Int64) : j_L (j_setL h a k v) b j = if b = a ∧ j = k then v else j_L h b j := rfl
theorem jh_Ls (h : j_H) (a k : Nat) (v : Int64) : j_L (j_setL h a k v) a k = v := by simp [jh_L]
theorem jh_Ln {h : j_H} {a k b j : Nat} {v : Int64} (e : ¬ (b = a ∧ j = k)) : j_L (j_setL h a k v) b j = j_L h b j := by rw [jh_L, if_neg e]
/-! ===== Table ===== -/
/-- a table at t: its cells at c, w columns, n cells -/
def TB (h : j_H) (t c w n : Nat) : Prop := j_sh h t = some (.inr 8) ∧ j_I h t 0 = nI w ∧ j_R h t 1 = some c ∧ j_sh h c = some (.inl (0, n)) ∧ n < 2 ^ 31 ∧ w < 2 ^ 31
theorem tb_ix {r w k : Nat} : nI r * nI w + nI k = nI (r * w + k) := by rw [pk_mul, nI_add]
section Tab
variable {l : Launch} {D : va_G} {bs : Nat} {E : j_E}
theorem sp_X6_get (hl : l.stackTraces = false) {d : Nat} {h : j_H} {t c w n r k : Nat} {Q : j_O → j_H → Prop} (hB : j_bd E h) (hT : TB h t c w n) (hk : k < w) (hi : r * w + k < n) (H : Q (.inl (some (.int (j_I h c (r * w + k))))) h) :
    j_Met l D bs E (d + 1) n_X6_get [.ref t, .int (nI r), .int (nI k)] h Q := by
  obtain ⟨t1, t2, t3, t4, t5, t6⟩ := hT
  refine j_meth hl rfl g_X6_get (Nat.le_of_ble_eq_true rfl) (fun _ => ⟨_, _, rfl, t1⟩) hB.1 hB.2 (fun G hG => ?_)
  refine b_X6_get_0 hG ?_
  dsimp only [q_X6_get_0, j_wp, j_opB, j_opA, j_nth, j_i1, j_i2, j_l1, j_l2, j_li, j_f1, j_f2, j_d1, j_d2, j_r1, j_ai, j_aii, j_ail, j_aid, j_air, j_st1, j_st2, j_stu, j_kl, j_cond, j_args, j_out, j_few, j_cw, j_nat, j_pad, j_exp, Nat.reduceAdd]
  simp only [t1, t2, t3, t4, tb_ix, j_ref, j_ari, j_arb, j_arr, j_len, j_nar, j_oi, j_ol, j_of, j_od, j_or, j_ov, true_and, and_true]
  rw [if_neg (nI_pos (by omega)), if_pos (nI_lt hk t6), if_neg (nI_pos (by omega)), if_pos (nI_lt hi t5)]
  refine b_X6_get_36 hG ?_
  dsimp only [q_X6_get_36, j_wp, j_opB, j_opA, j_nth, j_i1, j_i2, j_l1, j_l2, j_li, j_f1, j_f2, j_d1, j_d2, j_r1, j_ai, j_aii, j_ail, j_aid, j_air, j_st1, j_st2, j_stu, j_kl, j_cond, j_args, j_out, j_few, j_cw, j_nat, j_pad, j_exp, Nat.reduceAdd]
  simp only [t1, t3, t4, j_ref, j_ari, j_arb, j_arr, j_len, j_nar, j_oi, j_ol, j_of, j_od, j_or, j_ov, true_and, and_true]
  refine ⟨vp_in_nI hi t5, ?_⟩
  rw [nI_clamp (by omega)]
  exact H
theorem sp_X6_set (hl : l.stackTraces = false) {d : Nat} {h : j_H} {t c w n r k : Nat} {v : Int32} {Q : j_O → j_H → Prop} (hB : j_bd E h) (hT : TB h t c w n) (hk : k < w) (hi : r * w + k < n) (H : Q (.inl none) (j_setI h c (r * w + k) v)) :
    j_Met l D bs E (d + 1) n_X6_set [.ref t, .int (nI r), .int (nI k), .int v] h Q := by
  obtain ⟨t1, t2, t3, t4, t5, t6⟩ := hT
  refine j_meth hl rfl g_X6_set (Nat.le_of_ble_eq_true rfl) (fun _ => ⟨_, _, rfl, t1⟩) hB.1 hB.2 (fun G hG => ?_)
  refine b_X6_set_0 hG ?_
  dsimp only [q_X6_set_0, j_wp, j_opB, j_opA, j_nth, j_i1, j_i2, j_l1, j_l2, j_li, j_f1, j_f2, j_d1, j_d2, j_r1, j_ai, j_aii, j_ail, j_aid, j_air, j_st1, j_st2, j_stu, j_kl, j_cond, j_args, j_out, j_few, j_cw, j_nat, j_pad, j_exp, Nat.reduceAdd]
  simp only [t1, t2, t3, t4, tb_ix, j_ref, j_ari, j_arb, j_arr, j_len, j_nar, j_oi, j_ol, j_of, j_od, j_or, j_ov, true_and, and_true]
  rw [if_neg (nI_pos (by omega)), if_pos (nI_lt hk t6), if_neg (nI_pos (by omega)), if_pos (nI_lt hi t5)]
  refine ⟨vp_in_nI hi t5, ?_⟩
  rw [nI_clamp (by omega)]
  refine b_X6_set_45 hG ?_
  dsimp only [q_X6_set_45, j_wp, j_opB, j_opA, j_nth, j_i1, j_i2, j_l1, j_l2, j_li, j_f1, j_f2, j_d1, j_d2, j_r1, j_ai, j_aii, j_ail, j_aid, j_air, j_st1, j_st2, j_stu, j_kl, j_cond, j_args, j_out, j_few, j_cw, j_nat, j_pad, j_exp, Nat.reduceAdd]
  exact H
theorem sp_X6_add (hl : l.stackTraces = false) {d : Nat} {h : j_H} {t c w n r k : Nat} {v : Int32} {Q : j_O → j_H → Prop} (hB : j_bd E h) (hT : TB h t c w n) (hk : k < w) (hi : r * w + k < n) (H : Q (.inl none) (j_setI h c (r * w + k) (j_I h c (r * w + k) + v))) :
    j_Met l D bs E (d + 1) n_X6_add [.ref t, .int (nI r), .int (nI k), .int v] h Q := by
  obtain ⟨t1, t2, t3, t4, t5, t6⟩ := hT
  refine j_meth hl rfl g_X6_add (Nat.le_of_ble_eq_true rfl) (fun _ => ⟨_, _, rfl, t1⟩) hB.1 hB.2 (fun G hG => ?_)
  refine b_X6_add_0 hG ?_
  dsimp only [q_X6_add_0, j_wp, j_opB, j_opA, j_nth, j_i1, j_i2, j_l1, j_l2, j_li, j_f1, j_f2, j_d1, j_d2, j_r1, j_ai, j_aii, j_ail, j_aid, j_air, j_st1, j_st2, j_stu, j_kl, j_cond, j_args, j_out, j_few, j_cw, j_nat, j_pad, j_exp, Nat.reduceAdd]
  simp only [t1, t2, t3, t4, tb_ix, j_ref, j_ari, j_arb, j_arr, j_len, j_nar, j_oi, j_ol, j_of, j_od, j_or, j_ov, true_and, and_true]
  rw [if_neg (nI_pos (by omega)), if_pos (nI_lt hk t6), if_neg (nI_pos (by omega)), if_pos (nI_lt hi t5)]
  refine ⟨vp_in_nI hi t5, vp_in_nI hi t5, ?_⟩
  rw [nI_clamp (by omega)]
  refine b_X6_add_48 hG ?_
  dsimp only [q_X6_add_48, j_wp, j_opB, j_opA, j_nth, j_i1, j_i2, j_l1, j_l2, j_li, j_f1, j_f2, j_d1, j_d2, j_r1, j_ai, j_aii, j_ail, j_aid, j_air, j_st1, j_st2, j_stu, j_kl, j_cond, j_args, j_out, j_few, j_cw, j_nat, j_pad, j_exp, Nat.reduceAdd]
  exact H
theorem j_rowI_0 (h : j_H) (c c' : Nat) : j_rowI h c (va_cpy (j_I h c') (j_I h c) 0 0 0) = h := by
  have e : j_row h.2.1 c (va_cpy (j_I h c') (j_I h c) 0 0 0) = h.2.1 := by
    funext b j
    simp only [j_row, va_cpy]
    by_cases e : b = c
    · subst e
      rw [if_pos rfl, if_neg (by omega)]
      rfl
    · rw [if_neg e]
  unfold j_rowI
  rw [e]

theorem sp_X6_copyRows (hl : l.stackTraces = false) {d : Nat} {h : j_H} {t c t' c' w n r : Nat} {Q : j_O → j_H → Prop} (hB : j_bd E h) (hT : TB h t c w n) (hT' : TB h t' c' w n) (hne : c' ≠ c) (hr : r * w ≤ n) (H : Q (.inl none) (j_rowI h c (va_cpy (j_I h c') (j_I h c) 0 0 (r * w)))) :
    j_Met l D bs E (d + 1) n_X6_copyRows [.ref t, .ref t', .int (nI r)] h Q := by
  obtain ⟨t1, t2, t3, t4, t5, t6⟩ := hT
  obtain ⟨s1, s2, s3, s4, s5, s6⟩ := hT'
  refine j_meth hl rfl g_X6_copyRows (Nat.le_of_ble_eq_true rfl) (fun _ => ⟨_, _, rfl, t1⟩) hB.1 hB.2 (fun G hG => ?_)
  refine b_X6_copyRows_0 hG ?_
  dsimp only [q_X6_copyRows_0, j_wp, j_opB, j_opA, j_nth, j_i1, j_i2, j_l1, j_l2, j_li, j_f1, j_f2, j_d1, j_d2, j_r1, j_ai, j_aii, j_ail, j_aid, j_air, j_st1, j_st2, j_stu, j_kl, j_cond, j_args, j_out, j_few, j_cw, j_nat, j_pad, j_exp, Nat.reduceAdd]
  simp only [t1, t2, t3, t4, s1, s3, s4, pk_mul, j_ref, j_ari, j_arb, j_arr, j_len, j_nar, j_oi, j_ol, j_of, j_od, j_or, j_ov, true_and, and_true]
  have e1 : (if nI n < nI (r * w) then nI n else nI (r * w)) = nI (r * w) := if_neg (nI_nlt hr t5)
  have z0 : Int32.toNatClampNeg 0 = 0 := by decide
  simp only [ite_self, e1, z0]
  by_cases h0 : r * w = 0
  · rw [h0, nI_0, if_neg (by decide)]
    refine b_X6_copyRows_41 hG ?_
    dsimp only [q_X6_copyRows_41, j_wp, j_opB, j_opA, j_nth, j_i1, j_i2, j_l1, j_l2, j_li, j_f1, j_f2, j_d1, j_d2, j_r1, j_ai, j_aii, j_ail, j_aid, j_air, j_st1, j_st2, j_stu, j_kl, j_cond, j_args, j_out, j_few, j_cw, j_nat, j_pad, j_exp, Nat.reduceAdd]
    rw [h0, j_rowI_0] at H
    exact H
  · rw [if_pos (show (0 : Int32) < nI (r * w) from nI_lt (show 0 < r * w by omega) (by omega))]
    refine ⟨by decide, by decide, nI_pos (by omega), ?_, ?_, hne, ?_⟩
    · rw [nI_clamp (by omega)]
      omega
    · rw [nI_clamp (by omega)]
      omega
    · refine b_X6_copyRows_41 hG ?_
      dsimp only [q_X6_copyRows_41, j_wp, j_opB, j_opA, j_nth, j_i1, j_i2, j_l1, j_l2, j_li, j_f1, j_f2, j_d1, j_d2, j_r1, j_ai, j_aii, j_ail, j_aid, j_air, j_st1, j_st2, j_stu, j_kl, j_cond, j_args, j_out, j_few, j_cw, j_nat, j_pad, j_exp, Nat.reduceAdd]
      rw [nI_clamp (by omega)]
      exact H
end Tab
