/-! ===== the class: constructors of tables, records and links ===== -/
section CIn
variable {l : Launch} {D : va_G} {bs : Nat} {E : j_E} {h : j_H} {d : Nat} {Q : j_O → j_H → Prop}
def nF : Nat → Prop := fun _ => False
theorem FQ_sI {A : Nat → Prop} {z q k : Nat} {h' : j_H} {v : Int32} (h1 : FQ A z h h') (hq : z ≤ q) : FQ A z h (j_setI h' q k v) := by
  refine ⟨h1.1, fun b hb => ?_⟩
  obtain ⟨a1, a2, a3, a4⟩ := h1.2 b hb
  exact ⟨a1, a2, a3, fun y => ⟨fun j => by rw [jh_In (by omega)]; exact (a4 y).1 j, (a4 y).2⟩⟩
theorem jh_R (h : j_H) (a k b j : Nat) (v : Option Nat) : j_R (j_setR h a k v) b j = if b = a ∧ j = k then v else j_R h b j := rfl
theorem FQ_sR {A : Nat → Prop} {z q k : Nat} {h' : j_H} {v : Option Nat} (h1 : FQ A z h h') (hq : z ≤ q) : FQ A z h (j_setR h' q k v) := by
  refine ⟨h1.1, fun b hb => ?_⟩
  obtain ⟨a1, a2, a3, a4⟩ := h1.2 b hb
  exact ⟨a1, fun j => by rw [jh_R, if_neg (by omega)]; exact a2 j, a3, a4⟩
theorem TB_sR {t c w n b k : Nat} {v : Option Nat} (hT : TB h t c w n) (hb : b ≠ t) : TB (j_setR h b k v) t c w n := by
  obtain ⟨t1, t2, t3, t4, t5⟩ := hT
  exact ⟨t1, t2, by rw [jh_R, if_neg (fun z => hb z.1.symm)]; exact t3, t4, t5⟩
theorem nw_sh (h : j_H) (s : j_S) (n b : Nat) : j_sh (j_new h s n) b = if b = j_z h then some s else j_sh h b := rfl
theorem nw_I (h : j_H) (s : j_S) (n b k : Nat) : j_I (j_new h s n) b k = if b = j_z h then 0 else j_I h b k := rfl
theorem nw_L (h : j_H) (s : j_S) (n b k : Nat) : j_L (j_new h s n) b k = if b = j_z h then 0 else j_L h b k := rfl
theorem nw_R (h : j_H) (s : j_S) (n b k : Nat) : j_R (j_new h s n) b k = if b = j_z h then none else j_R h b k := rfl
theorem sp_X6_init (hl : l.stackTraces = false) {t r w : Nat} (t1 : j_sh h t = some (.inr 8)) (tz : t + 1 = j_z h) (hw : 1 ≤ w) (hw2 : w < 2 ^ 31) (hr : r < 2 ^ 31) (hn : r * w ≤ 1000000) (c1 : j_c h + 1 ≤ E.2.1) (c2 : j_k h + r * w ≤ E.2.2) (H : ∀ h', TB h' t (t + 1) w (r * w) → (∀ k, j_I h' (t + 1) k = 0) → FQ nF t h h' → j_z h' = t + 2 → j_c h' = j_c h + 1 → j_k h' = j_k h + r * w → Q (.inl none) h') : j_Met l D bs E (d + 1) n_X6_init [.ref t, .int (nI r), .int (nI w)] h Q := by
  have hB : j_bd E h := ⟨by omega, by omega⟩
  have e1 : (if nI w < 1 then (1 : Int32) else nI w) = nI w := if_neg (show ¬ nI w < nI 1 from nI_nlt hw (by omega))
  have e2 : (if nI r < 0 then (0 : Int32) else nI r) = nI r := if_neg (nI_pos hr)
  have sh1 : j_sh (j_setI h t 0 (nI w)) t = some (.inr 8) := t1
  have sh2 : j_sh (j_new (j_setI h t 0 (nI w)) (.inl (0, r * w)) (r * w)) t = some (.inr 8) := by
    rw [nw_sh, if_neg (show ¬ t = j_z (j_setI h t 0 (nI w)) from fun z => by have : j_z (j_setI h t 0 (nI w)) = j_z h := rfl; omega)]
    exact t1
  have ec : (nI (r * w)).toNatClampNeg = r * w := nI_clamp (by omega)
  refine j_meth hl rfl g_X6_init (Nat.le_of_ble_eq_true rfl) (fun _ => ⟨_, _, rfl, t1⟩) hB.1 hB.2 (fun G hG => ?_)
  refine b_X6_init_0 hG ?_
  dsimp only [q_X6_init_0, j_wp, j_opB, j_opA, j_nth, j_i1, j_i2, j_l1, j_l2, j_li, j_f1, j_f2, j_d1, j_d2, j_r1, j_ai, j_aii, j_ail, j_aid, j_air, j_st1, j_st2, j_stu, j_kl, j_cond, j_args, j_out, j_few, j_cw, j_nat, j_pad, j_exp, Nat.reduceAdd]
  simp only [e1, e2, t1, sh1, jh_Is, pk_mul, ec, sh2, j_ref, j_ari, j_arb, j_arr, j_len, j_nar, j_oi, j_ol, j_of, j_od, j_or, j_ov, true_and, and_true]
  refine ⟨nI_pos (by omega), hn, c1, c2, ?_⟩
  have zz : j_z (j_setI h t 0 (nI w)) = t + 1 := tz.symm
  have f1 : FQ nF t h (j_setR (j_new (j_setI h t 0 (nI w)) (.inl (0, r * w)) (r * w)) t 1 (some (j_z (j_setI h t 0 (nI w))))) := FQ_sR (FQ_new (FQ_sI (FQ_rf (by omega)) (Nat.le_refl _))) (Nat.le_refl _)
  refine H _ ⟨sh2, ?_, ?_, ?_, by omega, hw2⟩ (fun k => ?_) f1 ?_ rfl rfl
  · show j_I (j_new (j_setI h t 0 (nI w)) (.inl (0, r * w)) (r * w)) t 0 = _
    rw [nw_I, if_neg (by omega)]
    exact jh_Is _ _ _ _
  · rw [jh_R, if_pos ⟨rfl, rfl⟩, zz]
  · show j_sh (j_new (j_setI h t 0 (nI w)) (.inl (0, r * w)) (r * w)) (t + 1) = _
    rw [nw_sh, if_pos zz.symm]
  · show j_I (j_new (j_setI h t 0 (nI w)) (.inl (0, r * w)) (r * w)) (t + 1) k = _
    rw [nw_I, if_pos zz.symm]
  · show j_z (j_setI h t 0 (nI w)) + 1 = t + 2
    omega
/-- a new table: new, then its constructor -/
theorem new_tab (hl : l.stackTraces = false) {t r w : Nat} (tz : t = j_z h) (hw : 1 ≤ w) (hw2 : w < 2 ^ 31) (hr : r < 2 ^ 31) (hn : r * w ≤ 1000000) (c1 : j_c h + 2 ≤ E.2.1) (c2 : j_k h + (2 + r * w) ≤ E.2.2) (H : ∀ h', TB h' t (t + 1) w (r * w) → (∀ k, j_I h' (t + 1) k = 0) → FQ nF t h h' → j_z h' = t + 2 → j_c h' = j_c h + 2 → j_k h' = j_k h + (2 + r * w) → Q (.inl none) h') : j_Met l D bs E (d + 1) n_X6_init [.ref (j_z h), .int (nI r), .int (nI w)] (j_new h (.inr 8) 2) Q := by
  subst tz
  have e1 : j_c (j_new h (.inr 8) 2) = j_c h + 1 := rfl
  have e2 : j_k (j_new h (.inr 8) 2) = j_k h + 2 := rfl
  refine sp_X6_init hl (h := j_new h (.inr 8) 2) (by rw [nw_sh, if_pos rfl]) rfl hw hw2 hr hn (by omega) (by omega) (fun h' a1 a2 a3 a4 a5 a6 => ?_)
  exact H h' a1 a2 (FQ_tr (FQ_new (FQ_rf (Nat.le_refl _))) a3 (Nat.le_refl _)) a4 (by omega) (by omega)
theorem sp_X4_init (hl : l.stackTraces = false) {t : Nat} (t1 : j_sh h t = some (.inr 6)) (tz : t + 1 = j_z h) (c1 : j_c h + 2 ≤ E.2.1) (c2 : j_k h + 898 ≤ E.2.2) (H : ∀ h', j_sh h' t = some (.inr 6) → j_R h' t 0 = some (t + 1) → TB h' (t + 1) (t + 2) 7 896 → (∀ k, j_I h' t k = j_I h t k) → FQ nF t h h' → j_z h' = t + 3 → j_c h' = j_c h + 2 → j_k h' = j_k h + 898 → Q (.inl none) h') : j_Met l D bs E (d + 2) n_X4_init [.ref t] h Q := by
  have hB : j_bd E h := ⟨by omega, by omega⟩
  refine j_meth hl rfl g_X4_init (Nat.le_of_ble_eq_true rfl) (fun _ => ⟨_, _, rfl, t1⟩) hB.1 hB.2 (fun G hG => ?_)
  refine b_X4_init_0 hG ?_
  dsimp only [q_X4_init_0, j_wp, j_opB, j_opA, j_nth, j_i1, j_i2, j_l1, j_l2, j_li, j_f1, j_f2, j_d1, j_d2, j_r1, j_ai, j_aii, j_ail, j_aid, j_air, j_st1, j_st2, j_stu, j_kl, j_cond, j_args, j_out, j_few, j_cw, j_nat, j_pad, j_exp, Nat.reduceAdd]
  refine ⟨by omega, by omega, ?_⟩
  refine new_tab hl (r := 128) (w := 7) tz (by omega) (by omega) (by omega) (by omega) (by omega) (by omega) (fun h1 b1 z1 f1 y1 y2 y3 => ?_)
  have sh1 : j_sh h1 t = some (.inr 6) := by rw [(f1.2 t (by omega)).1]; exact t1
  simp only [sh1, j_ref, j_ari, j_arb, j_arr, j_len, j_nar, j_oi, j_ol, j_of, j_od, j_or, j_ov, true_and, and_true]
  rw [← tz]
  refine H _ sh1 (by rw [jh_R, if_pos ⟨rfl, rfl⟩]) (TB_sR b1 (by omega)) (fun k => ((f1.2 t (by omega)).2.2.2 id).1 k) (FQ_sR ⟨by omega, fun b hb => f1.2 b (by omega)⟩ (Nat.le_refl _)) ?_ ?_ ?_
  · show j_z h1 = _
    omega
  · show j_c h1 = _
    omega
  · show j_k h1 = _
    omega
set_option maxRecDepth 8000 in
theorem sp_X1_init (hl : l.stackTraces = false) {a : Nat} (t1 : j_sh h a = some (.inr 3)) (tz : a + 1 = j_z h) (c1 : j_c h + 10 ≤ E.2.1) (c2 : j_k h + 3927 ≤ E.2.2) (H : ∀ h', lk h' a → j_I h' (a + 8) 1 = 0 → j_I h' (a + 8) 2 = 0 → FQ nF a h h' → j_z h' = a + 11 → j_c h' = j_c h + 10 → j_k h' = j_k h + 3927 → Q (.inl none) h') : j_Met l D bs E (d + 3) n_X1_init [.ref a] h Q := by
  have hB : j_bd E h := ⟨by omega, by omega⟩
  refine j_meth hl rfl g_X1_init (Nat.le_of_ble_eq_true rfl) (fun _ => ⟨_, _, rfl, t1⟩) hB.1 hB.2 (fun G hG => ?_)
  refine b_X1_init_0 hG ?_
  dsimp only [q_X1_init_0, j_wp, j_opB, j_opA, j_nth, j_i1, j_i2, j_l1, j_l2, j_li, j_f1, j_f2, j_d1, j_d2, j_r1, j_ai, j_aii, j_ail, j_aid, j_air, j_st1, j_st2, j_stu, j_kl, j_cond, j_args, j_out, j_few, j_cw, j_nat, j_pad, j_exp, Nat.reduceAdd]
  refine ⟨by omega, by omega, ?_⟩
  refine new_tab hl (r := 6) (w := 19) tz (by omega) (by omega) (by omega) (by omega) (by omega) (by omega) (fun h1 b1 z1 f1 y1 y2 y3 => ?_)
  have s1 : j_sh h1 a = some (.inr 3) := by rw [(f1.2 a (by omega)).1]; exact t1
  rw [← tz]
  simp only [s1, j_ref, j_ari, j_arb, j_arr, j_len, j_nar, j_oi, j_ol, j_of, j_od, j_or, j_ov, true_and, and_true]
  -- virtualTimes
  have g2 : j_sh (j_setR h1 a 0 (some (a + 1))) a = some (.inr 3) := s1
  have r2 : j_R (j_setR h1 a 0 (some (a + 1))) a 0 = some (a + 1) := by rw [jh_R, if_pos ⟨rfl, rfl⟩]
  have b2 : TB (j_setR h1 a 0 (some (a + 1))) (a + 1) (a + 1 + 1) 19 (6 * 19) := TB_sR b1 (by omega)
  have f2 : FQ nF a h (j_setR h1 a 0 (some (a + 1))) := FQ_sR ⟨by omega, fun b hb => f1.2 b (by omega)⟩ (Nat.le_refl _)
  have y2z : j_z (j_setR h1 a 0 (some (a + 1))) = a + 3 := y1
  have y2c : j_c (j_setR h1 a 0 (some (a + 1))) = j_c h + 2 := y2
  have y2k : j_k (j_setR h1 a 0 (some (a + 1))) = j_k h + (2 + 6 * 19) := y3
  generalize j_setR h1 a 0 (some (a + 1)) = h2 at *
  have e6 : Int32.toNatClampNeg 6 = 6 := by decide
  rw [e6]
  refine ⟨by decide, by omega, by omega, by omega, ?_⟩
  have g3 : j_sh (j_new h2 (.inl (1, 6)) 6) a = some (.inr 3) := by rw [nw_sh, if_neg (by omega)]; exact g2
  refine ⟨g3, ?_⟩
  rw [y2z]
  have v3 : j_sh (j_setR (j_new h2 (.inl (1, 6)) 6) a 1 (some (a + 3))) (a + 3) = some (.inl (1, 6)) := by
    show j_sh (j_new h2 (.inl (1, 6)) 6) (a + 3) = _
    rw [nw_sh, if_pos y2z.symm]
  have g3' : j_sh (j_setR (j_new h2 (.inl (1, 6)) 6) a 1 (some (a + 3))) a = some (.inr 3) := g3
  have r3a : j_R (j_setR (j_new h2 (.inl (1, 6)) 6) a 1 (some (a + 3))) a 0 = some (a + 1) := by
    rw [jh_R, if_neg (by omega), nw_R, if_neg (by omega)]; exact r2
  have r3b : j_R (j_setR (j_new h2 (.inl (1, 6)) 6) a 1 (some (a + 3))) a 1 = some (a + 3) := by rw [jh_R, if_pos ⟨rfl, rfl⟩]
  have b3 : TB (j_setR (j_new h2 (.inl (1, 6)) 6) a 1 (some (a + 3))) (a + 1) (a + 1 + 1) 19 (6 * 19) := TB_sR (TB_FQ b2 (FQ_new (A := nF) (z := a + 3) (FQ_rf (by omega))) id (by omega) (by omega)) (by omega)
  have f3 : FQ nF a h (j_setR (j_new h2 (.inl (1, 6)) 6) a 1 (some (a + 3))) := FQ_sR (FQ_new f2) (Nat.le_refl _)
  have y3z : j_z (j_setR (j_new h2 (.inl (1, 6)) 6) a 1 (some (a + 3))) = a + 4 := by show j_z h2 + 1 = _; omega
  have y3c : j_c (j_setR (j_new h2 (.inl (1, 6)) 6) a 1 (some (a + 3))) = j_c h + 3 := by show j_c h2 + 1 = _; omega
  have y3k : j_k (j_setR (j_new h2 (.inl (1, 6)) 6) a 1 (some (a + 3))) = j_k h + 122 := by show j_k h2 + 6 = _; omega
  generalize j_setR (j_new h2 (.inl (1, 6)) 6) a 1 (some (a + 3)) = h3 at *
  clear g2 r2 b2 f2 y2z y2c y2k g3
  -- packets
  refine ⟨by omega, by omega, ?_⟩
  refine new_tab hl (t := a + 4) (r := 100) (w := 11) y3z.symm (by omega) (by omega) (by omega) (by omega) (by omega) (by omega) (fun h4 b4 z4 f4 y4 y5 y6 => ?_)
  have q4 := f4.2 a (by omega)
  have s4 : j_sh h4 a = some (.inr 3) := by rw [q4.1]; exact g3'
  rw [y3z]
  simp only [s4, j_ref, j_ari, j_arb, j_arr, j_len, j_nar, j_oi, j_ol, j_of, j_od, j_or, j_ov, true_and, and_true]
  have g5 : j_sh (j_setR h4 a 2 (some (a + 4))) a = some (.inr 3) := s4
  have r5a : j_R (j_setR h4 a 2 (some (a + 4))) a 0 = some (a + 1) := by rw [jh_R, if_neg (by omega), q4.2.1]; exact r3a
  have r5b : j_R (j_setR h4 a 2 (some (a + 4))) a 1 = some (a + 3) := by rw [jh_R, if_neg (by omega), q4.2.1]; exact r3b
  have r5c : j_R (j_setR h4 a 2 (some (a + 4))) a 2 = some (a + 4) := by rw [jh_R, if_pos ⟨rfl, rfl⟩]
  have v5 : j_sh (j_setR h4 a 2 (some (a + 4))) (a + 3) = some (.inl (1, 6)) := by
    show j_sh h4 (a + 3) = _
    rw [(f4.2 (a + 3) (by omega)).1]; exact v3
  have b5 : TB (j_setR h4 a 2 (some (a + 4))) (a + 1) (a + 1 + 1) 19 (6 * 19) := TB_sR (TB_FQ b3 f4 id (by omega) (by omega)) (by omega)
  have b5p : TB (j_setR h4 a 2 (some (a + 4))) (a + 4) (a + 4 + 1) 11 (100 * 11) := TB_sR b4 (by omega)
  have f5 : FQ nF a h (j_setR h4 a 2 (some (a + 4))) := FQ_sR (FQ_tr f3 ⟨by omega, fun b hb => f4.2 b (by omega)⟩ (Nat.le_refl a)) (Nat.le_refl _)
  have y5z : j_z (j_setR h4 a 2 (some (a + 4))) = a + 6 := y4
  have y5c : j_c (j_setR h4 a 2 (some (a + 4))) = j_c h + 5 := by show j_c h4 = _; omega
  have y5k : j_k (j_setR h4 a 2 (some (a + 4))) = j_k h + 1224 := by show j_k h4 = _; omega
  generalize j_setR h4 a 2 (some (a + 4)) = h5 at *
  clear r3a r3b v3 b3 f3 y3z y3c y3k q4 s4 b4 z4 f4 y4 y5 y6 g3'
  -- transmissions
  refine ⟨by omega, by omega, ?_⟩
  refine new_tab hl (t := a + 6) (r := 300) (w := 6) y5z.symm (by omega) (by omega) (by omega) (by omega) (by omega) (by omega) (fun h6 b6 z6 f6 y6 y7 y8 => ?_)
  have q6 := f6.2 a (by omega)
  have s6 : j_sh h6 a = some (.inr 3) := by rw [q6.1]; exact g5
  rw [y5z]
  simp only [s6, j_ref, j_ari, j_arb, j_arr, j_len, j_nar, j_oi, j_ol, j_of, j_od, j_or, j_ov, true_and, and_true]
  have g7 : j_sh (j_setR h6 a 3 (some (a + 6))) a = some (.inr 3) := s6
  have r7a : j_R (j_setR h6 a 3 (some (a + 6))) a 0 = some (a + 1) := by rw [jh_R, if_neg (by omega), q6.2.1]; exact r5a
  have r7b : j_R (j_setR h6 a 3 (some (a + 6))) a 1 = some (a + 3) := by rw [jh_R, if_neg (by omega), q6.2.1]; exact r5b
  have r7c : j_R (j_setR h6 a 3 (some (a + 6))) a 2 = some (a + 4) := by rw [jh_R, if_neg (by omega), q6.2.1]; exact r5c
  have r7d : j_R (j_setR h6 a 3 (some (a + 6))) a 3 = some (a + 6) := by rw [jh_R, if_pos ⟨rfl, rfl⟩]
  have v7 : j_sh (j_setR h6 a 3 (some (a + 6))) (a + 3) = some (.inl (1, 6)) := by
    show j_sh h6 (a + 3) = _
    rw [(f6.2 (a + 3) (by omega)).1]; exact v5
  have b7 : TB (j_setR h6 a 3 (some (a + 6))) (a + 1) (a + 1 + 1) 19 (6 * 19) := TB_sR (TB_FQ b5 f6 id (by omega) (by omega)) (by omega)
  have b7p : TB (j_setR h6 a 3 (some (a + 6))) (a + 4) (a + 4 + 1) 11 (100 * 11) := TB_sR (TB_FQ b5p f6 id (by omega) (by omega)) (by omega)
  have b7s : TB (j_setR h6 a 3 (some (a + 6))) (a + 6) (a + 6 + 1) 6 (300 * 6) := TB_sR b6 (by omega)
  have f7 : FQ nF a h (j_setR h6 a 3 (some (a + 6))) := FQ_sR (FQ_tr f5 ⟨by omega, fun b hb => f6.2 b (by omega)⟩ (Nat.le_refl a)) (Nat.le_refl _)
  have y7z : j_z (j_setR h6 a 3 (some (a + 6))) = a + 8 := y6
  have y7c : j_c (j_setR h6 a 3 (some (a + 6))) = j_c h + 7 := by show j_c h6 = _; omega
  have y7k : j_k (j_setR h6 a 3 (some (a + 6))) = j_k h + 3026 := by show j_k h6 = _; omega
  generalize j_setR h6 a 3 (some (a + 6)) = h7 at *
  clear r5a r5b r5c v5 b5 b5p f5 y5z y5c y5k q6 s6 b6 z6 f6 y6 y7 y8 g5
  -- records
  refine ⟨by omega, by omega, ?_⟩
  have g8 : j_sh (j_new h7 (.inr 6) 3) (a + 8) = some (.inr 6) := by rw [nw_sh, if_pos y7z.symm]
  have y8z : a + 8 + 1 = j_z (j_new h7 (.inr 6) 3) := by show _ = j_z h7 + 1; omega
  have y8c : j_c (j_new h7 (.inr 6) 3) = j_c h + 8 := by show j_c h7 + 1 = _; omega
  have y8k : j_k (j_new h7 (.inr 6) 3) = j_k h + 3029 := by show j_k h7 + 3 = _; omega
  rw [y7z]
  refine sp_X4_init hl g8 y8z (by omega) (by omega) (fun h9 d1 d2 d3 d4 d5 d6 d7 d8 => ?_)
  have fn : FQ nF (a + 8) h7 h9 := FQ_tr (FQ_new (FQ_rf (by omega))) d5 (Nat.le_refl _)
  have q9 := fn.2 a (by omega)
  have s9 : j_sh h9 a = some (.inr 3) := by rw [q9.1]; exact g7
  simp only [s9, j_ref, j_ari, j_arb, j_arr, j_len, j_nar, j_oi, j_ol, j_of, j_od, j_or, j_ov, true_and, and_true]
  have zr : ∀ k, j_I h9 (a + 8) k = 0 := fun k => by rw [d4, nw_I, if_pos y7z.symm]
  refine H (j_setR h9 a 4 (some (a + 8))) ⟨s9, ?_, ?_, ?_, ?_, ?_, ?_, ?_, ?_, ?_, d1, ?_, ?_⟩ (zr 1) (zr 2) (FQ_sR (FQ_tr f7 ⟨by omega, fun b hb => fn.2 b (by omega)⟩ (Nat.le_refl a)) (Nat.le_refl _)) ?_ ?_ ?_
  · rw [jh_R, if_neg (by omega), q9.2.1]; exact r7a
  · rw [jh_R, if_neg (by omega), q9.2.1]; exact r7b
  · rw [jh_R, if_neg (by omega), q9.2.1]; exact r7c
  · rw [jh_R, if_neg (by omega), q9.2.1]; exact r7d
  · rw [jh_R, if_pos ⟨rfl, rfl⟩]
  · exact TB_sR (TB_FQ b7 fn id (by omega) (by omega)) (by omega)
  · show j_sh h9 (a + 3) = _
    rw [(fn.2 (a + 3) (by omega)).1]; exact v7
  · exact TB_sR (TB_FQ b7p fn id (by omega) (by omega)) (by omega)
  · exact TB_sR (TB_FQ b7s fn id (by omega) (by omega)) (by omega)
  · rw [jh_R, if_neg (by omega)]; exact d2
  · exact TB_sR d3 (by omega)
  · show j_z h9 = _
    omega
  · show j_c h9 = _
    omega
  · show j_k h9 = _
    omega
end CIn
