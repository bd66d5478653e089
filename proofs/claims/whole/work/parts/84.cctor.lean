/-! ===== constructors: history, text, setup, query reader ===== -/
section CaI
variable {l : Launch} {D : va_G} {bs : Nat} {E : j_E} {h h' h'' : j_H} {d : Nat} {Q : j_O → j_H → Prop}
set_option maxRecDepth 8000 in
theorem sp_X0_init (hl : l.stackTraces = false) {y : Nat} (t1 : j_sh h y = some (.inr 2)) (tz : y + 1 = j_z h) (i0 : ∀ k, j_I h y k = 0) (c1 : j_c h + 1 ≤ E.2.1) (c2 : j_k h + 10 ≤ E.2.2)
    (H : ∀ h', (j_sh h' y = some (.inr 2) ∧ j_R h' y 0 = some (y + 1) ∧ j_sh h' (y + 1) = some (.inl (4, 10))) → (∀ k, j_I h' y k = 0) → (∀ k, j_R h' (y + 1) k = none) → FQ nF y h h' → j_z h' = y + 2 → j_c h' = j_c h + 1 → j_k h' = j_k h + 10 → Q (.inl none) h') : j_Met l D bs E (d + 1) n_X0_init [.ref y] h Q := by
  have hB : j_bd E h := ⟨by omega, by omega⟩
  refine j_meth hl rfl g_X0_init (Nat.le_of_ble_eq_true rfl) (fun _ => ⟨_, _, rfl, t1⟩) hB.1 hB.2 (fun G hG => ?_)
  refine b_X0_init_0 hG ?_
  dsimp only [q_X0_init_0, j_wp, j_opB, j_opA, j_nth, j_i1, j_i2, j_l1, j_l2, j_li, j_f1, j_f2, j_d1, j_d2, j_r1, j_ai, j_aii, j_ail, j_aid, j_air, j_st1, j_st2, j_stu, j_kl, j_cond, j_args, j_out, j_few, j_cw, j_nat, j_pad, j_exp, Nat.reduceAdd]
  have e10 : Int32.toNatClampNeg 10 = 10 := by decide
  rw [e10]
  refine ⟨by decide, by omega, by omega, by omega, ?_⟩
  have g3 : j_sh (j_new h (.inl (4, 10)) 10) y = some (.inr 2) := by rw [nw_sh, if_neg (by omega)]; exact t1
  refine ⟨g3, ?_⟩
  rw [← tz]
  refine H _ ⟨g3, by rw [jh_R, if_pos ⟨rfl, rfl⟩], ?_⟩ (fun k => ?_) (fun k => ?_) (FQ_sR (FQ_new (FQ_rf (by omega))) (Nat.le_refl _)) ?_ rfl rfl
  · show j_sh (j_new h (.inl (4, 10)) 10) (y + 1) = _
    rw [nw_sh, if_pos tz]
  · show j_I (j_new h (.inl (4, 10)) 10) y k = _
    rw [nw_I, if_neg (by omega)]
    exact i0 k
  · rw [jh_R, if_neg (by omega), nw_R, if_pos tz]
  · show j_z h + 1 = _
    omega
set_option maxRecDepth 8000 in
theorem sp_X7_init (hl : l.stackTraces = false) {x : Nat} (t1 : j_sh h x = some (.inr 9)) (tz : x + 1 = j_z h) (i0 : ∀ k, j_I h x k = 0) (c1 : j_c h + 1 ≤ E.2.1) (c2 : j_k h + 800 ≤ E.2.2)
    (H : ∀ h', TX h' x (fun _ => 0) 0 0 (0, 0, 0, 0, -1) → FQ nF x h h' → j_z h' = x + 2 → j_c h' = j_c h + 1 → j_k h' = j_k h + 800 → Q (.inl none) h') : j_Met l D bs E (d + 1) n_X7_init [.ref x] h Q := by
  have hB : j_bd E h := ⟨by omega, by omega⟩
  refine j_meth hl rfl g_X7_init (Nat.le_of_ble_eq_true rfl) (fun _ => ⟨_, _, rfl, t1⟩) hB.1 hB.2 (fun G hG => ?_)
  refine b_X7_init_0 hG ?_
  dsimp only [q_X7_init_0, j_wp, j_opB, j_opA, j_nth, j_i1, j_i2, j_l1, j_l2, j_li, j_f1, j_f2, j_d1, j_d2, j_r1, j_ai, j_aii, j_ail, j_aid, j_air, j_st1, j_st2, j_stu, j_kl, j_cond, j_args, j_out, j_few, j_cw, j_nat, j_pad, j_exp, Nat.reduceAdd]
  have e10 : Int32.toNatClampNeg 800 = 800 := by decide
  rw [e10]
  refine ⟨by decide, by omega, by omega, by omega, ?_⟩
  have g3 : j_sh (j_new h (.inl (3, 800)) 800) x = some (.inr 9) := by rw [nw_sh, if_neg (by omega)]; exact t1
  refine ⟨g3, ?_⟩
  rw [← tz]
  have g4 : j_sh (j_setR (j_new h (.inl (3, 800)) 800) x 0 (some (x + 1))) x = some (.inr 9) := g3
  simp only [g4, j_ref, j_ari, j_arb, j_arr, j_len, j_nar, j_oi, j_ol, j_of, j_od, j_or, j_ov, true_and, and_true]
  have ii : ∀ k, ¬ k = 7 → j_I (j_setI (j_setR (j_new h (.inl (3, 800)) 800) x 0 (some (x + 1))) x 7 (-1)) x k = 0 := fun k hk => by
    rw [jh_In (by omega)]
    show j_I (j_new h (.inl (3, 800)) 800) x k = _
    rw [nw_I, if_neg (by omega)]
    exact i0 k
  refine H _ ⟨g3, ?_, ?_, fun i hi => ?_, ii 1 (by omega), by omega, ii 2 (by omega), by omega, ii 3 (by omega), ii 4 (by omega), ii 5 (by omega), ii 6 (by omega), jh_Is _ _ _ _⟩ (FQ_sI (FQ_sR (FQ_new (FQ_rf (by omega))) (Nat.le_refl _)) (Nat.le_refl _)) ?_ rfl rfl
  · show j_R (j_setR (j_new h (.inl (3, 800)) 800) x 0 (some (x + 1))) x 0 = _
    rw [jh_R, if_pos ⟨rfl, rfl⟩]
  · show j_sh (j_new h (.inl (3, 800)) 800) (x + 1) = _
    rw [nw_sh, if_pos tz]
  · rw [jh_In (by omega)]
    show j_I (j_new h (.inl (3, 800)) 800) (x + 1) i = _
    rw [nw_I, if_pos tz]
  · show j_z h + 1 = _
    omega
theorem sp_X3_init (hl : l.stackTraces = false) {y a b : Nat} (t1 : j_sh h y = some (.inr 5)) (hB : j_bd E h) (hs1 : j_sh h a = some (.inr 9)) (hs2 : j_sh h b = some (.inr 3))
    (H : Q (.inl none) (j_setR (j_setR h y 0 (some a)) y 1 (some b))) : j_Met l D bs E (d + 1) n_X3_init [.ref y, .ref a, .ref b] h Q := by
  refine j_meth hl rfl g_X3_init (Nat.le_of_ble_eq_true rfl) (fun _ => ⟨_, _, rfl, t1⟩) hB.1 hB.2 (fun G hG => ?_)
  refine b_X3_init_0 hG ?_
  dsimp only [q_X3_init_0, j_wp, j_opB, j_opA, j_nth, j_i1, j_i2, j_l1, j_l2, j_li, j_f1, j_f2, j_d1, j_d2, j_r1, j_ai, j_aii, j_ail, j_aid, j_air, j_st1, j_st2, j_stu, j_kl, j_cond, j_args, j_out, j_few, j_cw, j_nat, j_pad, j_exp, Nat.reduceAdd]
  have t2 : j_sh (j_setR h y 0 (some a)) y = some (.inr 5) := t1
  have t3 : j_sh (j_setR h y 0 (some a)) b = some (.inr 3) := hs2
  simp only [t1, t2, hs1, hs2, t3, j_ref, j_ari, j_arb, j_arr, j_len, j_nar, j_oi, j_ol, j_of, j_od, j_or, j_ov, true_and, and_true]
  exact H
set_option maxRecDepth 8000 in
theorem sp_X5_init (hl : l.stackTraces = false) {u : Nat} (t1 : j_sh h u = some (.inr 7)) (tz : u + 1 = j_z h) (i0 : ∀ k, j_I h u k = 0) (c1 : j_c h + 4 ≤ E.2.1) (c2 : j_k h + 130 ≤ E.2.2)
    (H : ∀ h' S, SK h' u (sReset S) → FQ nF u h h' → j_z h' = u + 5 → j_c h' = j_c h + 4 → j_k h' = j_k h + 130 → Q (.inl none) h') : j_Met l D bs E (d + 3) n_X5_init [.ref u] h Q := by
  have hB : j_bd E h := ⟨by omega, by omega⟩
  refine j_meth hl rfl g_X5_init (Nat.le_of_ble_eq_true rfl) (fun _ => ⟨_, _, rfl, t1⟩) hB.1 hB.2 (fun G hG => ?_)
  refine b_X5_init_0 hG ?_
  dsimp only [q_X5_init_0, j_wp, j_opB, j_opA, j_nth, j_i1, j_i2, j_l1, j_l2, j_li, j_f1, j_f2, j_d1, j_d2, j_r1, j_ai, j_aii, j_ail, j_aid, j_air, j_st1, j_st2, j_stu, j_kl, j_cond, j_args, j_out, j_few, j_cw, j_nat, j_pad, j_exp, Nat.reduceAdd]
  refine ⟨by omega, by omega, ?_⟩
  refine new_tab hl (r := 6) (w := 7) tz (by omega) (by omega) (by omega) (by omega) (by omega) (by omega) (fun h1 b1 z1 f1 y1 y2 y3 => ?_)
  have q1 := f1.2 u (by omega)
  have s1 : j_sh h1 u = some (.inr 7) := by rw [q1.1]; exact t1
  rw [← tz]
  simp only [s1, j_ref, j_ari, j_arb, j_arr, j_len, j_nar, j_oi, j_ol, j_of, j_od, j_or, j_ov, true_and, and_true]
  have g2 : j_sh (j_setR h1 u 0 (some (u + 1))) u = some (.inr 7) := s1
  have r2 : j_R (j_setR h1 u 0 (some (u + 1))) u 0 = some (u + 1) := by rw [jh_R, if_pos ⟨rfl, rfl⟩]
  have b2 : TB (j_setR h1 u 0 (some (u + 1))) (u + 1) (u + 1 + 1) 7 (6 * 7) := TB_sR b1 (by omega)
  have f2 : FQ nF u h (j_setR h1 u 0 (some (u + 1))) := FQ_sR ⟨by omega, fun b hb => f1.2 b (by omega)⟩ (Nat.le_refl _)
  have i2 : ∀ k, j_I (j_setR h1 u 0 (some (u + 1))) u k = 0 := fun k => ((q1.2.2.2 id).1 k).trans (i0 k)
  have y2z : j_z (j_setR h1 u 0 (some (u + 1))) = u + 3 := y1
  have y2c : j_c (j_setR h1 u 0 (some (u + 1))) = j_c h + 2 := y2
  have y2k : j_k (j_setR h1 u 0 (some (u + 1))) = j_k h + (2 + 6 * 7) := y3
  generalize j_setR h1 u 0 (some (u + 1)) = h2 at *
  refine ⟨by omega, by omega, ?_⟩
  refine new_tab hl (t := u + 3) (r := 12) (w := 7) y2z.symm (by omega) (by omega) (by omega) (by omega) (by omega) (by omega) (fun h4 b4 z4 f4 y4 y5 y6 => ?_)
  have q4 := f4.2 u (by omega)
  have s4 : j_sh h4 u = some (.inr 7) := by rw [q4.1]; exact g2
  rw [y2z]
  simp only [s4, j_ref, j_ari, j_arb, j_arr, j_len, j_nar, j_oi, j_ol, j_of, j_od, j_or, j_ov, true_and, and_true]
  have g5 : j_sh (j_setR h4 u 1 (some (u + 3))) u = some (.inr 7) := s4
  have r5a : j_R (j_setR h4 u 1 (some (u + 3))) u 0 = some (u + 1) := by rw [jh_R, if_neg (by omega), q4.2.1]; exact r2
  have r5b : j_R (j_setR h4 u 1 (some (u + 3))) u 1 = some (u + 3) := by rw [jh_R, if_pos ⟨rfl, rfl⟩]
  have b5 : TB (j_setR h4 u 1 (some (u + 3))) (u + 1) (u + 1 + 1) 7 (6 * 7) := TB_sR (TB_FQ b2 f4 id (by omega) (by omega)) (by omega)
  have b5' : TB (j_setR h4 u 1 (some (u + 3))) (u + 3) (u + 3 + 1) 7 (12 * 7) := TB_sR b4 (by omega)
  have i5 : ∀ k, j_I (j_setR h4 u 1 (some (u + 3))) u k = 0 := fun k => ((q4.2.2.2 id).1 k).trans (i2 k)
  have f5 : FQ nF u h (j_setR h4 u 1 (some (u + 3))) := FQ_sR (FQ_tr f2 f4 (by omega)) (Nat.le_refl _)
  have y5z : j_z (j_setR h4 u 1 (some (u + 3))) = u + 5 := y4
  have y5c : j_c (j_setR h4 u 1 (some (u + 3))) = j_c h2 + 2 := y5
  have y5k : j_k (j_setR h4 u 1 (some (u + 3))) = j_k h2 + (2 + 12 * 7) := y6
  generalize j_setR h4 u 1 (some (u + 3)) = h5 at *
  have k5 : SK h5 u (0, 0, fun j => j_I h5 u j, fun r' j => j_I h5 (u + 2) (r' * 7 + j), fun r' j => j_I h5 (u + 4) (r' * 7 + j)) := ⟨g5, r5a, r5b, b5, b5', i5 2, Nat.zero_le _, i5 3, Nat.zero_le _, fun _ _ _ => rfl, fun _ _ _ _ => rfl, fun _ _ _ _ => rfl⟩
  refine sp_X5_reset hl k5 ⟨by omega, by omega⟩ (fun h6 k6 f6 => ?_)
  obtain ⟨e1, e2, e3⟩ := Fr_z f6
  simp only [j_ref, j_ari, j_arb, j_arr, j_len, j_nar, j_oi, j_ol, j_of, j_od, j_or, j_ov, true_and, and_true]
  have f56 : FQ nF u h5 h6 := ⟨by omega, fun b hb => ⟨by rw [f6.1], fun k => by rw [f6.2.1], fun k => by rw [f6.2.2.1], fun _ => ⟨fun k => f6.2.2.2.2.2.2.1 b k (by omega), fun k => f6.2.2.2.2.2.2.2 b k (by omega)⟩⟩⟩
  exact H h6 _ k6 (FQ_tr f5 f56 (Nat.le_refl _)) (by omega) (by omega) (by omega)
end CaI
