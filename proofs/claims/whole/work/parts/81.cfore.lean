/-! ===== the class: forecast, weightFor ===== -/
section CaF
variable {l : Launch} {D : va_G} {bs : Nat} {E : j_E} {h h' h'' : j_H} {d : Nat} {Q : j_O → j_H → Prop} {x zb : Nat} {V : Ps}
theorem PS_tq (p : PS h x zb V) (hB : j_bd E h) : LQ E h (x + 24) (vT V).1 h := ⟨(PS_T p).1, Fr_rf, hB⟩
theorem PS_tlq {L' : Lnk} (p : PS h x zb V) (q : LQ E h (x + 24) L' h') : PS h' x zb (psT V (L', (vT V).2)) := PS_tr p (FG_mono (FG_Fr q.2.1) (fun c _ g => ⟨g.1, by have := g.2; omega⟩)) ⟨q.1, RK_Fr (PS_T p).2 q.2.1⟩
set_option maxRecDepth 8000 in
theorem sp_X8_forecast (hl : l.stackTraces = false) (p : PS h x zb V) {nf np ns : Nat} (hN : LkN (vC V) nf np ns) (r : rm E h) {T : Nat → Lnk → Prop} (hT : ∀ k, k < 1001 → T (k + 1) (lCopy (vT V).1 (vC V).1 nf np ns)) (hok : ∀ n L, T (n + 1) L → lTickOk nf L ∧ T n (lTick nf L)) {v w : Int32}
    (H1 : ¬ inx v np → ∀ z, j_z h ≤ z → Q (.inr 0) (j_thr h z)) (H2 : inx v np → ¬ rIn w 0 1000 = true → ∀ z, j_z h ≤ z → Q (.inr 1) (j_thr h z))
    (H0 : ∀ i k, i < np → v = nI i → k < 1001 → w = nI k → ∀ h' L', PS h' x zb (psT V (L', (vT V).2)) → FG (psA h x zb) h h' → j_c h' = j_c h → j_k h' = j_k h → Q (.inl (some (.int (lTicks nf i (k + 1) 0 (lCopy (vT V).1 (vC V).1 nf np ns))))) h') : j_Met l D bs E (d + 8) n_X8_forecast [.ref x, .int v, .int w] h Q := by
  have hB := rm_bd r
  obtain ⟨n1, n2, n3, n4, n5, n6, n7⟩ := hN
  refine j_meth hl rfl g_X8_forecast (Nat.le_of_ble_eq_true rfl) (fun _ => ⟨_, _, rfl, (px_s (PS_x p))⟩) hB.1 hB.2 (fun G hG => ?_)
  refine b_X8_forecast_0 hG ?_
  dsimp only [q_X8_forecast_0, j_wp, j_opB, j_opA, j_nth, j_i1, j_i2, j_l1, j_l2, j_li, j_f1, j_f2, j_d1, j_d2, j_r1, j_ai, j_aii, j_ail, j_aid, j_air, j_st1, j_st2, j_stu, j_kl, j_cond, j_args, j_out, j_few, j_cw, j_nat, j_pad, j_exp, Nat.reduceAdd]
  refine sp_X8_requirePacket hl (PS_x p) (PS_q p hB) r n2 n6 (fun g z hz => ?_) (fun g => ?_)
  · simp only [j_ref, j_ari, j_arb, j_arr, j_len, j_nar, j_oi, j_ol, j_of, j_od, j_or, j_ov, true_and, and_true]
    exact H1 g z hz
  simp only [j_ref, j_ari, j_arb, j_arr, j_len, j_nar, j_oi, j_ol, j_of, j_od, j_or, j_ov, true_and, and_true]
  refine sp_X8_requireRange hl r (fun g2 z hz => ?_) (fun g2 => ?_)
  · simp only [j_ref, j_ari, j_arb, j_arr, j_len, j_nar, j_oi, j_ol, j_of, j_od, j_or, j_ov, true_and, and_true]
    exact H2 g g2 z hz
  simp only [px_s (PS_x p), px_3 (PS_x p), px_2 (PS_x p), j_ref, j_ari, j_arb, j_arr, j_len, j_nar, j_oi, j_ol, j_of, j_od, j_or, j_ov, true_and, and_true]
  obtain ⟨i, hi, ei⟩ := g
  obtain ⟨k, hk, ek⟩ := (rIn_inx (n := 1001) (v := w) (by omega)).mp g2
  subst ei ek
  refine sp_X1_copyTraffic hl (PS_tq p hB) (PS_C p).1 (by omega) n1 n2 n3 n5 n6 n7 (fun h2 q2 => ?_)
  have x2 : px h2 x (vU V) (vW V) := (PS_tlq p q2).1
  simp only [px_s x2, px_3 x2, j_ref, j_ari, j_arb, j_arr, j_len, j_nar, j_oi, j_ol, j_of, j_od, j_or, j_ov, true_and, and_true]
  refine sp_X1_ticksToDeliver hl q2 (show i < 100 by omega) (by omega) (hT k hk) hok (fun h3 L3 q3 => ?_)
  simp only [j_ref, j_ari, j_arb, j_arr, j_len, j_nar, j_oi, j_ol, j_of, j_od, j_or, j_ov, true_and, and_true]
  obtain ⟨z1, z2, z3⟩ := Fr_z q3.2.1
  exact H0 i k hi rfl hk rfl h3 L3 (PS_tlq p q3) (lq_FG q3 (by omega) (by omega)) z2 z3
def cWgt (A : Nat → Int32) : Nat → Nat → Int32
  | 0, _ => -1
  | k + 1, w => if A w = -1 then cWgt A k (w + 1) else nI w
set_option maxRecDepth 8000 in
theorem sp_X8_weightFor (hl : l.stackTraces = false) (p : PS h x zb V) {nf np ns : Nat} (hN : LkN (vC V) nf np ns) (r : rm E h) {T : Nat → Lnk → Prop} {A : Nat → Nat → Nat → Nat → Int32} (hpf : ∀ i, i < np → ∃ f, f < 6 ∧ lP (vC V).1 i 0 = nI f)
    (hT : ∀ i f k y Z, i < np → lP (vC V).1 i 0 = nI f → k < 301 → 1 ≤ y → y ≤ 16 → T (k + 1) (lsF (lCopy Z (vC V).1 nf np ns) f 0 (nI y))) (hA : ∀ i f k y Z, i < np → k < 301 → lP (vC V).1 i 0 = nI f → 1 ≤ y → y ≤ 16 → lTicks nf i (k + 1) 0 (lsF (lCopy Z (vC V).1 nf np ns) f 0 (nI y)) = A i f k y) (hok : ∀ n L, T (n + 1) L → lTickOk nf L ∧ T n (lTick nf L)) {v w : Int32}
    (H1 : ¬ inx v np → ∀ z, j_z h ≤ z → Q (.inr 0) (j_thr h z)) (H2 : inx v np → ¬ rIn w 0 300 = true → ∀ z, j_z h ≤ z → Q (.inr 1) (j_thr h z))
    (H0 : ∀ i k f, i < np → v = nI i → k < 301 → w = nI k → f < 6 → lP (vC V).1 i 0 = nI f → ∀ h' L', PS h' x zb (psT V (L', (vT V).2)) → FG (psA h x zb) h h' → j_c h' = j_c h → j_k h' = j_k h → Q (.inl (some (.int (cWgt (A i f k) 16 1)))) h') : j_Met l D bs E (d + 8) n_X8_weightFor [.ref x, .int v, .int w] h Q := by
  have hB := rm_bd r
  obtain ⟨n1, n2, n3, n4, n5, n6, n7⟩ := hN
  have q := PS_q p hB
  refine j_meth hl rfl g_X8_weightFor (Nat.le_of_ble_eq_true rfl) (fun _ => ⟨_, _, rfl, (px_s (PS_x p))⟩) hB.1 hB.2 (fun G hG => ?_)
  refine b_X8_weightFor_0 hG ?_
  dsimp only [q_X8_weightFor_0, j_wp, j_opB, j_opA, j_nth, j_i1, j_i2, j_l1, j_l2, j_li, j_f1, j_f2, j_d1, j_d2, j_r1, j_ai, j_aii, j_ail, j_aid, j_air, j_st1, j_st2, j_stu, j_kl, j_cond, j_args, j_out, j_few, j_cw, j_nat, j_pad, j_exp, Nat.reduceAdd]
  refine sp_X8_requirePacket hl (PS_x p) q r n2 n6 (fun g z hz => ?_) (fun g => ?_)
  · simp only [j_ref, j_ari, j_arb, j_arr, j_len, j_nar, j_oi, j_ol, j_of, j_od, j_or, j_ov, true_and, and_true]
    exact H1 g z hz
  simp only [j_ref, j_ari, j_arb, j_arr, j_len, j_nar, j_oi, j_ol, j_of, j_od, j_or, j_ov, true_and, and_true]
  refine sp_X8_requireRange hl r (fun g2 z hz => ?_) (fun g2 => ?_)
  · simp only [j_ref, j_ari, j_arb, j_arr, j_len, j_nar, j_oi, j_ol, j_of, j_od, j_or, j_ov, true_and, and_true]
    exact H2 g g2 z hz
  obtain ⟨i, hi, ei⟩ := g
  obtain ⟨k, hk, ek⟩ := (rIn_inx (n := 301) (v := w) (by omega)).mp g2
  subst ei ek
  obtain ⟨f, hf, ef⟩ := hpf i hi
  simp only [px_s (PS_x p), px_2 (PS_x p), LQ_sh q, LQ_R0 q, LQ_R1 q, LQ_R2 q, LQ_R3 q, LQ_R4 q, j_ref, j_ari, j_arb, j_arr, j_len, j_nar, j_oi, j_ol, j_of, j_od, j_or, j_ov, true_and, and_true]
  refine lp_get hl q (show i < 100 by omega) (k := 0) (by omega) ?_
  simp only [j_ref, j_ari, j_arb, j_arr, j_len, j_nar, j_oi, j_ol, j_of, j_od, j_or, j_ov, true_and, and_true, ef]
  have H0' := H0 i k f hi rfl hk rfl hf ef
  clear H0
  have loop : ∀ (c y : Nat) (Z : Lnk) (h1 : j_H), c + y = 17 → 1 ≤ y → LQ E h (x + 24) Z h1 → (∀ h' L', PS h' x zb (psT V (L', (vT V).2)) → FG (psA h x zb) h h' → j_c h' = j_c h → j_k h' = j_k h → Q (.inl (some (.int (cWgt (A i f k) c y)))) h') → G 29 [.ref x, .int (nI i), .int (nI k), .int (nI f), .int (nI y)] [] h1 := by
    intro c
    induction c with
    | zero =>
      intro y Z h1 hy _ q1 HH
      have hB1 := q1.2.2
      obtain ⟨z1, z2, z3⟩ := Fr_z q1.2.1
      refine b_X8_weightFor_29 hG ?_
      dsimp only [q_X8_weightFor_29, j_wp, j_opB, j_opA, j_nth, j_i1, j_i2, j_l1, j_l2, j_li, j_f1, j_f2, j_d1, j_d2, j_r1, j_ai, j_aii, j_ail, j_aid, j_air, j_st1, j_st2, j_stu, j_kl, j_cond, j_args, j_out, j_few, j_cw, j_nat, j_pad, j_exp, Nat.reduceAdd]
      rw [if_pos (show (16 : Int32) < nI y from nI_lt (a := 16) (by omega) (by omega))]
      refine b_X8_weightFor_83 hG ?_
      dsimp only [q_X8_weightFor_83, j_wp, j_opB, j_opA, j_nth, j_i1, j_i2, j_l1, j_l2, j_li, j_f1, j_f2, j_d1, j_d2, j_r1, j_ai, j_aii, j_ail, j_aid, j_air, j_st1, j_st2, j_stu, j_kl, j_cond, j_args, j_out, j_few, j_cw, j_nat, j_pad, j_exp, Nat.reduceAdd]
      exact ⟨trivial, HH h1 Z (PS_tlq p q1) (lq_FG q1 (by omega) (by omega)) z2 z3⟩
    | succ c ih =>
      intro y Z h1 hy hy1 q1 HH
      have hB1 := q1.2.2
      have p1 := PS_tlq p q1
      have x1 : px h1 x (vU V) (vW V) := p1.1
      have k1 : LK h1 (x + 8) (vC V).1 := p1.2.2.1.1
      refine b_X8_weightFor_29 hG ?_
      dsimp only [q_X8_weightFor_29, j_wp, j_opB, j_opA, j_nth, j_i1, j_i2, j_l1, j_l2, j_li, j_f1, j_f2, j_d1, j_d2, j_r1, j_ai, j_aii, j_ail, j_aid, j_air, j_st1, j_st2, j_stu, j_kl, j_cond, j_args, j_out, j_few, j_cw, j_nat, j_pad, j_exp, Nat.reduceAdd]
      rw [if_neg (show ¬ (16 : Int32) < nI y from nI_nlt (a := 16) (by omega) (by omega))]
      simp only [px_s x1, px_3 x1, px_2 x1, j_ref, j_ari, j_arb, j_arr, j_len, j_nar, j_oi, j_ol, j_of, j_od, j_or, j_ov, true_and, and_true]
      refine sp_X1_copyTraffic hl q1 k1 (by omega) n1 n2 n3 n5 n6 n7 (fun h2 q2 => ?_)
      have x2 : px h2 x (vU V) (vW V) := (PS_tlq p q2).1
      simp only [px_s x2, px_3 x2, LQ_sh q2, LQ_R0 q2, LQ_R1 q2, LQ_R2 q2, LQ_R3 q2, LQ_R4 q2, j_ref, j_ari, j_arb, j_arr, j_len, j_nar, j_oi, j_ol, j_of, j_od, j_or, j_ov, true_and, and_true]
      refine lf_set hl q2 hf (k := 0) (by omega) (fun h3 q3 => ?_)
      have x3 : px h3 x (vU V) (vW V) := (PS_tlq p q3).1
      simp only [px_s x3, px_3 x3, j_ref, j_ari, j_arb, j_arr, j_len, j_nar, j_oi, j_ol, j_of, j_od, j_or, j_ov, true_and, and_true]
      refine sp_X1_ticksToDeliver hl q3 (show i < 100 by omega) (by omega) (hT i f k y Z hi ef hk hy1 (by omega)) hok (fun h4 L4 q4 => ?_)
      have hB4 := q4.2.2
      rw [hA i f k y Z hi hk ef hy1 (by omega)]
      simp only [j_ref, j_ari, j_arb, j_arr, j_len, j_nar, j_oi, j_ol, j_of, j_od, j_or, j_ov, true_and, and_true]
      unfold cWgt at HH
      by_cases g : A i f k y = -1
      · rw [if_pos g]
        simp only [if_pos g] at HH
        refine b_X8_weightFor_77 hG ?_
        dsimp only [q_X8_weightFor_77, j_wp, j_opB, j_opA, j_nth, j_i1, j_i2, j_l1, j_l2, j_li, j_f1, j_f2, j_d1, j_d2, j_r1, j_ai, j_aii, j_ail, j_aid, j_air, j_st1, j_st2, j_stu, j_kl, j_cond, j_args, j_out, j_few, j_cw, j_nat, j_pad, j_exp, Nat.reduceAdd]
        rw [nI_1]
        exact ih (y + 1) L4 h4 (by omega) (by omega) q4 HH
      · rw [if_neg g]
        simp only [if_neg g] at HH
        obtain ⟨z1, z2, z3⟩ := Fr_z q4.2.1
        exact HH h4 L4 (PS_tlq p q4) (lq_FG q4 (by omega) (by omega)) z2 z3
  exact loop 16 1 (vT V).1 h (by omega) (by omega) (PS_tq p hB) H0'
end CaF
