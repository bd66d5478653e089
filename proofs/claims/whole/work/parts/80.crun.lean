/-! ===== the class: setWeight, arrive, run ===== -/
section CaR
variable {l : Launch} {D : va_G} {bs : Nat} {E : j_E} {h h' h'' : j_H} {d : Nat} {Q : j_O → j_H → Prop} {x zb : Nat} {V : Ps}
/-- room for the history's links, and for a throw -/
def rmA (E : j_E) (h : j_H) (ad : Nat → Option Nat) : Prop := j_c h + 11 * nnF ad 10 + 1 ≤ E.2.1 ∧ j_k h + 3944 * nnF ad 10 + 6 ≤ E.2.2
theorem rmA_rm {ad : Nat → Option Nat} (r : rmA E h ad) : rm E h := ⟨by have := r.1; omega, by have := r.2; omega⟩
/-- the history's links are paid for -/
def leA (h : j_H) (ad : Nat → Option Nat) (h' : j_H) (ad' : Nat → Option Nat) : Prop := j_c h' + 11 * nnF ad' 10 ≤ j_c h + 11 * nnF ad 10 ∧ j_k h' + 3944 * nnF ad' 10 ≤ j_k h + 3944 * nnF ad 10
theorem leA_bd {ad ad' : Nat → Option Nat} (r : rmA E h ad) (z : leA h ad h' ad') : j_bd E h' := ⟨by have := r.1; have := z.1; omega, by have := r.2; have := z.2; omega⟩
theorem leA_eq {ad ad' : Nat → Option Nat} (z : leA h ad h' ad') (e1 : j_c h'' = j_c h') (e2 : j_k h'' = j_k h') : leA h ad h'' ad' := ⟨by have := z.1; omega, by have := z.2; omega⟩
def kAd (V : Ps) (b : Nat) : Nat → Option Nat := fun j => if j = nxt (vLt V) then some b else vAd V j
def psK (V : Ps) (b : Nat) (Z : Lk4) (nf np ns : Nat) : Ps := psH V (min (vCt V + 1) 10) (nxt (vLt V)) (kAd V b) (fun j => if j = nxt (vLt V) then lkCp Z (vC V) nf np ns else vA V j)
theorem ps_keep (hl : l.stackTraces = false) (p : PS h x zb V) {nf np ns : Nat} (hN : LkN (vC V) nf np ns) (r : rmA E h (vAd V)) (H : ∀ h' b Z, PS h' x zb (psK V b Z nf np ns) → FG (psA h x zb) h h' → leA h (vAd V) h' (kAd V b) → Q (.inl none) h') : j_Met l D bs E (d + 4) n_X0_keep [.ref (x + 46), .ref (x + 8)] h Q := by
  obtain ⟨r1, r2⟩ := r
  refine sp_X0_keep hl (PS_H p) (PS_C p) hN (by omega) (by omega) (by omega) (fun h2 b Z i2 f2 c2 k2 => ?_)
  exact H h2 b Z (PS_hi p f2 i2) (FG_mono f2 (fun c _ g => by
    rcases g with g | g | g
    · exact Or.inl (by omega)
    · exact Or.inl (by omega)
    · exact Or.inr g)) ⟨c2, k2⟩
theorem lq_FG {g0 : j_H} {a : Nat} {L' : Lnk} (q : LQ E h a L' h') (h1 : x ≤ a) (h2 : a + 8 ≤ x + 48) : FG (psA g0 x zb) h h' := FG_mono (FG_Fr q.2.1) (fun c _ g => Or.inl (by omega))
theorem sp_X8_setWeight (hl : l.stackTraces = false) (p : PS h x zb V) {nf np ns : Nat} (hN : LkN (vC V) nf np ns) (r : rmA E h (vAd V)) {v y : Int32}
    (H1 : ¬ inx v nf → ∀ z, j_z h ≤ z → Q (.inr 0) (j_thr h z)) (H2 : inx v nf → ¬ rIn y 1 16 = true → ∀ z, j_z h ≤ z → Q (.inr 1) (j_thr h z))
    (H0 : ∀ i, i < nf → v = nI i → rIn y 1 16 = true → ∀ h' b Z, PS h' x zb (psC (psK V b Z nf np ns) (lsF (vC V).1 i 0 y, (vC V).2)) → FG (psA h x zb) h h' → leA h (vAd V) h' (kAd V b) → Q (.inl (some (.int (lF (vC V).1 i 0)))) h') : j_Met l D bs E (d + 5) n_X8_setWeight [.ref x, .int v, .int y] h Q := by
  have hr := rmA_rm r
  have hB := rm_bd hr
  have hnf := hN.1
  refine j_meth hl rfl g_X8_setWeight (Nat.le_of_ble_eq_true rfl) (fun _ => ⟨_, _, rfl, (px_s (PS_x p))⟩) hB.1 hB.2 (fun G hG => ?_)
  refine b_X8_setWeight_0 hG ?_
  dsimp only [q_X8_setWeight_0, j_wp, j_opB, j_opA, j_nth, j_i1, j_i2, j_l1, j_l2, j_li, j_f1, j_f2, j_d1, j_d2, j_r1, j_ai, j_aii, j_ail, j_aid, j_air, j_st1, j_st2, j_stu, j_kl, j_cond, j_args, j_out, j_few, j_cw, j_nat, j_pad, j_exp, Nat.reduceAdd]
  refine sp_X8_requireFlow hl (PS_x p) (PS_q p hB) hr hN.1 hN.2.2.2.2.1 (fun g z hz => ?_) (fun g => ?_)
  · simp only [j_ref, j_ari, j_arb, j_arr, j_len, j_nar, j_oi, j_ol, j_of, j_od, j_or, j_ov, true_and, and_true]
    exact H1 g z hz
  simp only [j_ref, j_ari, j_arb, j_arr, j_len, j_nar, j_oi, j_ol, j_of, j_od, j_or, j_ov, true_and, and_true]
  refine sp_X8_requireRange hl hr (fun g2 z hz => ?_) (fun g2 => ?_)
  · simp only [j_ref, j_ari, j_arb, j_arr, j_len, j_nar, j_oi, j_ol, j_of, j_od, j_or, j_ov, true_and, and_true]
    exact H2 g g2 z hz
  simp only [px_s (PS_x p), px_5 (PS_x p), px_2 (PS_x p), j_ref, j_ari, j_arb, j_arr, j_len, j_nar, j_oi, j_ol, j_of, j_od, j_or, j_ov, true_and, and_true]
  obtain ⟨i, hi, ei⟩ := g
  subst ei
  refine ps_keep hl p hN r (fun h2 b Z p2 f2 c2 => ?_)
  have hB2 := leA_bd r c2
  have x2 : px h2 x (vU V) (vW V) := p2.1
  have q2 : LQ E h2 (x + 8) (vC V).1 h2 := ⟨p2.2.2.1.1, Fr_rf, hB2⟩
  simp only [px_s x2, px_2 x2, LQ_sh q2, LQ_R0 q2, LQ_R1 q2, LQ_R2 q2, LQ_R3 q2, LQ_R4 q2, j_ref, j_ari, j_arb, j_arr, j_len, j_nar, j_oi, j_ol, j_of, j_od, j_or, j_ov, true_and, and_true]
  refine lf_get hl q2 (by omega) (k := 0) (by omega) ?_
  simp only [px_s x2, px_2 x2, LQ_sh q2, LQ_R0 q2, LQ_R1 q2, LQ_R2 q2, LQ_R3 q2, LQ_R4 q2, j_ref, j_ari, j_arb, j_arr, j_len, j_nar, j_oi, j_ol, j_of, j_od, j_or, j_ov, true_and, and_true]
  refine lf_set hl q2 (show i < 6 by omega) (k := 0) (by omega) (fun h3 q3 => ?_)
  simp only [j_ref, j_ari, j_arb, j_arr, j_len, j_nar, j_oi, j_ol, j_of, j_od, j_or, j_ov, true_and, and_true]
  obtain ⟨z1, z2, z3⟩ := Fr_z q3.2.1
  exact H0 i hi rfl g2 h3 b Z (PS_lq p2 q3) (FG_tr f2 (lq_FG q3 (by omega) (by omega))) (leA_eq c2 z2 z3)
def lArr (L : Lnk) (nf f np : Nat) (sz a b c : Int32) : Lnk := lsP (lsP (lsP (lAdd L nf f np sz) np 6 a) np 7 b) np 8 c
set_option maxRecDepth 8000 in
theorem sp_X8_arrive (hl : l.stackTraces = false) (p : PS h x zb V) {nf np ns : Nat} (hN : LkN (vC V) nf np ns) (r : rmA E h (vAd V)) {a b c sz : Int32} (hS : ¬ sFor (vS V) a b c (sM (vS V)) 0 = -1 → ∃ f, f < nf ∧ sFor (vS V) a b c (sM (vS V)) 0 = nI f) (hz : ∀ f, f < nf → ix 100 (lF (vC V).1 f 18))
    (H1 : ¬ ((inx a 256 ∧ inx b 256 ∧ inx c 256) ∧ rIn sz 1 1500 = true) → ∀ z, j_z h ≤ z → Q (.inr 1) (j_thr h z))
    (H2 : (inx a 256 ∧ inx b 256 ∧ inx c 256) ∧ rIn sz 1 1500 = true → sFor (vS V) a b c (sM (vS V)) 0 = -1 → Q (.inl (some (.int (-2)))) h)
    (H3 : (inx a 256 ∧ inx b 256 ∧ inx c 256) ∧ rIn sz 1 1500 = true → ¬ sFor (vS V) a b c (sM (vS V)) 0 = -1 → ¬ np < 100 → Q (.inl (some (.int (-3)))) h)
    (H4 : (inx a 256 ∧ inx b 256 ∧ inx c 256) ∧ rIn sz 1 1500 = true → ∀ f, f < nf → sFor (vS V) a b c (sM (vS V)) 0 = nI f → np < 100 → lF (vC V).1 f 1 < lF (vC V).1 f 8 + sz → Q (.inl (some (.int (-4)))) h)
    (H0 : (inx a 256 ∧ inx b 256 ∧ inx c 256) ∧ rIn sz 1 1500 = true → ∀ f, f < nf → sFor (vS V) a b c (sM (vS V)) 0 = nI f → np < 100 → ¬ lF (vC V).1 f 1 < lF (vC V).1 f 8 + sz → ∀ h' e Z, PS h' x zb (psC (psK V e Z nf np ns) (lArr (vC V).1 nf f np sz a b c, (vC V).2)) → FG (psA h x zb) h h' → leA h (vAd V) h' (kAd V e) → Q (.inl (some (.int (nI np)))) h') : j_Met l D bs E (d + 6) n_X8_arrive [.ref x, .int a, .int b, .int c, .int sz] h Q := by
  have hr := rmA_rm r
  have hB := rm_bd hr
  have hnf := hN.1
  have hx5 := hN.2.2.2.2.1
  have hx9 := hN.2.2.2.2.2.1
  have hnp := hN.2.1
  have q := PS_q p hB
  refine j_meth hl rfl g_X8_arrive (Nat.le_of_ble_eq_true rfl) (fun _ => ⟨_, _, rfl, (px_s (PS_x p))⟩) hB.1 hB.2 (fun G hG => ?_)
  refine b_X8_arrive_0 hG ?_
  dsimp only [q_X8_arrive_0, j_wp, j_opB, j_opA, j_nth, j_i1, j_i2, j_l1, j_l2, j_li, j_f1, j_f2, j_d1, j_d2, j_r1, j_ai, j_aii, j_ail, j_aid, j_air, j_st1, j_st2, j_stu, j_kl, j_cond, j_args, j_out, j_few, j_cw, j_nat, j_pad, j_exp, Nat.reduceAdd]
  refine sp_X8_requireAddress hl hr (fun g z hz => ?_) (fun g => ?_)
  · simp only [j_ref, j_ari, j_arb, j_arr, j_len, j_nar, j_oi, j_ol, j_of, j_od, j_or, j_ov, true_and, and_true]
    exact H1 (fun y => g y.1) z hz
  simp only [j_ref, j_ari, j_arb, j_arr, j_len, j_nar, j_oi, j_ol, j_of, j_od, j_or, j_ov, true_and, and_true]
  refine sp_X8_requireRange hl hr (fun g2 z hz => ?_) (fun g2 => ?_)
  · simp only [j_ref, j_ari, j_arb, j_arr, j_len, j_nar, j_oi, j_ol, j_of, j_od, j_or, j_ov, true_and, and_true]
    exact H1 (fun y => g2 y.2) z hz
  simp only [px_s (PS_x p), px_7 (PS_x p), j_ref, j_ari, j_arb, j_arr, j_len, j_nar, j_oi, j_ol, j_of, j_od, j_or, j_ov, true_and, and_true]
  refine sp_X5_flowFor hl (PS_S p) hB ?_
  simp only [j_ref, j_ari, j_arb, j_arr, j_len, j_nar, j_oi, j_ol, j_of, j_od, j_or, j_ov, true_and, and_true]
  by_cases g3 : sFor (vS V) a b c (sM (vS V)) 0 = -1
  · rw [if_pos g3]
    exact H2 ⟨g, g2⟩ g3
  rw [if_neg g3]
  obtain ⟨f, hf, ef⟩ := hS g3
  refine b_X8_arrive_36 hG ?_
  dsimp only [q_X8_arrive_36, j_wp, j_opB, j_opA, j_nth, j_i1, j_i2, j_l1, j_l2, j_li, j_f1, j_f2, j_d1, j_d2, j_r1, j_ai, j_aii, j_ail, j_aid, j_air, j_st1, j_st2, j_stu, j_kl, j_cond, j_args, j_out, j_few, j_cw, j_nat, j_pad, j_exp, Nat.reduceAdd]
  simp only [px_s (PS_x p), px_2 (PS_x p), LQ_x9 q, hx9, LQ_sh q, LQ_R0 q, LQ_R1 q, LQ_R2 q, LQ_R3 q, LQ_R4 q, j_ref, j_ari, j_arb, j_arr, j_len, j_nar, j_oi, j_ol, j_of, j_od, j_or, j_ov, true_and, and_true]
  by_cases g4 : ¬ np < 100
  · rw [if_neg (show ¬ nI np < 100 from nI_nlt (b := 100) (by omega) (by omega))]
    exact H3 ⟨g, g2⟩ g3 g4
  have g4 : np < 100 := Decidable.not_not.mp g4
  rw [if_pos (show nI np < 100 from nI_lt (b := 100) g4 (by omega))]
  refine b_X8_arrive_51 hG ?_
  dsimp only [q_X8_arrive_51, j_wp, j_opB, j_opA, j_nth, j_i1, j_i2, j_l1, j_l2, j_li, j_f1, j_f2, j_d1, j_d2, j_r1, j_ai, j_aii, j_ail, j_aid, j_air, j_st1, j_st2, j_stu, j_kl, j_cond, j_args, j_out, j_few, j_cw, j_nat, j_pad, j_exp, Nat.reduceAdd]
  rw [ef]
  simp only [px_s (PS_x p), px_2 (PS_x p), LQ_sh q, LQ_R0 q, LQ_R1 q, LQ_R2 q, LQ_R3 q, LQ_R4 q, j_ref, j_ari, j_arb, j_arr, j_len, j_nar, j_oi, j_ol, j_of, j_od, j_or, j_ov, true_and, and_true]
  refine lf_get hl q (show f < 6 by omega) (k := 8) (by omega) ?_
  simp only [px_s (PS_x p), px_2 (PS_x p), LQ_sh q, LQ_R0 q, LQ_R1 q, LQ_R2 q, LQ_R3 q, LQ_R4 q, j_ref, j_ari, j_arb, j_arr, j_len, j_nar, j_oi, j_ol, j_of, j_od, j_or, j_ov, true_and, and_true]
  refine lf_get hl q (show f < 6 by omega) (k := 1) (by omega) ?_
  simp only [j_ref, j_ari, j_arb, j_arr, j_len, j_nar, j_oi, j_ol, j_of, j_od, j_or, j_ov, true_and, and_true]
  by_cases g5 : lF (vC V).1 f 1 < lF (vC V).1 f 8 + sz
  · rw [if_pos g5]
    exact H4 ⟨g, g2⟩ f hf ef g4 g5
  rw [if_neg g5]
  refine b_X8_arrive_87 hG ?_
  dsimp only [q_X8_arrive_87, j_wp, j_opB, j_opA, j_nth, j_i1, j_i2, j_l1, j_l2, j_li, j_f1, j_f2, j_d1, j_d2, j_r1, j_ai, j_aii, j_ail, j_aid, j_air, j_st1, j_st2, j_stu, j_kl, j_cond, j_args, j_out, j_few, j_cw, j_nat, j_pad, j_exp, Nat.reduceAdd]
  simp only [px_s (PS_x p), px_5 (PS_x p), px_2 (PS_x p), j_ref, j_ari, j_arb, j_arr, j_len, j_nar, j_oi, j_ol, j_of, j_od, j_or, j_ov, true_and, and_true]
  refine ps_keep hl p hN r (fun h2 e Z p2 f2 c2 => ?_)
  have hB2 := leA_bd r c2
  have x2 : px h2 x (vU V) (vW V) := p2.1
  have q2 : LQ E h2 (x + 8) (vC V).1 h2 := ⟨p2.2.2.1.1, Fr_rf, hB2⟩
  simp only [px_s x2, px_2 x2, LQ_sh q2, LQ_R0 q2, LQ_R1 q2, LQ_R2 q2, LQ_R3 q2, LQ_R4 q2, j_ref, j_ari, j_arb, j_arr, j_len, j_nar, j_oi, j_ol, j_of, j_od, j_or, j_ov, true_and, and_true]
  refine sp_X1_addPacket hl q2 hnf hx5 (show f < 6 by omega) g4 hx9 (hz f hf) (fun h3 q3 => ?_)
  have xx : ∀ {L' : Lnk} {h' : j_H}, LQ E h2 (x + 8) L' h' → px h' x (vU V) (vW V) := fun q => (PS_lq p2 q).1
  simp only [px_s (xx q3), px_2 (xx q3), LQ_sh q3, LQ_R0 q3, LQ_R1 q3, LQ_R2 q3, LQ_R3 q3, LQ_R4 q3, j_ref, j_ari, j_arb, j_arr, j_len, j_nar, j_oi, j_ol, j_of, j_od, j_or, j_ov, true_and, and_true]
  refine lp_set hl q3 g4 (k := 6) (by omega) (fun h4 q4 => ?_)
  simp only [px_s (xx q4), px_2 (xx q4), LQ_sh q4, LQ_R0 q4, LQ_R1 q4, LQ_R2 q4, LQ_R3 q4, LQ_R4 q4, j_ref, j_ari, j_arb, j_arr, j_len, j_nar, j_oi, j_ol, j_of, j_od, j_or, j_ov, true_and, and_true]
  refine lp_set hl q4 g4 (k := 7) (by omega) (fun h5 q5 => ?_)
  simp only [px_s (xx q5), px_2 (xx q5), LQ_sh q5, LQ_R0 q5, LQ_R1 q5, LQ_R2 q5, LQ_R3 q5, LQ_R4 q5, j_ref, j_ari, j_arb, j_arr, j_len, j_nar, j_oi, j_ol, j_of, j_od, j_or, j_ov, true_and, and_true]
  refine lp_set hl q5 g4 (k := 8) (by omega) (fun h6 q6 => ?_)
  simp only [j_ref, j_ari, j_arb, j_arr, j_len, j_nar, j_oi, j_ol, j_of, j_od, j_or, j_ov, true_and, and_true]
  obtain ⟨z1, z2, z3⟩ := Fr_z q6.2.1
  exact H0 ⟨g, g2⟩ f hf ef g4 g5 h6 e Z (PS_lq p2 q6) (FG_tr f2 (lq_FG q6 (by omega) (by omega))) (leA_eq c2 z2 z3)
/-- the place of the next record -/
def cNx (lt : Int32) : Nat := if lt + 1 = 128 then 0 else tn (lt + 1)
def cRec (nf : Nat) (C : Lk4) : Lk4 := (C.1, min (C.2.1 + 1) 128, nI (cNx C.2.2.1), lRecord C.1 nf (cNx C.2.2.1) C.2.2.2)
def cRun (nf : Nat) : Nat → Lk4 → Lk4
  | 0, C => C
  | k + 1, C => cRun nf k (if 128 < k + 1 then (lTick nf C.1, C.2) else cRec nf (lTick nf C.1, C.2))
/-- what running asks of the link -/
def rnOk (nf : Nat) (C : Lk4) : Prop := lTickOk nf C.1 ∧ nf ≤ 6 ∧ lX (lTick nf C.1) 5 = nI nf ∧ C.2.1 ≤ 128 ∧ ∃ t, t < 128 ∧ (C.2.2.1 + 1 = nI t ∨ C.2.2.1 + 1 = 128 ∧ t = 0)
theorem cNx_e {lt : Int32} {t : Nat} (ht : t < 128) (e : lt + 1 = nI t ∨ lt + 1 = 128 ∧ t = 0) : cNx lt = t := by
  unfold cNx
  rcases e with e | ⟨e, e2⟩
  · rw [e, if_neg (show ¬ nI t = 128 from fun z => absurd ((nI_eq (a := t) (b := 128) (by omega) (by omega)).mp z) (by omega))]
    exact nI_clamp (by omega)
  · rw [if_pos e, e2]
set_option maxRecDepth 8000 in
theorem sp_X8_run (hl : l.stackTraces = false) (p : PS h x zb V) {nf np ns : Nat} (hN : LkN (vC V) nf np ns) (r : rmA E h (vAd V)) {v : Int32} {T : Nat → Lk4 → Prop} (hT : ∀ k, k ≤ 500 → ¬ 1000000 < lX (vC V).1 11 + nI k → T k (vC V)) (hok : ∀ n C, T (n + 1) C → rnOk nf C ∧ T n (lTick nf C.1, C.2) ∧ T n (cRec nf (lTick nf C.1, C.2)))
    (H1 : ¬ rIn v 0 500 = true → ∀ z, j_z h ≤ z → Q (.inr 1) (j_thr h z))
    (H2 : rIn v 0 500 = true → 1000000 < lX (vC V).1 11 + v → Q (.inl (some (.int (-5)))) h)
    (H0 : ∀ k, k ≤ 500 → v = nI k → ¬ 1000000 < lX (vC V).1 11 + v → ∀ h' e Z, PS h' x zb (psC (psK V e Z nf np ns) (cRun nf k (vC V))) → FG (psA h x zb) h h' → leA h (vAd V) h' (kAd V e) → Q (.inl (some (.int (lX (cRun nf k (vC V)).1 14 - lX (vC V).1 14)))) h') : j_Met l D bs E (d + 7) n_X8_run [.ref x, .int v] h Q := by
  have hr := rmA_rm r
  have hB := rm_bd hr
  have q := PS_q p hB
  refine j_meth hl rfl g_X8_run (Nat.le_of_ble_eq_true rfl) (fun _ => ⟨_, _, rfl, (px_s (PS_x p))⟩) hB.1 hB.2 (fun G hG => ?_)
  refine b_X8_run_0 hG ?_
  dsimp only [q_X8_run_0, j_wp, j_opB, j_opA, j_nth, j_i1, j_i2, j_l1, j_l2, j_li, j_f1, j_f2, j_d1, j_d2, j_r1, j_ai, j_aii, j_ail, j_aid, j_air, j_st1, j_st2, j_stu, j_kl, j_cond, j_args, j_out, j_few, j_cw, j_nat, j_pad, j_exp, Nat.reduceAdd]
  refine sp_X8_requireRange hl hr (fun g z hz => ?_) (fun g => ?_)
  · simp only [j_ref, j_ari, j_arb, j_arr, j_len, j_nar, j_oi, j_ol, j_of, j_od, j_or, j_ov, true_and, and_true]
    exact H1 g z hz
  simp only [px_s (PS_x p), px_2 (PS_x p), LQ_x11 q, LQ_sh q, LQ_R0 q, LQ_R1 q, LQ_R2 q, LQ_R3 q, LQ_R4 q, j_ref, j_ari, j_arb, j_arr, j_len, j_nar, j_oi, j_ol, j_of, j_od, j_or, j_ov, true_and, and_true]
  by_cases g2 : 1000000 < lX (vC V).1 11 + v
  · rw [if_pos g2]
    exact H2 g g2
  rw [if_neg g2]
  obtain ⟨k, hk, ek⟩ : ∃ k, k ≤ 500 ∧ v = nI k := by
    obtain ⟨k, hk, ek⟩ := (rIn_inx (n := 501) (v := v) (by omega)).mp g
    exact ⟨k, by omega, ek⟩
  refine b_X8_run_25 hG ?_
  dsimp only [q_X8_run_25, j_wp, j_opB, j_opA, j_nth, j_i1, j_i2, j_l1, j_l2, j_li, j_f1, j_f2, j_d1, j_d2, j_r1, j_ai, j_aii, j_ail, j_aid, j_air, j_st1, j_st2, j_stu, j_kl, j_cond, j_args, j_out, j_few, j_cw, j_nat, j_pad, j_exp, Nat.reduceAdd]
  simp only [px_s (PS_x p), px_5 (PS_x p), px_2 (PS_x p), j_ref, j_ari, j_arb, j_arr, j_len, j_nar, j_oi, j_ol, j_of, j_od, j_or, j_ov, true_and, and_true]
  refine ps_keep hl p hN r (fun h2 e Z p2 f2 c2 => ?_)
  have hB2 := leA_bd r c2
  have x2 : px h2 x (vU V) (vW V) := p2.1
  have q2 : LQ E h2 (x + 8) (vC V).1 h2 := ⟨p2.2.2.1.1, Fr_rf, hB2⟩
  simp only [px_s x2, px_2 x2, LQ_x14 q2, LQ_sh q2, LQ_R0 q2, LQ_R1 q2, LQ_R2 q2, LQ_R3 q2, LQ_R4 q2, j_ref, j_ari, j_arb, j_arr, j_len, j_nar, j_oi, j_ol, j_of, j_od, j_or, j_ov, true_and, and_true]
  have H0' := H0 k hk ek g2
  clear H0
  have loop : ∀ (k : Nat) (C : Lk4) (h1 : j_H), k ≤ 500 → T k C → PS h1 x zb (psC (psK V e Z nf np ns) C) → FG (psA h x zb) h h1 → leA h (vAd V) h1 (kAd V e) → (∀ h', PS h' x zb (psC (psK V e Z nf np ns) (cRun nf k C)) → FG (psA h x zb) h h' → leA h (vAd V) h' (kAd V e) → Q (.inl (some (.int (lX (cRun nf k C).1 14 - lX (vC V).1 14)))) h') → G 46 [.ref x, .int v, .int (lX (vC V).1 14), .int (nI k)] [] h1 := by
    intro k
    induction k with
    | zero =>
      intro C h1 _ hC p1 f1 c1 HH
      have hB1 := leA_bd r c1
      have x1 : px h1 x (vU V) (vW V) := p1.1
      have q1 : LQ E h1 (x + 8) C.1 h1 := ⟨p1.2.2.1.1, Fr_rf, hB1⟩
      refine b_X8_run_46 hG ?_
      dsimp only [q_X8_run_46, j_wp, j_opB, j_opA, j_nth, j_i1, j_i2, j_l1, j_l2, j_li, j_f1, j_f2, j_d1, j_d2, j_r1, j_ai, j_aii, j_ail, j_aid, j_air, j_st1, j_st2, j_stu, j_kl, j_cond, j_args, j_out, j_few, j_cw, j_nat, j_pad, j_exp, Nat.reduceAdd]
      rw [if_neg (by decide)]
      refine b_X8_run_77 hG ?_
      dsimp only [q_X8_run_77, j_wp, j_opB, j_opA, j_nth, j_i1, j_i2, j_l1, j_l2, j_li, j_f1, j_f2, j_d1, j_d2, j_r1, j_ai, j_aii, j_ail, j_aid, j_air, j_st1, j_st2, j_stu, j_kl, j_cond, j_args, j_out, j_few, j_cw, j_nat, j_pad, j_exp, Nat.reduceAdd]
      simp only [px_s x1, px_2 x1, LQ_x14 q1, LQ_sh q1, LQ_R0 q1, LQ_R1 q1, LQ_R2 q1, LQ_R3 q1, LQ_R4 q1, j_ref, j_ari, j_arb, j_arr, j_len, j_nar, j_oi, j_ol, j_of, j_od, j_or, j_ov, true_and, and_true]
      exact HH h1 p1 f1 c1
    | succ k ih =>
      intro C h1 hk hC p1 f1 c1 HH
      have hB1 := leA_bd r c1
      have x1 : px h1 x (vU V) (vW V) := p1.1
      have q1 : LQ E h1 (x + 8) C.1 h1 := ⟨p1.2.2.1.1, Fr_rf, hB1⟩
      obtain ⟨⟨o1, o2, o3, o4, t, o5, o6⟩, T1, T2⟩ := hok k C hC
      have back : ∀ (C' : Lk4) (h3 : j_H), T k C' → PS h3 x zb (psC (psK V e Z nf np ns) C') → FG (psA h x zb) h h3 → leA h (vAd V) h3 (kAd V e) → cRun nf (k + 1) C = cRun nf k C' → G 71 [.ref x, .int v, .int (lX (vC V).1 14), .int (nI (k + 1))] [] h3 := by
        intro C' h3 t3 p3 f3 c3 e3
        have hB3 := leA_bd r c3
        rw [e3] at HH
        refine b_X8_run_71 hG ?_
        dsimp only [q_X8_run_71, j_wp, j_opB, j_opA, j_nth, j_i1, j_i2, j_l1, j_l2, j_li, j_f1, j_f2, j_d1, j_d2, j_r1, j_ai, j_aii, j_ail, j_aid, j_air, j_st1, j_st2, j_stu, j_kl, j_cond, j_args, j_out, j_few, j_cw, j_nat, j_pad, j_exp, Nat.reduceAdd]
        have ek : nI (k + 1) + -1 = nI k := by rw [← nI_pred k, Int32.sub_eq_add_neg]
        rw [ek]
        exact ih C' h3 (by omega) t3 p3 f3 c3 HH
      refine b_X8_run_46 hG ?_
      dsimp only [q_X8_run_46, j_wp, j_opB, j_opA, j_nth, j_i1, j_i2, j_l1, j_l2, j_li, j_f1, j_f2, j_d1, j_d2, j_r1, j_ai, j_aii, j_ail, j_aid, j_air, j_st1, j_st2, j_stu, j_kl, j_cond, j_args, j_out, j_few, j_cw, j_nat, j_pad, j_exp, Nat.reduceAdd]
      rw [if_pos (show (0 : Int32) < nI (k + 1) from nI_lt (a := 0) (by omega) (by omega))]
      simp only [px_s x1, px_2 x1, j_ref, j_ari, j_arb, j_arr, j_len, j_nar, j_oi, j_ol, j_of, j_od, j_or, j_ov, true_and, and_true]
      refine sp_X1_tick hl q1 o1 (fun h3 q3 => ?_)
      obtain ⟨z1, z2, z3⟩ := Fr_z q3.2.1
      have p3 : PS h3 x zb (psC (psK V e Z nf np ns) (lTick nf C.1, C.2)) := PS_lq p1 q3
      have f3 : FG (psA h x zb) h h3 := FG_tr f1 (lq_FG q3 (by omega) (by omega))
      have c3 := leA_eq c1 z2 z3
      have x3 : px h3 x (vU V) (vW V) := p3.1
      simp only [j_ref, j_ari, j_arb, j_arr, j_len, j_nar, j_oi, j_ol, j_of, j_od, j_or, j_ov, true_and, and_true]
      by_cases g3 : 128 < k + 1
      · rw [if_pos (show (128 : Int32) < nI (k + 1) from nI_lt (a := 128) g3 (by omega))]
        exact back _ h3 T1 p3 f3 c3 (by show cRun nf k (if 128 < k + 1 then (lTick nf C.1, C.2) else cRec nf (lTick nf C.1, C.2)) = _; rw [if_pos g3])
      · rw [if_neg (show ¬ (128 : Int32) < nI (k + 1) from nI_nlt (a := 128) (by omega) (by omega))]
        simp only [px_s x3, px_2 x3, j_ref, j_ari, j_arb, j_arr, j_len, j_nar, j_oi, j_ol, j_of, j_od, j_or, j_ov, true_and, and_true]
        have r3 : LR E h3 (x + 8) (lTick nf C.1) C.2.1 C.2.2.1 C.2.2.2 h3 := ⟨p3.2.2.1.1, p3.2.2.1.2, Fr_rf, leA_bd r c3⟩
        refine sp_X1_addRecord hl r3 o2 o3 o4 o5 o6 (fun h4 r4 => ?_)
        obtain ⟨y1, y2, y3⟩ := Fr_z r4.2.2.1
        simp only [j_ref, j_ari, j_arb, j_arr, j_len, j_nar, j_oi, j_ol, j_of, j_od, j_or, j_ov, true_and, and_true]
        have p4 : PS h4 x zb (psC (psK V e Z nf np ns) (cRec nf (lTick nf C.1, C.2))) := by
          unfold cRec
          dsimp only
          rw [cNx_e o5 o6]
          have p4' := PS_lr p3 r4
          exact p4'
        exact back _ h4 T2 p4 (FG_tr f3 (FG_mono (FG_Fr r4.2.2.1) (fun c _ g => Or.inl (by omega)))) (leA_eq c3 y2 y3) (by show cRun nf k (if 128 < k + 1 then (lTick nf C.1, C.2) else cRec nf (lTick nf C.1, C.2)) = _; rw [if_neg g3])
  have lp := loop k (vC V) h2 hk (hT k hk (by rw [← ek]; exact g2)) p2 f2 c2 (fun h' a1 a2 a3 => H0' h' e Z a1 a2 a3)
  rw [ek] at lp ⊢
  exact lp
end CaR
