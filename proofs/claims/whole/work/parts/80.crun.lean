/-! ===== the class: setWeight, arrive, run ===== -/
section CaR
variable {l : Launch} {D : va_G} {bs : Nat} {E : j_E} {h h' h'' : j_H} {d : Nat} {Q : j_O → j_H → Prop} {x zb : Nat} {V : Ps}
/-- room for the history's links, and for a throw -/
def rmA (E : j_E) (h : j_H) (ad : Nat → Option Nat) : Prop := j_c h + 11 * nnF ad 10 + 1 ≤ E.2.1 ∧ j_k h + 3944 * nnF ad 10 + 6 ≤ E.2.2
theorem rmA_rm {ad : Nat → Option Nat} (r : rmA E h ad) : rm E h := ⟨by have := r.1; omega, by have := r.2; omega⟩
/-- the history's links are paid for -/
def leA (h : j_H) (ad : Nat → Option Nat) (h' : j_H) (ad' : Nat → Option Nat) : Prop := j_c h' + 11 * nnF ad' 10 ≤ j_c h + 11 * nnF ad 10 ∧ j_k h' + 3944 * nnF ad' 10 ≤ j_k h + 3944 * nnF ad 10
theorem leA_bd {ad ad' : Nat → Option Nat} (r : rmA E h ad) (z : leA h ad h' ad') : j_bd E h' := ⟨by have := r.1; have := z.1; omega, by have := r.2; have := z.2; omega⟩
theorem leA_eq {ad ad' : Nat → Option Nat} (z : leA h ad h' ad') (e1 : j_c h'' = j_c h') (e2 : j_k h'' = j_k h') : leA h ad h'' ad' := ⟨by have := z.1; omega, by have := z.2; omega⟩
def kAd (V : Ps) (b : Nat) : Nat → Option Nat := fun j => if j = nxt (vLt V) then some b else vAd V j
def psK (V : Ps) (b : Nat) (Z : Lk4) (nf np ns : Nat) : Ps := psH V (min (vCt V + 1) 10) (nxt (vLt V)) (kAd V b) (fun j => if j = nxt (vLt V) then lkCp Z (vC V) nf np ns else vA V j)
theorem ps_keep (hl : l.stackTraces = false) (p : PS h x zb V) {nf np ns : Nat} (hN : LkN (vC V) nf np ns) (r : rmA E h (vAd V)) (H : ∀ h' b Z, PS h' x zb (psK V b Z nf np ns) → FG (psA x zb) h h' → leA h (vAd V) h' (kAd V b) → Q (.inl none) h') : j_Met l D bs E (d + 4) n_X0_keep [.ref (x + 46), .ref (x + 8)] h Q := by
  obtain ⟨r1, r2⟩ := r
  refine sp_X0_keep hl (PS_H p) (PS_C p) hN (by omega) (by omega) (by omega) (fun h2 b Z i2 f2 c2 k2 => ?_)
  exact H h2 b Z (PS_hi p f2 i2) (FG_mono f2 (fun c _ g => by
    rcases g with g | g | g
    · exact Or.inl (by omega)
    · exact Or.inl (by omega)
    · exact Or.inr g)) ⟨c2, k2⟩
theorem lq_FG {a : Nat} {L' : Lnk} (q : LQ E h a L' h') (h1 : x ≤ a) (h2 : a + 8 ≤ x + 51) : FG (psA x zb) h h' := FG_mono (FG_Fr q.2.1) (fun c _ g => Or.inl (by omega))
theorem sp_X8_setWeight (hl : l.stackTraces = false) (p : PS h x zb V) {nf np ns : Nat} (hN : LkN (vC V) nf np ns) (r : rmA E h (vAd V)) {v y : Int32}
    (H1 : ¬ inx v nf → ∀ z, j_z h ≤ z → Q (.inr 0) (j_thr h z)) (H2 : inx v nf → ¬ rIn y 1 16 = true → ∀ z, j_z h ≤ z → Q (.inr 1) (j_thr h z))
    (H0 : ∀ i, i < nf → v = nI i → rIn y 1 16 = true → ∀ h' b Z, PS h' x zb (psC (psK V b Z nf np ns) (lsF (vC V).1 i 0 y, (vC V).2)) → FG (psA x zb) h h' → leA h (vAd V) h' (kAd V b) → Q (.inl (some (.int (lF (vC V).1 i 0)))) h') : j_Met l D bs E (d + 5) n_X8_setWeight [.ref x, .int v, .int y] h Q := by
  have hr := rmA_rm r
  have hB := rm_bd hr
  have hnf := hN.1
  refine j_meth hl rfl g_X8_setWeight (Nat.le_of_ble_eq_true rfl) (fun _ => ⟨_, _, rfl, (px_s (PS_x p))⟩) hB.1 hB.2 (fun G hG => ?_)
  refine b_X8_setWeight_0 hG ?_
  dsimp only [q_X8_setWeight_0, j_wp, j_opB, j_opA, j_nth, j_i1, j_i2, j_l1, j_l2, j_li, j_f1, j_f2, j_d1, j_d2, j_r1, j_ai, j_aii, j_ail, j_aid, j_air, j_st1, j_st2, j_stu, j_kl, j_cond, j_args, j_out, j_few, j_cw, j_nat, j_pad, j_exp, Nat.reduceAdd]
  refine sp_X8_requireFlow hl (PS_x p) (PS_q p hB) hr hN.1 hN.2.2.2.2.1 (fun g z hz => ?_) (fun g => ?_)
  · simp only [j_ref, j_ari, j_arb, j_arr, j_len, j_nar, j_oi, j_ol, j_of, j_od, j_or, j_ov, true_and, and_true]
    exact H1 g z hz
  simp only [j_ref, j_ari, j_arb, j_arr, j_len, j_nar, j_oi, j_ol, j_of, j_od, j_or, j_ov, true_and, and_true]
  refine sp_X8_requireRange hl hr (fun g2 z hz => ?_) (fun g2 => ?_)
  · simp only [j_ref, j_ari, j_arb, j_arr, j_len, j_nar, j_oi, j_ol, j_of, j_od, j_or, j_ov, true_and, and_true]
    exact H2 g g2 z hz
  simp only [px_s (PS_x p), px_5 (PS_x p), px_2 (PS_x p), j_ref, j_ari, j_arb, j_arr, j_len, j_nar, j_oi, j_ol, j_of, j_od, j_or, j_ov, true_and, and_true]
  obtain ⟨i, hi, ei⟩ := inx_e g
  subst ei
  refine ps_keep hl p hN r (fun h2 b Z p2 f2 c2 => ?_)
  have hB2 := leA_bd r c2
  have x2 : px h2 x (vU V) (vW V) := p2.1
  have q2 : LQ E h2 (x + 8) (vC V).1 h2 := PS_q p2 hB2
  simp only [px_s x2, px_2 x2, LQ_sh q2, LQ_R0 q2, LQ_R1 q2, LQ_R2 q2, LQ_R3 q2, LQ_R4 q2, j_ref, j_ari, j_arb, j_arr, j_len, j_nar, j_oi, j_ol, j_of, j_od, j_or, j_ov, true_and, and_true]
  refine lf_get hl q2 (by omega) (k := 0) (by omega) ?_
  simp only [px_s x2, px_2 x2, LQ_sh q2, LQ_R0 q2, LQ_R1 q2, LQ_R2 q2, LQ_R3 q2, LQ_R4 q2, j_ref, j_ari, j_arb, j_arr, j_len, j_nar, j_oi, j_ol, j_of, j_od, j_or, j_ov, true_and, and_true]
  refine lf_set hl q2 (show i < 6 by omega) (k := 0) (by omega) (fun h3 q3 => ?_)
  simp only [j_ref, j_ari, j_arb, j_arr, j_len, j_nar, j_oi, j_ol, j_of, j_od, j_or, j_ov, true_and, and_true]
  obtain ⟨z1, z2, z3⟩ := Fr_z q3.2.1
  exact H0 i hi rfl g2 h3 b Z (PS_lq p2 q3) (FG_tr f2 (lq_FG q3 (by omega) (by omega))) (leA_eq c2 z2 z3)
