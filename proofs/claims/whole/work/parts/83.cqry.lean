/-! ===== the class: query ===== -/
section CaY
variable {l : Launch} {D : va_G} {bs : Nat} {E : j_E} {h h' h'' : j_H} {d : Nat} {Q : j_O → j_H → Prop} {x zb : Nat} {V : Ps}
/-- the query's reader -/
def rdr (h : j_H) (x : Nat) : Prop := j_sh h (x + 48) = some (.inr 5) ∧ j_R h (x + 48) 0 = some (x + 1) ∧ j_R h (x + 48) 1 = some (x + 8)
def cqP (B : Nat → Int32) (n : Nat) : Tk := if tIsW B (tOpen B n 0) (wd "many") = true then tOpen B n 0 else if tIsW B (tOpen B n 0) (wd "first") = true then tOpen B n 0 else tFail (tOpen B n 0) 1
def cqT (B : Nat → Int32) (n : Nat) (L : Lnk) (np : Nat) : Tk × (Nat → Bool) := qTest B n (qFac B n L np 6) (tNext B n (cqP B n))
def cqE (B : Nat → Int32) (n : Nat) (L : Lnk) (np : Nat) : Tk := tEnd (cqT B n L np).1
def cqA (B : Nat → Int32) (n : Nat) (L : Lnk) (np : Nat) : Int32 := if tkC (cqE B n L np) = 0 then (if tIsW B (tOpen B n 0) (wd "many") = true then nI (pCount (cqT B n L np).2 np 0 0) else pFirst (cqT B n L np).2 np 0) else -1000000000 - tkC (cqE B n L np)
theorem px_fq {A : Nat → Prop} {z u w : Nat} (p : px h x u w) (f : FQ A z h h') (hx : x < z) : px h' x u w := by
  obtain ⟨p1, p2, p3, p4, p5, p6, p7, p8, p9, p10⟩ := p
  obtain ⟨f1, f2, _⟩ := f.2 x hx
  exact ⟨by rw [f1]; exact p1, by rw [f2]; exact p2, by rw [f2]; exact p3, by rw [f2]; exact p4, by rw [f2]; exact p5, by rw [f2]; exact p6, by rw [f2]; exact p7, by rw [f2]; exact p8, by rw [f2]; exact p9, by rw [f2]; exact p10⟩
theorem FG_q {A : Nat → Prop} (f : FQ A (j_z h) h h') : FG A h h' := ⟨f.1, fun b hb y => by
  obtain ⟨a1, a2, a3, a4⟩ := f.2 b hb
  exact ⟨a1, a2, a3, (a4 y).1, (a4 y).2⟩⟩
theorem tPhi_le {n : Nat} {p : Tk} : tPhi n p ≤ n + 1 := by
  unfold tPhi
  split <;> omega
theorem tEnd_ok {n : Nat} {p : Tk} (ok : tkOk n p) : tkOk n (tEnd p) := by
  unfold tEnd
  split
  · exact ok
  · exact tFail_ok ok
set_option maxRecDepth 8000 in
theorem sp_X8_query (hl : l.stackTraces = false) (hJ : JS l D bs E) (p : PS h x zb V) (rd : rdr h x) (hK : KS E bs h) (hbs : bs ≤ x) {nf np ns : Nat} (hN : LkN (vC V) nf np ns) (r1 : j_c h + 203 ≤ E.2.1) (r2 : j_k h + 406 ≤ E.2.2) {v : Int32}
    (H1 : ¬ inx v (min (vSz V) 200 + 1) → ∀ z, j_z h ≤ z → Q (.inr 1) (j_thr h z))
    (H0 : ∀ n, n ≤ min (vSz V) 200 → v = nI n → ∀ h', PS h' x zb (psB V (vB V) 0 n (cqE (vB V) n (vC V).1 np)) → FG (psA h x zb) h h' → j_c h' ≤ j_c h + 202 → j_k h' ≤ j_k h + 404 → Q (.inl (some (.int (cqA (vB V) n (vC V).1 np)))) h') : j_Met l D bs E (d + 29) n_X8_query [.ref x, .int v] h Q := by
  have r : rm E h := ⟨by omega, by omega⟩
  have hB := rm_bd r
  have hz := TX_z (PS_B p)
  have qz := PS_z p
  have hnp := hN.2.1
  have hx9 := hN.2.2.2.2.2.1
  have em : (if 200 < nI (vSz V) then (200 : Int32) else nI (vSz V)) = nI (min (vSz V) 200 + 1) - 1 := by
    rw [nI_pred]
    by_cases g : 200 < vSz V
    · rw [if_pos (show (200 : Int32) < nI (vSz V) from nI_lt (a := 200) g (by omega)), show min (vSz V) 200 = 200 by omega]
      rfl
    · rw [if_neg (show ¬ (200 : Int32) < nI (vSz V) from nI_nlt (a := 200) (by omega) (by omega)), show min (vSz V) 200 = vSz V by omega]
  refine j_meth hl rfl g_X8_query (Nat.le_of_ble_eq_true rfl) (fun _ => ⟨_, _, rfl, (px_s (PS_x p))⟩) hB.1 hB.2 (fun G hG => ?_)
  refine b_X8_query_0 hG ?_
  dsimp only [q_X8_query_0, j_wp, j_opB, j_opA, j_nth, j_i1, j_i2, j_l1, j_l2, j_li, j_f1, j_f2, j_d1, j_d2, j_r1, j_ai, j_aii, j_ail, j_aid, j_air, j_st1, j_st2, j_stu, j_kl, j_cond, j_args, j_out, j_few, j_cw, j_nat, j_pad, j_exp, Nat.reduceAdd]
  simp only [px_s (PS_x p), px_0 (PS_x p), TX_sh (PS_B p), TX_1 (PS_B p), em, j_ref, j_ari, j_arb, j_arr, j_len, j_nar, j_oi, j_ol, j_of, j_od, j_or, j_ov, true_and, and_true]
  refine sp_X8_requireRange hl r (fun g z hz => ?_) (fun g => ?_)
  · simp only [j_ref, j_ari, j_arb, j_arr, j_len, j_nar, j_oi, j_ol, j_of, j_od, j_or, j_ov, true_and, and_true]
    exact H1 (fun y => g ((rIn_inx (by omega)).mpr y)) z hz
  obtain ⟨n, hn, en⟩ := (rIn_inx (by omega)).mp g
  subst en
  have H0' := H0 n (by omega) rfl
  clear H0
  simp only [px_s (PS_x p), px_0 (PS_x p), j_ref, j_ari, j_arb, j_arr, j_len, j_nar, j_oi, j_ol, j_of, j_od, j_or, j_ov, true_and, and_true]
  refine sp_X7_open hl (PS_B p) hB (show n ≤ 800 by omega) (fun h1 t1 f1 => ?_)
  obtain ⟨z1, z2, z3⟩ := Fr_z f1
  have hB1 := Fr_bd f1 hB
  have q1 : FQ (fun b => b = x + 1) (j_z h) h h1 := FQ_Fr f1 (fun b g1 g2 => by omega) (Nat.le_refl _)
  have p1 := PS_tx p (FG_mono (FG_Fr f1) (fun c _ g => ⟨g.1, by have := g.2; omega⟩)) t1
  have x1 : px h1 x (vU V) (vW V) := p1.1
  have l1 : LK h1 (x + 8) (vC V).1 := p1.2.2.1.1
  have fr := q1.2 (x + 48) (by omega)
  have s1 : QB E bs (x + 48) (x + 1) (x + 8) (vB V) (vSz V) n (vC V).1 np (tOpen (vB V) n 0) h1 := ⟨by rw [fr.1]; exact rd.1, by rw [fr.2.1]; exact rd.2.1, by rw [fr.2.1]; exact rd.2.2, t1, l1, KS_FQ hK q1 (fun b e => by omega) (by omega), tOpen_ok, ⟨hx9, hnp⟩, by omega, by omega, by omega, by omega, by omega, by omega⟩
  -- behind the first word
  have aft : ∀ (h2 : j_H), QB E bs (x + 48) (x + 1) (x + 8) (vB V) (vSz V) n (vC V).1 np (cqP (vB V) n) h2 → FQ (fun b => b = x + 1) (j_z h) h h2 → j_z h2 = j_z h → j_c h2 = j_c h → j_k h2 = j_k h → G 62 [.ref x, .int (nI n), .int (if tIsW (vB V) (tOpen (vB V) n 0) (wd "many") = true then 1 else 0), j_u] [] h2 := by
    intro h2 s2 q2 e1 e2 e3
    have hB2 : j_bd E h2 := ⟨by omega, by omega⟩
    have x2 := px_fq (PS_x p) q2 (by omega)
    refine b_X8_query_62 hG ?_
    dsimp only [q_X8_query_62, j_wp, j_opB, j_opA, j_nth, j_i1, j_i2, j_l1, j_l2, j_li, j_f1, j_f2, j_d1, j_d2, j_r1, j_ai, j_aii, j_ail, j_aid, j_air, j_st1, j_st2, j_stu, j_kl, j_cond, j_args, j_out, j_few, j_cw, j_nat, j_pad, j_exp, Nat.reduceAdd]
    simp only [px_s x2, px_0 x2, j_ref, j_ari, j_arb, j_arr, j_len, j_nar, j_oi, j_ol, j_of, j_od, j_or, j_ov, true_and, and_true]
    refine sp_X7_next hl (QB_t s2) hB2 (QB_o s2) (fun h3 t3 f3 => ?_)
    obtain ⟨s3, q3⟩ := QB_f s2 t3 (tNext_ok (QB_o s2)) f3
    obtain ⟨a1, a2, a3⟩ := Fr_z f3
    have q03 : FQ (fun b => b = x + 1) (j_z h) h h3 := FQ_tr q2 q3 (by omega)
    have x3 := px_fq (PS_x p) q03 (by omega)
    simp only [px_s x3, px_1 x3, j_ref, j_ari, j_arb, j_arr, j_len, j_nar, j_oi, j_ol, j_of, j_od, j_or, j_ov, true_and, and_true]
    have ht : FacC l D bs E (x + 48) (x + 1) (x + 8) (vB V) (vSz V) n (vC V).1 np 0 n_X3_readTest (qTest (vB V) n (qFac (vB V) n (vC V).1 np 6)) (d + 28) := cq_test hl hJ (e := d + 21) (cq_conj hl hJ (e := d + 20) (cq_fac hl hJ 6 0 (d + 26) rfl (by omega)))
    have hp := tPhi_le (n := n) (p := tNext (vB V) n (cqP (vB V) n))
    refine ht _ h3 _ s3 (by omega) (by omega) (fun h4 q ph c4 => ?_)
    have ph' : tPhi n (cqT (vB V) n (vC V).1 np).1 ≤ tPhi n (tNext (vB V) n (cqP (vB V) n)) := ph
    obtain ⟨s4, q4, ps4, ⟨y1, y2⟩, b1, b2⟩ := c4
    have q04 : FQ (fun b => b = x + 1) (j_z h) h h4 := FQ_tr q03 q4 (by omega)
    have x4 := px_fq (PS_x p) q04 (by omega)
    have hB4 : j_bd E h4 := ⟨by omega, by omega⟩
    simp only [px_s x4, px_0 x4, j_ref, j_ari, j_arb, j_arr, j_len, j_nar, j_oi, j_ol, j_of, j_od, j_or, j_ov, true_and, and_true]
    refine sp_X7_requireEnd hl (QB_t s4) hB4 (QB_o s4) (fun h5 t5 f5 => ?_)
    obtain ⟨s5, q5⟩ := QB_f s4 t5 (tEnd_ok (QB_o s4)) f5
    obtain ⟨c1, c2, c3⟩ := Fr_z f5
    have y0 := q04.1
    have q05 : FQ (fun b => b = x + 1) (j_z h) h h5 := FQ_tr q04 q5 (by omega)
    have x5 := px_fq (PS_x p) q05 (by omega)
    simp only [px_s x5, px_0 x5, j_ref, j_ari, j_arb, j_arr, j_len, j_nar, j_oi, j_ol, j_of, j_od, j_or, j_ov, true_and, and_true]
    refine sp_X7_empty hl (QB_t s5) (Fr_bd f5 hB4) (fun h6 t6 f6 => ?_)
    have q6 : FQ (fun b => b = x + 1) (j_z h5) h5 h6 := FQ_Fr f6 (fun b g1 g2 => by omega) (Nat.le_refl _)
    obtain ⟨d1, d2, d3⟩ := Fr_z f6
    have q06 : FQ (fun b => b = x + 1) (j_z h) h h6 := FQ_tr q05 q6 (by omega)
    have x6 := px_fq (PS_x p) q06 (by omega)
    have hB6 : j_bd E h6 := ⟨by omega, by omega⟩
    have p6 : PS h6 x zb (psB V (vB V) 0 n (cqE (vB V) n (vC V).1 np)) := PS_tx p (FG_mono (FG_q q06) (fun c _ g => by omega)) t6
    have l6 : LQ E h6 (x + 8) (vC V).1 h6 := ⟨p6.2.2.1.1, Fr_rf, hB6⟩
    have ps6 : PSt h6 q (cqT (vB V) n (vC V).1 np).2 := PSt_FQ (PSt_FQ ps4 q5 (show ¬ q = x + 1 by omega) (by omega)) q6 (show ¬ q = x + 1 by omega) (by omega)
    have a6 : FG (psA h x zb) h h6 := FG_mono (FG_q q06) (fun c _ g => Or.inl (by omega))
    have H6 := H0' h6 p6 a6 (by omega) (by omega)
    have t6' : TX h6 (x + 1) (vB V) 0 n (cqE (vB V) n (vC V).1 np) := t6
    simp only [px_s x6, px_0 x6, TX_sh t6', TX_6 t6', j_ref, j_ari, j_arb, j_arr, j_len, j_nar, j_oi, j_ol, j_of, j_od, j_or, j_ov, true_and, and_true]
    unfold cqA at H6
    by_cases g5 : ¬ tkC (cqE (vB V) n (vC V).1 np) = 0
    · rw [if_neg g5] at H6 ⊢
      exact H6
    have g5 : tkC (cqE (vB V) n (vC V).1 np) = 0 := Decidable.not_not.mp g5
    rw [if_pos g5] at H6 ⊢
    refine b_X8_query_114 hG ?_
    dsimp only [q_X8_query_114, j_wp, j_opB, j_opA, j_nth, j_i1, j_i2, j_l1, j_l2, j_li, j_f1, j_f2, j_d1, j_d2, j_r1, j_ai, j_aii, j_ail, j_aid, j_air, j_st1, j_st2, j_stu, j_kl, j_cond, j_args, j_out, j_few, j_cw, j_nat, j_pad, j_exp, Nat.reduceAdd]
    by_cases g6 : tIsW (vB V) (tOpen (vB V) n 0) (wd "many") = true
    · simp only [g6, if_true] at H6 ⊢
      rw [if_neg (by decide)]
      simp only [px_s x6, px_2 x6, LQ_x9 l6, hx9, LQ_sh l6, LQ_R0 l6, LQ_R1 l6, LQ_R2 l6, LQ_R3 l6, LQ_R4 l6, j_ref, j_ari, j_arb, j_arr, j_len, j_nar, j_oi, j_ol, j_of, j_od, j_or, j_ov, true_and, and_true]
      refine sp_X2_countBelow hl ps6 hB6 hnp ?_
      simp only [j_ref, j_ari, j_arb, j_arr, j_len, j_nar, j_oi, j_ol, j_of, j_od, j_or, j_ov, true_and, and_true]
      refine b_X8_query_143 hG ?_
      dsimp only [q_X8_query_143, j_wp, j_opB, j_opA, j_nth, j_i1, j_i2, j_l1, j_l2, j_li, j_f1, j_f2, j_d1, j_d2, j_r1, j_ai, j_aii, j_ail, j_aid, j_air, j_st1, j_st2, j_stu, j_kl, j_cond, j_args, j_out, j_few, j_cw, j_nat, j_pad, j_exp, Nat.reduceAdd]
      exact ⟨trivial, H6⟩
    · simp only [g6, if_false, Bool.false_eq_true, if_true] at H6 ⊢
      refine b_X8_query_132 hG ?_
      dsimp only [q_X8_query_132, j_wp, j_opB, j_opA, j_nth, j_i1, j_i2, j_l1, j_l2, j_li, j_f1, j_f2, j_d1, j_d2, j_r1, j_ai, j_aii, j_ail, j_aid, j_air, j_st1, j_st2, j_stu, j_kl, j_cond, j_args, j_out, j_few, j_cw, j_nat, j_pad, j_exp, Nat.reduceAdd]
      simp only [px_s x6, px_2 x6, LQ_x9 l6, hx9, LQ_sh l6, LQ_R0 l6, LQ_R1 l6, LQ_R2 l6, LQ_R3 l6, LQ_R4 l6, j_ref, j_ari, j_arb, j_arr, j_len, j_nar, j_oi, j_ol, j_of, j_od, j_or, j_ov, true_and, and_true]
      refine sp_X2_firstBelow hl ps6 hB6 hnp ?_
      simp only [j_ref, j_ari, j_arb, j_arr, j_len, j_nar, j_oi, j_ol, j_of, j_od, j_or, j_ov, true_and, and_true]
      refine b_X8_query_143 hG ?_
      dsimp only [q_X8_query_143, j_wp, j_opB, j_opA, j_nth, j_i1, j_i2, j_l1, j_l2, j_li, j_f1, j_f2, j_d1, j_d2, j_r1, j_ai, j_aii, j_ail, j_aid, j_air, j_st1, j_st2, j_stu, j_kl, j_cond, j_args, j_out, j_few, j_cw, j_nat, j_pad, j_exp, Nat.reduceAdd]
      exact ⟨trivial, H6⟩
  simp only [px_s x1, px_0 x1, j_ref, j_ari, j_arb, j_arr, j_len, j_nar, j_oi, j_ol, j_of, j_od, j_or, j_ov, true_and, and_true]
  refine qb_isW hl hJ s1 hB1 32 rfl (by omega) ?_
  simp only [j_ref, j_ari, j_arb, j_arr, j_len, j_nar, j_oi, j_ol, j_of, j_od, j_or, j_ov, true_and, and_true]
  by_cases g1 : tIsW (vB V) (tOpen (vB V) n 0) (wd "many") = true
  · have e1 : cqP (vB V) n = tOpen (vB V) n 0 := by unfold cqP; rw [if_pos g1]
    rw [← e1] at s1
    have := aft h1 s1 q1 z1 z2 z3
    simp only [g1, if_true] at this ⊢
    rw [if_neg (by decide)]
    exact this
  · simp only [g1, if_false, Bool.false_eq_true, if_true] at aft ⊢
    simp only [px_s x1, px_0 x1, j_ref, j_ari, j_arb, j_arr, j_len, j_nar, j_oi, j_ol, j_of, j_od, j_or, j_ov, true_and, and_true]
    refine qb_isW hl hJ s1 hB1 33 rfl (by omega) ?_
    simp only [j_ref, j_ari, j_arb, j_arr, j_len, j_nar, j_oi, j_ol, j_of, j_od, j_or, j_ov, true_and, and_true]
    by_cases g2 : tIsW (vB V) (tOpen (vB V) n 0) (wd "first") = true
    · have e1 : cqP (vB V) n = tOpen (vB V) n 0 := by unfold cqP; rw [if_neg g1, if_pos g2]
      rw [← e1] at s1
      have := aft h1 s1 q1 z1 z2 z3
      simp only [g2, if_true] at this ⊢
      rw [if_neg (by decide)]
      exact this
    · have e1 : cqP (vB V) n = tFail (tOpen (vB V) n 0) 1 := by unfold cqP; rw [if_neg g1, if_neg g2]
      simp only [g2, if_false, Bool.false_eq_true, if_true]
      simp only [px_s x1, px_0 x1, j_ref, j_ari, j_arb, j_arr, j_len, j_nar, j_oi, j_ol, j_of, j_od, j_or, j_ov, true_and, and_true]
      refine sp_X7_fail hl t1 hB1 tOpen_ok (fun h2 t2 f2 => ?_)
      simp only [j_ref, j_ari, j_arb, j_arr, j_len, j_nar, j_oi, j_ol, j_of, j_od, j_or, j_ov, true_and, and_true]
      obtain ⟨s2, q2⟩ := QB_f s1 t2 (tFail_ok tOpen_ok) f2
      obtain ⟨a1, a2, a3⟩ := Fr_z f2
      rw [← e1] at s2
      exact aft h2 s2 (FQ_tr q1 q2 (by omega)) (by omega) (by omega) (by omega)
end CaY
