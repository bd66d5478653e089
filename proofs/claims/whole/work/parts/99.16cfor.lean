/-! ===== the class: format ===== -/
section CFo
variable {l : Launch} {D : va_G} {bs : Nat} {E : j_E} {h h' : j_H} {d : Nat} {Q : j_O → j_H → Prop} {x zb b0 C K : Nat} {V : Ps} {w : List Nat}
theorem cf_len : (wd " f").length = 2 ∧ (wd "queued").length = 6 ∧ (wd "flying").length = 6 ∧ (wd "dropped").length = 7 ∧ (wd "at ").length = 3 := by decide
theorem sp_X8_format (hl : l.stackTraces = false) (hP : ∀ h1, FG (sbA (x + 49) b0) h h1 → PS h1 x zb V ∧ KS E bs h1 ∧ DG E h1) (r : rm E h) (s : SX E h (x + 49) b0 C K w h) {np : Nat} (hn : np ≤ 100) (hx : lX (vC V).1 9 = nI np) (hp : ∀ p, p < np → (∃ f, f < 100 ∧ lP (vC V).1 p 0 = nI f) ∧ (∃ z, z < 100000 ∧ lP (vC V).1 p 1 = nI z) ∧ (∃ c, c < 10000000 ∧ (¬ lP (vC V).1 p 3 = 0 → ¬ lP (vC V).1 p 3 = 1 → ¬ lP (vC V).1 p 3 = 3 → lP (vC V).1 p 5 = nI c))) {v : Int32}
    (H1 : ¬ inx v np → ∀ z, j_z h ≤ z → Q (.inr 0) (j_thr h z)) (H0 : ∀ p, p < np → v = nI p → ∀ h', SX E h (x + 49) b0 C K (cTxt (vC V).1 p) h' → Q (.inl (some (.int (nI (cTxt (vC V).1 p).length)))) h') : j_Met l D bs E (d + 6) n_X8_format [.ref x, .int v] h Q := by
  have hB := rm_bd r
  obtain ⟨p0, -, -⟩ := hP h FG_rf
  obtain ⟨l1, l2, l3, l4, l5⟩ := cf_len
  refine j_meth hl rfl g_X8_format (Nat.le_of_ble_eq_true rfl) (fun _ => ⟨_, _, rfl, px_s (PS_x p0)⟩) hB.1 hB.2 (fun G hG => ?_)
  refine b_X8_format_0 hG ?_
  dsimp only [q_X8_format_0, j_wp, j_opB, j_opA, j_nth, j_i1, j_i2, j_l1, j_l2, j_li, j_f1, j_f2, j_d1, j_d2, j_r1, j_ai, j_aii, j_ail, j_aid, j_air, j_st1, j_st2, j_stu, j_kl, j_cond, j_args, j_out, j_few, j_cw, j_nat, j_pad, j_exp, Nat.reduceAdd]
  refine sp_X8_requirePacket hl (PS_x p0) (PS_q p0 hB) r hn hx (fun g z hz => H1 g z hz) (fun g => ?_)
  obtain ⟨i, hi, rfl⟩ := g
  obtain ⟨⟨fl, hfl, efl⟩, ⟨sz, hsz, esz⟩, cc, hcc, ecc⟩ := hp i hi
  have m1 := (decF_len 2 i).2
  have m2 := (decF_len 2 fl).2
  have m3 := (decF_len 5 sz).2
  have m4 := (decF_len 6 cc).2
  have tf : tn (nI fl) = fl := nI_clamp (by omega)
  have ts : tn (nI sz) = sz := nI_clamp (by omega)
  refine ⟨px_s (PS_x p0), ?_⟩
  rw [px_6 (PS_x p0)]
  dsimp only [j_ref]
  refine sp_J4_setLength hl s (fun h1 s1 => ?_)
  obtain ⟨p1, k1, t1⟩ := hP h1 (SX_fg s1)
  refine ⟨px_s (PS_x p1), ?_⟩
  rw [px_6 (PS_x p1)]
  dsimp only [j_ref]
  refine sp_J4_appendC hl s1 (c := 112) (by decide) (by decide) (fun h2 s2 => ?_)
  obtain ⟨p2, k2, t2⟩ := hP h2 (SX_fg s2)
  refine sp_J4_appendI hl s2 t2 (k := 2) (v := i) (by decide) (by omega) (by simp only [List.length_append, List.length_cons, List.length_nil]; omega) (fun h3 s3 => ?_)
  obtain ⟨p3, k3, t3⟩ := hP h3 (SX_fg s3)
  refine ⟨px_s (PS_x p3), ?_⟩
  rw [px_6 (PS_x p3)]
  dsimp only [j_ref]
  refine sp_J4_appendS hl s3 (v := wd " f") (fun g1 fg => KS_at (hP g1 fg).2.1 27 rfl (by decide)) (by simp only [List.length_append, List.length_cons, List.length_nil, l1]; omega) (fun h4 s4 => ?_)
  obtain ⟨p4, k4, t4⟩ := hP h4 (SX_fg s4)
  have q4 := PS_q p4 (SX_bd s4)
  refine ⟨px_s (PS_x p4), ?_⟩
  rw [px_2 (PS_x p4)]
  dsimp only [j_ref]
  refine ⟨LQ_sh q4, ?_⟩
  rw [LQ_R2 q4]
  dsimp only [j_ref]
  refine lp_get hl q4 (f := i) (by omega) (k := 0) (by omega) ?_
  show j_Met l D bs E _ _ [.ref (x + 49), .int (lP (vC V).1 i 0)] h4 _
  rw [efl]
  refine sp_J4_appendI hl s4 t4 (k := 2) (v := fl) (by decide) (by omega) (by simp only [List.length_append, List.length_cons, List.length_nil, l1]; omega) (fun h5 s5 => ?_)
  obtain ⟨p5, k5, t5⟩ := hP h5 (SX_fg s5)
  refine ⟨px_s (PS_x p5), ?_⟩
  rw [px_6 (PS_x p5)]
  dsimp only [j_ref]
  refine sp_J4_appendC hl s5 (c := 32) (by decide) (by simp only [List.length_append, List.length_cons, List.length_nil, l1]; omega) (fun h6 s6 => ?_)
  obtain ⟨p6, k6, t6⟩ := hP h6 (SX_fg s6)
  have q6 := PS_q p6 (SX_bd s6)
  refine ⟨px_s (PS_x p6), ?_⟩
  rw [px_2 (PS_x p6)]
  dsimp only [j_ref]
  refine ⟨LQ_sh q6, ?_⟩
  rw [LQ_R2 q6]
  dsimp only [j_ref]
  refine lp_get hl q6 (f := i) (by omega) (k := 1) (by omega) ?_
  show j_Met l D bs E _ _ [.ref (x + 49), .int (lP (vC V).1 i 1)] h6 _
  rw [esz]
  refine sp_J4_appendI hl s6 t6 (k := 5) (v := sz) (by decide) (by omega) (by simp only [List.length_append, List.length_cons, List.length_nil, l1]; omega) (fun h7 s7 => ?_)
  refine sp_J4_appendC hl s7 (c := 32) (by decide) (by simp only [List.length_append, List.length_cons, List.length_nil, l1]; omega) (fun h8 s8 => ?_)
  obtain ⟨p8, k8, t8⟩ := hP h8 (SX_fg s8)
  have q8 := PS_q p8 (SX_bd s8)
  have eT : cTxt (vC V).1 i = ([] ++ [112] ++ decF 2 i ++ wd " f" ++ decF 2 fl ++ [32] ++ decF 5 sz ++ [32]) ++ cTxS (vC V).1 i := by
    unfold cTxt
    rw [efl, esz, tf, ts]
    rfl
  have fin : ∀ (u : Value) (h9 : j_H), SX E h (x + 49) b0 C K (([] ++ [112] ++ decF 2 i ++ wd " f" ++ decF 2 fl ++ [32] ++ decF 5 sz ++ [32]) ++ cTxS (vC V).1 i) h9 → G 173 [.ref x, .int (nI i), u] [] h9 := by
    intro u h9 s9
    rw [← eT] at s9
    obtain ⟨p9, k9, t9⟩ := hP h9 (SX_fg s9)
    refine b_X8_format_173 hG ?_
    dsimp only [q_X8_format_173, j_wp, j_opB, j_opA, j_nth, j_i1, j_i2, j_l1, j_l2, j_li, j_f1, j_f2, j_d1, j_d2, j_r1, j_ai, j_aii, j_ail, j_aid, j_air, j_st1, j_st2, j_stu, j_kl, j_cond, j_args, j_out, j_few, j_cw, j_nat, j_pad, j_exp, Nat.reduceAdd]
    refine ⟨px_s (PS_x p9), ?_⟩
    rw [px_6 (PS_x p9)]
    dsimp only [j_ref]
    refine sp_J4_length hl s9 ?_
    exact ⟨trivial, H0 i hi rfl h9 s9⟩
  refine ⟨px_s (PS_x p8), ?_⟩
  rw [px_2 (PS_x p8)]
  dsimp only [j_ref]
  refine ⟨LQ_sh q8, ?_⟩
  rw [LQ_R2 q8]
  dsimp only [j_ref]
  refine lp_get hl q8 (f := i) (by omega) (k := 3) (by omega) ?_
  show j_cond .ne (lP (vC V).1 i 3) 0 _ _
  dsimp only [j_cond]
  by_cases e0 : lP (vC V).1 i 3 = 0
  · rw [if_pos e0]
    refine ⟨px_s (PS_x p8), ?_⟩
    rw [px_6 (PS_x p8)]
    dsimp only [j_ref]
    refine sp_J4_appendS hl s8 (v := wd "queued") (fun g1 fg => KS_at (hP g1 fg).2.1 28 rfl (by decide)) (by simp only [List.length_append, List.length_cons, List.length_nil, l1, l2, l3, l4, l5]; omega) (fun h9 s9 => ?_)
    refine fin _ h9 ?_
    rw [show cTxS (vC V).1 i = wd "queued" from if_pos e0]
    exact s9
  · rw [if_neg e0]
    refine b_X8_format_112 hG ?_
    dsimp only [q_X8_format_112, j_wp, j_opB, j_opA, j_nth, j_i1, j_i2, j_l1, j_l2, j_li, j_f1, j_f2, j_d1, j_d2, j_r1, j_ai, j_aii, j_ail, j_aid, j_air, j_st1, j_st2, j_stu, j_kl, j_cond, j_args, j_out, j_few, j_cw, j_nat, j_pad, j_exp, Nat.reduceAdd]
    by_cases e1 : lP (vC V).1 i 3 = 1
    · rw [if_pos e1]
      refine ⟨px_s (PS_x p8), ?_⟩
      rw [px_6 (PS_x p8)]
      dsimp only [j_ref]
      refine sp_J4_appendS hl s8 (v := wd "flying") (fun g1 fg => KS_at (hP g1 fg).2.1 29 rfl (by decide)) (by simp only [List.length_append, List.length_cons, List.length_nil, l1, l2, l3, l4, l5]; omega) (fun h9 s9 => ?_)
      refine fin _ h9 ?_
      rw [show cTxS (vC V).1 i = wd "flying" by unfold cTxS; rw [if_neg e0, if_pos e1]]
      exact s9
    · rw [if_neg e1]
      refine b_X8_format_130 hG ?_
      dsimp only [q_X8_format_130, j_wp, j_opB, j_opA, j_nth, j_i1, j_i2, j_l1, j_l2, j_li, j_f1, j_f2, j_d1, j_d2, j_r1, j_ai, j_aii, j_ail, j_aid, j_air, j_st1, j_st2, j_stu, j_kl, j_cond, j_args, j_out, j_few, j_cw, j_nat, j_pad, j_exp, Nat.reduceAdd]
      by_cases e3 : lP (vC V).1 i 3 = 3
      · rw [if_pos e3]
        refine ⟨px_s (PS_x p8), ?_⟩
        rw [px_6 (PS_x p8)]
        dsimp only [j_ref]
        refine sp_J4_appendS hl s8 (v := wd "dropped") (fun g1 fg => KS_at (hP g1 fg).2.1 30 rfl (by decide)) (by simp only [List.length_append, List.length_cons, List.length_nil, l1, l2, l3, l4, l5]; omega) (fun h9 s9 => ?_)
        refine fin _ h9 ?_
        rw [show cTxS (vC V).1 i = wd "dropped" by unfold cTxS; rw [if_neg e0, if_neg e1, if_pos e3]]
        exact s9
      · rw [if_neg e3]
        refine b_X8_format_148 hG ?_
        dsimp only [q_X8_format_148, j_wp, j_opB, j_opA, j_nth, j_i1, j_i2, j_l1, j_l2, j_li, j_f1, j_f2, j_d1, j_d2, j_r1, j_ai, j_aii, j_ail, j_aid, j_air, j_st1, j_st2, j_stu, j_kl, j_cond, j_args, j_out, j_few, j_cw, j_nat, j_pad, j_exp, Nat.reduceAdd]
        refine ⟨px_s (PS_x p8), ?_⟩
        rw [px_6 (PS_x p8)]
        dsimp only [j_ref]
        refine sp_J4_appendS hl s8 (v := wd "at ") (fun g1 fg => KS_at (hP g1 fg).2.1 31 rfl (by decide)) (by simp only [List.length_append, List.length_cons, List.length_nil, l1, l2, l3, l4, l5]; omega) (fun h9 s9 => ?_)
        obtain ⟨p9, k9, t9⟩ := hP h9 (SX_fg s9)
        have q9 := PS_q p9 (SX_bd s9)
        have ec := ecc e0 e1 e3
        have tc : tn (nI cc) = cc := nI_clamp (by omega)
        refine ⟨px_s (PS_x p9), ?_⟩
        rw [px_2 (PS_x p9)]
        dsimp only [j_ref]
        refine ⟨LQ_sh q9, ?_⟩
        rw [LQ_R2 q9]
        dsimp only [j_ref]
        refine lp_get hl q9 (f := i) (by omega) (k := 5) (by omega) ?_
        show j_Met l D bs E _ _ [.ref (x + 49), .int (lP (vC V).1 i 5)] h9 _
        rw [ec]
        refine sp_J4_appendI hl s9 t9 (k := 6) (v := cc) (by decide) (by omega) (by simp only [List.length_append, List.length_cons, List.length_nil, l1, l2, l3, l4, l5]; omega) (fun h10 s10 => ?_)
        refine fin _ h10 ?_
        rw [show cTxS (vC V).1 i = wd "at " ++ decF 6 cc by unfold cTxS; rw [if_neg e0, if_neg e1, if_neg e3, ec, tc], ← List.append_assoc]
        exact s10
end CFo
