/-! ===== printed: the law's cases ===== -/
section LCaa
variable {l : Launch} {D : va_G} {bs : Nat} {E : j_E} {h : j_H} {d n x sc Ls : Nat} {xs : Nat → Int32} {G : j_G}
theorem ca_feed (hl : l.stackTraces = false) (hG : j_clo (j_Met l D bs E (d + 61)) E lpost m_L_law G) (hS : j_clS l D bs E (d + 61) s_L_law G) (hL : Ls ≤ 3072) (j : JJ E bs x sc Ls xs (n + 1) h) {i : Nat} (hi : i + 6 ≤ Ls) {u v w : Value} (bk : ∀ u v w h', JJ E bs x sc Ls xs n h' → G 1819 [.ref sc, .ref x, .ref (x + 51), .ref (x + 67), .ref (x + 68), .int (nI i), u, v, w] [] h') : G 204 [.ref sc, .ref x, .ref (x + 51), .ref (x + 67), .ref (x + 68), .int (nI i), u, v, w] [] h := by
  have c1 : Int32.toNatClampNeg (nI i + 1) = i + 1 := ck_at (k := 1) (by omega)
  have v1 : vp_in (nI i + 1) Ls := vk_at (k := 1) (by omega) (by omega)
  have c2 : Int32.toNatClampNeg (nI i + 2) = i + 2 := ck_at (k := 2) (by omega)
  have v2 : vp_in (nI i + 2) Ls := vk_at (k := 2) (by omega) (by omega)
  have c3 : Int32.toNatClampNeg (nI i + 3) = i + 3 := ck_at (k := 3) (by omega)
  have v3 : vp_in (nI i + 3) Ls := vk_at (k := 3) (by omega) (by omega)
  have c4 : Int32.toNatClampNeg (nI i + 4) = i + 4 := ck_at (k := 4) (by omega)
  have v4 : vp_in (nI i + 4) Ls := vk_at (k := 4) (by omega) (by omega)
  have c5 : Int32.toNatClampNeg (nI i + 5) = i + 5 := ck_at (k := 5) (by omega)
  have v5 : vp_in (nI i + 5) Ls := vk_at (k := 5) (by omega) (by omega)
  have co := jj_co j
  have sq := co_sh co
  have a1q : j_I h sc (i + 1) = xs (i + 1) := co_at co (by omega)
  have a2q : j_I h sc (i + 2) = xs (i + 2) := co_at co (by omega)
  have a3q : j_I h sc (i + 3) = xs (i + 3) := co_at co (by omega)
  have a4q : j_I h sc (i + 4) = xs (i + 4) := co_at co (by omega)
  have a5q : j_I h sc (i + 5) = xs (i + 5) := co_at co (by omega)
  refine b_L_law_204 hG ?_
  dsimp only [q_L_law_204, j_wp, j_opB, j_opA, j_nth, j_i1, j_i2, j_l1, j_l2, j_li, j_f1, j_f2, j_d1, j_d2, j_r1, j_ai, j_aii, j_ail, j_aid, j_air, j_st1, j_st2, j_stu, j_kl, j_cond, j_args, j_out, j_few, j_cw, j_nat, j_pad, j_exp, Nat.reduceAdd]
  simp only [sq, j_ari, c1, v1, a1q, c2, v2, a2q, c3, v3, a3q, c4, v4, a4q, c5, v5, a5q, true_and]
  refine op_feed hl j (fun a h1 an => ?_)
  dsimp only [j_oi, j_ol, j_of, j_od, j_or, j_ov]
  have co1 := an.2.1.2
  have sr := co_sh co1
  have a1r : j_I h1 sc (i + 1) = xs (i + 1) := co_at co1 (by omega)
  have a2r : j_I h1 sc (i + 2) = xs (i + 2) := co_at co1 (by omega)
  have a3r : j_I h1 sc (i + 3) = xs (i + 3) := co_at co1 (by omega)
  have a4r : j_I h1 sc (i + 4) = xs (i + 4) := co_at co1 (by omega)
  have a5r : j_I h1 sc (i + 5) = xs (i + 5) := co_at co1 (by omega)
  simp only [sr, j_ari, c1, v1, a1r, c2, v2, a2r, c3, v3, a3r, c4, v4, a4r, c5, v5, a5r, true_and]
  refine an_use an (fun b h3 hb _ jj _ _ => ?_)
  subst hb
  dsimp only [j_oi, j_ol, j_of, j_od, j_or, j_ov]
  rw [if_pos rfl]
  exact bk _ _ _ _ jj
theorem ca_load (hl : l.stackTraces = false) (hG : j_clo (j_Met l D bs E (d + 61)) E lpost m_L_law G) (hS : j_clS l D bs E (d + 61) s_L_law G) (hL : Ls ≤ 3072) (j : JJ E bs x sc Ls xs (n + 1) h) {i : Nat} (hi : i + 6 ≤ Ls) {u v w : Value} (bk : ∀ u v w h', JJ E bs x sc Ls xs n h' → G 1819 [.ref sc, .ref x, .ref (x + 51), .ref (x + 67), .ref (x + 68), .int (nI i), u, v, w] [] h') : G 277 [.ref sc, .ref x, .ref (x + 51), .ref (x + 67), .ref (x + 68), .int (nI i), u, v, w] [] h := by
  have c1 : Int32.toNatClampNeg (nI i + 1) = i + 1 := ck_at (k := 1) (by omega)
  have v1 : vp_in (nI i + 1) Ls := vk_at (k := 1) (by omega) (by omega)
  have co := jj_co j
  have sq := co_sh co
  have a1q : j_I h sc (i + 1) = xs (i + 1) := co_at co (by omega)
  refine b_L_law_277 hG ?_
  dsimp only [q_L_law_277, j_wp, j_opB, j_opA, j_nth, j_i1, j_i2, j_l1, j_l2, j_li, j_f1, j_f2, j_d1, j_d2, j_r1, j_ai, j_aii, j_ail, j_aid, j_air, j_st1, j_st2, j_stu, j_kl, j_cond, j_args, j_out, j_few, j_cw, j_nat, j_pad, j_exp, Nat.reduceAdd]
  simp only [sq, j_ari, c1, v1, a1q, true_and]
  refine hS (285, 91, 3, i_L_load) (List.mem_of_getElem? (i := 0) rfl) _ [.ref x, .int (xs (i + 1)), .ref (x + 67)] [] h rfl rfl ?_
  refine sp_L_load hl j (fun o h1 wp => ?_)
  rcases wp with ⟨vv, hR, hT, rfl, an⟩ | ⟨c, hc, rfl, an⟩
  · obtain ⟨a, rfl, ha⟩ := hR
    show G 288 _ [.int 0] h1
    refine b_L_law_288 hG ?_
    dsimp only [q_L_law_288, j_wp, j_opB, j_opA, j_nth, j_i1, j_i2, j_l1, j_l2, j_li, j_f1, j_f2, j_d1, j_d2, j_r1, j_ai, j_aii, j_ail, j_aid, j_air, j_st1, j_st2, j_stu, j_kl, j_cond, j_args, j_out, j_few, j_cw, j_nat, j_pad, j_exp, Nat.reduceAdd]
    have co1 := an.2.1.2
    have sr := co_sh co1
    have a1r : j_I h1 sc (i + 1) = xs (i + 1) := co_at co1 (by omega)
    simp only [sr, j_ari, c1, v1, a1r, true_and]
    refine an_useU an (fun b h3 hb e10 jj s7 s8 => ?_)
    subst hb
    dsimp only [j_oi, j_ol, j_of, j_od, j_or, j_ov]
    refine jj_thr hl jj e10 ?_
    dsimp only [j_oi, j_ol, j_of, j_od, j_or, j_ov]
    rw [if_pos rfl]
    refine b_L_law_313 hG ?_
    dsimp only [q_L_law_313, j_wp, j_opB, j_opA, j_nth, j_i1, j_i2, j_l1, j_l2, j_li, j_f1, j_f2, j_d1, j_d2, j_r1, j_ai, j_aii, j_ail, j_aid, j_air, j_st1, j_st2, j_stu, j_kl, j_cond, j_args, j_out, j_few, j_cw, j_nat, j_pad, j_exp, Nat.reduceAdd]
    rw [if_pos rfl]
    rw [(jj_out jj).1]
    refine ⟨rfl, v_01, ?_⟩
    rw [e_00, s7.2.2.2.2 0, ha, if_pos (lg_self _)]
    refine b_L_law_330 hG ?_
    dsimp only [q_L_law_330, j_wp, j_opB, j_opA, j_nth, j_i1, j_i2, j_l1, j_l2, j_li, j_f1, j_f2, j_d1, j_d2, j_r1, j_ai, j_aii, j_ail, j_aid, j_air, j_st1, j_st2, j_stu, j_kl, j_cond, j_args, j_out, j_few, j_cw, j_nat, j_pad, j_exp, Nat.reduceAdd]
    exact bk _ _ _ _ jj
  · show G 288 _ [.int c] h1
    refine b_L_law_288 hG ?_
    dsimp only [q_L_law_288, j_wp, j_opB, j_opA, j_nth, j_i1, j_i2, j_l1, j_l2, j_li, j_f1, j_f2, j_d1, j_d2, j_r1, j_ai, j_aii, j_ail, j_aid, j_air, j_st1, j_st2, j_stu, j_kl, j_cond, j_args, j_out, j_few, j_cw, j_nat, j_pad, j_exp, Nat.reduceAdd]
    have co1 := an.2.1.2
    have sr := co_sh co1
    have a1r : j_I h1 sc (i + 1) = xs (i + 1) := co_at co1 (by omega)
    simp only [sr, j_ari, c1, v1, a1r, true_and]
    refine an_useU an (fun b h3 hb e10 jj s7 s8 => ?_)
    obtain ⟨z, rfl⟩ := hb
    dsimp only [j_oi, j_ol, j_of, j_od, j_or, j_ov]
    refine jj_thr hl jj e10 ?_
    dsimp only [j_oi, j_ol, j_of, j_od, j_or, j_ov]
    rw [if_pos rfl]
    refine b_L_law_313 hG ?_
    dsimp only [q_L_law_313, j_wp, j_opB, j_opA, j_nth, j_i1, j_i2, j_l1, j_l2, j_li, j_f1, j_f2, j_d1, j_d2, j_r1, j_ai, j_aii, j_ail, j_aid, j_air, j_st1, j_st2, j_stu, j_kl, j_cond, j_args, j_out, j_few, j_cw, j_nat, j_pad, j_exp, Nat.reduceAdd]
    rw [if_neg hc]
    refine b_L_law_330 hG ?_
    dsimp only [q_L_law_330, j_wp, j_opB, j_opA, j_nth, j_i1, j_i2, j_l1, j_l2, j_li, j_f1, j_f2, j_d1, j_d2, j_r1, j_ai, j_aii, j_ail, j_aid, j_air, j_st1, j_st2, j_stu, j_kl, j_cond, j_args, j_out, j_few, j_cw, j_nat, j_pad, j_exp, Nat.reduceAdd]
    exact bk _ _ _ _ jj
theorem ca_errorPosition (hl : l.stackTraces = false) (hG : j_clo (j_Met l D bs E (d + 61)) E lpost m_L_law G) (hS : j_clS l D bs E (d + 61) s_L_law G) (hL : Ls ≤ 3072) (j : JJ E bs x sc Ls xs (n + 1) h) {i : Nat} (hi : i + 6 ≤ Ls) {u v w : Value} (bk : ∀ u v w h', JJ E bs x sc Ls xs n h' → G 1819 [.ref sc, .ref x, .ref (x + 51), .ref (x + 67), .ref (x + 68), .int (nI i), u, v, w] [] h') : G 333 [.ref sc, .ref x, .ref (x + 51), .ref (x + 67), .ref (x + 68), .int (nI i), u, v, w] [] h := by
  refine b_L_law_333 hG ?_
  dsimp only [q_L_law_333, j_wp, j_opB, j_opA, j_nth, j_i1, j_i2, j_l1, j_l2, j_li, j_f1, j_f2, j_d1, j_d2, j_r1, j_ai, j_aii, j_ail, j_aid, j_air, j_st1, j_st2, j_stu, j_kl, j_cond, j_args, j_out, j_few, j_cw, j_nat, j_pad, j_exp, Nat.reduceAdd]
  refine op_errorPosition hl j (fun a h1 an => ?_)
  dsimp only [j_oi, j_ol, j_of, j_od, j_or, j_ov]
  refine an_use an (fun b h3 hb _ jj _ _ => ?_)
  subst hb
  dsimp only [j_oi, j_ol, j_of, j_od, j_or, j_ov]
  rw [if_pos rfl]
  exact bk _ _ _ _ jj
theorem ca_flowCount (hl : l.stackTraces = false) (hG : j_clo (j_Met l D bs E (d + 61)) E lpost m_L_law G) (hS : j_clS l D bs E (d + 61) s_L_law G) (hL : Ls ≤ 3072) (j : JJ E bs x sc Ls xs (n + 1) h) {i : Nat} (hi : i + 6 ≤ Ls) {u v w : Value} (bk : ∀ u v w h', JJ E bs x sc Ls xs n h' → G 1819 [.ref sc, .ref x, .ref (x + 51), .ref (x + 67), .ref (x + 68), .int (nI i), u, v, w] [] h') : G 346 [.ref sc, .ref x, .ref (x + 51), .ref (x + 67), .ref (x + 68), .int (nI i), u, v, w] [] h := by
  refine b_L_law_346 hG ?_
  dsimp only [q_L_law_346, j_wp, j_opB, j_opA, j_nth, j_i1, j_i2, j_l1, j_l2, j_li, j_f1, j_f2, j_d1, j_d2, j_r1, j_ai, j_aii, j_ail, j_aid, j_air, j_st1, j_st2, j_stu, j_kl, j_cond, j_args, j_out, j_few, j_cw, j_nat, j_pad, j_exp, Nat.reduceAdd]
  refine op_flowCount hl j (fun a h1 an => ?_)
  dsimp only [j_oi, j_ol, j_of, j_od, j_or, j_ov]
  refine an_use an (fun b h3 hb _ jj _ _ => ?_)
  subst hb
  dsimp only [j_oi, j_ol, j_of, j_od, j_or, j_ov]
  rw [if_pos rfl]
  exact bk _ _ _ _ jj
theorem ca_ruleCount (hl : l.stackTraces = false) (hG : j_clo (j_Met l D bs E (d + 61)) E lpost m_L_law G) (hS : j_clS l D bs E (d + 61) s_L_law G) (hL : Ls ≤ 3072) (j : JJ E bs x sc Ls xs (n + 1) h) {i : Nat} (hi : i + 6 ≤ Ls) {u v w : Value} (bk : ∀ u v w h', JJ E bs x sc Ls xs n h' → G 1819 [.ref sc, .ref x, .ref (x + 51), .ref (x + 67), .ref (x + 68), .int (nI i), u, v, w] [] h') : G 359 [.ref sc, .ref x, .ref (x + 51), .ref (x + 67), .ref (x + 68), .int (nI i), u, v, w] [] h := by
  refine b_L_law_359 hG ?_
  dsimp only [q_L_law_359, j_wp, j_opB, j_opA, j_nth, j_i1, j_i2, j_l1, j_l2, j_li, j_f1, j_f2, j_d1, j_d2, j_r1, j_ai, j_aii, j_ail, j_aid, j_air, j_st1, j_st2, j_stu, j_kl, j_cond, j_args, j_out, j_few, j_cw, j_nat, j_pad, j_exp, Nat.reduceAdd]
  refine op_ruleCount hl j (fun a h1 an => ?_)
  dsimp only [j_oi, j_ol, j_of, j_od, j_or, j_ov]
  refine an_use an (fun b h3 hb _ jj _ _ => ?_)
  subst hb
  dsimp only [j_oi, j_ol, j_of, j_od, j_or, j_ov]
  rw [if_pos rfl]
  exact bk _ _ _ _ jj
theorem ca_packetCount (hl : l.stackTraces = false) (hG : j_clo (j_Met l D bs E (d + 61)) E lpost m_L_law G) (hS : j_clS l D bs E (d + 61) s_L_law G) (hL : Ls ≤ 3072) (j : JJ E bs x sc Ls xs (n + 1) h) {i : Nat} (hi : i + 6 ≤ Ls) {u v w : Value} (bk : ∀ u v w h', JJ E bs x sc Ls xs n h' → G 1819 [.ref sc, .ref x, .ref (x + 51), .ref (x + 67), .ref (x + 68), .int (nI i), u, v, w] [] h') : G 372 [.ref sc, .ref x, .ref (x + 51), .ref (x + 67), .ref (x + 68), .int (nI i), u, v, w] [] h := by
  refine b_L_law_372 hG ?_
  dsimp only [q_L_law_372, j_wp, j_opB, j_opA, j_nth, j_i1, j_i2, j_l1, j_l2, j_li, j_f1, j_f2, j_d1, j_d2, j_r1, j_ai, j_aii, j_ail, j_aid, j_air, j_st1, j_st2, j_stu, j_kl, j_cond, j_args, j_out, j_few, j_cw, j_nat, j_pad, j_exp, Nat.reduceAdd]
  refine op_packetCount hl j (fun a h1 an => ?_)
  dsimp only [j_oi, j_ol, j_of, j_od, j_or, j_ov]
  refine an_use an (fun b h3 hb _ jj _ _ => ?_)
  subst hb
  dsimp only [j_oi, j_ol, j_of, j_od, j_or, j_ov]
  rw [if_pos rfl]
  exact bk _ _ _ _ jj
theorem ca_transmissionCount (hl : l.stackTraces = false) (hG : j_clo (j_Met l D bs E (d + 61)) E lpost m_L_law G) (hS : j_clS l D bs E (d + 61) s_L_law G) (hL : Ls ≤ 3072) (j : JJ E bs x sc Ls xs (n + 1) h) {i : Nat} (hi : i + 6 ≤ Ls) {u v w : Value} (bk : ∀ u v w h', JJ E bs x sc Ls xs n h' → G 1819 [.ref sc, .ref x, .ref (x + 51), .ref (x + 67), .ref (x + 68), .int (nI i), u, v, w] [] h') : G 385 [.ref sc, .ref x, .ref (x + 51), .ref (x + 67), .ref (x + 68), .int (nI i), u, v, w] [] h := by
  refine b_L_law_385 hG ?_
  dsimp only [q_L_law_385, j_wp, j_opB, j_opA, j_nth, j_i1, j_i2, j_l1, j_l2, j_li, j_f1, j_f2, j_d1, j_d2, j_r1, j_ai, j_aii, j_ail, j_aid, j_air, j_st1, j_st2, j_stu, j_kl, j_cond, j_args, j_out, j_few, j_cw, j_nat, j_pad, j_exp, Nat.reduceAdd]
  refine op_transmissionCount hl j (fun a h1 an => ?_)
  dsimp only [j_oi, j_ol, j_of, j_od, j_or, j_ov]
  refine an_use an (fun b h3 hb _ jj _ _ => ?_)
  subst hb
  dsimp only [j_oi, j_ol, j_of, j_od, j_or, j_ov]
  rw [if_pos rfl]
  exact bk _ _ _ _ jj
theorem ca_clock (hl : l.stackTraces = false) (hG : j_clo (j_Met l D bs E (d + 61)) E lpost m_L_law G) (hS : j_clS l D bs E (d + 61) s_L_law G) (hL : Ls ≤ 3072) (j : JJ E bs x sc Ls xs (n + 1) h) {i : Nat} (hi : i + 6 ≤ Ls) {u v w : Value} (bk : ∀ u v w h', JJ E bs x sc Ls xs n h' → G 1819 [.ref sc, .ref x, .ref (x + 51), .ref (x + 67), .ref (x + 68), .int (nI i), u, v, w] [] h') : G 398 [.ref sc, .ref x, .ref (x + 51), .ref (x + 67), .ref (x + 68), .int (nI i), u, v, w] [] h := by
  refine b_L_law_398 hG ?_
  dsimp only [q_L_law_398, j_wp, j_opB, j_opA, j_nth, j_i1, j_i2, j_l1, j_l2, j_li, j_f1, j_f2, j_d1, j_d2, j_r1, j_ai, j_aii, j_ail, j_aid, j_air, j_st1, j_st2, j_stu, j_kl, j_cond, j_args, j_out, j_few, j_cw, j_nat, j_pad, j_exp, Nat.reduceAdd]
  refine op_clock hl j (fun a h1 an => ?_)
  dsimp only [j_oi, j_ol, j_of, j_od, j_or, j_ov]
  refine an_use an (fun b h3 hb _ jj _ _ => ?_)
  subst hb
  dsimp only [j_oi, j_ol, j_of, j_od, j_or, j_ov]
  rw [if_pos rfl]
  exact bk _ _ _ _ jj
theorem ca_credit (hl : l.stackTraces = false) (hG : j_clo (j_Met l D bs E (d + 61)) E lpost m_L_law G) (hS : j_clS l D bs E (d + 61) s_L_law G) (hL : Ls ≤ 3072) (j : JJ E bs x sc Ls xs (n + 1) h) {i : Nat} (hi : i + 6 ≤ Ls) {u v w : Value} (bk : ∀ u v w h', JJ E bs x sc Ls xs n h' → G 1819 [.ref sc, .ref x, .ref (x + 51), .ref (x + 67), .ref (x + 68), .int (nI i), u, v, w] [] h') : G 411 [.ref sc, .ref x, .ref (x + 51), .ref (x + 67), .ref (x + 68), .int (nI i), u, v, w] [] h := by
  refine b_L_law_411 hG ?_
  dsimp only [q_L_law_411, j_wp, j_opB, j_opA, j_nth, j_i1, j_i2, j_l1, j_l2, j_li, j_f1, j_f2, j_d1, j_d2, j_r1, j_ai, j_aii, j_ail, j_aid, j_air, j_st1, j_st2, j_stu, j_kl, j_cond, j_args, j_out, j_few, j_cw, j_nat, j_pad, j_exp, Nat.reduceAdd]
  refine op_credit hl j (fun a h1 an => ?_)
  dsimp only [j_oi, j_ol, j_of, j_od, j_or, j_ov]
  refine an_use an (fun b h3 hb _ jj _ _ => ?_)
  subst hb
  dsimp only [j_oi, j_ol, j_of, j_od, j_or, j_ov]
  rw [if_pos rfl]
  exact bk _ _ _ _ jj
theorem ca_classify (hl : l.stackTraces = false) (hG : j_clo (j_Met l D bs E (d + 61)) E lpost m_L_law G) (hS : j_clS l D bs E (d + 61) s_L_law G) (hL : Ls ≤ 3072) (j : JJ E bs x sc Ls xs (n + 1) h) {i : Nat} (hi : i + 6 ≤ Ls) {u v w : Value} (bk : ∀ u v w h', JJ E bs x sc Ls xs n h' → G 1819 [.ref sc, .ref x, .ref (x + 51), .ref (x + 67), .ref (x + 68), .int (nI i), u, v, w] [] h') : G 424 [.ref sc, .ref x, .ref (x + 51), .ref (x + 67), .ref (x + 68), .int (nI i), u, v, w] [] h := by
  have c1 : Int32.toNatClampNeg (nI i + 1) = i + 1 := ck_at (k := 1) (by omega)
  have v1 : vp_in (nI i + 1) Ls := vk_at (k := 1) (by omega) (by omega)
  have c2 : Int32.toNatClampNeg (nI i + 2) = i + 2 := ck_at (k := 2) (by omega)
  have v2 : vp_in (nI i + 2) Ls := vk_at (k := 2) (by omega) (by omega)
  have c3 : Int32.toNatClampNeg (nI i + 3) = i + 3 := ck_at (k := 3) (by omega)
  have v3 : vp_in (nI i + 3) Ls := vk_at (k := 3) (by omega) (by omega)
  have co := jj_co j
  have sq := co_sh co
  have a1q : j_I h sc (i + 1) = xs (i + 1) := co_at co (by omega)
  have a2q : j_I h sc (i + 2) = xs (i + 2) := co_at co (by omega)
  have a3q : j_I h sc (i + 3) = xs (i + 3) := co_at co (by omega)
  refine b_L_law_424 hG ?_
  dsimp only [q_L_law_424, j_wp, j_opB, j_opA, j_nth, j_i1, j_i2, j_l1, j_l2, j_li, j_f1, j_f2, j_d1, j_d2, j_r1, j_ai, j_aii, j_ail, j_aid, j_air, j_st1, j_st2, j_stu, j_kl, j_cond, j_args, j_out, j_few, j_cw, j_nat, j_pad, j_exp, Nat.reduceAdd]
  simp only [sq, j_ari, c1, v1, a1q, c2, v2, a2q, c3, v3, a3q, true_and]
  refine hS (444, 129, 5, i_L_classify) (List.mem_of_getElem? (i := 1) rfl) _ [.ref x, .int (xs (i + 1)), .int (xs (i + 2)), .int (xs (i + 3)), .ref (x + 67)] [] h rfl rfl ?_
  refine sp_L_classify hl j (fun o h1 wp => ?_)
  rcases wp with ⟨vv, hR, hT, rfl, an⟩ | ⟨c, hc, rfl, an⟩
  · obtain ⟨a, rfl, ha⟩ := hR
    show G 447 _ [.int 0] h1
    refine b_L_law_447 hG ?_
    dsimp only [q_L_law_447, j_wp, j_opB, j_opA, j_nth, j_i1, j_i2, j_l1, j_l2, j_li, j_f1, j_f2, j_d1, j_d2, j_r1, j_ai, j_aii, j_ail, j_aid, j_air, j_st1, j_st2, j_stu, j_kl, j_cond, j_args, j_out, j_few, j_cw, j_nat, j_pad, j_exp, Nat.reduceAdd]
    have co1 := an.2.1.2
    have sr := co_sh co1
    have a1r : j_I h1 sc (i + 1) = xs (i + 1) := co_at co1 (by omega)
    have a2r : j_I h1 sc (i + 2) = xs (i + 2) := co_at co1 (by omega)
    have a3r : j_I h1 sc (i + 3) = xs (i + 3) := co_at co1 (by omega)
    simp only [sr, j_ari, c1, v1, a1r, c2, v2, a2r, c3, v3, a3r, true_and]
    refine an_useU an (fun b h3 hb e10 jj s7 s8 => ?_)
    subst hb
    dsimp only [j_oi, j_ol, j_of, j_od, j_or, j_ov]
    refine jj_thr hl jj e10 ?_
    dsimp only [j_oi, j_ol, j_of, j_od, j_or, j_ov]
    rw [if_pos rfl]
    refine b_L_law_484 hG ?_
    dsimp only [q_L_law_484, j_wp, j_opB, j_opA, j_nth, j_i1, j_i2, j_l1, j_l2, j_li, j_f1, j_f2, j_d1, j_d2, j_r1, j_ai, j_aii, j_ail, j_aid, j_air, j_st1, j_st2, j_stu, j_kl, j_cond, j_args, j_out, j_few, j_cw, j_nat, j_pad, j_exp, Nat.reduceAdd]
    rw [if_pos rfl]
    rw [(jj_out jj).1]
    refine ⟨rfl, v_01, ?_⟩
    rw [e_00, s7.2.2.2.2 0, ha, if_pos (lg_self _)]
    refine b_L_law_501 hG ?_
    dsimp only [q_L_law_501, j_wp, j_opB, j_opA, j_nth, j_i1, j_i2, j_l1, j_l2, j_li, j_f1, j_f2, j_d1, j_d2, j_r1, j_ai, j_aii, j_ail, j_aid, j_air, j_st1, j_st2, j_stu, j_kl, j_cond, j_args, j_out, j_few, j_cw, j_nat, j_pad, j_exp, Nat.reduceAdd]
    exact bk _ _ _ _ jj
  · show G 447 _ [.int c] h1
    refine b_L_law_447 hG ?_
    dsimp only [q_L_law_447, j_wp, j_opB, j_opA, j_nth, j_i1, j_i2, j_l1, j_l2, j_li, j_f1, j_f2, j_d1, j_d2, j_r1, j_ai, j_aii, j_ail, j_aid, j_air, j_st1, j_st2, j_stu, j_kl, j_cond, j_args, j_out, j_few, j_cw, j_nat, j_pad, j_exp, Nat.reduceAdd]
    have co1 := an.2.1.2
    have sr := co_sh co1
    have a1r : j_I h1 sc (i + 1) = xs (i + 1) := co_at co1 (by omega)
    have a2r : j_I h1 sc (i + 2) = xs (i + 2) := co_at co1 (by omega)
    have a3r : j_I h1 sc (i + 3) = xs (i + 3) := co_at co1 (by omega)
    simp only [sr, j_ari, c1, v1, a1r, c2, v2, a2r, c3, v3, a3r, true_and]
    refine an_useU an (fun b h3 hb e10 jj s7 s8 => ?_)
    obtain ⟨z, rfl⟩ := hb
    dsimp only [j_oi, j_ol, j_of, j_od, j_or, j_ov]
    refine jj_thr hl jj e10 ?_
    dsimp only [j_oi, j_ol, j_of, j_od, j_or, j_ov]
    rw [if_pos rfl]
    refine b_L_law_484 hG ?_
    dsimp only [q_L_law_484, j_wp, j_opB, j_opA, j_nth, j_i1, j_i2, j_l1, j_l2, j_li, j_f1, j_f2, j_d1, j_d2, j_r1, j_ai, j_aii, j_ail, j_aid, j_air, j_st1, j_st2, j_stu, j_kl, j_cond, j_args, j_out, j_few, j_cw, j_nat, j_pad, j_exp, Nat.reduceAdd]
    rw [if_neg hc]
    refine b_L_law_501 hG ?_
    dsimp only [q_L_law_501, j_wp, j_opB, j_opA, j_nth, j_i1, j_i2, j_l1, j_l2, j_li, j_f1, j_f2, j_d1, j_d2, j_r1, j_ai, j_aii, j_ail, j_aid, j_air, j_st1, j_st2, j_stu, j_kl, j_cond, j_args, j_out, j_few, j_cw, j_nat, j_pad, j_exp, Nat.reduceAdd]
    exact bk _ _ _ _ jj
theorem ca_flow (hl : l.stackTraces = false) (hG : j_clo (j_Met l D bs E (d + 61)) E lpost m_L_law G) (hS : j_clS l D bs E (d + 61) s_L_law G) (hL : Ls ≤ 3072) (j : JJ E bs x sc Ls xs (n + 1) h) {i : Nat} (hi : i + 6 ≤ Ls) {u v w : Value} (bk : ∀ u v w h', JJ E bs x sc Ls xs n h' → G 1819 [.ref sc, .ref x, .ref (x + 51), .ref (x + 67), .ref (x + 68), .int (nI i), u, v, w] [] h') : G 504 [.ref sc, .ref x, .ref (x + 51), .ref (x + 67), .ref (x + 68), .int (nI i), u, v, w] [] h := by
  have c1 : Int32.toNatClampNeg (nI i + 1) = i + 1 := ck_at (k := 1) (by omega)
  have v1 : vp_in (nI i + 1) Ls := vk_at (k := 1) (by omega) (by omega)
  have c2 : Int32.toNatClampNeg (nI i + 2) = i + 2 := ck_at (k := 2) (by omega)
  have v2 : vp_in (nI i + 2) Ls := vk_at (k := 2) (by omega) (by omega)
  have co := jj_co j
  have sq := co_sh co
  have a1q : j_I h sc (i + 1) = xs (i + 1) := co_at co (by omega)
  have a2q : j_I h sc (i + 2) = xs (i + 2) := co_at co (by omega)
  refine b_L_law_504 hG ?_
  dsimp only [q_L_law_504, j_wp, j_opB, j_opA, j_nth, j_i1, j_i2, j_l1, j_l2, j_li, j_f1, j_f2, j_d1, j_d2, j_r1, j_ai, j_aii, j_ail, j_aid, j_air, j_st1, j_st2, j_stu, j_kl, j_cond, j_args, j_out, j_few, j_cw, j_nat, j_pad, j_exp, Nat.reduceAdd]
  simp only [sq, j_ari, c1, v1, a1q, c2, v2, a2q, true_and]
  refine hS (518, 133, 4, i_L_flow) (List.mem_of_getElem? (i := 2) rfl) _ [.ref x, .int (xs (i + 1)), .int (xs (i + 2)), .ref (x + 67)] [] h rfl rfl ?_
  refine sp_L_flow hl j (fun o h1 wp => ?_)
  rcases wp with ⟨vv, hR, hT, rfl, an⟩ | ⟨c, hc, rfl, an⟩
  · obtain ⟨a, rfl, ha⟩ := hR
    show G 521 _ [.int 0] h1
    refine b_L_law_521 hG ?_
    dsimp only [q_L_law_521, j_wp, j_opB, j_opA, j_nth, j_i1, j_i2, j_l1, j_l2, j_li, j_f1, j_f2, j_d1, j_d2, j_r1, j_ai, j_aii, j_ail, j_aid, j_air, j_st1, j_st2, j_stu, j_kl, j_cond, j_args, j_out, j_few, j_cw, j_nat, j_pad, j_exp, Nat.reduceAdd]
    have co1 := an.2.1.2
    have sr := co_sh co1
    have a1r : j_I h1 sc (i + 1) = xs (i + 1) := co_at co1 (by omega)
    have a2r : j_I h1 sc (i + 2) = xs (i + 2) := co_at co1 (by omega)
    simp only [sr, j_ari, c1, v1, a1r, c2, v2, a2r, true_and]
    refine an_useU an (fun b h3 hb e10 jj s7 s8 => ?_)
    subst hb
    dsimp only [j_oi, j_ol, j_of, j_od, j_or, j_ov]
    refine jj_thr hl jj e10 ?_
    dsimp only [j_oi, j_ol, j_of, j_od, j_or, j_ov]
    rw [if_pos rfl]
    refine b_L_law_552 hG ?_
    dsimp only [q_L_law_552, j_wp, j_opB, j_opA, j_nth, j_i1, j_i2, j_l1, j_l2, j_li, j_f1, j_f2, j_d1, j_d2, j_r1, j_ai, j_aii, j_ail, j_aid, j_air, j_st1, j_st2, j_stu, j_kl, j_cond, j_args, j_out, j_few, j_cw, j_nat, j_pad, j_exp, Nat.reduceAdd]
    rw [if_pos rfl]
    rw [(jj_out jj).1]
    refine ⟨rfl, v_01, ?_⟩
    rw [e_00, s7.2.2.2.2 0, ha, if_pos (lg_self _)]
    refine b_L_law_569 hG ?_
    dsimp only [q_L_law_569, j_wp, j_opB, j_opA, j_nth, j_i1, j_i2, j_l1, j_l2, j_li, j_f1, j_f2, j_d1, j_d2, j_r1, j_ai, j_aii, j_ail, j_aid, j_air, j_st1, j_st2, j_stu, j_kl, j_cond, j_args, j_out, j_few, j_cw, j_nat, j_pad, j_exp, Nat.reduceAdd]
    exact bk _ _ _ _ jj
  · show G 521 _ [.int c] h1
    refine b_L_law_521 hG ?_
    dsimp only [q_L_law_521, j_wp, j_opB, j_opA, j_nth, j_i1, j_i2, j_l1, j_l2, j_li, j_f1, j_f2, j_d1, j_d2, j_r1, j_ai, j_aii, j_ail, j_aid, j_air, j_st1, j_st2, j_stu, j_kl, j_cond, j_args, j_out, j_few, j_cw, j_nat, j_pad, j_exp, Nat.reduceAdd]
    have co1 := an.2.1.2
    have sr := co_sh co1
    have a1r : j_I h1 sc (i + 1) = xs (i + 1) := co_at co1 (by omega)
    have a2r : j_I h1 sc (i + 2) = xs (i + 2) := co_at co1 (by omega)
    simp only [sr, j_ari, c1, v1, a1r, c2, v2, a2r, true_and]
    refine an_useU an (fun b h3 hb e10 jj s7 s8 => ?_)
    obtain ⟨z, rfl⟩ := hb
    dsimp only [j_oi, j_ol, j_of, j_od, j_or, j_ov]
    refine jj_thr hl jj e10 ?_
    dsimp only [j_oi, j_ol, j_of, j_od, j_or, j_ov]
    rw [if_pos rfl]
    refine b_L_law_552 hG ?_
    dsimp only [q_L_law_552, j_wp, j_opB, j_opA, j_nth, j_i1, j_i2, j_l1, j_l2, j_li, j_f1, j_f2, j_d1, j_d2, j_r1, j_ai, j_aii, j_ail, j_aid, j_air, j_st1, j_st2, j_stu, j_kl, j_cond, j_args, j_out, j_few, j_cw, j_nat, j_pad, j_exp, Nat.reduceAdd]
    rw [if_neg hc]
    refine b_L_law_569 hG ?_
    dsimp only [q_L_law_569, j_wp, j_opB, j_opA, j_nth, j_i1, j_i2, j_l1, j_l2, j_li, j_f1, j_f2, j_d1, j_d2, j_r1, j_ai, j_aii, j_ail, j_aid, j_air, j_st1, j_st2, j_stu, j_kl, j_cond, j_args, j_out, j_few, j_cw, j_nat, j_pad, j_exp, Nat.reduceAdd]
    exact bk _ _ _ _ jj
theorem ca_virtualTime (hl : l.stackTraces = false) (hG : j_clo (j_Met l D bs E (d + 61)) E lpost m_L_law G) (hS : j_clS l D bs E (d + 61) s_L_law G) (hL : Ls ≤ 3072) (j : JJ E bs x sc Ls xs (n + 1) h) {i : Nat} (hi : i + 6 ≤ Ls) {u v w : Value} (bk : ∀ u v w h', JJ E bs x sc Ls xs n h' → G 1819 [.ref sc, .ref x, .ref (x + 51), .ref (x + 67), .ref (x + 68), .int (nI i), u, v, w] [] h') : G 572 [.ref sc, .ref x, .ref (x + 51), .ref (x + 67), .ref (x + 68), .int (nI i), u, v, w] [] h := by
  have c1 : Int32.toNatClampNeg (nI i + 1) = i + 1 := ck_at (k := 1) (by omega)
  have v1 : vp_in (nI i + 1) Ls := vk_at (k := 1) (by omega) (by omega)
  have co := jj_co j
  have sq := co_sh co
  have a1q : j_I h sc (i + 1) = xs (i + 1) := co_at co (by omega)
  refine b_L_law_572 hG ?_
  dsimp only [q_L_law_572, j_wp, j_opB, j_opA, j_nth, j_i1, j_i2, j_l1, j_l2, j_li, j_f1, j_f2, j_d1, j_d2, j_r1, j_ai, j_aii, j_ail, j_aid, j_air, j_st1, j_st2, j_stu, j_kl, j_cond, j_args, j_out, j_few, j_cw, j_nat, j_pad, j_exp, Nat.reduceAdd]
  simp only [sq, j_ari, c1, v1, a1q, true_and]
  refine hS (580, 137, 3, i_L_virtualTime) (List.mem_of_getElem? (i := 3) rfl) _ [.ref x, .int (xs (i + 1)), .ref (x + 67)] [] h rfl rfl ?_
  refine sp_L_virtualTime hl j (fun o h1 wp => ?_)
  rcases wp with ⟨vv, hR, hT, rfl, an⟩ | ⟨c, hc, rfl, an⟩
  · obtain ⟨a, rfl, ha⟩ := hR
    show G 583 _ [.int 0] h1
    refine b_L_law_583 hG ?_
    dsimp only [q_L_law_583, j_wp, j_opB, j_opA, j_nth, j_i1, j_i2, j_l1, j_l2, j_li, j_f1, j_f2, j_d1, j_d2, j_r1, j_ai, j_aii, j_ail, j_aid, j_air, j_st1, j_st2, j_stu, j_kl, j_cond, j_args, j_out, j_few, j_cw, j_nat, j_pad, j_exp, Nat.reduceAdd]
    have co1 := an.2.1.2
    have sr := co_sh co1
    have a1r : j_I h1 sc (i + 1) = xs (i + 1) := co_at co1 (by omega)
    simp only [sr, j_ari, c1, v1, a1r, true_and]
    refine an_useU an (fun b h3 hb e10 jj s7 s8 => ?_)
    subst hb
    dsimp only [j_oi, j_ol, j_of, j_od, j_or, j_ov]
    refine jj_thr hl jj e10 ?_
    dsimp only [j_oi, j_ol, j_of, j_od, j_or, j_ov]
    rw [if_pos rfl]
    refine b_L_law_608 hG ?_
    dsimp only [q_L_law_608, j_wp, j_opB, j_opA, j_nth, j_i1, j_i2, j_l1, j_l2, j_li, j_f1, j_f2, j_d1, j_d2, j_r1, j_ai, j_aii, j_ail, j_aid, j_air, j_st1, j_st2, j_stu, j_kl, j_cond, j_args, j_out, j_few, j_cw, j_nat, j_pad, j_exp, Nat.reduceAdd]
    rw [if_pos rfl]
    rw [(jj_out jj).1]
    refine ⟨rfl, v_01, ?_⟩
    rw [e_00, s7.2.2.2.2 0, ha, if_pos (lg_self _)]
    refine b_L_law_624 hG ?_
    dsimp only [q_L_law_624, j_wp, j_opB, j_opA, j_nth, j_i1, j_i2, j_l1, j_l2, j_li, j_f1, j_f2, j_d1, j_d2, j_r1, j_ai, j_aii, j_ail, j_aid, j_air, j_st1, j_st2, j_stu, j_kl, j_cond, j_args, j_out, j_few, j_cw, j_nat, j_pad, j_exp, Nat.reduceAdd]
    exact bk _ _ _ _ jj
  · show G 583 _ [.int c] h1
    refine b_L_law_583 hG ?_
    dsimp only [q_L_law_583, j_wp, j_opB, j_opA, j_nth, j_i1, j_i2, j_l1, j_l2, j_li, j_f1, j_f2, j_d1, j_d2, j_r1, j_ai, j_aii, j_ail, j_aid, j_air, j_st1, j_st2, j_stu, j_kl, j_cond, j_args, j_out, j_few, j_cw, j_nat, j_pad, j_exp, Nat.reduceAdd]
    have co1 := an.2.1.2
    have sr := co_sh co1
    have a1r : j_I h1 sc (i + 1) = xs (i + 1) := co_at co1 (by omega)
    simp only [sr, j_ari, c1, v1, a1r, true_and]
    refine an_useU an (fun b h3 hb e10 jj s7 s8 => ?_)
    obtain ⟨z, rfl⟩ := hb
    dsimp only [j_oi, j_ol, j_of, j_od, j_or, j_ov]
    refine jj_thr hl jj e10 ?_
    dsimp only [j_oi, j_ol, j_of, j_od, j_or, j_ov]
    rw [if_pos rfl]
    refine b_L_law_608 hG ?_
    dsimp only [q_L_law_608, j_wp, j_opB, j_opA, j_nth, j_i1, j_i2, j_l1, j_l2, j_li, j_f1, j_f2, j_d1, j_d2, j_r1, j_ai, j_aii, j_ail, j_aid, j_air, j_st1, j_st2, j_stu, j_kl, j_cond, j_args, j_out, j_few, j_cw, j_nat, j_pad, j_exp, Nat.reduceAdd]
    rw [if_neg hc]
    refine b_L_law_624 hG ?_
    dsimp only [q_L_law_624, j_wp, j_opB, j_opA, j_nth, j_i1, j_i2, j_l1, j_l2, j_li, j_f1, j_f2, j_d1, j_d2, j_r1, j_ai, j_aii, j_ail, j_aid, j_air, j_st1, j_st2, j_stu, j_kl, j_cond, j_args, j_out, j_few, j_cw, j_nat, j_pad, j_exp, Nat.reduceAdd]
    exact bk _ _ _ _ jj
end LCaa
