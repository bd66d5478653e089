/-! ===== printed: the law's cases ===== -/
section LCac
variable {l : Launch} {D : va_G} {bs : Nat} {E : j_E} {h : j_H} {d n x sc Ls : Nat} {xs : Nat → Int32} {G : j_G}
theorem ca_spread (hl : l.stackTraces = false) (hG : j_clo (j_Met l D bs E (d + 61)) E lpost m_L_law G) (hS : j_clS l D bs E (d + 61) s_L_law G) (hL : Ls ≤ 3072) (j : JJ E bs x sc Ls xs (n + 1) h) {i : Nat} (hi : i + 6 ≤ Ls) {u v w : Value} (bk : ∀ u v w h', JJ E bs x sc Ls xs n h' → G 1819 [.ref sc, .ref x, .ref (x + 51), .ref (x + 67), .ref (x + 68), .int (nI i), u, v, w] [] h') : G 1327 [.ref sc, .ref x, .ref (x + 51), .ref (x + 67), .ref (x + 68), .int (nI i), u, v, w] [] h := by
  refine b_L_law_1327 hG ?_
  dsimp only [q_L_law_1327, j_wp, j_opB, j_opA, j_nth, j_i1, j_i2, j_l1, j_l2, j_li, j_f1, j_f2, j_d1, j_d2, j_r1, j_ai, j_aii, j_ail, j_aid, j_air, j_st1, j_st2, j_stu, j_kl, j_cond, j_args, j_out, j_few, j_cw, j_nat, j_pad, j_exp, Nat.reduceAdd]
  refine op_spread hl j (fun a h1 an => ?_)
  dsimp only [j_oi, j_ol, j_of, j_od, j_or, j_ov]
  refine an_use an (fun b h3 hb _ jj _ _ => ?_)
  subst hb
  dsimp only [j_oi, j_ol, j_of, j_od, j_or, j_ov]
  rw [if_pos (lg_self _)]
  exact bk _ _ _ _ jj
theorem ca_share (hl : l.stackTraces = false) (hG : j_clo (j_Met l D bs E (d + 61)) E lpost m_L_law G) (hS : j_clS l D bs E (d + 61) s_L_law G) (hL : Ls ≤ 3072) (j : JJ E bs x sc Ls xs (n + 1) h) {i : Nat} (hi : i + 6 ≤ Ls) {u v w : Value} (bk : ∀ u v w h', JJ E bs x sc Ls xs n h' → G 1819 [.ref sc, .ref x, .ref (x + 51), .ref (x + 67), .ref (x + 68), .int (nI i), u, v, w] [] h') : G 1341 [.ref sc, .ref x, .ref (x + 51), .ref (x + 67), .ref (x + 68), .int (nI i), u, v, w] [] h := by
  have c1 : Int32.toNatClampNeg (nI i + 1) = i + 1 := ck_at (k := 1) (by omega)
  have v1 : vp_in (nI i + 1) Ls := vk_at (k := 1) (by omega) (by omega)
  have co := jj_co j
  have sq := co_sh co
  have a1q : j_I h sc (i + 1) = xs (i + 1) := co_at co (by omega)
  refine b_L_law_1341 hG ?_
  dsimp only [q_L_law_1341, j_wp, j_opB, j_opA, j_nth, j_i1, j_i2, j_l1, j_l2, j_li, j_f1, j_f2, j_d1, j_d2, j_r1, j_ai, j_aii, j_ail, j_aid, j_air, j_st1, j_st2, j_stu, j_kl, j_cond, j_args, j_out, j_few, j_cw, j_nat, j_pad, j_exp, Nat.reduceAdd]
  simp only [sq, j_ari, c1, v1, a1q, true_and]
  refine hS (1350, 184, 3, i_L_share) (List.mem_of_getElem? (i := 14) rfl) _ [.ref x, .int (xs (i + 1)), .ref (x + 68)] [] h rfl rfl ?_
  refine sp_L_share hl j (fun o h1 wp => ?_)
  rcases wp with ⟨vv, hR, hT, rfl, an⟩ | ⟨c, hc, rfl, an⟩
  · obtain ⟨a, rfl, ha⟩ := hR
    show G 1353 _ [.int 0] h1
    refine b_L_law_1353 hG ?_
    dsimp only [q_L_law_1353, j_wp, j_opB, j_opA, j_nth, j_i1, j_i2, j_l1, j_l2, j_li, j_f1, j_f2, j_d1, j_d2, j_r1, j_ai, j_aii, j_ail, j_aid, j_air, j_st1, j_st2, j_stu, j_kl, j_cond, j_args, j_out, j_few, j_cw, j_nat, j_pad, j_exp, Nat.reduceAdd]
    have co1 := an.2.1.2
    have sr := co_sh co1
    have a1r : j_I h1 sc (i + 1) = xs (i + 1) := co_at co1 (by omega)
    simp only [sr, j_ari, c1, v1, a1r, true_and]
    refine an_useU an (fun b h3 hb e10 jj s7 s8 => ?_)
    subst hb
    dsimp only [j_oi, j_ol, j_of, j_od, j_or, j_ov]
    refine jj_thr hl jj e10 ?_
    dsimp only [j_oi, j_ol, j_of, j_od, j_or, j_ov]
    rw [if_pos rfl]
    refine b_L_law_1378 hG ?_
    dsimp only [q_L_law_1378, j_wp, j_opB, j_opA, j_nth, j_i1, j_i2, j_l1, j_l2, j_li, j_f1, j_f2, j_d1, j_d2, j_r1, j_ai, j_aii, j_ail, j_aid, j_air, j_st1, j_st2, j_stu, j_kl, j_cond, j_args, j_out, j_few, j_cw, j_nat, j_pad, j_exp, Nat.reduceAdd]
    rw [if_pos rfl]
    have hD : j_D h3 (x + 68) 0 = a := (s8.2.2.1 0).trans ha
    simp only [(jj_out jj).2, j_arr, v_01, true_and, e_00, hD]
    by_cases g : Op.cmpValue (FP.dcmp a a) .l = 0
    · rw [if_pos g]
      refine b_L_law_1415 hG ?_
      dsimp only [q_L_law_1415, j_wp, j_opB, j_opA, j_nth, j_i1, j_i2, j_l1, j_l2, j_li, j_f1, j_f2, j_d1, j_d2, j_r1, j_ai, j_aii, j_ail, j_aid, j_air, j_st1, j_st2, j_stu, j_kl, j_cond, j_args, j_out, j_few, j_cw, j_nat, j_pad, j_exp, Nat.reduceAdd]
      exact bk _ _ _ _ jj
    · rw [if_neg g, if_neg g, if_neg g]
      refine b_L_law_1415 hG ?_
      dsimp only [q_L_law_1415, j_wp, j_opB, j_opA, j_nth, j_i1, j_i2, j_l1, j_l2, j_li, j_f1, j_f2, j_d1, j_d2, j_r1, j_ai, j_aii, j_ail, j_aid, j_air, j_st1, j_st2, j_stu, j_kl, j_cond, j_args, j_out, j_few, j_cw, j_nat, j_pad, j_exp, Nat.reduceAdd]
      exact bk _ _ _ _ jj
  · show G 1353 _ [.int c] h1
    refine b_L_law_1353 hG ?_
    dsimp only [q_L_law_1353, j_wp, j_opB, j_opA, j_nth, j_i1, j_i2, j_l1, j_l2, j_li, j_f1, j_f2, j_d1, j_d2, j_r1, j_ai, j_aii, j_ail, j_aid, j_air, j_st1, j_st2, j_stu, j_kl, j_cond, j_args, j_out, j_few, j_cw, j_nat, j_pad, j_exp, Nat.reduceAdd]
    have co1 := an.2.1.2
    have sr := co_sh co1
    have a1r : j_I h1 sc (i + 1) = xs (i + 1) := co_at co1 (by omega)
    simp only [sr, j_ari, c1, v1, a1r, true_and]
    refine an_useU an (fun b h3 hb e10 jj s7 s8 => ?_)
    obtain ⟨z, rfl⟩ := hb
    dsimp only [j_oi, j_ol, j_of, j_od, j_or, j_ov]
    refine jj_thr hl jj e10 ?_
    dsimp only [j_oi, j_ol, j_of, j_od, j_or, j_ov]
    rw [if_pos rfl]
    refine b_L_law_1378 hG ?_
    dsimp only [q_L_law_1378, j_wp, j_opB, j_opA, j_nth, j_i1, j_i2, j_l1, j_l2, j_li, j_f1, j_f2, j_d1, j_d2, j_r1, j_ai, j_aii, j_ail, j_aid, j_air, j_st1, j_st2, j_stu, j_kl, j_cond, j_args, j_out, j_few, j_cw, j_nat, j_pad, j_exp, Nat.reduceAdd]
    rw [if_neg hc]
    refine b_L_law_1415 hG ?_
    dsimp only [q_L_law_1415, j_wp, j_opB, j_opA, j_nth, j_i1, j_i2, j_l1, j_l2, j_li, j_f1, j_f2, j_d1, j_d2, j_r1, j_ai, j_aii, j_ail, j_aid, j_air, j_st1, j_st2, j_stu, j_kl, j_cond, j_args, j_out, j_few, j_cw, j_nat, j_pad, j_exp, Nat.reduceAdd]
    exact bk _ _ _ _ jj
theorem ca_meanDelay (hl : l.stackTraces = false) (hG : j_clo (j_Met l D bs E (d + 61)) E lpost m_L_law G) (hS : j_clS l D bs E (d + 61) s_L_law G) (hL : Ls ≤ 3072) (j : JJ E bs x sc Ls xs (n + 1) h) {i : Nat} (hi : i + 6 ≤ Ls) {u v w : Value} (bk : ∀ u v w h', JJ E bs x sc Ls xs n h' → G 1819 [.ref sc, .ref x, .ref (x + 51), .ref (x + 67), .ref (x + 68), .int (nI i), u, v, w] [] h') : G 1418 [.ref sc, .ref x, .ref (x + 51), .ref (x + 67), .ref (x + 68), .int (nI i), u, v, w] [] h := by
  have c1 : Int32.toNatClampNeg (nI i + 1) = i + 1 := ck_at (k := 1) (by omega)
  have v1 : vp_in (nI i + 1) Ls := vk_at (k := 1) (by omega) (by omega)
  have co := jj_co j
  have sq := co_sh co
  have a1q : j_I h sc (i + 1) = xs (i + 1) := co_at co (by omega)
  refine b_L_law_1418 hG ?_
  dsimp only [q_L_law_1418, j_wp, j_opB, j_opA, j_nth, j_i1, j_i2, j_l1, j_l2, j_li, j_f1, j_f2, j_d1, j_d2, j_r1, j_ai, j_aii, j_ail, j_aid, j_air, j_st1, j_st2, j_stu, j_kl, j_cond, j_args, j_out, j_few, j_cw, j_nat, j_pad, j_exp, Nat.reduceAdd]
  simp only [sq, j_ari, c1, v1, a1q, true_and]
  refine hS (1427, 188, 3, i_L_meanDelay) (List.mem_of_getElem? (i := 15) rfl) _ [.ref x, .int (xs (i + 1)), .ref (x + 68)] [] h rfl rfl ?_
  refine sp_L_meanDelay hl j (fun o h1 wp => ?_)
  rcases wp with ⟨vv, hR, hT, rfl, an⟩ | ⟨c, hc, rfl, an⟩
  · obtain ⟨a, rfl, hn, ha⟩ := hR
    show G 1430 _ [.int 0] h1
    refine b_L_law_1430 hG ?_
    dsimp only [q_L_law_1430, j_wp, j_opB, j_opA, j_nth, j_i1, j_i2, j_l1, j_l2, j_li, j_f1, j_f2, j_d1, j_d2, j_r1, j_ai, j_aii, j_ail, j_aid, j_air, j_st1, j_st2, j_stu, j_kl, j_cond, j_args, j_out, j_few, j_cw, j_nat, j_pad, j_exp, Nat.reduceAdd]
    have co1 := an.2.1.2
    have sr := co_sh co1
    have a1r : j_I h1 sc (i + 1) = xs (i + 1) := co_at co1 (by omega)
    simp only [sr, j_ari, c1, v1, a1r, true_and]
    refine an_useU an (fun b h3 hb e10 jj s7 s8 => ?_)
    subst hb
    dsimp only [j_oi, j_ol, j_of, j_od, j_or, j_ov]
    refine jj_thr hl jj e10 ?_
    dsimp only [j_oi, j_ol, j_of, j_od, j_or, j_ov]
    rw [if_pos rfl]
    refine b_L_law_1455 hG ?_
    dsimp only [q_L_law_1455, j_wp, j_opB, j_opA, j_nth, j_i1, j_i2, j_l1, j_l2, j_li, j_f1, j_f2, j_d1, j_d2, j_r1, j_ai, j_aii, j_ail, j_aid, j_air, j_st1, j_st2, j_stu, j_kl, j_cond, j_args, j_out, j_few, j_cw, j_nat, j_pad, j_exp, Nat.reduceAdd]
    rw [if_pos rfl]
    have hD : j_D h3 (x + 68) 0 = FP.f2d a := (s8.2.2.1 0).trans ha
    have nn := f_f2d hn
    simp only [(jj_out jj).2, j_arr, v_01, true_and, e_00, hD, nn, f6_self nn, if_true]
    refine b_L_law_1493 hG ?_
    dsimp only [q_L_law_1493, j_wp, j_opB, j_opA, j_nth, j_i1, j_i2, j_l1, j_l2, j_li, j_f1, j_f2, j_d1, j_d2, j_r1, j_ai, j_aii, j_ail, j_aid, j_air, j_st1, j_st2, j_stu, j_kl, j_cond, j_args, j_out, j_few, j_cw, j_nat, j_pad, j_exp, Nat.reduceAdd]
    exact bk _ _ _ _ jj
  · show G 1430 _ [.int c] h1
    refine b_L_law_1430 hG ?_
    dsimp only [q_L_law_1430, j_wp, j_opB, j_opA, j_nth, j_i1, j_i2, j_l1, j_l2, j_li, j_f1, j_f2, j_d1, j_d2, j_r1, j_ai, j_aii, j_ail, j_aid, j_air, j_st1, j_st2, j_stu, j_kl, j_cond, j_args, j_out, j_few, j_cw, j_nat, j_pad, j_exp, Nat.reduceAdd]
    have co1 := an.2.1.2
    have sr := co_sh co1
    have a1r : j_I h1 sc (i + 1) = xs (i + 1) := co_at co1 (by omega)
    simp only [sr, j_ari, c1, v1, a1r, true_and]
    refine an_useU an (fun b h3 hb e10 jj s7 s8 => ?_)
    obtain ⟨z, rfl⟩ := hb
    dsimp only [j_oi, j_ol, j_of, j_od, j_or, j_ov]
    refine jj_thr hl jj e10 ?_
    dsimp only [j_oi, j_ol, j_of, j_od, j_or, j_ov]
    rw [if_pos rfl]
    refine b_L_law_1455 hG ?_
    dsimp only [q_L_law_1455, j_wp, j_opB, j_opA, j_nth, j_i1, j_i2, j_l1, j_l2, j_li, j_f1, j_f2, j_d1, j_d2, j_r1, j_ai, j_aii, j_ail, j_aid, j_air, j_st1, j_st2, j_stu, j_kl, j_cond, j_args, j_out, j_few, j_cw, j_nat, j_pad, j_exp, Nat.reduceAdd]
    rw [if_neg hc]
    refine b_L_law_1493 hG ?_
    dsimp only [q_L_law_1493, j_wp, j_opB, j_opA, j_nth, j_i1, j_i2, j_l1, j_l2, j_li, j_f1, j_f2, j_d1, j_d2, j_r1, j_ai, j_aii, j_ail, j_aid, j_air, j_st1, j_st2, j_stu, j_kl, j_cond, j_args, j_out, j_few, j_cw, j_nat, j_pad, j_exp, Nat.reduceAdd]
    exact bk _ _ _ _ jj
theorem ca_forecast (hl : l.stackTraces = false) (hG : j_clo (j_Met l D bs E (d + 61)) E lpost m_L_law G) (hS : j_clS l D bs E (d + 61) s_L_law G) (hL : Ls ≤ 3072) (j : JJ E bs x sc Ls xs (n + 1) h) {i : Nat} (hi : i + 6 ≤ Ls) {u v w : Value} (bk : ∀ u v w h', JJ E bs x sc Ls xs n h' → G 1819 [.ref sc, .ref x, .ref (x + 51), .ref (x + 67), .ref (x + 68), .int (nI i), u, v, w] [] h') : G 1496 [.ref sc, .ref x, .ref (x + 51), .ref (x + 67), .ref (x + 68), .int (nI i), u, v, w] [] h := by
  have c1 : Int32.toNatClampNeg (nI i + 1) = i + 1 := ck_at (k := 1) (by omega)
  have v1 : vp_in (nI i + 1) Ls := vk_at (k := 1) (by omega) (by omega)
  have c2 : Int32.toNatClampNeg (nI i + 2) = i + 2 := ck_at (k := 2) (by omega)
  have v2 : vp_in (nI i + 2) Ls := vk_at (k := 2) (by omega) (by omega)
  have co := jj_co j
  have sq := co_sh co
  have a1q : j_I h sc (i + 1) = xs (i + 1) := co_at co (by omega)
  have a2q : j_I h sc (i + 2) = xs (i + 2) := co_at co (by omega)
  refine b_L_law_1496 hG ?_
  dsimp only [q_L_law_1496, j_wp, j_opB, j_opA, j_nth, j_i1, j_i2, j_l1, j_l2, j_li, j_f1, j_f2, j_d1, j_d2, j_r1, j_ai, j_aii, j_ail, j_aid, j_air, j_st1, j_st2, j_stu, j_kl, j_cond, j_args, j_out, j_few, j_cw, j_nat, j_pad, j_exp, Nat.reduceAdd]
  simp only [sq, j_ari, c1, v1, a1q, c2, v2, a2q, true_and]
  refine hS (1510, 191, 4, i_L_forecast) (List.mem_of_getElem? (i := 16) rfl) _ [.ref x, .int (xs (i + 1)), .int (xs (i + 2)), .ref (x + 67)] [] h rfl rfl ?_
  refine sp_L_forecast hl j (fun o h1 wp => ?_)
  rcases wp with ⟨vv, hR, hT, rfl, an⟩ | ⟨c, hc, rfl, an⟩
  · obtain ⟨a, rfl, ha⟩ := hR
    show G 1513 _ [.int 0] h1
    refine b_L_law_1513 hG ?_
    dsimp only [q_L_law_1513, j_wp, j_opB, j_opA, j_nth, j_i1, j_i2, j_l1, j_l2, j_li, j_f1, j_f2, j_d1, j_d2, j_r1, j_ai, j_aii, j_ail, j_aid, j_air, j_st1, j_st2, j_stu, j_kl, j_cond, j_args, j_out, j_few, j_cw, j_nat, j_pad, j_exp, Nat.reduceAdd]
    have co1 := an.2.1.2
    have sr := co_sh co1
    have a1r : j_I h1 sc (i + 1) = xs (i + 1) := co_at co1 (by omega)
    have a2r : j_I h1 sc (i + 2) = xs (i + 2) := co_at co1 (by omega)
    simp only [sr, j_ari, c1, v1, a1r, c2, v2, a2r, true_and]
    refine an_useU an (fun b h3 hb e10 jj s7 s8 => ?_)
    subst hb
    dsimp only [j_oi, j_ol, j_of, j_od, j_or, j_ov]
    refine jj_thr hl jj e10 ?_
    dsimp only [j_oi, j_ol, j_of, j_od, j_or, j_ov]
    rw [if_pos rfl]
    refine b_L_law_1544 hG ?_
    dsimp only [q_L_law_1544, j_wp, j_opB, j_opA, j_nth, j_i1, j_i2, j_l1, j_l2, j_li, j_f1, j_f2, j_d1, j_d2, j_r1, j_ai, j_aii, j_ail, j_aid, j_air, j_st1, j_st2, j_stu, j_kl, j_cond, j_args, j_out, j_few, j_cw, j_nat, j_pad, j_exp, Nat.reduceAdd]
    rw [if_pos rfl]
    rw [(jj_out jj).1]
    refine ⟨rfl, v_01, ?_⟩
    rw [e_00, s7.2.2.2.2 0, ha, if_pos (lg_self _)]
    refine b_L_law_1561 hG ?_
    dsimp only [q_L_law_1561, j_wp, j_opB, j_opA, j_nth, j_i1, j_i2, j_l1, j_l2, j_li, j_f1, j_f2, j_d1, j_d2, j_r1, j_ai, j_aii, j_ail, j_aid, j_air, j_st1, j_st2, j_stu, j_kl, j_cond, j_args, j_out, j_few, j_cw, j_nat, j_pad, j_exp, Nat.reduceAdd]
    exact bk _ _ _ _ jj
  · show G 1513 _ [.int c] h1
    refine b_L_law_1513 hG ?_
    dsimp only [q_L_law_1513, j_wp, j_opB, j_opA, j_nth, j_i1, j_i2, j_l1, j_l2, j_li, j_f1, j_f2, j_d1, j_d2, j_r1, j_ai, j_aii, j_ail, j_aid, j_air, j_st1, j_st2, j_stu, j_kl, j_cond, j_args, j_out, j_few, j_cw, j_nat, j_pad, j_exp, Nat.reduceAdd]
    have co1 := an.2.1.2
    have sr := co_sh co1
    have a1r : j_I h1 sc (i + 1) = xs (i + 1) := co_at co1 (by omega)
    have a2r : j_I h1 sc (i + 2) = xs (i + 2) := co_at co1 (by omega)
    simp only [sr, j_ari, c1, v1, a1r, c2, v2, a2r, true_and]
    refine an_useU an (fun b h3 hb e10 jj s7 s8 => ?_)
    obtain ⟨z, rfl⟩ := hb
    dsimp only [j_oi, j_ol, j_of, j_od, j_or, j_ov]
    refine jj_thr hl jj e10 ?_
    dsimp only [j_oi, j_ol, j_of, j_od, j_or, j_ov]
    rw [if_pos rfl]
    refine b_L_law_1544 hG ?_
    dsimp only [q_L_law_1544, j_wp, j_opB, j_opA, j_nth, j_i1, j_i2, j_l1, j_l2, j_li, j_f1, j_f2, j_d1, j_d2, j_r1, j_ai, j_aii, j_ail, j_aid, j_air, j_st1, j_st2, j_stu, j_kl, j_cond, j_args, j_out, j_few, j_cw, j_nat, j_pad, j_exp, Nat.reduceAdd]
    rw [if_neg hc]
    refine b_L_law_1561 hG ?_
    dsimp only [q_L_law_1561, j_wp, j_opB, j_opA, j_nth, j_i1, j_i2, j_l1, j_l2, j_li, j_f1, j_f2, j_d1, j_d2, j_r1, j_ai, j_aii, j_ail, j_aid, j_air, j_st1, j_st2, j_stu, j_kl, j_cond, j_args, j_out, j_few, j_cw, j_nat, j_pad, j_exp, Nat.reduceAdd]
    exact bk _ _ _ _ jj
theorem ca_weightFor (hl : l.stackTraces = false) (hG : j_clo (j_Met l D bs E (d + 61)) E lpost m_L_law G) (hS : j_clS l D bs E (d + 61) s_L_law G) (hL : Ls ≤ 3072) (j : JJ E bs x sc Ls xs (n + 1) h) {i : Nat} (hi : i + 6 ≤ Ls) {u v w : Value} (bk : ∀ u v w h', JJ E bs x sc Ls xs n h' → G 1819 [.ref sc, .ref x, .ref (x + 51), .ref (x + 67), .ref (x + 68), .int (nI i), u, v, w] [] h') : G 1564 [.ref sc, .ref x, .ref (x + 51), .ref (x + 67), .ref (x + 68), .int (nI i), u, v, w] [] h := by
  have c1 : Int32.toNatClampNeg (nI i + 1) = i + 1 := ck_at (k := 1) (by omega)
  have v1 : vp_in (nI i + 1) Ls := vk_at (k := 1) (by omega) (by omega)
  have c2 : Int32.toNatClampNeg (nI i + 2) = i + 2 := ck_at (k := 2) (by omega)
  have v2 : vp_in (nI i + 2) Ls := vk_at (k := 2) (by omega) (by omega)
  have co := jj_co j
  have sq := co_sh co
  have a1q : j_I h sc (i + 1) = xs (i + 1) := co_at co (by omega)
  have a2q : j_I h sc (i + 2) = xs (i + 2) := co_at co (by omega)
  refine b_L_law_1564 hG ?_
  dsimp only [q_L_law_1564, j_wp, j_opB, j_opA, j_nth, j_i1, j_i2, j_l1, j_l2, j_li, j_f1, j_f2, j_d1, j_d2, j_r1, j_ai, j_aii, j_ail, j_aid, j_air, j_st1, j_st2, j_stu, j_kl, j_cond, j_args, j_out, j_few, j_cw, j_nat, j_pad, j_exp, Nat.reduceAdd]
  simp only [sq, j_ari, c1, v1, a1q, c2, v2, a2q, true_and]
  refine hS (1578, 194, 4, i_L_weightFor) (List.mem_of_getElem? (i := 17) rfl) _ [.ref x, .int (xs (i + 1)), .int (xs (i + 2)), .ref (x + 67)] [] h rfl rfl ?_
  refine sp_L_weightFor hl j (fun o h1 wp => ?_)
  rcases wp with ⟨vv, hR, hT, rfl, an⟩ | ⟨c, hc, rfl, an⟩
  · obtain ⟨a, rfl, ha⟩ := hR
    show G 1581 _ [.int 0] h1
    refine b_L_law_1581 hG ?_
    dsimp only [q_L_law_1581, j_wp, j_opB, j_opA, j_nth, j_i1, j_i2, j_l1, j_l2, j_li, j_f1, j_f2, j_d1, j_d2, j_r1, j_ai, j_aii, j_ail, j_aid, j_air, j_st1, j_st2, j_stu, j_kl, j_cond, j_args, j_out, j_few, j_cw, j_nat, j_pad, j_exp, Nat.reduceAdd]
    have co1 := an.2.1.2
    have sr := co_sh co1
    have a1r : j_I h1 sc (i + 1) = xs (i + 1) := co_at co1 (by omega)
    have a2r : j_I h1 sc (i + 2) = xs (i + 2) := co_at co1 (by omega)
    simp only [sr, j_ari, c1, v1, a1r, c2, v2, a2r, true_and]
    refine an_useU an (fun b h3 hb e10 jj s7 s8 => ?_)
    subst hb
    dsimp only [j_oi, j_ol, j_of, j_od, j_or, j_ov]
    refine jj_thr hl jj e10 ?_
    dsimp only [j_oi, j_ol, j_of, j_od, j_or, j_ov]
    rw [if_pos rfl]
    refine b_L_law_1612 hG ?_
    dsimp only [q_L_law_1612, j_wp, j_opB, j_opA, j_nth, j_i1, j_i2, j_l1, j_l2, j_li, j_f1, j_f2, j_d1, j_d2, j_r1, j_ai, j_aii, j_ail, j_aid, j_air, j_st1, j_st2, j_stu, j_kl, j_cond, j_args, j_out, j_few, j_cw, j_nat, j_pad, j_exp, Nat.reduceAdd]
    rw [if_pos rfl]
    rw [(jj_out jj).1]
    refine ⟨rfl, v_01, ?_⟩
    rw [e_00, s7.2.2.2.2 0, ha, if_pos (lg_self _)]
    refine b_L_law_1629 hG ?_
    dsimp only [q_L_law_1629, j_wp, j_opB, j_opA, j_nth, j_i1, j_i2, j_l1, j_l2, j_li, j_f1, j_f2, j_d1, j_d2, j_r1, j_ai, j_aii, j_ail, j_aid, j_air, j_st1, j_st2, j_stu, j_kl, j_cond, j_args, j_out, j_few, j_cw, j_nat, j_pad, j_exp, Nat.reduceAdd]
    exact bk _ _ _ _ jj
  · show G 1581 _ [.int c] h1
    refine b_L_law_1581 hG ?_
    dsimp only [q_L_law_1581, j_wp, j_opB, j_opA, j_nth, j_i1, j_i2, j_l1, j_l2, j_li, j_f1, j_f2, j_d1, j_d2, j_r1, j_ai, j_aii, j_ail, j_aid, j_air, j_st1, j_st2, j_stu, j_kl, j_cond, j_args, j_out, j_few, j_cw, j_nat, j_pad, j_exp, Nat.reduceAdd]
    have co1 := an.2.1.2
    have sr := co_sh co1
    have a1r : j_I h1 sc (i + 1) = xs (i + 1) := co_at co1 (by omega)
    have a2r : j_I h1 sc (i + 2) = xs (i + 2) := co_at co1 (by omega)
    simp only [sr, j_ari, c1, v1, a1r, c2, v2, a2r, true_and]
    refine an_useU an (fun b h3 hb e10 jj s7 s8 => ?_)
    obtain ⟨z, rfl⟩ := hb
    dsimp only [j_oi, j_ol, j_of, j_od, j_or, j_ov]
    refine jj_thr hl jj e10 ?_
    dsimp only [j_oi, j_ol, j_of, j_od, j_or, j_ov]
    rw [if_pos rfl]
    refine b_L_law_1612 hG ?_
    dsimp only [q_L_law_1612, j_wp, j_opB, j_opA, j_nth, j_i1, j_i2, j_l1, j_l2, j_li, j_f1, j_f2, j_d1, j_d2, j_r1, j_ai, j_aii, j_ail, j_aid, j_air, j_st1, j_st2, j_stu, j_kl, j_cond, j_args, j_out, j_few, j_cw, j_nat, j_pad, j_exp, Nat.reduceAdd]
    rw [if_neg hc]
    refine b_L_law_1629 hG ?_
    dsimp only [q_L_law_1629, j_wp, j_opB, j_opA, j_nth, j_i1, j_i2, j_l1, j_l2, j_li, j_f1, j_f2, j_d1, j_d2, j_r1, j_ai, j_aii, j_ail, j_aid, j_air, j_st1, j_st2, j_stu, j_kl, j_cond, j_args, j_out, j_few, j_cw, j_nat, j_pad, j_exp, Nat.reduceAdd]
    exact bk _ _ _ _ jj
theorem ca_format (hl : l.stackTraces = false) (hG : j_clo (j_Met l D bs E (d + 61)) E lpost m_L_law G) (hS : j_clS l D bs E (d + 61) s_L_law G) (hL : Ls ≤ 3072) (j : JJ E bs x sc Ls xs (n + 1) h) {i : Nat} (hi : i + 6 ≤ Ls) {u v w : Value} (bk : ∀ u v w h', JJ E bs x sc Ls xs n h' → G 1819 [.ref sc, .ref x, .ref (x + 51), .ref (x + 67), .ref (x + 68), .int (nI i), u, v, w] [] h') : G 1632 [.ref sc, .ref x, .ref (x + 51), .ref (x + 67), .ref (x + 68), .int (nI i), u, v, w] [] h := by
  have c1 : Int32.toNatClampNeg (nI i + 1) = i + 1 := ck_at (k := 1) (by omega)
  have v1 : vp_in (nI i + 1) Ls := vk_at (k := 1) (by omega) (by omega)
  have co := jj_co j
  have sq := co_sh co
  have a1q : j_I h sc (i + 1) = xs (i + 1) := co_at co (by omega)
  refine b_L_law_1632 hG ?_
  dsimp only [q_L_law_1632, j_wp, j_opB, j_opA, j_nth, j_i1, j_i2, j_l1, j_l2, j_li, j_f1, j_f2, j_d1, j_d2, j_r1, j_ai, j_aii, j_ail, j_aid, j_air, j_st1, j_st2, j_stu, j_kl, j_cond, j_args, j_out, j_few, j_cw, j_nat, j_pad, j_exp, Nat.reduceAdd]
  simp only [sq, j_ari, c1, v1, a1q, true_and]
  refine hS (1640, 197, 3, i_L_format) (List.mem_of_getElem? (i := 18) rfl) _ [.ref x, .int (xs (i + 1)), .ref (x + 67)] [] h rfl rfl ?_
  refine sp_L_format hl j (fun o h1 wp => ?_)
  rcases wp with ⟨vv, hR, hT, rfl, an⟩ | ⟨c, hc, rfl, an⟩
  · obtain ⟨a, rfl, ha⟩ := hR
    show G 1643 _ [.int 0] h1
    refine b_L_law_1643 hG ?_
    dsimp only [q_L_law_1643, j_wp, j_opB, j_opA, j_nth, j_i1, j_i2, j_l1, j_l2, j_li, j_f1, j_f2, j_d1, j_d2, j_r1, j_ai, j_aii, j_ail, j_aid, j_air, j_st1, j_st2, j_stu, j_kl, j_cond, j_args, j_out, j_few, j_cw, j_nat, j_pad, j_exp, Nat.reduceAdd]
    have co1 := an.2.1.2
    have sr := co_sh co1
    have a1r : j_I h1 sc (i + 1) = xs (i + 1) := co_at co1 (by omega)
    simp only [sr, j_ari, c1, v1, a1r, true_and]
    refine an_useU an (fun b h3 hb e10 jj s7 s8 => ?_)
    subst hb
    dsimp only [j_oi, j_ol, j_of, j_od, j_or, j_ov]
    refine jj_thr hl jj e10 ?_
    dsimp only [j_oi, j_ol, j_of, j_od, j_or, j_ov]
    rw [if_pos rfl]
    refine b_L_law_1668 hG ?_
    dsimp only [q_L_law_1668, j_wp, j_opB, j_opA, j_nth, j_i1, j_i2, j_l1, j_l2, j_li, j_f1, j_f2, j_d1, j_d2, j_r1, j_ai, j_aii, j_ail, j_aid, j_air, j_st1, j_st2, j_stu, j_kl, j_cond, j_args, j_out, j_few, j_cw, j_nat, j_pad, j_exp, Nat.reduceAdd]
    rw [if_pos rfl]
    rw [(jj_out jj).1]
    refine ⟨rfl, v_01, ?_⟩
    rw [e_00, s7.2.2.2.2 0, ha, if_pos (lg_self _)]
    refine b_L_law_1685 hG ?_
    dsimp only [q_L_law_1685, j_wp, j_opB, j_opA, j_nth, j_i1, j_i2, j_l1, j_l2, j_li, j_f1, j_f2, j_d1, j_d2, j_r1, j_ai, j_aii, j_ail, j_aid, j_air, j_st1, j_st2, j_stu, j_kl, j_cond, j_args, j_out, j_few, j_cw, j_nat, j_pad, j_exp, Nat.reduceAdd]
    exact bk _ _ _ _ jj
  · show G 1643 _ [.int c] h1
    refine b_L_law_1643 hG ?_
    dsimp only [q_L_law_1643, j_wp, j_opB, j_opA, j_nth, j_i1, j_i2, j_l1, j_l2, j_li, j_f1, j_f2, j_d1, j_d2, j_r1, j_ai, j_aii, j_ail, j_aid, j_air, j_st1, j_st2, j_stu, j_kl, j_cond, j_args, j_out, j_few, j_cw, j_nat, j_pad, j_exp, Nat.reduceAdd]
    have co1 := an.2.1.2
    have sr := co_sh co1
    have a1r : j_I h1 sc (i + 1) = xs (i + 1) := co_at co1 (by omega)
    simp only [sr, j_ari, c1, v1, a1r, true_and]
    refine an_useU an (fun b h3 hb e10 jj s7 s8 => ?_)
    obtain ⟨z, rfl⟩ := hb
    dsimp only [j_oi, j_ol, j_of, j_od, j_or, j_ov]
    refine jj_thr hl jj e10 ?_
    dsimp only [j_oi, j_ol, j_of, j_od, j_or, j_ov]
    rw [if_pos rfl]
    refine b_L_law_1668 hG ?_
    dsimp only [q_L_law_1668, j_wp, j_opB, j_opA, j_nth, j_i1, j_i2, j_l1, j_l2, j_li, j_f1, j_f2, j_d1, j_d2, j_r1, j_ai, j_aii, j_ail, j_aid, j_air, j_st1, j_st2, j_stu, j_kl, j_cond, j_args, j_out, j_few, j_cw, j_nat, j_pad, j_exp, Nat.reduceAdd]
    rw [if_neg hc]
    refine b_L_law_1685 hG ?_
    dsimp only [q_L_law_1685, j_wp, j_opB, j_opA, j_nth, j_i1, j_i2, j_l1, j_l2, j_li, j_f1, j_f2, j_d1, j_d2, j_r1, j_ai, j_aii, j_ail, j_aid, j_air, j_st1, j_st2, j_stu, j_kl, j_cond, j_args, j_out, j_few, j_cw, j_nat, j_pad, j_exp, Nat.reduceAdd]
    exact bk _ _ _ _ jj
theorem ca_formattedByte (hl : l.stackTraces = false) (hG : j_clo (j_Met l D bs E (d + 61)) E lpost m_L_law G) (hS : j_clS l D bs E (d + 61) s_L_law G) (hL : Ls ≤ 3072) (j : JJ E bs x sc Ls xs (n + 1) h) {i : Nat} (hi : i + 6 ≤ Ls) {u v w : Value} (bk : ∀ u v w h', JJ E bs x sc Ls xs n h' → G 1819 [.ref sc, .ref x, .ref (x + 51), .ref (x + 67), .ref (x + 68), .int (nI i), u, v, w] [] h') : G 1688 [.ref sc, .ref x, .ref (x + 51), .ref (x + 67), .ref (x + 68), .int (nI i), u, v, w] [] h := by
  have c1 : Int32.toNatClampNeg (nI i + 1) = i + 1 := ck_at (k := 1) (by omega)
  have v1 : vp_in (nI i + 1) Ls := vk_at (k := 1) (by omega) (by omega)
  have co := jj_co j
  have sq := co_sh co
  have a1q : j_I h sc (i + 1) = xs (i + 1) := co_at co (by omega)
  refine b_L_law_1688 hG ?_
  dsimp only [q_L_law_1688, j_wp, j_opB, j_opA, j_nth, j_i1, j_i2, j_l1, j_l2, j_li, j_f1, j_f2, j_d1, j_d2, j_r1, j_ai, j_aii, j_ail, j_aid, j_air, j_st1, j_st2, j_stu, j_kl, j_cond, j_args, j_out, j_few, j_cw, j_nat, j_pad, j_exp, Nat.reduceAdd]
  simp only [sq, j_ari, c1, v1, a1q, true_and]
  refine op_formattedByte hl j (fun a h1 an => ?_)
  dsimp only [j_oi, j_ol, j_of, j_od, j_or, j_ov]
  have co1 := an.2.1.2
  have sr := co_sh co1
  have a1r : j_I h1 sc (i + 1) = xs (i + 1) := co_at co1 (by omega)
  simp only [sr, j_ari, c1, v1, a1r, true_and]
  refine an_use an (fun b h3 hb _ jj _ _ => ?_)
  subst hb
  dsimp only [j_oi, j_ol, j_of, j_od, j_or, j_ov]
  rw [if_pos rfl]
  exact bk _ _ _ _ jj
theorem ca_undoCount (hl : l.stackTraces = false) (hG : j_clo (j_Met l D bs E (d + 61)) E lpost m_L_law G) (hS : j_clS l D bs E (d + 61) s_L_law G) (hL : Ls ≤ 3072) (j : JJ E bs x sc Ls xs (n + 1) h) {i : Nat} (hi : i + 6 ≤ Ls) {u v w : Value} (bk : ∀ u v w h', JJ E bs x sc Ls xs n h' → G 1819 [.ref sc, .ref x, .ref (x + 51), .ref (x + 67), .ref (x + 68), .int (nI i), u, v, w] [] h') : G 1713 [.ref sc, .ref x, .ref (x + 51), .ref (x + 67), .ref (x + 68), .int (nI i), u, v, w] [] h := by
  refine b_L_law_1713 hG ?_
  dsimp only [q_L_law_1713, j_wp, j_opB, j_opA, j_nth, j_i1, j_i2, j_l1, j_l2, j_li, j_f1, j_f2, j_d1, j_d2, j_r1, j_ai, j_aii, j_ail, j_aid, j_air, j_st1, j_st2, j_stu, j_kl, j_cond, j_args, j_out, j_few, j_cw, j_nat, j_pad, j_exp, Nat.reduceAdd]
  refine op_undoCount hl j (fun a h1 an => ?_)
  dsimp only [j_oi, j_ol, j_of, j_od, j_or, j_ov]
  refine an_use an (fun b h3 hb _ jj _ _ => ?_)
  subst hb
  dsimp only [j_oi, j_ol, j_of, j_od, j_or, j_ov]
  rw [if_pos rfl]
  exact bk _ _ _ _ jj
theorem ca_undo (hl : l.stackTraces = false) (hG : j_clo (j_Met l D bs E (d + 61)) E lpost m_L_law G) (hS : j_clS l D bs E (d + 61) s_L_law G) (hL : Ls ≤ 3072) (j : JJ E bs x sc Ls xs (n + 1) h) {i : Nat} (hi : i + 6 ≤ Ls) {u v w : Value} (bk : ∀ u v w h', JJ E bs x sc Ls xs n h' → G 1819 [.ref sc, .ref x, .ref (x + 51), .ref (x + 67), .ref (x + 68), .int (nI i), u, v, w] [] h') : G 1726 [.ref sc, .ref x, .ref (x + 51), .ref (x + 67), .ref (x + 68), .int (nI i), u, v, w] [] h := by
  refine b_L_law_1726 hG ?_
  dsimp only [q_L_law_1726, j_wp, j_opB, j_opA, j_nth, j_i1, j_i2, j_l1, j_l2, j_li, j_f1, j_f2, j_d1, j_d2, j_r1, j_ai, j_aii, j_ail, j_aid, j_air, j_st1, j_st2, j_stu, j_kl, j_cond, j_args, j_out, j_few, j_cw, j_nat, j_pad, j_exp, Nat.reduceAdd]
  refine op_undo hl j (fun a h1 an => ?_)
  dsimp only [j_oi, j_ol, j_of, j_od, j_or, j_ov]
  refine an_use an (fun b h3 hb _ jj _ _ => ?_)
  subst hb
  dsimp only [j_oi, j_ol, j_of, j_od, j_or, j_ov]
  rw [if_pos rfl]
  exact bk _ _ _ _ jj
theorem ca_saveSnapshot (hl : l.stackTraces = false) (hG : j_clo (j_Met l D bs E (d + 61)) E lpost m_L_law G) (hS : j_clS l D bs E (d + 61) s_L_law G) (hL : Ls ≤ 3072) (j : JJ E bs x sc Ls xs (n + 1) h) {i : Nat} (hi : i + 6 ≤ Ls) {u v w : Value} (bk : ∀ u v w h', JJ E bs x sc Ls xs n h' → G 1819 [.ref sc, .ref x, .ref (x + 51), .ref (x + 67), .ref (x + 68), .int (nI i), u, v, w] [] h') : G 1739 [.ref sc, .ref x, .ref (x + 51), .ref (x + 67), .ref (x + 68), .int (nI i), u, v, w] [] h := by
  refine b_L_law_1739 hG ?_
  dsimp only [q_L_law_1739, j_wp, j_opB, j_opA, j_nth, j_i1, j_i2, j_l1, j_l2, j_li, j_f1, j_f2, j_d1, j_d2, j_r1, j_ai, j_aii, j_ail, j_aid, j_air, j_st1, j_st2, j_stu, j_kl, j_cond, j_args, j_out, j_few, j_cw, j_nat, j_pad, j_exp, Nat.reduceAdd]
  refine op_saveSnapshot hl j (fun h1 hb m1 => ?_)
  dsimp only [j_oi, j_ol, j_of, j_od, j_or, j_ov]
  refine j_Met_mono m1 (fun o h3 z => ?_)
  obtain ⟨rfl, jj⟩ := z
  dsimp only [j_oi, j_ol, j_of, j_od, j_or, j_ov]
  exact bk _ _ _ _ jj
theorem ca_restoreSnapshot (hl : l.stackTraces = false) (hG : j_clo (j_Met l D bs E (d + 61)) E lpost m_L_law G) (hS : j_clS l D bs E (d + 61) s_L_law G) (hL : Ls ≤ 3072) (j : JJ E bs x sc Ls xs (n + 1) h) {i : Nat} (hi : i + 6 ≤ Ls) {u v w : Value} (bk : ∀ u v w h', JJ E bs x sc Ls xs n h' → G 1819 [.ref sc, .ref x, .ref (x + 51), .ref (x + 67), .ref (x + 68), .int (nI i), u, v, w] [] h') : G 1750 [.ref sc, .ref x, .ref (x + 51), .ref (x + 67), .ref (x + 68), .int (nI i), u, v, w] [] h := by
  refine b_L_law_1750 hG ?_
  dsimp only [q_L_law_1750, j_wp, j_opB, j_opA, j_nth, j_i1, j_i2, j_l1, j_l2, j_li, j_f1, j_f2, j_d1, j_d2, j_r1, j_ai, j_aii, j_ail, j_aid, j_air, j_st1, j_st2, j_stu, j_kl, j_cond, j_args, j_out, j_few, j_cw, j_nat, j_pad, j_exp, Nat.reduceAdd]
  refine op_restoreSnapshot hl j (fun a h1 an => ?_)
  dsimp only [j_oi, j_ol, j_of, j_od, j_or, j_ov]
  refine an_use an (fun b h3 hb _ jj _ _ => ?_)
  subst hb
  dsimp only [j_oi, j_ol, j_of, j_od, j_or, j_ov]
  rw [if_pos rfl]
  exact bk _ _ _ _ jj
theorem ca_query (hl : l.stackTraces = false) (hG : j_clo (j_Met l D bs E (d + 61)) E lpost m_L_law G) (hS : j_clS l D bs E (d + 61) s_L_law G) (hL : Ls ≤ 3072) (j : JJ E bs x sc Ls xs (n + 1) h) {i : Nat} (hi : i + 6 ≤ Ls) {u v w : Value} (bk : ∀ u v w h', JJ E bs x sc Ls xs n h' → G 1819 [.ref sc, .ref x, .ref (x + 51), .ref (x + 67), .ref (x + 68), .int (nI i), u, v, w] [] h') : G 1763 [.ref sc, .ref x, .ref (x + 51), .ref (x + 67), .ref (x + 68), .int (nI i), u, v, w] [] h := by
  have c1 : Int32.toNatClampNeg (nI i + 1) = i + 1 := ck_at (k := 1) (by omega)
  have v1 : vp_in (nI i + 1) Ls := vk_at (k := 1) (by omega) (by omega)
  have co := jj_co j
  have sq := co_sh co
  have a1q : j_I h sc (i + 1) = xs (i + 1) := co_at co (by omega)
  refine b_L_law_1763 hG ?_
  dsimp only [q_L_law_1763, j_wp, j_opB, j_opA, j_nth, j_i1, j_i2, j_l1, j_l2, j_li, j_f1, j_f2, j_d1, j_d2, j_r1, j_ai, j_aii, j_ail, j_aid, j_air, j_st1, j_st2, j_stu, j_kl, j_cond, j_args, j_out, j_few, j_cw, j_nat, j_pad, j_exp, Nat.reduceAdd]
  simp only [sq, j_ari, c1, v1, a1q, true_and]
  refine hS (1771, 221, 3, i_L_query) (List.mem_of_getElem? (i := 19) rfl) _ [.ref x, .int (xs (i + 1)), .ref (x + 67)] [] h rfl rfl ?_
  refine sp_L_query hl j (fun o h1 wp => ?_)
  rcases wp with ⟨vv, hR, hT, rfl, an⟩ | ⟨c, hc, rfl, an⟩
  · obtain ⟨a, rfl, ha⟩ := hR
    show G 1774 _ [.int 0] h1
    refine b_L_law_1774 hG ?_
    dsimp only [q_L_law_1774, j_wp, j_opB, j_opA, j_nth, j_i1, j_i2, j_l1, j_l2, j_li, j_f1, j_f2, j_d1, j_d2, j_r1, j_ai, j_aii, j_ail, j_aid, j_air, j_st1, j_st2, j_stu, j_kl, j_cond, j_args, j_out, j_few, j_cw, j_nat, j_pad, j_exp, Nat.reduceAdd]
    have co1 := an.2.1.2
    have sr := co_sh co1
    have a1r : j_I h1 sc (i + 1) = xs (i + 1) := co_at co1 (by omega)
    simp only [sr, j_ari, c1, v1, a1r, true_and]
    refine an_useU an (fun b h3 hb e10 jj s7 s8 => ?_)
    subst hb
    dsimp only [j_oi, j_ol, j_of, j_od, j_or, j_ov]
    refine jj_thr hl jj e10 ?_
    dsimp only [j_oi, j_ol, j_of, j_od, j_or, j_ov]
    rw [if_pos rfl]
    refine b_L_law_1799 hG ?_
    dsimp only [q_L_law_1799, j_wp, j_opB, j_opA, j_nth, j_i1, j_i2, j_l1, j_l2, j_li, j_f1, j_f2, j_d1, j_d2, j_r1, j_ai, j_aii, j_ail, j_aid, j_air, j_st1, j_st2, j_stu, j_kl, j_cond, j_args, j_out, j_few, j_cw, j_nat, j_pad, j_exp, Nat.reduceAdd]
    rw [if_pos rfl]
    rw [(jj_out jj).1]
    refine ⟨rfl, v_01, ?_⟩
    rw [e_00, s7.2.2.2.2 0, ha, if_pos (lg_self _)]
    refine b_L_law_1816 hG ?_
    dsimp only [q_L_law_1816, j_wp, j_opB, j_opA, j_nth, j_i1, j_i2, j_l1, j_l2, j_li, j_f1, j_f2, j_d1, j_d2, j_r1, j_ai, j_aii, j_ail, j_aid, j_air, j_st1, j_st2, j_stu, j_kl, j_cond, j_args, j_out, j_few, j_cw, j_nat, j_pad, j_exp, Nat.reduceAdd]
    exact bk _ _ _ _ jj
  · show G 1774 _ [.int c] h1
    refine b_L_law_1774 hG ?_
    dsimp only [q_L_law_1774, j_wp, j_opB, j_opA, j_nth, j_i1, j_i2, j_l1, j_l2, j_li, j_f1, j_f2, j_d1, j_d2, j_r1, j_ai, j_aii, j_ail, j_aid, j_air, j_st1, j_st2, j_stu, j_kl, j_cond, j_args, j_out, j_few, j_cw, j_nat, j_pad, j_exp, Nat.reduceAdd]
    have co1 := an.2.1.2
    have sr := co_sh co1
    have a1r : j_I h1 sc (i + 1) = xs (i + 1) := co_at co1 (by omega)
    simp only [sr, j_ari, c1, v1, a1r, true_and]
    refine an_useU an (fun b h3 hb e10 jj s7 s8 => ?_)
    obtain ⟨z, rfl⟩ := hb
    dsimp only [j_oi, j_ol, j_of, j_od, j_or, j_ov]
    refine jj_thr hl jj e10 ?_
    dsimp only [j_oi, j_ol, j_of, j_od, j_or, j_ov]
    rw [if_pos rfl]
    refine b_L_law_1799 hG ?_
    dsimp only [q_L_law_1799, j_wp, j_opB, j_opA, j_nth, j_i1, j_i2, j_l1, j_l2, j_li, j_f1, j_f2, j_d1, j_d2, j_r1, j_ai, j_aii, j_ail, j_aid, j_air, j_st1, j_st2, j_stu, j_kl, j_cond, j_args, j_out, j_few, j_cw, j_nat, j_pad, j_exp, Nat.reduceAdd]
    rw [if_neg hc]
    refine b_L_law_1816 hG ?_
    dsimp only [q_L_law_1816, j_wp, j_opB, j_opA, j_nth, j_i1, j_i2, j_l1, j_l2, j_li, j_f1, j_f2, j_d1, j_d2, j_r1, j_ai, j_aii, j_ail, j_aid, j_air, j_st1, j_st2, j_stu, j_kl, j_cond, j_args, j_out, j_few, j_cw, j_nat, j_pad, j_exp, Nat.reduceAdd]
    exact bk _ _ _ _ jj
end LCac
