/-! ===== printed: the law's cases ===== -/
section LCab
variable {l : Launch} {D : va_G} {bs : Nat} {E : j_E} {h : j_H} {d n x sc Ls : Nat} {xs : Nat → Int32} {G : j_G}
theorem ca_isIdle (hl : l.stackTraces = false) (hG : j_clo (j_Met l D bs E (d + 61)) E lpost m_L_law G) (hS : j_clS l D bs E (d + 61) s_L_law G) (hL : Ls ≤ 3072) (j : JJ E bs x sc Ls xs (n + 1) h) {i : Nat} (hi : i + 6 ≤ Ls) {u v w : Value} (bk : ∀ u v w h', JJ E bs x sc Ls xs n h' → G 1819 [.ref sc, .ref x, .ref (x + 51), .ref (x + 67), .ref (x + 68), .int (nI i), u, v, w] [] h') : G 627 [.ref sc, .ref x, .ref (x + 51), .ref (x + 67), .ref (x + 68), .int (nI i), u, v, w] [] h := by
  have c1 : Int32.toNatClampNeg (nI i + 1) = i + 1 := ck_at (k := 1) (by omega)
  have v1 : vp_in (nI i + 1) Ls := vk_at (k := 1) (by omega) (by omega)
  have co := jj_co j
  have sq := co_sh co
  have a1q : j_I h sc (i + 1) = xs (i + 1) := co_at co (by omega)
  refine b_L_law_627 hG ?_
  dsimp only [q_L_law_627, j_wp, j_opB, j_opA, j_nth, j_i1, j_i2, j_l1, j_l2, j_li, j_f1, j_f2, j_d1, j_d2, j_r1, j_ai, j_aii, j_ail, j_aid, j_air, j_st1, j_st2, j_stu, j_kl, j_cond, j_args, j_out, j_few, j_cw, j_nat, j_pad, j_exp, Nat.reduceAdd]
  simp only [sq, j_ari, c1, v1, a1q, true_and]
  refine hS (635, 140, 3, i_L_isIdle) (List.mem_of_getElem? (i := 4) rfl) _ [.ref x, .int (xs (i + 1)), .ref (x + 67)] [] h rfl rfl ?_
  refine sp_L_isIdle hl j (fun o h1 wp => ?_)
  rcases wp with ⟨vv, hR, hT, rfl, an⟩ | ⟨c, hc, rfl, an⟩
  · obtain ⟨a, rfl, ha⟩ := hR
    show G 638 _ [.int 0] h1
    refine b_L_law_638 hG ?_
    dsimp only [q_L_law_638, j_wp, j_opB, j_opA, j_nth, j_i1, j_i2, j_l1, j_l2, j_li, j_f1, j_f2, j_d1, j_d2, j_r1, j_ai, j_aii, j_ail, j_aid, j_air, j_st1, j_st2, j_stu, j_kl, j_cond, j_args, j_out, j_few, j_cw, j_nat, j_pad, j_exp, Nat.reduceAdd]
    have co1 := an.2.1.2
    have sr := co_sh co1
    have a1r : j_I h1 sc (i + 1) = xs (i + 1) := co_at co1 (by omega)
    simp only [sr, j_ari, c1, v1, a1r, true_and]
    refine an_useU an (fun b h3 hb e10 jj s7 s8 => ?_)
    subst hb
    dsimp only [j_oi, j_ol, j_of, j_od, j_or, j_ov]
    refine jj_thr hl jj e10 ?_
    dsimp only [j_oi, j_ol, j_of, j_od, j_or, j_ov]
    rw [if_pos rfl]
    refine b_L_law_663 hG ?_
    dsimp only [q_L_law_663, j_wp, j_opB, j_opA, j_nth, j_i1, j_i2, j_l1, j_l2, j_li, j_f1, j_f2, j_d1, j_d2, j_r1, j_ai, j_aii, j_ail, j_aid, j_air, j_st1, j_st2, j_stu, j_kl, j_cond, j_args, j_out, j_few, j_cw, j_nat, j_pad, j_exp, Nat.reduceAdd]
    rw [if_pos rfl]
    rw [(jj_out jj).1]
    refine ⟨rfl, v_01, ?_⟩
    rw [e_00, s7.2.2.2.2 0, ha]
    by_cases g : a = 0
    · rw [if_pos g, if_pos g]
      refine b_L_law_680 hG ?_
      dsimp only [q_L_law_680, j_wp, j_opB, j_opA, j_nth, j_i1, j_i2, j_l1, j_l2, j_li, j_f1, j_f2, j_d1, j_d2, j_r1, j_ai, j_aii, j_ail, j_aid, j_air, j_st1, j_st2, j_stu, j_kl, j_cond, j_args, j_out, j_few, j_cw, j_nat, j_pad, j_exp, Nat.reduceAdd]
      refine b_L_law_681 hG ?_
      dsimp only [q_L_law_681, j_wp, j_opB, j_opA, j_nth, j_i1, j_i2, j_l1, j_l2, j_li, j_f1, j_f2, j_d1, j_d2, j_r1, j_ai, j_aii, j_ail, j_aid, j_air, j_st1, j_st2, j_stu, j_kl, j_cond, j_args, j_out, j_few, j_cw, j_nat, j_pad, j_exp, Nat.reduceAdd]
      rw [if_pos (lg_self _)]
      refine b_L_law_687 hG ?_
      dsimp only [q_L_law_687, j_wp, j_opB, j_opA, j_nth, j_i1, j_i2, j_l1, j_l2, j_li, j_f1, j_f2, j_d1, j_d2, j_r1, j_ai, j_aii, j_ail, j_aid, j_air, j_st1, j_st2, j_stu, j_kl, j_cond, j_args, j_out, j_few, j_cw, j_nat, j_pad, j_exp, Nat.reduceAdd]
      exact bk _ _ _ _ jj
    · rw [if_neg g, if_neg g]
      refine b_L_law_681 hG ?_
      dsimp only [q_L_law_681, j_wp, j_opB, j_opA, j_nth, j_i1, j_i2, j_l1, j_l2, j_li, j_f1, j_f2, j_d1, j_d2, j_r1, j_ai, j_aii, j_ail, j_aid, j_air, j_st1, j_st2, j_stu, j_kl, j_cond, j_args, j_out, j_few, j_cw, j_nat, j_pad, j_exp, Nat.reduceAdd]
      rw [if_pos (lg_self _)]
      refine b_L_law_687 hG ?_
      dsimp only [q_L_law_687, j_wp, j_opB, j_opA, j_nth, j_i1, j_i2, j_l1, j_l2, j_li, j_f1, j_f2, j_d1, j_d2, j_r1, j_ai, j_aii, j_ail, j_aid, j_air, j_st1, j_st2, j_stu, j_kl, j_cond, j_args, j_out, j_few, j_cw, j_nat, j_pad, j_exp, Nat.reduceAdd]
      exact bk _ _ _ _ jj
  · show G 638 _ [.int c] h1
    refine b_L_law_638 hG ?_
    dsimp only [q_L_law_638, j_wp, j_opB, j_opA, j_nth, j_i1, j_i2, j_l1, j_l2, j_li, j_f1, j_f2, j_d1, j_d2, j_r1, j_ai, j_aii, j_ail, j_aid, j_air, j_st1, j_st2, j_stu, j_kl, j_cond, j_args, j_out, j_few, j_cw, j_nat, j_pad, j_exp, Nat.reduceAdd]
    have co1 := an.2.1.2
    have sr := co_sh co1
    have a1r : j_I h1 sc (i + 1) = xs (i + 1) := co_at co1 (by omega)
    simp only [sr, j_ari, c1, v1, a1r, true_and]
    refine an_useU an (fun b h3 hb e10 jj s7 s8 => ?_)
    obtain ⟨z, rfl⟩ := hb
    dsimp only [j_oi, j_ol, j_of, j_od, j_or, j_ov]
    refine jj_thr hl jj e10 ?_
    dsimp only [j_oi, j_ol, j_of, j_od, j_or, j_ov]
    rw [if_pos rfl]
    refine b_L_law_663 hG ?_
    dsimp only [q_L_law_663, j_wp, j_opB, j_opA, j_nth, j_i1, j_i2, j_l1, j_l2, j_li, j_f1, j_f2, j_d1, j_d2, j_r1, j_ai, j_aii, j_ail, j_aid, j_air, j_st1, j_st2, j_stu, j_kl, j_cond, j_args, j_out, j_few, j_cw, j_nat, j_pad, j_exp, Nat.reduceAdd]
    rw [if_neg hc]
    refine b_L_law_687 hG ?_
    dsimp only [q_L_law_687, j_wp, j_opB, j_opA, j_nth, j_i1, j_i2, j_l1, j_l2, j_li, j_f1, j_f2, j_d1, j_d2, j_r1, j_ai, j_aii, j_ail, j_aid, j_air, j_st1, j_st2, j_stu, j_kl, j_cond, j_args, j_out, j_few, j_cw, j_nat, j_pad, j_exp, Nat.reduceAdd]
    exact bk _ _ _ _ jj
theorem ca_queued (hl : l.stackTraces = false) (hG : j_clo (j_Met l D bs E (d + 61)) E lpost m_L_law G) (hS : j_clS l D bs E (d + 61) s_L_law G) (hL : Ls ≤ 3072) (j : JJ E bs x sc Ls xs (n + 1) h) {i : Nat} (hi : i + 6 ≤ Ls) {u v w : Value} (bk : ∀ u v w h', JJ E bs x sc Ls xs n h' → G 1819 [.ref sc, .ref x, .ref (x + 51), .ref (x + 67), .ref (x + 68), .int (nI i), u, v, w] [] h') : G 690 [.ref sc, .ref x, .ref (x + 51), .ref (x + 67), .ref (x + 68), .int (nI i), u, v, w] [] h := by
  have c1 : Int32.toNatClampNeg (nI i + 1) = i + 1 := ck_at (k := 1) (by omega)
  have v1 : vp_in (nI i + 1) Ls := vk_at (k := 1) (by omega) (by omega)
  have c2 : Int32.toNatClampNeg (nI i + 2) = i + 2 := ck_at (k := 2) (by omega)
  have v2 : vp_in (nI i + 2) Ls := vk_at (k := 2) (by omega) (by omega)
  have co := jj_co j
  have sq := co_sh co
  have a1q : j_I h sc (i + 1) = xs (i + 1) := co_at co (by omega)
  have a2q : j_I h sc (i + 2) = xs (i + 2) := co_at co (by omega)
  refine b_L_law_690 hG ?_
  dsimp only [q_L_law_690, j_wp, j_opB, j_opA, j_nth, j_i1, j_i2, j_l1, j_l2, j_li, j_f1, j_f2, j_d1, j_d2, j_r1, j_ai, j_aii, j_ail, j_aid, j_air, j_st1, j_st2, j_stu, j_kl, j_cond, j_args, j_out, j_few, j_cw, j_nat, j_pad, j_exp, Nat.reduceAdd]
  simp only [sq, j_ari, c1, v1, a1q, c2, v2, a2q, true_and]
  refine hS (704, 143, 4, i_L_queued) (List.mem_of_getElem? (i := 5) rfl) _ [.ref x, .int (xs (i + 1)), .int (xs (i + 2)), .ref (x + 67)] [] h rfl rfl ?_
  refine sp_L_queued hl j (fun o h1 wp => ?_)
  rcases wp with ⟨vv, hR, hT, rfl, an⟩ | ⟨c, hc, rfl, an⟩
  · obtain ⟨a, rfl, ha⟩ := hR
    show G 707 _ [.int 0] h1
    refine b_L_law_707 hG ?_
    dsimp only [q_L_law_707, j_wp, j_opB, j_opA, j_nth, j_i1, j_i2, j_l1, j_l2, j_li, j_f1, j_f2, j_d1, j_d2, j_r1, j_ai, j_aii, j_ail, j_aid, j_air, j_st1, j_st2, j_stu, j_kl, j_cond, j_args, j_out, j_few, j_cw, j_nat, j_pad, j_exp, Nat.reduceAdd]
    have co1 := an.2.1.2
    have sr := co_sh co1
    have a1r : j_I h1 sc (i + 1) = xs (i + 1) := co_at co1 (by omega)
    have a2r : j_I h1 sc (i + 2) = xs (i + 2) := co_at co1 (by omega)
    simp only [sr, j_ari, c1, v1, a1r, c2, v2, a2r, true_and]
    refine an_useU an (fun b h3 hb e10 jj s7 s8 => ?_)
    subst hb
    dsimp only [j_oi, j_ol, j_of, j_od, j_or, j_ov]
    refine jj_thr hl jj e10 ?_
    dsimp only [j_oi, j_ol, j_of, j_od, j_or, j_ov]
    rw [if_pos rfl]
    refine b_L_law_738 hG ?_
    dsimp only [q_L_law_738, j_wp, j_opB, j_opA, j_nth, j_i1, j_i2, j_l1, j_l2, j_li, j_f1, j_f2, j_d1, j_d2, j_r1, j_ai, j_aii, j_ail, j_aid, j_air, j_st1, j_st2, j_stu, j_kl, j_cond, j_args, j_out, j_few, j_cw, j_nat, j_pad, j_exp, Nat.reduceAdd]
    rw [if_pos rfl]
    rw [(jj_out jj).1]
    refine ⟨rfl, v_01, ?_⟩
    rw [e_00, s7.2.2.2.2 0, ha, if_pos (lg_self _)]
    refine b_L_law_755 hG ?_
    dsimp only [q_L_law_755, j_wp, j_opB, j_opA, j_nth, j_i1, j_i2, j_l1, j_l2, j_li, j_f1, j_f2, j_d1, j_d2, j_r1, j_ai, j_aii, j_ail, j_aid, j_air, j_st1, j_st2, j_stu, j_kl, j_cond, j_args, j_out, j_few, j_cw, j_nat, j_pad, j_exp, Nat.reduceAdd]
    exact bk _ _ _ _ jj
  · show G 707 _ [.int c] h1
    refine b_L_law_707 hG ?_
    dsimp only [q_L_law_707, j_wp, j_opB, j_opA, j_nth, j_i1, j_i2, j_l1, j_l2, j_li, j_f1, j_f2, j_d1, j_d2, j_r1, j_ai, j_aii, j_ail, j_aid, j_air, j_st1, j_st2, j_stu, j_kl, j_cond, j_args, j_out, j_few, j_cw, j_nat, j_pad, j_exp, Nat.reduceAdd]
    have co1 := an.2.1.2
    have sr := co_sh co1
    have a1r : j_I h1 sc (i + 1) = xs (i + 1) := co_at co1 (by omega)
    have a2r : j_I h1 sc (i + 2) = xs (i + 2) := co_at co1 (by omega)
    simp only [sr, j_ari, c1, v1, a1r, c2, v2, a2r, true_and]
    refine an_useU an (fun b h3 hb e10 jj s7 s8 => ?_)
    obtain ⟨z, rfl⟩ := hb
    dsimp only [j_oi, j_ol, j_of, j_od, j_or, j_ov]
    refine jj_thr hl jj e10 ?_
    dsimp only [j_oi, j_ol, j_of, j_od, j_or, j_ov]
    rw [if_pos rfl]
    refine b_L_law_738 hG ?_
    dsimp only [q_L_law_738, j_wp, j_opB, j_opA, j_nth, j_i1, j_i2, j_l1, j_l2, j_li, j_f1, j_f2, j_d1, j_d2, j_r1, j_ai, j_aii, j_ail, j_aid, j_air, j_st1, j_st2, j_stu, j_kl, j_cond, j_args, j_out, j_few, j_cw, j_nat, j_pad, j_exp, Nat.reduceAdd]
    rw [if_neg hc]
    refine b_L_law_755 hG ?_
    dsimp only [q_L_law_755, j_wp, j_opB, j_opA, j_nth, j_i1, j_i2, j_l1, j_l2, j_li, j_f1, j_f2, j_d1, j_d2, j_r1, j_ai, j_aii, j_ail, j_aid, j_air, j_st1, j_st2, j_stu, j_kl, j_cond, j_args, j_out, j_few, j_cw, j_nat, j_pad, j_exp, Nat.reduceAdd]
    exact bk _ _ _ _ jj
theorem ca_nextFlow (hl : l.stackTraces = false) (hG : j_clo (j_Met l D bs E (d + 61)) E lpost m_L_law G) (hS : j_clS l D bs E (d + 61) s_L_law G) (hL : Ls ≤ 3072) (j : JJ E bs x sc Ls xs (n + 1) h) {i : Nat} (hi : i + 6 ≤ Ls) {u v w : Value} (bk : ∀ u v w h', JJ E bs x sc Ls xs n h' → G 1819 [.ref sc, .ref x, .ref (x + 51), .ref (x + 67), .ref (x + 68), .int (nI i), u, v, w] [] h') : G 758 [.ref sc, .ref x, .ref (x + 51), .ref (x + 67), .ref (x + 68), .int (nI i), u, v, w] [] h := by
  refine b_L_law_758 hG ?_
  dsimp only [q_L_law_758, j_wp, j_opB, j_opA, j_nth, j_i1, j_i2, j_l1, j_l2, j_li, j_f1, j_f2, j_d1, j_d2, j_r1, j_ai, j_aii, j_ail, j_aid, j_air, j_st1, j_st2, j_stu, j_kl, j_cond, j_args, j_out, j_few, j_cw, j_nat, j_pad, j_exp, Nat.reduceAdd]
  refine op_nextFlow hl j (fun a h1 an => ?_)
  dsimp only [j_oi, j_ol, j_of, j_od, j_or, j_ov]
  refine an_use an (fun b h3 hb _ jj _ _ => ?_)
  subst hb
  dsimp only [j_oi, j_ol, j_of, j_od, j_or, j_ov]
  rw [if_pos rfl]
  exact bk _ _ _ _ jj
theorem ca_packet (hl : l.stackTraces = false) (hG : j_clo (j_Met l D bs E (d + 61)) E lpost m_L_law G) (hS : j_clS l D bs E (d + 61) s_L_law G) (hL : Ls ≤ 3072) (j : JJ E bs x sc Ls xs (n + 1) h) {i : Nat} (hi : i + 6 ≤ Ls) {u v w : Value} (bk : ∀ u v w h', JJ E bs x sc Ls xs n h' → G 1819 [.ref sc, .ref x, .ref (x + 51), .ref (x + 67), .ref (x + 68), .int (nI i), u, v, w] [] h') : G 771 [.ref sc, .ref x, .ref (x + 51), .ref (x + 67), .ref (x + 68), .int (nI i), u, v, w] [] h := by
  have c1 : Int32.toNatClampNeg (nI i + 1) = i + 1 := ck_at (k := 1) (by omega)
  have v1 : vp_in (nI i + 1) Ls := vk_at (k := 1) (by omega) (by omega)
  have c2 : Int32.toNatClampNeg (nI i + 2) = i + 2 := ck_at (k := 2) (by omega)
  have v2 : vp_in (nI i + 2) Ls := vk_at (k := 2) (by omega) (by omega)
  have co := jj_co j
  have sq := co_sh co
  have a1q : j_I h sc (i + 1) = xs (i + 1) := co_at co (by omega)
  have a2q : j_I h sc (i + 2) = xs (i + 2) := co_at co (by omega)
  refine b_L_law_771 hG ?_
  dsimp only [q_L_law_771, j_wp, j_opB, j_opA, j_nth, j_i1, j_i2, j_l1, j_l2, j_li, j_f1, j_f2, j_d1, j_d2, j_r1, j_ai, j_aii, j_ail, j_aid, j_air, j_st1, j_st2, j_stu, j_kl, j_cond, j_args, j_out, j_few, j_cw, j_nat, j_pad, j_exp, Nat.reduceAdd]
  simp only [sq, j_ari, c1, v1, a1q, c2, v2, a2q, true_and]
  refine hS (785, 150, 4, i_L_packet) (List.mem_of_getElem? (i := 6) rfl) _ [.ref x, .int (xs (i + 1)), .int (xs (i + 2)), .ref (x + 67)] [] h rfl rfl ?_
  refine sp_L_packet hl j (fun o h1 wp => ?_)
  rcases wp with ⟨vv, hR, hT, rfl, an⟩ | ⟨c, hc, rfl, an⟩
  · obtain ⟨a, rfl, ha⟩ := hR
    show G 788 _ [.int 0] h1
    refine b_L_law_788 hG ?_
    dsimp only [q_L_law_788, j_wp, j_opB, j_opA, j_nth, j_i1, j_i2, j_l1, j_l2, j_li, j_f1, j_f2, j_d1, j_d2, j_r1, j_ai, j_aii, j_ail, j_aid, j_air, j_st1, j_st2, j_stu, j_kl, j_cond, j_args, j_out, j_few, j_cw, j_nat, j_pad, j_exp, Nat.reduceAdd]
    have co1 := an.2.1.2
    have sr := co_sh co1
    have a1r : j_I h1 sc (i + 1) = xs (i + 1) := co_at co1 (by omega)
    have a2r : j_I h1 sc (i + 2) = xs (i + 2) := co_at co1 (by omega)
    simp only [sr, j_ari, c1, v1, a1r, c2, v2, a2r, true_and]
    refine an_useU an (fun b h3 hb e10 jj s7 s8 => ?_)
    subst hb
    dsimp only [j_oi, j_ol, j_of, j_od, j_or, j_ov]
    refine jj_thr hl jj e10 ?_
    dsimp only [j_oi, j_ol, j_of, j_od, j_or, j_ov]
    rw [if_pos rfl]
    refine b_L_law_819 hG ?_
    dsimp only [q_L_law_819, j_wp, j_opB, j_opA, j_nth, j_i1, j_i2, j_l1, j_l2, j_li, j_f1, j_f2, j_d1, j_d2, j_r1, j_ai, j_aii, j_ail, j_aid, j_air, j_st1, j_st2, j_stu, j_kl, j_cond, j_args, j_out, j_few, j_cw, j_nat, j_pad, j_exp, Nat.reduceAdd]
    rw [if_pos rfl]
    rw [(jj_out jj).1]
    refine ⟨rfl, v_01, ?_⟩
    rw [e_00, s7.2.2.2.2 0, ha, if_pos (lg_self _)]
    refine b_L_law_836 hG ?_
    dsimp only [q_L_law_836, j_wp, j_opB, j_opA, j_nth, j_i1, j_i2, j_l1, j_l2, j_li, j_f1, j_f2, j_d1, j_d2, j_r1, j_ai, j_aii, j_ail, j_aid, j_air, j_st1, j_st2, j_stu, j_kl, j_cond, j_args, j_out, j_few, j_cw, j_nat, j_pad, j_exp, Nat.reduceAdd]
    exact bk _ _ _ _ jj
  · show G 788 _ [.int c] h1
    refine b_L_law_788 hG ?_
    dsimp only [q_L_law_788, j_wp, j_opB, j_opA, j_nth, j_i1, j_i2, j_l1, j_l2, j_li, j_f1, j_f2, j_d1, j_d2, j_r1, j_ai, j_aii, j_ail, j_aid, j_air, j_st1, j_st2, j_stu, j_kl, j_cond, j_args, j_out, j_few, j_cw, j_nat, j_pad, j_exp, Nat.reduceAdd]
    have co1 := an.2.1.2
    have sr := co_sh co1
    have a1r : j_I h1 sc (i + 1) = xs (i + 1) := co_at co1 (by omega)
    have a2r : j_I h1 sc (i + 2) = xs (i + 2) := co_at co1 (by omega)
    simp only [sr, j_ari, c1, v1, a1r, c2, v2, a2r, true_and]
    refine an_useU an (fun b h3 hb e10 jj s7 s8 => ?_)
    obtain ⟨z, rfl⟩ := hb
    dsimp only [j_oi, j_ol, j_of, j_od, j_or, j_ov]
    refine jj_thr hl jj e10 ?_
    dsimp only [j_oi, j_ol, j_of, j_od, j_or, j_ov]
    rw [if_pos rfl]
    refine b_L_law_819 hG ?_
    dsimp only [q_L_law_819, j_wp, j_opB, j_opA, j_nth, j_i1, j_i2, j_l1, j_l2, j_li, j_f1, j_f2, j_d1, j_d2, j_r1, j_ai, j_aii, j_ail, j_aid, j_air, j_st1, j_st2, j_stu, j_kl, j_cond, j_args, j_out, j_few, j_cw, j_nat, j_pad, j_exp, Nat.reduceAdd]
    rw [if_neg hc]
    refine b_L_law_836 hG ?_
    dsimp only [q_L_law_836, j_wp, j_opB, j_opA, j_nth, j_i1, j_i2, j_l1, j_l2, j_li, j_f1, j_f2, j_d1, j_d2, j_r1, j_ai, j_aii, j_ail, j_aid, j_air, j_st1, j_st2, j_stu, j_kl, j_cond, j_args, j_out, j_few, j_cw, j_nat, j_pad, j_exp, Nat.reduceAdd]
    exact bk _ _ _ _ jj
theorem ca_transmission (hl : l.stackTraces = false) (hG : j_clo (j_Met l D bs E (d + 61)) E lpost m_L_law G) (hS : j_clS l D bs E (d + 61) s_L_law G) (hL : Ls ≤ 3072) (j : JJ E bs x sc Ls xs (n + 1) h) {i : Nat} (hi : i + 6 ≤ Ls) {u v w : Value} (bk : ∀ u v w h', JJ E bs x sc Ls xs n h' → G 1819 [.ref sc, .ref x, .ref (x + 51), .ref (x + 67), .ref (x + 68), .int (nI i), u, v, w] [] h') : G 839 [.ref sc, .ref x, .ref (x + 51), .ref (x + 67), .ref (x + 68), .int (nI i), u, v, w] [] h := by
  have c1 : Int32.toNatClampNeg (nI i + 1) = i + 1 := ck_at (k := 1) (by omega)
  have v1 : vp_in (nI i + 1) Ls := vk_at (k := 1) (by omega) (by omega)
  have c2 : Int32.toNatClampNeg (nI i + 2) = i + 2 := ck_at (k := 2) (by omega)
  have v2 : vp_in (nI i + 2) Ls := vk_at (k := 2) (by omega) (by omega)
  have co := jj_co j
  have sq := co_sh co
  have a1q : j_I h sc (i + 1) = xs (i + 1) := co_at co (by omega)
  have a2q : j_I h sc (i + 2) = xs (i + 2) := co_at co (by omega)
  refine b_L_law_839 hG ?_
  dsimp only [q_L_law_839, j_wp, j_opB, j_opA, j_nth, j_i1, j_i2, j_l1, j_l2, j_li, j_f1, j_f2, j_d1, j_d2, j_r1, j_ai, j_aii, j_ail, j_aid, j_air, j_st1, j_st2, j_stu, j_kl, j_cond, j_args, j_out, j_few, j_cw, j_nat, j_pad, j_exp, Nat.reduceAdd]
  simp only [sq, j_ari, c1, v1, a1q, c2, v2, a2q, true_and]
  refine hS (853, 153, 4, i_L_transmission) (List.mem_of_getElem? (i := 7) rfl) _ [.ref x, .int (xs (i + 1)), .int (xs (i + 2)), .ref (x + 67)] [] h rfl rfl ?_
  refine sp_L_transmission hl j (fun o h1 wp => ?_)
  rcases wp with ⟨vv, hR, hT, rfl, an⟩ | ⟨c, hc, rfl, an⟩
  · obtain ⟨a, rfl, ha⟩ := hR
    show G 856 _ [.int 0] h1
    refine b_L_law_856 hG ?_
    dsimp only [q_L_law_856, j_wp, j_opB, j_opA, j_nth, j_i1, j_i2, j_l1, j_l2, j_li, j_f1, j_f2, j_d1, j_d2, j_r1, j_ai, j_aii, j_ail, j_aid, j_air, j_st1, j_st2, j_stu, j_kl, j_cond, j_args, j_out, j_few, j_cw, j_nat, j_pad, j_exp, Nat.reduceAdd]
    have co1 := an.2.1.2
    have sr := co_sh co1
    have a1r : j_I h1 sc (i + 1) = xs (i + 1) := co_at co1 (by omega)
    have a2r : j_I h1 sc (i + 2) = xs (i + 2) := co_at co1 (by omega)
    simp only [sr, j_ari, c1, v1, a1r, c2, v2, a2r, true_and]
    refine an_useU an (fun b h3 hb e10 jj s7 s8 => ?_)
    subst hb
    dsimp only [j_oi, j_ol, j_of, j_od, j_or, j_ov]
    refine jj_thr hl jj e10 ?_
    dsimp only [j_oi, j_ol, j_of, j_od, j_or, j_ov]
    rw [if_pos rfl]
    refine b_L_law_887 hG ?_
    dsimp only [q_L_law_887, j_wp, j_opB, j_opA, j_nth, j_i1, j_i2, j_l1, j_l2, j_li, j_f1, j_f2, j_d1, j_d2, j_r1, j_ai, j_aii, j_ail, j_aid, j_air, j_st1, j_st2, j_stu, j_kl, j_cond, j_args, j_out, j_few, j_cw, j_nat, j_pad, j_exp, Nat.reduceAdd]
    rw [if_pos rfl]
    rw [(jj_out jj).1]
    refine ⟨rfl, v_01, ?_⟩
    rw [e_00, s7.2.2.2.2 0, ha, if_pos (lg_self _)]
    refine b_L_law_904 hG ?_
    dsimp only [q_L_law_904, j_wp, j_opB, j_opA, j_nth, j_i1, j_i2, j_l1, j_l2, j_li, j_f1, j_f2, j_d1, j_d2, j_r1, j_ai, j_aii, j_ail, j_aid, j_air, j_st1, j_st2, j_stu, j_kl, j_cond, j_args, j_out, j_few, j_cw, j_nat, j_pad, j_exp, Nat.reduceAdd]
    exact bk _ _ _ _ jj
  · show G 856 _ [.int c] h1
    refine b_L_law_856 hG ?_
    dsimp only [q_L_law_856, j_wp, j_opB, j_opA, j_nth, j_i1, j_i2, j_l1, j_l2, j_li, j_f1, j_f2, j_d1, j_d2, j_r1, j_ai, j_aii, j_ail, j_aid, j_air, j_st1, j_st2, j_stu, j_kl, j_cond, j_args, j_out, j_few, j_cw, j_nat, j_pad, j_exp, Nat.reduceAdd]
    have co1 := an.2.1.2
    have sr := co_sh co1
    have a1r : j_I h1 sc (i + 1) = xs (i + 1) := co_at co1 (by omega)
    have a2r : j_I h1 sc (i + 2) = xs (i + 2) := co_at co1 (by omega)
    simp only [sr, j_ari, c1, v1, a1r, c2, v2, a2r, true_and]
    refine an_useU an (fun b h3 hb e10 jj s7 s8 => ?_)
    obtain ⟨z, rfl⟩ := hb
    dsimp only [j_oi, j_ol, j_of, j_od, j_or, j_ov]
    refine jj_thr hl jj e10 ?_
    dsimp only [j_oi, j_ol, j_of, j_od, j_or, j_ov]
    rw [if_pos rfl]
    refine b_L_law_887 hG ?_
    dsimp only [q_L_law_887, j_wp, j_opB, j_opA, j_nth, j_i1, j_i2, j_l1, j_l2, j_li, j_f1, j_f2, j_d1, j_d2, j_r1, j_ai, j_aii, j_ail, j_aid, j_air, j_st1, j_st2, j_stu, j_kl, j_cond, j_args, j_out, j_few, j_cw, j_nat, j_pad, j_exp, Nat.reduceAdd]
    rw [if_neg hc]
    refine b_L_law_904 hG ?_
    dsimp only [q_L_law_904, j_wp, j_opB, j_opA, j_nth, j_i1, j_i2, j_l1, j_l2, j_li, j_f1, j_f2, j_d1, j_d2, j_r1, j_ai, j_aii, j_ail, j_aid, j_air, j_st1, j_st2, j_stu, j_kl, j_cond, j_args, j_out, j_few, j_cw, j_nat, j_pad, j_exp, Nat.reduceAdd]
    exact bk _ _ _ _ jj
theorem ca_charge (hl : l.stackTraces = false) (hG : j_clo (j_Met l D bs E (d + 61)) E lpost m_L_law G) (hS : j_clS l D bs E (d + 61) s_L_law G) (hL : Ls ≤ 3072) (j : JJ E bs x sc Ls xs (n + 1) h) {i : Nat} (hi : i + 6 ≤ Ls) {u v w : Value} (bk : ∀ u v w h', JJ E bs x sc Ls xs n h' → G 1819 [.ref sc, .ref x, .ref (x + 51), .ref (x + 67), .ref (x + 68), .int (nI i), u, v, w] [] h') : G 907 [.ref sc, .ref x, .ref (x + 51), .ref (x + 67), .ref (x + 68), .int (nI i), u, v, w] [] h := by
  have c1 : Int32.toNatClampNeg (nI i + 1) = i + 1 := ck_at (k := 1) (by omega)
  have v1 : vp_in (nI i + 1) Ls := vk_at (k := 1) (by omega) (by omega)
  have co := jj_co j
  have sq := co_sh co
  have a1q : j_I h sc (i + 1) = xs (i + 1) := co_at co (by omega)
  refine b_L_law_907 hG ?_
  dsimp only [q_L_law_907, j_wp, j_opB, j_opA, j_nth, j_i1, j_i2, j_l1, j_l2, j_li, j_f1, j_f2, j_d1, j_d2, j_r1, j_ai, j_aii, j_ail, j_aid, j_air, j_st1, j_st2, j_stu, j_kl, j_cond, j_args, j_out, j_few, j_cw, j_nat, j_pad, j_exp, Nat.reduceAdd]
  simp only [sq, j_ari, c1, v1, a1q, true_and]
  refine hS (915, 156, 3, i_L_charge) (List.mem_of_getElem? (i := 8) rfl) _ [.ref x, .int (xs (i + 1)), .ref (x + 67)] [] h rfl rfl ?_
  refine sp_L_charge hl j (fun o h1 wp => ?_)
  rcases wp with ⟨vv, hR, hT, rfl, an⟩ | ⟨c, hc, rfl, an⟩
  · obtain ⟨a, rfl, ha⟩ := hR
    show G 918 _ [.int 0] h1
    refine b_L_law_918 hG ?_
    dsimp only [q_L_law_918, j_wp, j_opB, j_opA, j_nth, j_i1, j_i2, j_l1, j_l2, j_li, j_f1, j_f2, j_d1, j_d2, j_r1, j_ai, j_aii, j_ail, j_aid, j_air, j_st1, j_st2, j_stu, j_kl, j_cond, j_args, j_out, j_few, j_cw, j_nat, j_pad, j_exp, Nat.reduceAdd]
    have co1 := an.2.1.2
    have sr := co_sh co1
    have a1r : j_I h1 sc (i + 1) = xs (i + 1) := co_at co1 (by omega)
    simp only [sr, j_ari, c1, v1, a1r, true_and]
    refine an_useU an (fun b h3 hb e10 jj s7 s8 => ?_)
    subst hb
    dsimp only [j_oi, j_ol, j_of, j_od, j_or, j_ov]
    refine jj_thr hl jj e10 ?_
    dsimp only [j_oi, j_ol, j_of, j_od, j_or, j_ov]
    rw [if_pos rfl]
    refine b_L_law_943 hG ?_
    dsimp only [q_L_law_943, j_wp, j_opB, j_opA, j_nth, j_i1, j_i2, j_l1, j_l2, j_li, j_f1, j_f2, j_d1, j_d2, j_r1, j_ai, j_aii, j_ail, j_aid, j_air, j_st1, j_st2, j_stu, j_kl, j_cond, j_args, j_out, j_few, j_cw, j_nat, j_pad, j_exp, Nat.reduceAdd]
    rw [if_pos rfl]
    rw [(jj_out jj).1]
    refine ⟨rfl, v_01, ?_⟩
    rw [e_00, s7.2.2.2.2 0, ha, if_pos (lg_self _)]
    refine b_L_law_959 hG ?_
    dsimp only [q_L_law_959, j_wp, j_opB, j_opA, j_nth, j_i1, j_i2, j_l1, j_l2, j_li, j_f1, j_f2, j_d1, j_d2, j_r1, j_ai, j_aii, j_ail, j_aid, j_air, j_st1, j_st2, j_stu, j_kl, j_cond, j_args, j_out, j_few, j_cw, j_nat, j_pad, j_exp, Nat.reduceAdd]
    exact bk _ _ _ _ jj
  · show G 918 _ [.int c] h1
    refine b_L_law_918 hG ?_
    dsimp only [q_L_law_918, j_wp, j_opB, j_opA, j_nth, j_i1, j_i2, j_l1, j_l2, j_li, j_f1, j_f2, j_d1, j_d2, j_r1, j_ai, j_aii, j_ail, j_aid, j_air, j_st1, j_st2, j_stu, j_kl, j_cond, j_args, j_out, j_few, j_cw, j_nat, j_pad, j_exp, Nat.reduceAdd]
    have co1 := an.2.1.2
    have sr := co_sh co1
    have a1r : j_I h1 sc (i + 1) = xs (i + 1) := co_at co1 (by omega)
    simp only [sr, j_ari, c1, v1, a1r, true_and]
    refine an_useU an (fun b h3 hb e10 jj s7 s8 => ?_)
    obtain ⟨z, rfl⟩ := hb
    dsimp only [j_oi, j_ol, j_of, j_od, j_or, j_ov]
    refine jj_thr hl jj e10 ?_
    dsimp only [j_oi, j_ol, j_of, j_od, j_or, j_ov]
    rw [if_pos rfl]
    refine b_L_law_943 hG ?_
    dsimp only [q_L_law_943, j_wp, j_opB, j_opA, j_nth, j_i1, j_i2, j_l1, j_l2, j_li, j_f1, j_f2, j_d1, j_d2, j_r1, j_ai, j_aii, j_ail, j_aid, j_air, j_st1, j_st2, j_stu, j_kl, j_cond, j_args, j_out, j_few, j_cw, j_nat, j_pad, j_exp, Nat.reduceAdd]
    rw [if_neg hc]
    refine b_L_law_959 hG ?_
    dsimp only [q_L_law_959, j_wp, j_opB, j_opA, j_nth, j_i1, j_i2, j_l1, j_l2, j_li, j_f1, j_f2, j_d1, j_d2, j_r1, j_ai, j_aii, j_ail, j_aid, j_air, j_st1, j_st2, j_stu, j_kl, j_cond, j_args, j_out, j_few, j_cw, j_nat, j_pad, j_exp, Nat.reduceAdd]
    exact bk _ _ _ _ jj
theorem ca_outstanding (hl : l.stackTraces = false) (hG : j_clo (j_Met l D bs E (d + 61)) E lpost m_L_law G) (hS : j_clS l D bs E (d + 61) s_L_law G) (hL : Ls ≤ 3072) (j : JJ E bs x sc Ls xs (n + 1) h) {i : Nat} (hi : i + 6 ≤ Ls) {u v w : Value} (bk : ∀ u v w h', JJ E bs x sc Ls xs n h' → G 1819 [.ref sc, .ref x, .ref (x + 51), .ref (x + 67), .ref (x + 68), .int (nI i), u, v, w] [] h') : G 962 [.ref sc, .ref x, .ref (x + 51), .ref (x + 67), .ref (x + 68), .int (nI i), u, v, w] [] h := by
  have c1 : Int32.toNatClampNeg (nI i + 1) = i + 1 := ck_at (k := 1) (by omega)
  have v1 : vp_in (nI i + 1) Ls := vk_at (k := 1) (by omega) (by omega)
  have co := jj_co j
  have sq := co_sh co
  have a1q : j_I h sc (i + 1) = xs (i + 1) := co_at co (by omega)
  refine b_L_law_962 hG ?_
  dsimp only [q_L_law_962, j_wp, j_opB, j_opA, j_nth, j_i1, j_i2, j_l1, j_l2, j_li, j_f1, j_f2, j_d1, j_d2, j_r1, j_ai, j_aii, j_ail, j_aid, j_air, j_st1, j_st2, j_stu, j_kl, j_cond, j_args, j_out, j_few, j_cw, j_nat, j_pad, j_exp, Nat.reduceAdd]
  simp only [sq, j_ari, c1, v1, a1q, true_and]
  refine hS (970, 159, 3, i_L_outstanding) (List.mem_of_getElem? (i := 9) rfl) _ [.ref x, .int (xs (i + 1)), .ref (x + 67)] [] h rfl rfl ?_
  refine sp_L_outstanding hl j (fun o h1 wp => ?_)
  rcases wp with ⟨vv, hR, hT, rfl, an⟩ | ⟨c, hc, rfl, an⟩
  · obtain ⟨a, rfl, ha⟩ := hR
    show G 973 _ [.int 0] h1
    refine b_L_law_973 hG ?_
    dsimp only [q_L_law_973, j_wp, j_opB, j_opA, j_nth, j_i1, j_i2, j_l1, j_l2, j_li, j_f1, j_f2, j_d1, j_d2, j_r1, j_ai, j_aii, j_ail, j_aid, j_air, j_st1, j_st2, j_stu, j_kl, j_cond, j_args, j_out, j_few, j_cw, j_nat, j_pad, j_exp, Nat.reduceAdd]
    have co1 := an.2.1.2
    have sr := co_sh co1
    have a1r : j_I h1 sc (i + 1) = xs (i + 1) := co_at co1 (by omega)
    simp only [sr, j_ari, c1, v1, a1r, true_and]
    refine an_useU an (fun b h3 hb e10 jj s7 s8 => ?_)
    subst hb
    dsimp only [j_oi, j_ol, j_of, j_od, j_or, j_ov]
    refine jj_thr hl jj e10 ?_
    dsimp only [j_oi, j_ol, j_of, j_od, j_or, j_ov]
    rw [if_pos rfl]
    refine b_L_law_998 hG ?_
    dsimp only [q_L_law_998, j_wp, j_opB, j_opA, j_nth, j_i1, j_i2, j_l1, j_l2, j_li, j_f1, j_f2, j_d1, j_d2, j_r1, j_ai, j_aii, j_ail, j_aid, j_air, j_st1, j_st2, j_stu, j_kl, j_cond, j_args, j_out, j_few, j_cw, j_nat, j_pad, j_exp, Nat.reduceAdd]
    rw [if_pos rfl]
    rw [(jj_out jj).1]
    refine ⟨rfl, v_01, ?_⟩
    rw [e_00, s7.2.2.2.2 0, ha, if_pos (lg_self _)]
    refine b_L_law_1015 hG ?_
    dsimp only [q_L_law_1015, j_wp, j_opB, j_opA, j_nth, j_i1, j_i2, j_l1, j_l2, j_li, j_f1, j_f2, j_d1, j_d2, j_r1, j_ai, j_aii, j_ail, j_aid, j_air, j_st1, j_st2, j_stu, j_kl, j_cond, j_args, j_out, j_few, j_cw, j_nat, j_pad, j_exp, Nat.reduceAdd]
    exact bk _ _ _ _ jj
  · show G 973 _ [.int c] h1
    refine b_L_law_973 hG ?_
    dsimp only [q_L_law_973, j_wp, j_opB, j_opA, j_nth, j_i1, j_i2, j_l1, j_l2, j_li, j_f1, j_f2, j_d1, j_d2, j_r1, j_ai, j_aii, j_ail, j_aid, j_air, j_st1, j_st2, j_stu, j_kl, j_cond, j_args, j_out, j_few, j_cw, j_nat, j_pad, j_exp, Nat.reduceAdd]
    have co1 := an.2.1.2
    have sr := co_sh co1
    have a1r : j_I h1 sc (i + 1) = xs (i + 1) := co_at co1 (by omega)
    simp only [sr, j_ari, c1, v1, a1r, true_and]
    refine an_useU an (fun b h3 hb e10 jj s7 s8 => ?_)
    obtain ⟨z, rfl⟩ := hb
    dsimp only [j_oi, j_ol, j_of, j_od, j_or, j_ov]
    refine jj_thr hl jj e10 ?_
    dsimp only [j_oi, j_ol, j_of, j_od, j_or, j_ov]
    rw [if_pos rfl]
    refine b_L_law_998 hG ?_
    dsimp only [q_L_law_998, j_wp, j_opB, j_opA, j_nth, j_i1, j_i2, j_l1, j_l2, j_li, j_f1, j_f2, j_d1, j_d2, j_r1, j_ai, j_aii, j_ail, j_aid, j_air, j_st1, j_st2, j_stu, j_kl, j_cond, j_args, j_out, j_few, j_cw, j_nat, j_pad, j_exp, Nat.reduceAdd]
    rw [if_neg hc]
    refine b_L_law_1015 hG ?_
    dsimp only [q_L_law_1015, j_wp, j_opB, j_opA, j_nth, j_i1, j_i2, j_l1, j_l2, j_li, j_f1, j_f2, j_d1, j_d2, j_r1, j_ai, j_aii, j_ail, j_aid, j_air, j_st1, j_st2, j_stu, j_kl, j_cond, j_args, j_out, j_few, j_cw, j_nat, j_pad, j_exp, Nat.reduceAdd]
    exact bk _ _ _ _ jj
theorem ca_arrive (hl : l.stackTraces = false) (hG : j_clo (j_Met l D bs E (d + 61)) E lpost m_L_law G) (hS : j_clS l D bs E (d + 61) s_L_law G) (hL : Ls ≤ 3072) (j : JJ E bs x sc Ls xs (n + 1) h) {i : Nat} (hi : i + 6 ≤ Ls) {u v w : Value} (bk : ∀ u v w h', JJ E bs x sc Ls xs n h' → G 1819 [.ref sc, .ref x, .ref (x + 51), .ref (x + 67), .ref (x + 68), .int (nI i), u, v, w] [] h') : G 1018 [.ref sc, .ref x, .ref (x + 51), .ref (x + 67), .ref (x + 68), .int (nI i), u, v, w] [] h := by
  have c1 : Int32.toNatClampNeg (nI i + 1) = i + 1 := ck_at (k := 1) (by omega)
  have v1 : vp_in (nI i + 1) Ls := vk_at (k := 1) (by omega) (by omega)
  have c2 : Int32.toNatClampNeg (nI i + 2) = i + 2 := ck_at (k := 2) (by omega)
  have v2 : vp_in (nI i + 2) Ls := vk_at (k := 2) (by omega) (by omega)
  have c3 : Int32.toNatClampNeg (nI i + 3) = i + 3 := ck_at (k := 3) (by omega)
  have v3 : vp_in (nI i + 3) Ls := vk_at (k := 3) (by omega) (by omega)
  have c4 : Int32.toNatClampNeg (nI i + 4) = i + 4 := ck_at (k := 4) (by omega)
  have v4 : vp_in (nI i + 4) Ls := vk_at (k := 4) (by omega) (by omega)
  have co := jj_co j
  have sq := co_sh co
  have a1q : j_I h sc (i + 1) = xs (i + 1) := co_at co (by omega)
  have a2q : j_I h sc (i + 2) = xs (i + 2) := co_at co (by omega)
  have a3q : j_I h sc (i + 3) = xs (i + 3) := co_at co (by omega)
  have a4q : j_I h sc (i + 4) = xs (i + 4) := co_at co (by omega)
  refine b_L_law_1018 hG ?_
  dsimp only [q_L_law_1018, j_wp, j_opB, j_opA, j_nth, j_i1, j_i2, j_l1, j_l2, j_li, j_f1, j_f2, j_d1, j_d2, j_r1, j_ai, j_aii, j_ail, j_aid, j_air, j_st1, j_st2, j_stu, j_kl, j_cond, j_args, j_out, j_few, j_cw, j_nat, j_pad, j_exp, Nat.reduceAdd]
  simp only [sq, j_ari, c1, v1, a1q, c2, v2, a2q, c3, v3, a3q, c4, v4, a4q, true_and]
  refine hS (1044, 162, 6, i_L_arrive) (List.mem_of_getElem? (i := 10) rfl) _ [.ref x, .int (xs (i + 1)), .int (xs (i + 2)), .int (xs (i + 3)), .int (xs (i + 4)), .ref (x + 67)] [] h rfl rfl ?_
  refine sp_L_arrive hl j (fun o h1 wp => ?_)
  rcases wp with ⟨vv, hR, hT, rfl, an⟩ | ⟨c, hc, rfl, an⟩
  · obtain ⟨a, rfl, ha⟩ := hR
    show G 1047 _ [.int 0] h1
    refine b_L_law_1047 hG ?_
    dsimp only [q_L_law_1047, j_wp, j_opB, j_opA, j_nth, j_i1, j_i2, j_l1, j_l2, j_li, j_f1, j_f2, j_d1, j_d2, j_r1, j_ai, j_aii, j_ail, j_aid, j_air, j_st1, j_st2, j_stu, j_kl, j_cond, j_args, j_out, j_few, j_cw, j_nat, j_pad, j_exp, Nat.reduceAdd]
    have co1 := an.2.1.2
    have sr := co_sh co1
    have a1r : j_I h1 sc (i + 1) = xs (i + 1) := co_at co1 (by omega)
    have a2r : j_I h1 sc (i + 2) = xs (i + 2) := co_at co1 (by omega)
    have a3r : j_I h1 sc (i + 3) = xs (i + 3) := co_at co1 (by omega)
    have a4r : j_I h1 sc (i + 4) = xs (i + 4) := co_at co1 (by omega)
    simp only [sr, j_ari, c1, v1, a1r, c2, v2, a2r, c3, v3, a3r, c4, v4, a4r, true_and]
    refine an_useU an (fun b h3 hb e10 jj s7 s8 => ?_)
    subst hb
    dsimp only [j_oi, j_ol, j_of, j_od, j_or, j_ov]
    refine jj_thr hl jj e10 ?_
    dsimp only [j_oi, j_ol, j_of, j_od, j_or, j_ov]
    rw [if_pos rfl]
    refine b_L_law_1090 hG ?_
    dsimp only [q_L_law_1090, j_wp, j_opB, j_opA, j_nth, j_i1, j_i2, j_l1, j_l2, j_li, j_f1, j_f2, j_d1, j_d2, j_r1, j_ai, j_aii, j_ail, j_aid, j_air, j_st1, j_st2, j_stu, j_kl, j_cond, j_args, j_out, j_few, j_cw, j_nat, j_pad, j_exp, Nat.reduceAdd]
    rw [if_pos rfl]
    rw [(jj_out jj).1]
    refine ⟨rfl, v_01, ?_⟩
    rw [e_00, s7.2.2.2.2 0, ha, if_pos (lg_self _)]
    refine b_L_law_1107 hG ?_
    dsimp only [q_L_law_1107, j_wp, j_opB, j_opA, j_nth, j_i1, j_i2, j_l1, j_l2, j_li, j_f1, j_f2, j_d1, j_d2, j_r1, j_ai, j_aii, j_ail, j_aid, j_air, j_st1, j_st2, j_stu, j_kl, j_cond, j_args, j_out, j_few, j_cw, j_nat, j_pad, j_exp, Nat.reduceAdd]
    exact bk _ _ _ _ jj
  · show G 1047 _ [.int c] h1
    refine b_L_law_1047 hG ?_
    dsimp only [q_L_law_1047, j_wp, j_opB, j_opA, j_nth, j_i1, j_i2, j_l1, j_l2, j_li, j_f1, j_f2, j_d1, j_d2, j_r1, j_ai, j_aii, j_ail, j_aid, j_air, j_st1, j_st2, j_stu, j_kl, j_cond, j_args, j_out, j_few, j_cw, j_nat, j_pad, j_exp, Nat.reduceAdd]
    have co1 := an.2.1.2
    have sr := co_sh co1
    have a1r : j_I h1 sc (i + 1) = xs (i + 1) := co_at co1 (by omega)
    have a2r : j_I h1 sc (i + 2) = xs (i + 2) := co_at co1 (by omega)
    have a3r : j_I h1 sc (i + 3) = xs (i + 3) := co_at co1 (by omega)
    have a4r : j_I h1 sc (i + 4) = xs (i + 4) := co_at co1 (by omega)
    simp only [sr, j_ari, c1, v1, a1r, c2, v2, a2r, c3, v3, a3r, c4, v4, a4r, true_and]
    refine an_useU an (fun b h3 hb e10 jj s7 s8 => ?_)
    obtain ⟨z, rfl⟩ := hb
    dsimp only [j_oi, j_ol, j_of, j_od, j_or, j_ov]
    refine jj_thr hl jj e10 ?_
    dsimp only [j_oi, j_ol, j_of, j_od, j_or, j_ov]
    rw [if_pos rfl]
    refine b_L_law_1090 hG ?_
    dsimp only [q_L_law_1090, j_wp, j_opB, j_opA, j_nth, j_i1, j_i2, j_l1, j_l2, j_li, j_f1, j_f2, j_d1, j_d2, j_r1, j_ai, j_aii, j_ail, j_aid, j_air, j_st1, j_st2, j_stu, j_kl, j_cond, j_args, j_out, j_few, j_cw, j_nat, j_pad, j_exp, Nat.reduceAdd]
    rw [if_neg hc]
    refine b_L_law_1107 hG ?_
    dsimp only [q_L_law_1107, j_wp, j_opB, j_opA, j_nth, j_i1, j_i2, j_l1, j_l2, j_li, j_f1, j_f2, j_d1, j_d2, j_r1, j_ai, j_aii, j_ail, j_aid, j_air, j_st1, j_st2, j_stu, j_kl, j_cond, j_args, j_out, j_few, j_cw, j_nat, j_pad, j_exp, Nat.reduceAdd]
    exact bk _ _ _ _ jj
theorem ca_run (hl : l.stackTraces = false) (hG : j_clo (j_Met l D bs E (d + 61)) E lpost m_L_law G) (hS : j_clS l D bs E (d + 61) s_L_law G) (hL : Ls ≤ 3072) (j : JJ E bs x sc Ls xs (n + 1) h) {i : Nat} (hi : i + 6 ≤ Ls) {u v w : Value} (bk : ∀ u v w h', JJ E bs x sc Ls xs n h' → G 1819 [.ref sc, .ref x, .ref (x + 51), .ref (x + 67), .ref (x + 68), .int (nI i), u, v, w] [] h') : G 1110 [.ref sc, .ref x, .ref (x + 51), .ref (x + 67), .ref (x + 68), .int (nI i), u, v, w] [] h := by
  have c1 : Int32.toNatClampNeg (nI i + 1) = i + 1 := ck_at (k := 1) (by omega)
  have v1 : vp_in (nI i + 1) Ls := vk_at (k := 1) (by omega) (by omega)
  have co := jj_co j
  have sq := co_sh co
  have a1q : j_I h sc (i + 1) = xs (i + 1) := co_at co (by omega)
  refine b_L_law_1110 hG ?_
  dsimp only [q_L_law_1110, j_wp, j_opB, j_opA, j_nth, j_i1, j_i2, j_l1, j_l2, j_li, j_f1, j_f2, j_d1, j_d2, j_r1, j_ai, j_aii, j_ail, j_aid, j_air, j_st1, j_st2, j_stu, j_kl, j_cond, j_args, j_out, j_few, j_cw, j_nat, j_pad, j_exp, Nat.reduceAdd]
  simp only [sq, j_ari, c1, v1, a1q, true_and]
  refine hS (1118, 166, 3, i_L_run) (List.mem_of_getElem? (i := 11) rfl) _ [.ref x, .int (xs (i + 1)), .ref (x + 67)] [] h rfl rfl ?_
  refine sp_L_run hl j (fun o h1 wp => ?_)
  rcases wp with ⟨vv, hR, hT, rfl, an⟩ | ⟨c, hc, rfl, an⟩
  · obtain ⟨a, rfl, ha⟩ := hR
    show G 1121 _ [.int 0] h1
    refine b_L_law_1121 hG ?_
    dsimp only [q_L_law_1121, j_wp, j_opB, j_opA, j_nth, j_i1, j_i2, j_l1, j_l2, j_li, j_f1, j_f2, j_d1, j_d2, j_r1, j_ai, j_aii, j_ail, j_aid, j_air, j_st1, j_st2, j_stu, j_kl, j_cond, j_args, j_out, j_few, j_cw, j_nat, j_pad, j_exp, Nat.reduceAdd]
    have co1 := an.2.1.2
    have sr := co_sh co1
    have a1r : j_I h1 sc (i + 1) = xs (i + 1) := co_at co1 (by omega)
    simp only [sr, j_ari, c1, v1, a1r, true_and]
    refine an_useU an (fun b h3 hb e10 jj s7 s8 => ?_)
    subst hb
    dsimp only [j_oi, j_ol, j_of, j_od, j_or, j_ov]
    refine jj_thr hl jj e10 ?_
    dsimp only [j_oi, j_ol, j_of, j_od, j_or, j_ov]
    rw [if_pos rfl]
    refine b_L_law_1146 hG ?_
    dsimp only [q_L_law_1146, j_wp, j_opB, j_opA, j_nth, j_i1, j_i2, j_l1, j_l2, j_li, j_f1, j_f2, j_d1, j_d2, j_r1, j_ai, j_aii, j_ail, j_aid, j_air, j_st1, j_st2, j_stu, j_kl, j_cond, j_args, j_out, j_few, j_cw, j_nat, j_pad, j_exp, Nat.reduceAdd]
    rw [if_pos rfl]
    rw [(jj_out jj).1]
    refine ⟨rfl, v_01, ?_⟩
    rw [e_00, s7.2.2.2.2 0, ha, if_pos (lg_self _)]
    refine b_L_law_1163 hG ?_
    dsimp only [q_L_law_1163, j_wp, j_opB, j_opA, j_nth, j_i1, j_i2, j_l1, j_l2, j_li, j_f1, j_f2, j_d1, j_d2, j_r1, j_ai, j_aii, j_ail, j_aid, j_air, j_st1, j_st2, j_stu, j_kl, j_cond, j_args, j_out, j_few, j_cw, j_nat, j_pad, j_exp, Nat.reduceAdd]
    exact bk _ _ _ _ jj
  · show G 1121 _ [.int c] h1
    refine b_L_law_1121 hG ?_
    dsimp only [q_L_law_1121, j_wp, j_opB, j_opA, j_nth, j_i1, j_i2, j_l1, j_l2, j_li, j_f1, j_f2, j_d1, j_d2, j_r1, j_ai, j_aii, j_ail, j_aid, j_air, j_st1, j_st2, j_stu, j_kl, j_cond, j_args, j_out, j_few, j_cw, j_nat, j_pad, j_exp, Nat.reduceAdd]
    have co1 := an.2.1.2
    have sr := co_sh co1
    have a1r : j_I h1 sc (i + 1) = xs (i + 1) := co_at co1 (by omega)
    simp only [sr, j_ari, c1, v1, a1r, true_and]
    refine an_useU an (fun b h3 hb e10 jj s7 s8 => ?_)
    obtain ⟨z, rfl⟩ := hb
    dsimp only [j_oi, j_ol, j_of, j_od, j_or, j_ov]
    refine jj_thr hl jj e10 ?_
    dsimp only [j_oi, j_ol, j_of, j_od, j_or, j_ov]
    rw [if_pos rfl]
    refine b_L_law_1146 hG ?_
    dsimp only [q_L_law_1146, j_wp, j_opB, j_opA, j_nth, j_i1, j_i2, j_l1, j_l2, j_li, j_f1, j_f2, j_d1, j_d2, j_r1, j_ai, j_aii, j_ail, j_aid, j_air, j_st1, j_st2, j_stu, j_kl, j_cond, j_args, j_out, j_few, j_cw, j_nat, j_pad, j_exp, Nat.reduceAdd]
    rw [if_neg hc]
    refine b_L_law_1163 hG ?_
    dsimp only [q_L_law_1163, j_wp, j_opB, j_opA, j_nth, j_i1, j_i2, j_l1, j_l2, j_li, j_f1, j_f2, j_d1, j_d2, j_r1, j_ai, j_aii, j_ail, j_aid, j_air, j_st1, j_st2, j_stu, j_kl, j_cond, j_args, j_out, j_few, j_cw, j_nat, j_pad, j_exp, Nat.reduceAdd]
    exact bk _ _ _ _ jj
theorem ca_setWeight (hl : l.stackTraces = false) (hG : j_clo (j_Met l D bs E (d + 61)) E lpost m_L_law G) (hS : j_clS l D bs E (d + 61) s_L_law G) (hL : Ls ≤ 3072) (j : JJ E bs x sc Ls xs (n + 1) h) {i : Nat} (hi : i + 6 ≤ Ls) {u v w : Value} (bk : ∀ u v w h', JJ E bs x sc Ls xs n h' → G 1819 [.ref sc, .ref x, .ref (x + 51), .ref (x + 67), .ref (x + 68), .int (nI i), u, v, w] [] h') : G 1166 [.ref sc, .ref x, .ref (x + 51), .ref (x + 67), .ref (x + 68), .int (nI i), u, v, w] [] h := by
  have c1 : Int32.toNatClampNeg (nI i + 1) = i + 1 := ck_at (k := 1) (by omega)
  have v1 : vp_in (nI i + 1) Ls := vk_at (k := 1) (by omega) (by omega)
  have c2 : Int32.toNatClampNeg (nI i + 2) = i + 2 := ck_at (k := 2) (by omega)
  have v2 : vp_in (nI i + 2) Ls := vk_at (k := 2) (by omega) (by omega)
  have co := jj_co j
  have sq := co_sh co
  have a1q : j_I h sc (i + 1) = xs (i + 1) := co_at co (by omega)
  have a2q : j_I h sc (i + 2) = xs (i + 2) := co_at co (by omega)
  refine b_L_law_1166 hG ?_
  dsimp only [q_L_law_1166, j_wp, j_opB, j_opA, j_nth, j_i1, j_i2, j_l1, j_l2, j_li, j_f1, j_f2, j_d1, j_d2, j_r1, j_ai, j_aii, j_ail, j_aid, j_air, j_st1, j_st2, j_stu, j_kl, j_cond, j_args, j_out, j_few, j_cw, j_nat, j_pad, j_exp, Nat.reduceAdd]
  simp only [sq, j_ari, c1, v1, a1q, c2, v2, a2q, true_and]
  refine hS (1180, 169, 4, i_L_setWeight) (List.mem_of_getElem? (i := 12) rfl) _ [.ref x, .int (xs (i + 1)), .int (xs (i + 2)), .ref (x + 67)] [] h rfl rfl ?_
  refine sp_L_setWeight hl j (fun o h1 wp => ?_)
  rcases wp with ⟨vv, hR, hT, rfl, an⟩ | ⟨c, hc, rfl, an⟩
  · obtain ⟨a, rfl, ha⟩ := hR
    show G 1183 _ [.int 0] h1
    refine b_L_law_1183 hG ?_
    dsimp only [q_L_law_1183, j_wp, j_opB, j_opA, j_nth, j_i1, j_i2, j_l1, j_l2, j_li, j_f1, j_f2, j_d1, j_d2, j_r1, j_ai, j_aii, j_ail, j_aid, j_air, j_st1, j_st2, j_stu, j_kl, j_cond, j_args, j_out, j_few, j_cw, j_nat, j_pad, j_exp, Nat.reduceAdd]
    have co1 := an.2.1.2
    have sr := co_sh co1
    have a1r : j_I h1 sc (i + 1) = xs (i + 1) := co_at co1 (by omega)
    have a2r : j_I h1 sc (i + 2) = xs (i + 2) := co_at co1 (by omega)
    simp only [sr, j_ari, c1, v1, a1r, c2, v2, a2r, true_and]
    refine an_useU an (fun b h3 hb e10 jj s7 s8 => ?_)
    subst hb
    dsimp only [j_oi, j_ol, j_of, j_od, j_or, j_ov]
    refine jj_thr hl jj e10 ?_
    dsimp only [j_oi, j_ol, j_of, j_od, j_or, j_ov]
    rw [if_pos rfl]
    refine b_L_law_1214 hG ?_
    dsimp only [q_L_law_1214, j_wp, j_opB, j_opA, j_nth, j_i1, j_i2, j_l1, j_l2, j_li, j_f1, j_f2, j_d1, j_d2, j_r1, j_ai, j_aii, j_ail, j_aid, j_air, j_st1, j_st2, j_stu, j_kl, j_cond, j_args, j_out, j_few, j_cw, j_nat, j_pad, j_exp, Nat.reduceAdd]
    rw [if_pos rfl]
    rw [(jj_out jj).1]
    refine ⟨rfl, v_01, ?_⟩
    rw [e_00, s7.2.2.2.2 0, ha, if_pos (lg_self _)]
    refine b_L_law_1231 hG ?_
    dsimp only [q_L_law_1231, j_wp, j_opB, j_opA, j_nth, j_i1, j_i2, j_l1, j_l2, j_li, j_f1, j_f2, j_d1, j_d2, j_r1, j_ai, j_aii, j_ail, j_aid, j_air, j_st1, j_st2, j_stu, j_kl, j_cond, j_args, j_out, j_few, j_cw, j_nat, j_pad, j_exp, Nat.reduceAdd]
    exact bk _ _ _ _ jj
  · show G 1183 _ [.int c] h1
    refine b_L_law_1183 hG ?_
    dsimp only [q_L_law_1183, j_wp, j_opB, j_opA, j_nth, j_i1, j_i2, j_l1, j_l2, j_li, j_f1, j_f2, j_d1, j_d2, j_r1, j_ai, j_aii, j_ail, j_aid, j_air, j_st1, j_st2, j_stu, j_kl, j_cond, j_args, j_out, j_few, j_cw, j_nat, j_pad, j_exp, Nat.reduceAdd]
    have co1 := an.2.1.2
    have sr := co_sh co1
    have a1r : j_I h1 sc (i + 1) = xs (i + 1) := co_at co1 (by omega)
    have a2r : j_I h1 sc (i + 2) = xs (i + 2) := co_at co1 (by omega)
    simp only [sr, j_ari, c1, v1, a1r, c2, v2, a2r, true_and]
    refine an_useU an (fun b h3 hb e10 jj s7 s8 => ?_)
    obtain ⟨z, rfl⟩ := hb
    dsimp only [j_oi, j_ol, j_of, j_od, j_or, j_ov]
    refine jj_thr hl jj e10 ?_
    dsimp only [j_oi, j_ol, j_of, j_od, j_or, j_ov]
    rw [if_pos rfl]
    refine b_L_law_1214 hG ?_
    dsimp only [q_L_law_1214, j_wp, j_opB, j_opA, j_nth, j_i1, j_i2, j_l1, j_l2, j_li, j_f1, j_f2, j_d1, j_d2, j_r1, j_ai, j_aii, j_ail, j_aid, j_air, j_st1, j_st2, j_stu, j_kl, j_cond, j_args, j_out, j_few, j_cw, j_nat, j_pad, j_exp, Nat.reduceAdd]
    rw [if_neg hc]
    refine b_L_law_1231 hG ?_
    dsimp only [q_L_law_1231, j_wp, j_opB, j_opA, j_nth, j_i1, j_i2, j_l1, j_l2, j_li, j_f1, j_f2, j_d1, j_d2, j_r1, j_ai, j_aii, j_ail, j_aid, j_air, j_st1, j_st2, j_stu, j_kl, j_cond, j_args, j_out, j_few, j_cw, j_nat, j_pad, j_exp, Nat.reduceAdd]
    exact bk _ _ _ _ jj
theorem ca_audit (hl : l.stackTraces = false) (hG : j_clo (j_Met l D bs E (d + 61)) E lpost m_L_law G) (hS : j_clS l D bs E (d + 61) s_L_law G) (hL : Ls ≤ 3072) (j : JJ E bs x sc Ls xs (n + 1) h) {i : Nat} (hi : i + 6 ≤ Ls) {u v w : Value} (bk : ∀ u v w h', JJ E bs x sc Ls xs n h' → G 1819 [.ref sc, .ref x, .ref (x + 51), .ref (x + 67), .ref (x + 68), .int (nI i), u, v, w] [] h') : G 1234 [.ref sc, .ref x, .ref (x + 51), .ref (x + 67), .ref (x + 68), .int (nI i), u, v, w] [] h := by
  have c1 : Int32.toNatClampNeg (nI i + 1) = i + 1 := ck_at (k := 1) (by omega)
  have v1 : vp_in (nI i + 1) Ls := vk_at (k := 1) (by omega) (by omega)
  have c2 : Int32.toNatClampNeg (nI i + 2) = i + 2 := ck_at (k := 2) (by omega)
  have v2 : vp_in (nI i + 2) Ls := vk_at (k := 2) (by omega) (by omega)
  have c3 : Int32.toNatClampNeg (nI i + 3) = i + 3 := ck_at (k := 3) (by omega)
  have v3 : vp_in (nI i + 3) Ls := vk_at (k := 3) (by omega) (by omega)
  have co := jj_co j
  have sq := co_sh co
  have a1q : j_I h sc (i + 1) = xs (i + 1) := co_at co (by omega)
  have a2q : j_I h sc (i + 2) = xs (i + 2) := co_at co (by omega)
  have a3q : j_I h sc (i + 3) = xs (i + 3) := co_at co (by omega)
  refine b_L_law_1234 hG ?_
  dsimp only [q_L_law_1234, j_wp, j_opB, j_opA, j_nth, j_i1, j_i2, j_l1, j_l2, j_li, j_f1, j_f2, j_d1, j_d2, j_r1, j_ai, j_aii, j_ail, j_aid, j_air, j_st1, j_st2, j_stu, j_kl, j_cond, j_args, j_out, j_few, j_cw, j_nat, j_pad, j_exp, Nat.reduceAdd]
  simp only [sq, j_ari, c1, v1, a1q, c2, v2, a2q, c3, v3, a3q, true_and]
  refine hS (1254, 172, 5, i_L_audit) (List.mem_of_getElem? (i := 13) rfl) _ [.ref x, .int (xs (i + 1)), .int (xs (i + 2)), .int (xs (i + 3)), .ref (x + 67)] [] h rfl rfl ?_
  refine sp_L_audit hl j (fun o h1 wp => ?_)
  rcases wp with ⟨vv, hR, hT, rfl, an⟩ | ⟨c, hc, rfl, an⟩
  · obtain ⟨a, rfl, ha⟩ := hR
    show G 1257 _ [.int 0] h1
    refine b_L_law_1257 hG ?_
    dsimp only [q_L_law_1257, j_wp, j_opB, j_opA, j_nth, j_i1, j_i2, j_l1, j_l2, j_li, j_f1, j_f2, j_d1, j_d2, j_r1, j_ai, j_aii, j_ail, j_aid, j_air, j_st1, j_st2, j_stu, j_kl, j_cond, j_args, j_out, j_few, j_cw, j_nat, j_pad, j_exp, Nat.reduceAdd]
    have co1 := an.2.1.2
    have sr := co_sh co1
    have a1r : j_I h1 sc (i + 1) = xs (i + 1) := co_at co1 (by omega)
    have a2r : j_I h1 sc (i + 2) = xs (i + 2) := co_at co1 (by omega)
    have a3r : j_I h1 sc (i + 3) = xs (i + 3) := co_at co1 (by omega)
    simp only [sr, j_ari, c1, v1, a1r, c2, v2, a2r, c3, v3, a3r, true_and]
    refine an_useU an (fun b h3 hb e10 jj s7 s8 => ?_)
    subst hb
    dsimp only [j_oi, j_ol, j_of, j_od, j_or, j_ov]
    refine jj_thr hl jj e10 ?_
    dsimp only [j_oi, j_ol, j_of, j_od, j_or, j_ov]
    rw [if_pos rfl]
    refine b_L_law_1294 hG ?_
    dsimp only [q_L_law_1294, j_wp, j_opB, j_opA, j_nth, j_i1, j_i2, j_l1, j_l2, j_li, j_f1, j_f2, j_d1, j_d2, j_r1, j_ai, j_aii, j_ail, j_aid, j_air, j_st1, j_st2, j_stu, j_kl, j_cond, j_args, j_out, j_few, j_cw, j_nat, j_pad, j_exp, Nat.reduceAdd]
    rw [if_pos rfl]
    rw [(jj_out jj).1]
    refine ⟨rfl, v_01, ?_⟩
    rw [e_00, s7.2.2.2.2 0, ha, if_pos (lg_self _)]
    refine b_L_law_1310 hG ?_
    dsimp only [q_L_law_1310, j_wp, j_opB, j_opA, j_nth, j_i1, j_i2, j_l1, j_l2, j_li, j_f1, j_f2, j_d1, j_d2, j_r1, j_ai, j_aii, j_ail, j_aid, j_air, j_st1, j_st2, j_stu, j_kl, j_cond, j_args, j_out, j_few, j_cw, j_nat, j_pad, j_exp, Nat.reduceAdd]
    exact bk _ _ _ _ jj
  · show G 1257 _ [.int c] h1
    refine b_L_law_1257 hG ?_
    dsimp only [q_L_law_1257, j_wp, j_opB, j_opA, j_nth, j_i1, j_i2, j_l1, j_l2, j_li, j_f1, j_f2, j_d1, j_d2, j_r1, j_ai, j_aii, j_ail, j_aid, j_air, j_st1, j_st2, j_stu, j_kl, j_cond, j_args, j_out, j_few, j_cw, j_nat, j_pad, j_exp, Nat.reduceAdd]
    have co1 := an.2.1.2
    have sr := co_sh co1
    have a1r : j_I h1 sc (i + 1) = xs (i + 1) := co_at co1 (by omega)
    have a2r : j_I h1 sc (i + 2) = xs (i + 2) := co_at co1 (by omega)
    have a3r : j_I h1 sc (i + 3) = xs (i + 3) := co_at co1 (by omega)
    simp only [sr, j_ari, c1, v1, a1r, c2, v2, a2r, c3, v3, a3r, true_and]
    refine an_useU an (fun b h3 hb e10 jj s7 s8 => ?_)
    obtain ⟨z, rfl⟩ := hb
    dsimp only [j_oi, j_ol, j_of, j_od, j_or, j_ov]
    refine jj_thr hl jj e10 ?_
    dsimp only [j_oi, j_ol, j_of, j_od, j_or, j_ov]
    rw [if_pos rfl]
    refine b_L_law_1294 hG ?_
    dsimp only [q_L_law_1294, j_wp, j_opB, j_opA, j_nth, j_i1, j_i2, j_l1, j_l2, j_li, j_f1, j_f2, j_d1, j_d2, j_r1, j_ai, j_aii, j_ail, j_aid, j_air, j_st1, j_st2, j_stu, j_kl, j_cond, j_args, j_out, j_few, j_cw, j_nat, j_pad, j_exp, Nat.reduceAdd]
    rw [if_neg hc]
    refine b_L_law_1310 hG ?_
    dsimp only [q_L_law_1310, j_wp, j_opB, j_opA, j_nth, j_i1, j_i2, j_l1, j_l2, j_li, j_f1, j_f2, j_d1, j_d2, j_r1, j_ai, j_aii, j_ail, j_aid, j_air, j_st1, j_st2, j_stu, j_kl, j_cond, j_args, j_out, j_few, j_cw, j_nat, j_pad, j_exp, Nat.reduceAdd]
    exact bk _ _ _ _ jj
theorem ca_worst (hl : l.stackTraces = false) (hG : j_clo (j_Met l D bs E (d + 61)) E lpost m_L_law G) (hS : j_clS l D bs E (d + 61) s_L_law G) (hL : Ls ≤ 3072) (j : JJ E bs x sc Ls xs (n + 1) h) {i : Nat} (hi : i + 6 ≤ Ls) {u v w : Value} (bk : ∀ u v w h', JJ E bs x sc Ls xs n h' → G 1819 [.ref sc, .ref x, .ref (x + 51), .ref (x + 67), .ref (x + 68), .int (nI i), u, v, w] [] h') : G 1313 [.ref sc, .ref x, .ref (x + 51), .ref (x + 67), .ref (x + 68), .int (nI i), u, v, w] [] h := by
  refine b_L_law_1313 hG ?_
  dsimp only [q_L_law_1313, j_wp, j_opB, j_opA, j_nth, j_i1, j_i2, j_l1, j_l2, j_li, j_f1, j_f2, j_d1, j_d2, j_r1, j_ai, j_aii, j_ail, j_aid, j_air, j_st1, j_st2, j_stu, j_kl, j_cond, j_args, j_out, j_few, j_cw, j_nat, j_pad, j_exp, Nat.reduceAdd]
  refine op_worst hl j (fun a h1 an => ?_)
  dsimp only [j_oi, j_ol, j_of, j_od, j_or, j_ov]
  refine an_use an (fun b h3 hb _ jj _ _ => ?_)
  subst hb
  dsimp only [j_oi, j_ol, j_of, j_od, j_or, j_ov]
  rw [if_pos (lg_self _)]
  exact bk _ _ _ _ jj
end LCab
