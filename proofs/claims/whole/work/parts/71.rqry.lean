/-! ===== the reference: evaluating a query ===== -/
section RHq
variable {l : Launch} {D : va_G} {bs : Nat} {E : j_E} {h0 h : j_H} {m : Nat} {d : Nat} {Q : j_O → j_H → Prop} {B : Nat → Int32} {sz len : Nat} {p : Tk} {M Md : Rf} {L : Lnk} {np nst : Nat} {cs : List Int32}
/-- the codes in the reference's row -/
def HK (h : j_H) (m : Nat) (cs : List Int32) : Prop := j_I h m 28 = nI cs.length ∧ cs.length ≤ 200 ∧ ∀ j, j < cs.length → j_I h (m + 14) j = cs.getD j 0
theorem fld_lt : ∀ j : Fin 9, fld j.1 < 9 := by decide
theorem sp_X9_property (hl : l.stackTraces = false) (s : MB E m M h) (c : HCn E h m) {i j : Nat} (hi : i < 100) (hj : j < 9) (H : Q (.inl (some (.int (if j = 0 then nI i else rP M i (fld j))))) h) : j_Met l D bs E (d + 2) n_X9_property [.ref m, .int (nI i), .int (nI j)] h Q := by
  have hB := s.2.2.2
  have mm := s.1
  refine j_meth hl rfl g_X9_property (Nat.le_of_ble_eq_true rfl) (fun _ => ⟨_, _, rfl, (MB_sh s)⟩) hB.1 hB.2 (fun G hG => ?_)
  refine b_X9_property_0 hG ?_
  dsimp only [q_X9_property_0, j_wp, j_opB, j_opA, j_nth, j_i1, j_i2, j_l1, j_l2, j_li, j_f1, j_f2, j_d1, j_d2, j_r1, j_ai, j_aii, j_ail, j_aid, j_air, j_st1, j_st2, j_stu, j_kl, j_cond, j_args, j_out, j_few, j_cw, j_nat, j_pad, j_exp, Nat.reduceAdd]
  by_cases g : j = 0
  · rw [if_pos g] at H
    subst g
    rw [if_pos (by decide)]
    refine b_X9_property_19 hG ?_
    dsimp only [q_X9_property_19, j_wp, j_opB, j_opA, j_nth, j_i1, j_i2, j_l1, j_l2, j_li, j_f1, j_f2, j_d1, j_d2, j_r1, j_ai, j_aii, j_ail, j_aid, j_air, j_st1, j_st2, j_stu, j_kl, j_cond, j_args, j_out, j_few, j_cw, j_nat, j_pad, j_exp, Nat.reduceAdd]
    exact ⟨trivial, H⟩
  · rw [if_neg g] at H
    rw [if_neg (show ¬ nI j = 0 from fun z => g ((nI_eq (by omega) (by omega)).mp (show nI j = nI 0 from z)))]
    refine b_X9_property_8 hG ?_
    dsimp only [q_X9_property_8, j_wp, j_opB, j_opA, j_nth, j_i1, j_i2, j_l1, j_l2, j_li, j_f1, j_f2, j_d1, j_d2, j_r1, j_ai, j_aii, j_ail, j_aid, j_air, j_st1, j_st2, j_stu, j_kl, j_cond, j_args, j_out, j_few, j_cw, j_nat, j_pad, j_exp, Nat.reduceAdd]
    simp only [mk_sh mm, mk_r25 mm, mk_a25 mm, j_ref, j_ari, j_arb, j_arr, j_len, j_nar, j_oi, j_ol, j_of, j_od, j_or, j_ov, true_and, and_true]
    refine ⟨vp_in_nI hj (by omega), ?_⟩
    rw [nI_clamp (by omega), c.2 j (by omega) hj]
    refine sp_X9_ofPacket hl (MB_q s) hi (k := fld j) (fld_lt ⟨j, hj⟩) ?_
    simp only [j_ref, j_ari, j_arb, j_arr, j_len, j_nar, j_oi, j_ol, j_of, j_od, j_or, j_ov, true_and, and_true]
    refine b_X9_property_19 hG ?_
    dsimp only [q_X9_property_19, j_wp, j_opB, j_opA, j_nth, j_i1, j_i2, j_l1, j_l2, j_li, j_f1, j_f2, j_d1, j_d2, j_r1, j_ai, j_aii, j_ail, j_aid, j_air, j_st1, j_st2, j_stu, j_kl, j_cond, j_args, j_out, j_few, j_cw, j_nat, j_pad, j_exp, Nat.reduceAdd]
    exact ⟨trivial, H⟩
theorem MB_FA {A : Nat → Prop} {h' : j_H} (s : MB E m M h) (f : FA A h h') (h1 : ¬ A (m + 1)) (h2 : ¬ A (m + 6)) : MB E m M h' := ⟨mk_FA s.1 f, RG_cp s.2.1 (fun k _ => f.2.2.2.2.2.2.1 _ _ h1), RGV_cp s.2.2.1 (fun k _ => f.2.2.2.2.2.2.2 _ _ h2), FA_bd f s.2.2.2⟩
theorem HCn_FA {A : Nat → Prop} {h' : j_H} (c : HCn E h m) (f : FA A h h') (h1 : ¬ A (m + 13)) : HCn E h' m := ⟨fun j hj => by rw [f.2.1]; exact c.1 j hj, fun j h2 h3 => by rw [f.2.2.2.2.2.2.1 _ _ h1]; exact c.2 j h2 h3⟩
theorem getD_c0 {v : Int32} {r : List Int32} {j : Nat} (hj : j < r.length) : (v :: r).getD (r.length + 1 - 1 - j) 0 = r.getD (r.length - 1 - j) 0 := by
  rw [show r.length + 1 - 1 - j = (r.length - 1 - j) + 1 by omega, List.getD_cons_succ]
set_option maxRecDepth 8000 in
theorem sp_X9_holdsFor (hl : l.stackTraces = false) (s : MB E m M h) (c : HCn E h m) (k : HK h m cs) {P : Nat → Bool} (ps : pshes M np cs P) {i : Nat} (hi : i < np) (hnp : np ≤ 100) (H : ∀ h', FA (fun b => b = m + 15) h h' → Q (.inl (some (.int (if P i = true then 1 else 0)))) h') : j_Met l D bs E (d + 3) n_X9_holdsFor [.ref m, .int (nI i)] h Q := by
  have hB := s.2.2.2
  have hlen := k.2.1
  have e0 : evl M i cs [] = [b01i (P i)] := ps.1 i hi []
  have g0 : hgt cs 0 = some 1 := ps.2.1 0
  refine j_meth hl rfl g_X9_holdsFor (Nat.le_of_ble_eq_true rfl) (fun _ => ⟨_, _, rfl, (MB_sh s)⟩) hB.1 hB.2 (fun G hG => ?_)
  have loop : ∀ (rest done st : List Int32) (h1 : j_H) (x : Value), cs = done ++ rest → st.length ≤ done.length → FA (fun b => b = m + 15) h h1 → (∀ j, j < st.length → j_I h1 (m + 15) j = st.getD (st.length - 1 - j) 0) → evl M i rest st = [b01i (P i)] → hgt rest st.length = some 1 → G 4 [.ref m, .int (nI i), .int (nI st.length), .int (nI done.length), x] [] h1 := by
    intro rest
    induction rest with
    | nil =>
      intro done st h1 x ec hst f1 hs ev hg
      have m1 := mk_FA s.1 f1
      have el : cs.length = done.length := by rw [ec]; simp
      have e28 : j_I h1 m 28 = nI done.length := by rw [f1.2.2.2.2.2.2.1 _ _ (by omega), k.1, el]
      have es : st = [b01i (P i)] := ev
      subst es
      refine b_X9_holdsFor_4 hG ?_
      dsimp only [q_X9_holdsFor_4, j_wp, j_opB, j_opA, j_nth, j_i1, j_i2, j_l1, j_l2, j_li, j_f1, j_f2, j_d1, j_d2, j_r1, j_ai, j_aii, j_ail, j_aid, j_air, j_st1, j_st2, j_stu, j_kl, j_cond, j_args, j_out, j_few, j_cw, j_nat, j_pad, j_exp, Nat.reduceAdd]
      simp only [mk_sh m1, e28, j_ref, j_ari, j_arb, j_arr, j_len, j_nar, j_oi, j_ol, j_of, j_od, j_or, j_ov, true_and, and_true]
      rw [if_neg (nI_nlt (by omega) (by omega))]
      have v0 : j_I h1 (m + 15) (Int32.toNatClampNeg 0) = b01i (P i) := hs 0 (by simp)
      refine b_X9_holdsFor_122 hG ?_
      dsimp only [q_X9_holdsFor_122, j_wp, j_opB, j_opA, j_nth, j_i1, j_i2, j_l1, j_l2, j_li, j_f1, j_f2, j_d1, j_d2, j_r1, j_ai, j_aii, j_ail, j_aid, j_air, j_st1, j_st2, j_stu, j_kl, j_cond, j_args, j_out, j_few, j_cw, j_nat, j_pad, j_exp, Nat.reduceAdd]
      simp only [mk_sh m1, mk_r27 m1, mk_a27 m1, v0, j_ref, j_ari, j_arb, j_arr, j_len, j_nar, j_oi, j_ol, j_of, j_od, j_or, j_ov, true_and, and_true]
      refine ⟨vp_c (k := 0) (by omega) (by omega), ?_⟩
      have K := H h1 f1
      cases hP : P i with
      | true =>
        rw [hP] at K
        rw [if_pos (by decide)]
        refine b_X9_holdsFor_137 hG ?_
        dsimp only [q_X9_holdsFor_137, j_wp, j_opB, j_opA, j_nth, j_i1, j_i2, j_l1, j_l2, j_li, j_f1, j_f2, j_d1, j_d2, j_r1, j_ai, j_aii, j_ail, j_aid, j_air, j_st1, j_st2, j_stu, j_kl, j_cond, j_args, j_out, j_few, j_cw, j_nat, j_pad, j_exp, Nat.reduceAdd]
        exact ⟨(by first | exact Or.inl rfl | exact Or.inr rfl | decide), K⟩
      | false =>
        rw [hP] at K
        rw [if_neg (by decide)]
        refine b_X9_holdsFor_136 hG ?_
        dsimp only [q_X9_holdsFor_136, j_wp, j_opB, j_opA, j_nth, j_i1, j_i2, j_l1, j_l2, j_li, j_f1, j_f2, j_d1, j_d2, j_r1, j_ai, j_aii, j_ail, j_aid, j_air, j_st1, j_st2, j_stu, j_kl, j_cond, j_args, j_out, j_few, j_cw, j_nat, j_pad, j_exp, Nat.reduceAdd]
        refine b_X9_holdsFor_137 hG ?_
        dsimp only [q_X9_holdsFor_137, j_wp, j_opB, j_opA, j_nth, j_i1, j_i2, j_l1, j_l2, j_li, j_f1, j_f2, j_d1, j_d2, j_r1, j_ai, j_aii, j_ail, j_aid, j_air, j_st1, j_st2, j_stu, j_kl, j_cond, j_args, j_out, j_few, j_cw, j_nat, j_pad, j_exp, Nat.reduceAdd]
        exact ⟨(by first | exact Or.inl rfl | exact Or.inr rfl | decide), K⟩
    | cons c1 rest ih =>
      intro done st h1 x ec hst f1 hs ev hg
      have m1 := mk_FA s.1 f1
      have s1 := MB_FA s f1 (by omega) (by omega)
      have c' := HCn_FA c f1 (by omega)
      have el : cs.length = done.length + (rest.length + 1) := by rw [ec]; simp
      have e28 : j_I h1 m 28 = nI cs.length := by rw [f1.2.2.2.2.2.2.1 _ _ (by omega)]; exact k.1
      have e14 : j_I h1 (m + 14) done.length = c1 := by
        rw [f1.2.2.2.2.2.2.1 _ _ (by omega), k.2.2 _ (by omega), ec]
        simp
      have ec' : cs = (done ++ [c1]) ++ rest := by rw [ec]; simp
      have dl : (done ++ [c1]).length = done.length + 1 := by simp
      have okc : cOk c1 := ps.2.2 c1 (by rw [ec]; simp)
      unfold hgt at hg
      have ev' : evl M i rest (ev1 M i st c1) = [b01i (P i)] := ev
      unfold ev1 at ev'
      have nx : ∀ (st' : List Int32) (h2 : j_H) (y : Value), st'.length ≤ done.length + 1 → FA (fun b => b = m + 15) h h2 → (∀ j, j < st'.length → j_I h2 (m + 15) j = st'.getD (st'.length - 1 - j) 0) → evl M i rest st' = [b01i (P i)] → hgt rest st'.length = some 1 → G 116 [.ref m, .int (nI i), .int (nI st'.length), .int (nI done.length), y] [] h2 := by
        intro st' h2 y a1 a2 a3 a4 a5
        refine b_X9_holdsFor_116 hG ?_
        dsimp only [q_X9_holdsFor_116, j_wp, j_opB, j_opA, j_nth, j_i1, j_i2, j_l1, j_l2, j_li, j_f1, j_f2, j_d1, j_d2, j_r1, j_ai, j_aii, j_ail, j_aid, j_air, j_st1, j_st2, j_stu, j_kl, j_cond, j_args, j_out, j_few, j_cw, j_nat, j_pad, j_exp, Nat.reduceAdd]
        rw [nI_1, ← dl]
        exact ih (done ++ [c1]) st' h2 y ec' (by omega) a2 a3 a4 a5
      refine b_X9_holdsFor_4 hG ?_
      dsimp only [q_X9_holdsFor_4, j_wp, j_opB, j_opA, j_nth, j_i1, j_i2, j_l1, j_l2, j_li, j_f1, j_f2, j_d1, j_d2, j_r1, j_ai, j_aii, j_ail, j_aid, j_air, j_st1, j_st2, j_stu, j_kl, j_cond, j_args, j_out, j_few, j_cw, j_nat, j_pad, j_exp, Nat.reduceAdd]
      simp only [mk_sh m1, mk_r26 m1, mk_a26 m1, e28, j_ref, j_ari, j_arb, j_arr, j_len, j_nar, j_oi, j_ol, j_of, j_od, j_or, j_ov, true_and, and_true]
      rw [if_pos (nI_lt (by omega) (by omega))]
      refine ⟨vp_in_nI (by omega) (by omega), ?_⟩
      rw [nI_clamp (by omega), e14]
      by_cases g1 : c1 = -23
      · rw [if_pos g1] at hg ev' ⊢
        cases st with
        | nil => rw [if_neg (by simp)] at hg; cases hg
        | cons a r =>
          rw [if_pos (by simp)] at hg
          have lr : (a :: r).length = r.length + 1 := rfl
          have eA : nI (a :: r).length - 1 = nI r.length := nI_pred r.length
          have va : j_I h1 (m + 15) r.length = a := by
            have := hs r.length (by simp)
            rw [lr, show r.length + 1 - 1 - r.length = 0 by omega] at this
            exact this
          simp only [mk_sh m1, mk_r27 m1, mk_a27 m1, eA, j_ref, j_ari, j_arb, j_arr, j_len, j_nar, j_oi, j_ol, j_of, j_od, j_or, j_ov, true_and, and_true]
          have hr : r.length < 200 := by rw [lr] at hst; omega
          refine ⟨vp_in_nI hr (by omega), vp_in_nI hr (by omega), ?_⟩
          rw [nI_clamp (by omega), va]
          refine nx ((1 - a) :: r) _ _ (by rw [lr] at hst; show r.length + 1 ≤ _; omega) (FA_I f1 rfl) (fun j hj => ?_) ev' hg
          have hj' : j < r.length + 1 := hj
          by_cases ej : j = r.length
          · subst ej
            rw [jh_Is]
            show _ = ((1 - a) :: r).getD (r.length + 1 - 1 - r.length) 0
            rw [show r.length + 1 - 1 - r.length = 0 by omega]
            rfl
          · rw [jh_In (by omega)]
            have h3 := hs j hj
            show j_I h1 (m + 15) j = ((1 - a) :: r).getD (r.length + 1 - 1 - j) 0
            rw [getD_c0 (by omega), h3]
            exact getD_c0 (by omega)
      · rw [if_neg g1] at hg ev' ⊢
        refine b_X9_holdsFor_48 hG ?_
        dsimp only [q_X9_holdsFor_48, j_wp, j_opB, j_opA, j_nth, j_i1, j_i2, j_l1, j_l2, j_li, j_f1, j_f2, j_d1, j_d2, j_r1, j_ai, j_aii, j_ail, j_aid, j_air, j_st1, j_st2, j_stu, j_kl, j_cond, j_args, j_out, j_few, j_cw, j_nat, j_pad, j_exp, Nat.reduceAdd]
        by_cases g2 : -20 < c1
        · rw [if_pos g2] at hg ev' ⊢
          have hsl : st.length < 200 := by omega
          have fin : ∀ v : Int32, v = cVal M i c1 → G 79 [.ref m, .int (nI i), .int (nI st.length), .int (nI done.length), .int c1] [.int v, .int (nI st.length), .ref (m + 15)] h1 := by
            intro v e
            refine b_X9_holdsFor_79 hG ?_
            dsimp only [q_X9_holdsFor_79, j_wp, j_opB, j_opA, j_nth, j_i1, j_i2, j_l1, j_l2, j_li, j_f1, j_f2, j_d1, j_d2, j_r1, j_ai, j_aii, j_ail, j_aid, j_air, j_st1, j_st2, j_stu, j_kl, j_cond, j_args, j_out, j_few, j_cw, j_nat, j_pad, j_exp, Nat.reduceAdd]
            simp only [mk_a27 m1, j_ref, j_ari, j_arb, j_arr, j_len, j_nar, j_oi, j_ol, j_of, j_od, j_or, j_ov, true_and, and_true]
            refine ⟨vp_in_nI hsl (by omega), ?_⟩
            rw [nI_clamp (by omega), nI_1]
            rw [← e] at ev'
            refine nx (v :: st) _ _ (by show st.length + 1 ≤ _; omega) (FA_I f1 rfl) (fun j hj => ?_) ev' hg
            have hj' : j < st.length + 1 := hj
            by_cases ej : j = st.length
            · subst ej
              rw [jh_Is]
              show _ = (v :: st).getD (st.length + 1 - 1 - st.length) 0
              rw [show st.length + 1 - 1 - st.length = 0 by omega]
              rfl
            · rw [jh_In (by omega)]
              show j_I h1 (m + 15) j = (v :: st).getD (st.length + 1 - 1 - j) 0
              rw [getD_c0 (by omega)]
              exact hs j (by omega)
          simp only [mk_sh m1, mk_r27 m1, j_ref, j_ari, j_arb, j_arr, j_len, j_nar, j_oi, j_ol, j_of, j_od, j_or, j_ov, true_and, and_true]
          by_cases g3 : c1 < 0
          · rw [if_pos g3]
            obtain ⟨j, hj, ej⟩ : ∃ j, j < 9 ∧ c1 = -1 - nI j := by
              rcases okc with z | z | z
              · rcases z with z | z | z | z | z | z <;> (rw [z] at g2; exact absurd g2 (by decide))
              · exact absurd g3 z
              · exact z
            obtain ⟨d1, d2, d3, d4, d5, d6, d7, d8, d9, d10⟩ := vc_dec ⟨j, hj⟩
            dsimp only at d1 d2 d3 d4 d5 d6 d7 d8 d9 d10
            refine b_X9_holdsFor_70 hG ?_
            dsimp only [q_X9_holdsFor_70, j_wp, j_opB, j_opA, j_nth, j_i1, j_i2, j_l1, j_l2, j_li, j_f1, j_f2, j_d1, j_d2, j_r1, j_ai, j_aii, j_ail, j_aid, j_air, j_st1, j_st2, j_stu, j_kl, j_cond, j_args, j_out, j_few, j_cw, j_nat, j_pad, j_exp, Nat.reduceAdd]
            rw [ej, d4]
            refine sp_X9_property hl s1 c' (by omega) hj ?_
            simp only [j_ref, j_ari, j_arb, j_arr, j_len, j_nar, j_oi, j_ol, j_of, j_od, j_or, j_ov, true_and, and_true]
            rw [← ej]
            refine fin _ ?_
            unfold cVal
            rw [if_pos g3, ej, d4, d10]
            by_cases j0 : j = 0
            · rw [if_pos j0, if_pos (d5.mpr j0)]
            · rw [if_neg j0, if_neg (fun z => j0 (d5.mp z))]
          · rw [if_neg g3]
            exact fin c1 (by unfold cVal; rw [if_neg g3])
        · rw [if_neg g2] at hg ev' ⊢
          cases st with
          | nil => rw [if_neg (by simp)] at hg; cases hg
          | cons b r0 =>
            cases r0 with
            | nil => rw [if_neg (by simp)] at hg; cases hg
            | cons a r =>
              rw [if_pos (by simp)] at hg
              have lr : (b :: a :: r).length = r.length + 1 + 1 := rfl
              have hr : r.length + 1 < 200 := by rw [lr] at hst; omega
              have eA : nI (b :: a :: r).length + (-1) = nI (r.length + 1) := pk_m1 (r.length + 1)
              have eB : nI (r.length + 1) - 1 = nI r.length := nI_pred r.length
              have va : j_I h1 (m + 15) r.length = a := by
                have := hs r.length (by rw [lr]; omega)
                rw [lr, show r.length + 1 + 1 - 1 - r.length = 0 + 1 by omega, List.getD_cons_succ] at this
                exact this
              have vb : j_I h1 (m + 15) (r.length + 1) = b := by
                have := hs (r.length + 1) (by rw [lr]; omega)
                rw [lr, show r.length + 1 + 1 - 1 - (r.length + 1) = 0 by omega] at this
                exact this
              have hop : c1 = -20 ∨ c1 = -21 ∨ c1 = -22 ∨ c1 = -24 ∨ c1 = -25 := by
                rcases okc with z | z | z
                · exact z.resolve_left g1
                · refine absurd (Int32.lt_iff_toInt_lt.mpr ?_) g2
                  have : ¬ c1.toInt < 0 := fun y => z (Int32.lt_iff_toInt_lt.mpr y)
                  show (-20 : Int) < c1.toInt
                  omega
                · obtain ⟨j, hj, ej⟩ := z
                  have := (vc_dec ⟨j, hj⟩).1
                  dsimp only at this
                  rw [← ej] at this
                  exact absurd this g2
              refine b_X9_holdsFor_86 hG ?_
              dsimp only [q_X9_holdsFor_86, j_wp, j_opB, j_opA, j_nth, j_i1, j_i2, j_l1, j_l2, j_li, j_f1, j_f2, j_d1, j_d2, j_r1, j_ai, j_aii, j_ail, j_aid, j_air, j_st1, j_st2, j_stu, j_kl, j_cond, j_args, j_out, j_few, j_cw, j_nat, j_pad, j_exp, Nat.reduceAdd]
              simp only [mk_sh m1, mk_r27 m1, mk_a27 m1, eA, eB, j_ref, j_ari, j_arb, j_arr, j_len, j_nar, j_oi, j_ol, j_of, j_od, j_or, j_ov, true_and, and_true]
              refine ⟨vp_in_nI (show r.length < 200 by omega) (by omega), vp_in_nI hr (by omega), ?_⟩
              rw [nI_clamp (n := r.length) (by omega), nI_clamp (n := r.length + 1) (by omega), va, vb]
              refine sp_X9_operate hl s1.2.2.2 hop ?_
              simp only [mk_a27 m1, j_ref, j_ari, j_arb, j_arr, j_len, j_nar, j_oi, j_ol, j_of, j_od, j_or, j_ov, true_and, and_true]
              refine ⟨vp_in_nI (show r.length < 200 by omega) (by omega), ?_⟩
              refine nx (op2 c1 a b :: r) _ _ (by rw [lr] at hst; show r.length + 1 ≤ _; omega) (FA_I f1 rfl) (fun j hj => ?_) ev' hg
              have hj' : j < r.length + 1 := hj
              by_cases ej : j = r.length
              · subst ej
                rw [jh_Is]
                show _ = (op2 c1 a b :: r).getD (r.length + 1 - 1 - r.length) 0
                rw [show r.length + 1 - 1 - r.length = 0 by omega]
                rfl
              · rw [jh_In (by omega)]
                have h3 := hs j (by rw [lr]; omega)
                show j_I h1 (m + 15) j = (op2 c1 a b :: r).getD (r.length + 1 - 1 - j) 0
                rw [getD_c0 (by omega), h3, lr, show r.length + 1 + 1 - 1 - j = ((r.length - 1 - j) + 1) + 1 by omega, List.getD_cons_succ, List.getD_cons_succ]
  refine b_X9_holdsFor_0 hG ?_
  dsimp only [q_X9_holdsFor_0, j_wp, j_opB, j_opA, j_nth, j_i1, j_i2, j_l1, j_l2, j_li, j_f1, j_f2, j_d1, j_d2, j_r1, j_ai, j_aii, j_ail, j_aid, j_air, j_st1, j_st2, j_stu, j_kl, j_cond, j_args, j_out, j_few, j_cw, j_nat, j_pad, j_exp, Nat.reduceAdd]
  exact loop cs [] [] h _ rfl (by simp) FA_rf (fun j hj => absurd hj (by simp)) e0 g0
/-- the reference's answer to a query: the first of k packets from i on that fit, or how many (c so far) -/
def rQ1 (P : Nat → Bool) : Nat → Nat → Int32
  | 0, _ => -1
  | k + 1, i => if P i = true then nI i else rQ1 P k (i + 1)
def rQn (P : Nat → Bool) : Nat → Nat → Nat → Nat
  | 0, _, c => c
  | k + 1, i, c => rQn P k (i + 1) (if P i = true then c + 1 else c)
/-- what a query reads -/
def qRead (B : Nat → Int32) (L : Lnk) (np k : Nat) : Tk × (Nat → Bool) := qTest B k (qFac B k L np 6) (tNext B k (if tIsW B (tOpen B k 0) (wd "first") = true then tOpen B k 0 else if tIsW B (tOpen B k 0) (wd "many") = true then tOpen B k 0 else tFail (tOpen B k 0) 1))
def qDone (B : Nat → Int32) (L : Lnk) (np k : Nat) : Tk := tEnd (qRead B L np k).1
/-- the fields that a query writes -/
def qF4 : Nat → Prop := fun k => k = 10 ∨ (15 ≤ k ∧ k ≤ 23) ∨ k = 28
set_option maxRecDepth 8000 in
theorem sp_X9_query (hl : l.stackTraces = false) (hJ : JS l D bs E) (s : MB E m M h) (hk : KS E bs h) (hbm : bs ≤ m) {ep : Int32} (t : HT h m B sz ep) (g2 : ∃ Md, RG (j_I h (m + 2)) Md) (c : HCn E h m) (hnp : np ≤ 100) (hx : rX M 2 = nI np) (hLP : ∀ i k, i < np → k < 9 → lP L i k = rP M i k) {v : Int32}
    (H1 : ¬ inx v (min sz 200 + 1) → Q (.inl (some (.int 0))) (j_setI h m 10 1))
    (H2 : ∀ k, k ≤ sz → k ≤ 200 → v = nI k → tkK (qDone B L np k) = 5 → ∀ h', MB E m M h' → HT h' m B 0 (tkA (qDone B L np k)) → j_I h' m 10 = 0 → FM (qA2 m) m qF4 h h' → Q (.inl (some (.int (-1000000000 - tkC (qDone B L np k))))) h')
    (H0 : ∀ k, k ≤ sz → k ≤ 200 → v = nI k → tkK (qDone B L np k) ≠ 5 → ∀ h', MB E m M h' → HT h' m B 0 (-1) → j_I h' m 10 = 0 → FM (qA2 m) m qF4 h h' → Q (.inl (some (.int (if tIsW B (tOpen B k 0) (wd "first") = true then rQ1 (qRead B L np k).2 np 0 else nI (rQn (qRead B L np k).2 np 0 0))))) h') :
    j_Met l D bs E (d + 40) n_X9_query [.ref m, .int v] h Q := by
  have hB := s.2.2.2
  have s0 := MB_I s (k := 10) 0
  have f0 : FM nA m (fun k => k = 10) h (j_setI h m 10 0) := FM_I FM_rf rfl
  have t0 : HT (j_setI h m 10 0) m B sz ep := HT_FM t f0 id id (by omega) (by omega)
  have hsz := t.2.1.2
  have emin : (if (200 : Int32) < nI sz then 200 else nI sz) = nI (min sz 200 + 1) - 1 := by
    rw [nI_pred]
    by_cases g : 200 < sz
    · rw [if_pos (show (200 : Int32) < nI sz from nI_lt (a := 200) g (by omega)), show min sz 200 = 200 by omega]
      rfl
    · rw [if_neg (show ¬ (200 : Int32) < nI sz from nI_nlt (a := 200) (by omega) (by omega)), show min sz 200 = sz by omega]
  refine j_meth hl rfl g_X9_query (Nat.le_of_ble_eq_true rfl) (fun _ => ⟨_, _, rfl, (MB_sh s)⟩) hB.1 hB.2 (fun G hG => ?_)
  refine b_X9_query_0 hG ?_
  dsimp only [q_X9_query_0, j_wp, j_opB, j_opA, j_nth, j_i1, j_i2, j_l1, j_l2, j_li, j_f1, j_f2, j_d1, j_d2, j_r1, j_ai, j_aii, j_ail, j_aid, j_air, j_st1, j_st2, j_stu, j_kl, j_cond, j_args, j_out, j_few, j_cw, j_nat, j_pad, j_exp, Nat.reduceAdd]
  simp only [MB_sh s, MB_sh s0, t0.2.1.1, j_ref, j_ari, j_arb, j_arr, j_len, j_nar, j_oi, j_ol, j_of, j_od, j_or, j_ov, true_and, and_true]
  refine sp_X9_inRange hl s0.2.2.2 ?_
  simp only [j_ref, j_ari, j_arb, j_arr, j_len, j_nar, j_oi, j_ol, j_of, j_od, j_or, j_ov, true_and, and_true]
  rw [emin]
  by_cases g1 : inx v (min sz 200 + 1)
  · simp only [rIn_y (by omega) g1, if_true]
    rw [if_neg (by decide)]
    obtain ⟨k, hk', rfl⟩ := g1
    have H2 := H2 k (by omega) (by omega) rfl
    have H0 := H0 k (by omega) (by omega) rfl
    -- codeCount = 0
    have f1 : FM nA m (fun k => k = 10 ∨ k = 28) h (j_setI (j_setI h m 10 0) m 28 0) := FM_I (FM_I FM_rf (Or.inl rfl)) (Or.inr rfl)
    have t1 : HT (j_setI (j_setI h m 10 0) m 28 0) m B sz ep := HT_FM t f1 id id (by omega) (by omega)
    have x10 : j_I (j_setI (j_setI h m 10 0) m 28 0) m 10 = 0 := by rw [jh_In (by omega)]; exact jh_Is _ _ _ _
    have x28 : j_I (j_setI (j_setI h m 10 0) m 28 0) m 28 = 0 := jh_Is _ _ _ _
    obtain ⟨Md, g2⟩ := g2
    refine b_X9_query_29 hG ?_
    dsimp only [q_X9_query_29, j_wp, j_opB, j_opA, j_nth, j_i1, j_i2, j_l1, j_l2, j_li, j_f1, j_f2, j_d1, j_d2, j_r1, j_ai, j_aii, j_ail, j_aid, j_air, j_st1, j_st2, j_stu, j_kl, j_cond, j_args, j_out, j_few, j_cw, j_nat, j_pad, j_exp, Nat.reduceAdd]
    simp only [MB_sh s0, j_ref, j_ari, j_arb, j_arr, j_len, j_nar, j_oi, j_ol, j_of, j_od, j_or, j_ov, true_and, and_true]
    generalize j_setI (j_setI h m 10 0) m 28 0 = h1 at *
    have m1 := mk_FM s.1 f1
    have k1 : KS E bs h1 := KS_FM hk f1 hbm (fun b z => z.elim)
    have c1 : HCn E h1 m := HCn_FM c f1 id
    have G1 : RG (j_I h1 (m + 2)) Md := RG_cp g2 (fun a _ => f1.2.2.2.2.2.2.1 _ _ id (fun z => absurd z.1 (by omega)))
    refine sp_X9_startText hl m1 (FM_bd f1 hB) k1 hbm t1 G1 (n := k) (by omega) (fun h3 s3 => ?_)
    have F3 : FM (kA2 m) m kF2 h1 h3 := FM_tr (FM_I FM_rf (Or.inr (Or.inl rfl))) (FM_mono (PR_f s3) (fun b z => Or.inl z) (fun a z => Or.inl z))
    have q3 : QR E bs h1 m B sz k Md (tOpen B k 0) [] 0 h3 := by
      have f := PR_f s3
      have n0 : ¬ pA2 m m := fun z => by unfold pA2 at z; omega
      have n13 : ¬ pA2 m (m + 13) := fun z => by unfold pA2 at z; omega
      refine ⟨PR_re s3, F3, HCn_FM (HCn_FM c1 (FM_I (A := nA) (F := fun a => a = 23) FM_rf rfl) id) f n13, ?_, by simp, fun j hj => absurd hj (by simp), ?_, by omega⟩
      · rw [f.2.2.2.2.2.2.1 _ _ n0 (fun z => by have := z.2; unfold pF2 at this; omega), jh_In (by omega)]
        exact x28
      · rw [f.2.2.2.2.2.2.1 _ _ n0 (fun z => by have := z.2; unfold pF2 at this; omega)]
        exact jh_Is _ _ _ _
    have htest : FacS l D bs E h1 m B sz k M Md np 0 n_X9_compileTest (qTest B k (qFac B k L np 6)) (d + 39) := sp_test hl hJ (e := d + 32) (sp_conj hl hJ (e := d + 31) (sp_fac hl hJ hLP 6 0 (d + 37) (by omega) (by omega)))
    -- the end: the packets
    have fin : ∀ (fs : Int32) (h5 : j_H), (fs = 1 ∧ tIsW B (tOpen B k 0) (wd "first") = true ∨ fs = 0 ∧ ¬ tIsW B (tOpen B k 0) (wd "first") = true) → ∀ (cs5 : List Int32), MB E m M h5 → HCn E h5 m → HK h5 m cs5 → pshes M np cs5 (qRead B L np k).2 → (∀ h', FA (fun b => b = m + 15) h5 h' → Q (.inl (some (.int (if tIsW B (tOpen B k 0) (wd "first") = true then rQ1 (qRead B L np k).2 np 0 else nI (rQn (qRead B L np k).2 np 0 0))))) h') → ∀ x3 x4 : Value, G 119 [.ref m, .int (nI k), .int fs, x3, x4] [] h5 := by
      intro fs h5 hfs cs5 s5 c5 k5 ps K x3 x4
      generalize (qRead B L np k).2 = P at *
      have loop : ∀ (j i ct : Nat) (h6 : j_H), i + j = np → FA (fun b => b = m + 15) h5 h6 → (tIsW B (tOpen B k 0) (wd "first") = true → rQ1 P j i = rQ1 P np 0) → rQn P j i ct = rQn P np 0 0 → ct ≤ i → G 124 [.ref m, .int (nI k), .int fs, .int (nI ct), .int (nI i)] [] h6 := by
        intro j
        induction j with
        | zero =>
          intro i ct h6 hi f6 e1 e2 hct
          have s6 := MB_FA s5 f6 (by omega) (by omega)
          have q6 := MB_q s6
          refine b_X9_query_124 hG ?_
          dsimp only [q_X9_query_124, j_wp, j_opB, j_opA, j_nth, j_i1, j_i2, j_l1, j_l2, j_li, j_f1, j_f2, j_d1, j_d2, j_r1, j_ai, j_aii, j_ail, j_aid, j_air, j_st1, j_st2, j_stu, j_kl, j_cond, j_args, j_out, j_few, j_cw, j_nat, j_pad, j_exp, Nat.reduceAdd]
          simp only [ME_sh q6, ME_r0 q6, ME_a0 q6, ME_r5 q6, ME_a5 q6, j_ref, j_ari, j_arb, j_arr, j_len, j_nar, j_oi, j_ol, j_of, j_od, j_or, j_ov, true_and, and_true, ME_x2 q6, hx]
          refine ⟨vp_c (k := 2) (by omega) (by omega), ?_⟩
          rw [if_neg (nI_nlt (by omega) (by omega))]
          have K6 := K h6 f6
          refine b_X9_query_163 hG ?_
          dsimp only [q_X9_query_163, j_wp, j_opB, j_opA, j_nth, j_i1, j_i2, j_l1, j_l2, j_li, j_f1, j_f2, j_d1, j_d2, j_r1, j_ai, j_aii, j_ail, j_aid, j_air, j_st1, j_st2, j_stu, j_kl, j_cond, j_args, j_out, j_few, j_cw, j_nat, j_pad, j_exp, Nat.reduceAdd]
          rcases hfs with ⟨rfl, hf⟩ | ⟨rfl, hf⟩
          · rw [if_neg (by decide)]
            rw [if_pos hf, ← e1 hf] at K6
            refine b_X9_query_172 hG ?_
            dsimp only [q_X9_query_172, j_wp, j_opB, j_opA, j_nth, j_i1, j_i2, j_l1, j_l2, j_li, j_f1, j_f2, j_d1, j_d2, j_r1, j_ai, j_aii, j_ail, j_aid, j_air, j_st1, j_st2, j_stu, j_kl, j_cond, j_args, j_out, j_few, j_cw, j_nat, j_pad, j_exp, Nat.reduceAdd]
            exact ⟨trivial, K6⟩
          · first | rw [if_pos rfl] | rw [if_pos trivial]
            rw [if_neg hf, ← e2] at K6
            refine b_X9_query_171 hG ?_
            dsimp only [q_X9_query_171, j_wp, j_opB, j_opA, j_nth, j_i1, j_i2, j_l1, j_l2, j_li, j_f1, j_f2, j_d1, j_d2, j_r1, j_ai, j_aii, j_ail, j_aid, j_air, j_st1, j_st2, j_stu, j_kl, j_cond, j_args, j_out, j_few, j_cw, j_nat, j_pad, j_exp, Nat.reduceAdd]
            refine b_X9_query_172 hG ?_
            dsimp only [q_X9_query_172, j_wp, j_opB, j_opA, j_nth, j_i1, j_i2, j_l1, j_l2, j_li, j_f1, j_f2, j_d1, j_d2, j_r1, j_ai, j_aii, j_ail, j_aid, j_air, j_st1, j_st2, j_stu, j_kl, j_cond, j_args, j_out, j_few, j_cw, j_nat, j_pad, j_exp, Nat.reduceAdd]
            exact ⟨trivial, K6⟩
        | succ j ih =>
          intro i ct h6 hi f6 e1 e2 hct
          have s6 := MB_FA s5 f6 (by omega) (by omega)
          have q6 := MB_q s6
          have c6 := HCn_FA c5 f6 (by omega)
          have k6 : HK h6 m cs5 := ⟨by rw [f6.2.2.2.2.2.2.1 _ _ (by omega)]; exact k5.1, k5.2.1, fun a ha => by rw [f6.2.2.2.2.2.2.1 _ _ (by omega)]; exact k5.2.2 a ha⟩
          unfold rQn at e2
          refine b_X9_query_124 hG ?_
          dsimp only [q_X9_query_124, j_wp, j_opB, j_opA, j_nth, j_i1, j_i2, j_l1, j_l2, j_li, j_f1, j_f2, j_d1, j_d2, j_r1, j_ai, j_aii, j_ail, j_aid, j_air, j_st1, j_st2, j_stu, j_kl, j_cond, j_args, j_out, j_few, j_cw, j_nat, j_pad, j_exp, Nat.reduceAdd]
          simp only [ME_sh q6, ME_r0 q6, ME_a0 q6, ME_r5 q6, ME_a5 q6, j_ref, j_ari, j_arb, j_arr, j_len, j_nar, j_oi, j_ol, j_of, j_od, j_or, j_ov, true_and, and_true, ME_x2 q6, hx]
          refine ⟨vp_c (k := 2) (by omega) (by omega), ?_⟩
          rw [if_pos (nI_lt (by omega) (by omega))]
          refine sp_X9_holdsFor hl s6 c6 k6 ps (by omega) hnp (fun h7 f7 => ?_)
          have f67 := FA_tr f6 f7
          simp only [j_ref, j_ari, j_arb, j_arr, j_len, j_nar, j_oi, j_ol, j_of, j_od, j_or, j_ov, true_and, and_true]
          have e2' : ∀ {z : Nat}, z = (if P i = true then ct + 1 else ct) → rQn P j (i + 1) z = rQn P np 0 0 := fun ez => by rw [ez, e2]; exact (rQn.eq_def _ _ _ _).symm
          by_cases g : P i = true
          · simp only [g, if_true]
            rw [if_neg (by decide)]
            refine b_X9_query_147 hG ?_
            dsimp only [q_X9_query_147, j_wp, j_opB, j_opA, j_nth, j_i1, j_i2, j_l1, j_l2, j_li, j_f1, j_f2, j_d1, j_d2, j_r1, j_ai, j_aii, j_ail, j_aid, j_air, j_st1, j_st2, j_stu, j_kl, j_cond, j_args, j_out, j_few, j_cw, j_nat, j_pad, j_exp, Nat.reduceAdd]
            rcases hfs with ⟨rfl, hf⟩ | ⟨rfl, hf⟩
            · rw [if_neg (by decide)]
              have K7 := K h7 f67
              have e1' := e1 hf
              have er : rQ1 P (j + 1) i = nI i := by
                show (if P i = true then nI i else rQ1 P j (i + 1)) = _
                rw [if_pos g]
              rw [if_pos hf, ← e1', er] at K7
              exact ⟨trivial, K7⟩
            · first | rw [if_pos rfl] | rw [if_pos trivial]
              refine b_X9_query_154 hG ?_
              dsimp only [q_X9_query_154, j_wp, j_opB, j_opA, j_nth, j_i1, j_i2, j_l1, j_l2, j_li, j_f1, j_f2, j_d1, j_d2, j_r1, j_ai, j_aii, j_ail, j_aid, j_air, j_st1, j_st2, j_stu, j_kl, j_cond, j_args, j_out, j_few, j_cw, j_nat, j_pad, j_exp, Nat.reduceAdd]
              refine b_X9_query_157 hG ?_
              dsimp only [q_X9_query_157, j_wp, j_opB, j_opA, j_nth, j_i1, j_i2, j_l1, j_l2, j_li, j_f1, j_f2, j_d1, j_d2, j_r1, j_ai, j_aii, j_ail, j_aid, j_air, j_st1, j_st2, j_stu, j_kl, j_cond, j_args, j_out, j_few, j_cw, j_nat, j_pad, j_exp, Nat.reduceAdd]
              rw [nI_1, nI_1]
              exact ih (i + 1) (ct + 1) h7 (by omega) f67 (fun z => absurd z hf) (e2' (by rw [if_pos g])) (by omega)
          · simp only [g, if_false, Bool.false_eq_true, if_true]
            refine b_X9_query_157 hG ?_
            dsimp only [q_X9_query_157, j_wp, j_opB, j_opA, j_nth, j_i1, j_i2, j_l1, j_l2, j_li, j_f1, j_f2, j_d1, j_d2, j_r1, j_ai, j_aii, j_ail, j_aid, j_air, j_st1, j_st2, j_stu, j_kl, j_cond, j_args, j_out, j_few, j_cw, j_nat, j_pad, j_exp, Nat.reduceAdd]
            rw [nI_1]
            refine ih (i + 1) ct h7 (by omega) f67 (fun z => ?_) (e2' (by rw [if_neg g])) (by omega)
            rw [← e1 z]
            show _ = (if P i = true then nI i else rQ1 P j (i + 1))
            rw [if_neg g]
      refine b_X9_query_119 hG ?_
      dsimp only [q_X9_query_119, j_wp, j_opB, j_opA, j_nth, j_i1, j_i2, j_l1, j_l2, j_li, j_f1, j_f2, j_d1, j_d2, j_r1, j_ai, j_aii, j_ail, j_aid, j_air, j_st1, j_st2, j_stu, j_kl, j_cond, j_args, j_out, j_few, j_cw, j_nat, j_pad, j_exp, Nat.reduceAdd]
      exact loop np 0 0 h5 (by omega) FA_rf (fun _ => rfl) rfl (by omega)
    -- behind the first word
    have mid : ∀ (fs c : Int32), (fs = 1 ∧ tIsW B (tOpen B k 0) (wd "first") = true ∨ fs = 0 ∧ ¬ tIsW B (tOpen B k 0) (wd "first") = true) → (if c = 0 then tFail (tOpen B k 0) 1 else tOpen B k 0) = (if tIsW B (tOpen B k 0) (wd "first") = true then tOpen B k 0 else if tIsW B (tOpen B k 0) (wd "many") = true then tOpen B k 0 else tFail (tOpen B k 0) 1) → G 67 [.ref m, .int (nI k), .int fs, j_u, j_u] [.int c, .ref m] h3 := by
      intro fs cc hfs ec
      refine b_X9_query_67 hG ?_
      dsimp only [q_X9_query_67, j_wp, j_opB, j_opA, j_nth, j_i1, j_i2, j_l1, j_l2, j_li, j_f1, j_f2, j_d1, j_d2, j_r1, j_ai, j_aii, j_ail, j_aid, j_air, j_st1, j_st2, j_stu, j_kl, j_cond, j_args, j_out, j_few, j_cw, j_nat, j_pad, j_exp, Nat.reduceAdd]
      refine sp_X9_check hl (QR_P q3) (by decide) (fun h4 s4 => ?_)
      rw [ec] at s4
      have q4 := QR_p q3 s4
      simp only [j_ref, j_ari, j_arb, j_arr, j_len, j_nar, j_oi, j_ol, j_of, j_od, j_or, j_ov, true_and, and_true]
      refine sp_X9_advance hl (QR_P q4) (fun h5 s5 => ?_)
      have q5 := QR_p q4 s5
      simp only [j_ref, j_ari, j_arb, j_arr, j_len, j_nar, j_oi, j_ol, j_of, j_od, j_or, j_ov, true_and, and_true]
      have ok4 := PR_o (QR_P q4)
      generalize hp1 : (if tIsW B (tOpen B k 0) (wd "first") = true then tOpen B k 0 else if tIsW B (tOpen B k 0) (wd "many") = true then tOpen B k 0 else tFail (tOpen B k 0) 1) = p1 at *
      have er : qRead B L np k = qTest B k (qFac B k L np 6) (tNext B k p1) := by unfold qRead; rw [hp1]
      have hb : ([] : List Int32).length + tPhi k (tNext B k p1) ≤ 200 := by
        show 0 + tPhi k (tNext B k p1) ≤ 200
        unfold tPhi
        split
        · omega
        · rename_i gz
          have n5 : tkK p1 ≠ 5 := fun y => gz (Or.inr (by rw [tNext_5 y]; exact y))
          have en : tNext B k p1 = ((tok B k (tkE p1)).1, (tok B k (tkE p1)).2.1, (tok B k (tkE p1)).2.2, tkC p1, tkA p1) := by unfold tNext; rw [if_neg n5]
          rw [en] at gz ⊢
          have := tok_adv (B := B) (len := k) (i := tkE p1) (fun z => gz (Or.inl z))
          show 0 + (k - (tok B k (tkE p1)).2.2 + 1) ≤ 200
          omega
      refine htest _ [] h5 _ q5 hb (fun h6 cs6 q6 v6 => ?_)
      rw [← er] at q6 v6
      unfold qDone at H2 H0
      generalize hqr : qRead B L np k = y at *
      -- behind the last check
      have last : ∀ (c7 : Int32), (if c7 = 0 then tFail y.1 1 else y.1) = tEnd y.1 → G 99 [.ref m, .int (nI k), .int fs, j_u, j_u] [.int c7, .ref m] h6 := by
        intro c7 e7
        refine b_X9_query_99 hG ?_
        dsimp only [q_X9_query_99, j_wp, j_opB, j_opA, j_nth, j_i1, j_i2, j_l1, j_l2, j_li, j_f1, j_f2, j_d1, j_d2, j_r1, j_ai, j_aii, j_ail, j_aid, j_air, j_st1, j_st2, j_stu, j_kl, j_cond, j_args, j_out, j_few, j_cw, j_nat, j_pad, j_exp, Nat.reduceAdd]
        refine sp_X9_check hl (QR_P q6) (by decide) (fun h7 s7 => ?_)
        rw [e7] at s7
        have q7 := QR_p q6 s7
        simp only [j_ref, j_ari, j_arb, j_arr, j_len, j_nar, j_oi, j_ol, j_of, j_od, j_or, j_ov, true_and, and_true]
        have F7 : FM (kA2 m) m (fun a => a = 10 ∨ kF2 a) h h7 := FM_tr (FM_mono f1 (fun b z => z.elim) (fun a z => z.elim Or.inl (fun y => Or.inr (Or.inr (Or.inr y))))) (FM_mono q7.2.1 (fun b z => z) (fun a z => Or.inr z))
        have F8 : FM (qA2 m) m qF4 h (j_setI (j_setI h7 m 15 0) m 22 (tkA (tEnd y.1))) := FM_I (FM_I (FM_mono F7 (fun b z => by unfold kA2 at z; unfold qA2; omega) (fun a z => by unfold kF2 at z; unfold qF4; omega)) (by unfold qF4; omega)) (by unfold qF4; omega)
        have n1 : ¬ kA2 m (m + 1) := fun z => by unfold kA2 at z; omega
        have n6 : ¬ kA2 m (m + 6) := fun z => by unfold kA2 at z; omega
        have n0 : ¬ kA2 m m := fun z => by unfold kA2 at z; omega
        have B7 : MB E m M h7 := ⟨mk_FM s.1 F7, RG_cp s.2.1 (fun a _ => F7.2.2.2.2.2.2.1 _ _ n1 (fun z => absurd z.1 (by omega))), RGV_cp s.2.2.1 (fun a _ => F7.2.2.2.2.2.2.2 _ _ n6), FM_bd F7 hB⟩
        have B8 := MB_I (MB_I B7 (k := 15) 0) (k := 22) (tkA (tEnd y.1))
        have T8 : HT (j_setI (j_setI h7 m 15 0) m 22 (tkA (tEnd y.1))) m B 0 (tkA (tEnd y.1)) := ⟨fun i hi => by rw [jh_In (by omega), jh_In (by omega)]; exact q7.1.1.2.1 i hi, ⟨by rw [jh_In (by omega)]; exact jh_Is _ _ _ _, by omega⟩, jh_Is _ _ _ _⟩
        have X8 : j_I (j_setI (j_setI h7 m 15 0) m 22 (tkA (tEnd y.1))) m 10 = 0 := by
          rw [jh_In (by omega), jh_In (by omega), q7.2.1.2.2.2.2.2.2.1 _ _ n0 (fun z => by have := z.2; unfold kF2 at this; omega)]
          exact x10
        have E20 : j_I (j_setI (j_setI h7 m 15 0) m 22 (tkA (tEnd y.1))) m 20 = j_I h7 m 20 := by rw [jh_In (by omega), jh_In (by omega)]
        refine sp_X9_finish hl (QR_P q7) ?_
        simp only [j_ref, j_ari, j_arb, j_arr, j_len, j_nar, j_oi, j_ol, j_of, j_od, j_or, j_ov, true_and, and_true]
        obtain ⟨p1', p2', p3', p4', p5', p6'⟩ := PR_t (QR_P q7)
        by_cases g5 : tkK (tEnd y.1) = 5
        · rw [if_neg (show ¬ tkC (tEnd y.1) = 0 from (p6' g5).2.1)]
          simp only [MB_sh B8, E20, (p6' g5).1, j_ref, j_ari, j_arb, j_arr, j_len, j_nar, j_oi, j_ol, j_of, j_od, j_or, j_ov, true_and, and_true]
          exact H2 g5 _ B8 T8 X8 F8
        · rw [if_pos (p5' g5).2.2.1]
          have gy : tkK y.1 ≠ 5 := fun z => g5 (by unfold tEnd; rw [if_neg (by omega)]; exact tFail_5 y.1 1)
          obtain ⟨new, en, -, hps⟩ := v6 gy
          rw [List.nil_append] at en
          subst en
          have ea : tkA (tEnd y.1) = -1 := (p5' g5).2.2.2
          have K8 : HK (j_setI (j_setI h7 m 15 0) m 22 (tkA (tEnd y.1))) m cs6 := ⟨by rw [jh_In (by omega), jh_In (by omega)]; exact q7.2.2.2.1, q7.2.2.2.2.1, fun a ha => by rw [jh_In (by omega), jh_In (by omega)]; exact q7.2.2.2.2.2.1 a ha⟩
          have C8 : HCn E (j_setI (j_setI h7 m 15 0) m 22 (tkA (tEnd y.1))) m := HCn_FM q7.2.2.1 (FM_I (A := nA) (F := fun a => a = 15 ∨ a = 22) (FM_I FM_rf (Or.inl rfl)) (Or.inr rfl)) id
          have T9 : HT (j_setI (j_setI h7 m 15 0) m 22 (tkA (tEnd y.1))) m B 0 (-1) := ⟨T8.1, T8.2.1, T8.2.2.trans ea⟩
          refine fin fs _ hfs cs6 B8 C8 K8 hps (fun h9 f9 => ?_) _ _
          refine H0 g5 h9 (MB_FA B8 f9 (by omega) (by omega)) (HT_FM T9 (FM_FA (F := fun _ => False) f9) (by omega) (by omega) id id) ?_ (FM_tr F8 (FM_FA (FA_mono f9 (fun b z => Or.inr (Or.inr (Or.inr (Or.inr z)))))))
          rw [f9.2.2.2.2.2.2.1 _ _ (by omega)]
          exact X8
      simp only [PR_sh (QR_P q6), j_ref, j_ari, j_arb, j_arr, j_len, j_nar, j_oi, j_ol, j_of, j_od, j_or, j_ov, true_and, and_true]
      by_cases g5 : tkK y.1 = 5
      · rw [if_neg (PR_e5 (QR_P q6) g5)]
        refine b_X9_query_94 hG ?_
        dsimp only [q_X9_query_94, j_wp, j_opB, j_opA, j_nth, j_i1, j_i2, j_l1, j_l2, j_li, j_f1, j_f2, j_d1, j_d2, j_r1, j_ai, j_aii, j_ail, j_aid, j_air, j_st1, j_st2, j_stu, j_kl, j_cond, j_args, j_out, j_few, j_cw, j_nat, j_pad, j_exp, Nat.reduceAdd]
        refine last 1 ?_
        rw [if_neg (by decide)]
        unfold tEnd
        rw [if_neg (by omega), tFail_f g5]
      · rw [if_pos (PR_e0 (QR_P q6) g5), PR_19 (QR_P q6) g5]
        by_cases g0 : tkK y.1 = 0
        · rw [if_pos (tkNo_0.mpr g0)]
          refine b_X9_query_94 hG ?_
          dsimp only [q_X9_query_94, j_wp, j_opB, j_opA, j_nth, j_i1, j_i2, j_l1, j_l2, j_li, j_f1, j_f2, j_d1, j_d2, j_r1, j_ai, j_aii, j_ail, j_aid, j_air, j_st1, j_st2, j_stu, j_kl, j_cond, j_args, j_out, j_few, j_cw, j_nat, j_pad, j_exp, Nat.reduceAdd]
          refine last 1 ?_
          rw [if_neg (by decide)]
          unfold tEnd
          rw [if_pos g0]
        · rw [if_neg (fun z => g0 (tkNo_0.mp z))]
          refine b_X9_query_98 hG ?_
          dsimp only [q_X9_query_98, j_wp, j_opB, j_opA, j_nth, j_i1, j_i2, j_l1, j_l2, j_li, j_f1, j_f2, j_d1, j_d2, j_r1, j_ai, j_aii, j_ail, j_aid, j_air, j_st1, j_st2, j_stu, j_kl, j_cond, j_args, j_out, j_few, j_cw, j_nat, j_pad, j_exp, Nat.reduceAdd]
          refine last 0 ?_
          first | rw [if_pos rfl] | rw [if_pos trivial]
          unfold tEnd
          rw [if_neg g0]
    simp only [j_ref, j_ari, j_arb, j_arr, j_len, j_nar, j_oi, j_ol, j_of, j_od, j_or, j_ov, true_and, and_true]
    refine sp_X9_isWord hl hJ (QR_P q3) 67 rfl (by omega) ?_
    simp only [j_ref, j_ari, j_arb, j_arr, j_len, j_nar, j_oi, j_ol, j_of, j_od, j_or, j_ov, true_and, and_true, j_st1, j_kl]
    by_cases gf : tIsW B (tOpen B k 0) (wd "first") = true
    · have gf' : tIsW B (tOpen B k 0) (wd ("PacketSchedulerModel", 465, "first").2.2) = true := gf
      simp only [gf', if_true]
      rw [if_neg (by decide)]
      refine b_X9_query_62 hG ?_
      dsimp only [q_X9_query_62, j_wp, j_opB, j_opA, j_nth, j_i1, j_i2, j_l1, j_l2, j_li, j_f1, j_f2, j_d1, j_d2, j_r1, j_ai, j_aii, j_ail, j_aid, j_air, j_st1, j_st2, j_stu, j_kl, j_cond, j_args, j_out, j_few, j_cw, j_nat, j_pad, j_exp, Nat.reduceAdd]
      exact mid 1 1 (Or.inl ⟨rfl, gf⟩) (by rw [if_neg (by decide), if_pos gf])
    · have gf' : ¬ tIsW B (tOpen B k 0) (wd ("PacketSchedulerModel", 465, "first").2.2) = true := gf
      simp only [gf', if_false, Bool.false_eq_true, if_true]
      refine sp_X9_isWord hl hJ (QR_P q3) 68 rfl (by omega) ?_
      simp only [j_ref, j_ari, j_arb, j_arr, j_len, j_nar, j_oi, j_ol, j_of, j_od, j_or, j_ov, true_and, and_true]
      by_cases gm : tIsW B (tOpen B k 0) (wd "many") = true
      · have gm' : tIsW B (tOpen B k 0) (wd ("PacketSchedulerModel", 467, "many").2.2) = true := gm
        simp only [gm', if_true]
        rw [if_neg (by decide)]
        refine b_X9_query_62 hG ?_
        dsimp only [q_X9_query_62, j_wp, j_opB, j_opA, j_nth, j_i1, j_i2, j_l1, j_l2, j_li, j_f1, j_f2, j_d1, j_d2, j_r1, j_ai, j_aii, j_ail, j_aid, j_air, j_st1, j_st2, j_stu, j_kl, j_cond, j_args, j_out, j_few, j_cw, j_nat, j_pad, j_exp, Nat.reduceAdd]
        exact mid 0 1 (Or.inr ⟨rfl, gf⟩) (by rw [if_neg (by decide), if_neg gf, if_pos gm])
      · have gm' : ¬ tIsW B (tOpen B k 0) (wd ("PacketSchedulerModel", 467, "many").2.2) = true := gm
        simp only [gm', if_false, Bool.false_eq_true, if_true]
        refine b_X9_query_66 hG ?_
        dsimp only [q_X9_query_66, j_wp, j_opB, j_opA, j_nth, j_i1, j_i2, j_l1, j_l2, j_li, j_f1, j_f2, j_d1, j_d2, j_r1, j_ai, j_aii, j_ail, j_aid, j_air, j_st1, j_st2, j_stu, j_kl, j_cond, j_args, j_out, j_few, j_cw, j_nat, j_pad, j_exp, Nat.reduceAdd]
        exact mid 0 0 (Or.inr ⟨rfl, gf⟩) (by rw [if_pos rfl, if_neg gf, if_neg gm])
  · simp only [rIn_n (by omega) g1, Bool.false_eq_true, if_false, if_true]
    refine raise0 hl s ?_
    simp only [j_ref, j_ari, j_arb, j_arr, j_len, j_nar, j_oi, j_ol, j_of, j_od, j_or, j_ov, true_and, and_true]
    exact H1 g1
end RHq
