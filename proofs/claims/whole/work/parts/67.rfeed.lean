/-! ===== the reference: feed ===== -/
theorem bRel_and (x : Int32) : bRel x.toInt8.toInt32 (x &&& 255) := by
  have hk : x.toBitVec.toNat % 256 < 256 := Nat.mod_lt _ (by omega)
  refine ⟨⟨x.toBitVec.toNat % 256, hk⟩, pk_and x 8 rfl, ?_⟩
  dsimp only
  have e1 : x.toInt = (x.toBitVec.toNat : Int).bmod (2 ^ 32) := BitVec.toInt_eq_toNat_bmod x.toBitVec
  have e2 : x.toInt8.toInt32.toInt = (x.toBitVec.toNat : Int).bmod 256 := by
    rw [Int8.toInt_toInt32, Int32.toInt_toInt8, e1]
    exact Int.bmod_bmod_of_dvd (by decide)
  refine Int32.toInt_inj.mp ?_
  rw [e2, Int.bmod_def]
  by_cases g : x.toBitVec.toNat % 256 < 128
  · rw [if_pos g, if_pos (by omega), nI_toInt (by omega)]
    omega
  · rw [if_neg g, if_neg (by omega), show nI (x.toBitVec.toNat % 256) - 256 = nI (x.toBitVec.toNat % 256) - nI 256 from rfl, pk_sub_toInt (by omega) (by omega)]
    omega
section RFe
variable {l : Launch} {D : va_G} {bs : Nat} {E : j_E} {h0 h : j_H} {m : Nat} {d : Nat} {Q : j_O → j_H → Prop} {B : Nat → Int32} {sz : Nat} {M : Rf}
set_option maxRecDepth 8000 in
theorem sp_X9_feed (hl : l.stackTraces = false) (s : MB E m M h) {ep : Int32} (t : HT h m B sz ep) {w1 w2 w3 w4 w5 : Int32} (H1 : 800 < sz + 20 → Q (.inl (some (.int (-1)))) (j_setI h m 10 0)) (H0 : ¬ 800 < sz + 20 → ∀ h', MB E m M h' → HT h' m (tApp (tApp (tApp (tApp (tApp B sz w1) (sz + 4) w2) (sz + 8) w3) (sz + 12) w4) (sz + 16) w5) (sz + 20) ep → j_I h' m 10 = 0 → FM (fun b => b = m + 11) m (fun k => k = 10 ∨ k = 15) h h' → Q (.inl (some (.int (nI (sz + 20))))) h') : j_Met l D bs E (d + 1) n_X9_feed [.ref m, .int w1, .int w2, .int w3, .int w4, .int w5] h Q := by
  have hB := s.2.2.2
  have s0 := MB_I s (k := 10) 0
  have t0 : HT (j_setI h m 10 0) m B sz ep := HT_FM t (FM_I (A := nA) (F := fun k => k = 10) FM_rf rfl) id id (by omega) (by omega)
  have hsz := t.2.1.2
  refine j_meth hl rfl g_X9_feed (Nat.le_of_ble_eq_true rfl) (fun _ => ⟨_, _, rfl, (MB_sh s)⟩) hB.1 hB.2 (fun G hG => ?_)
  refine b_X9_feed_0 hG ?_
  dsimp only [q_X9_feed_0, j_wp, j_opB, j_opA, j_nth, j_i1, j_i2, j_l1, j_l2, j_li, j_f1, j_f2, j_d1, j_d2, j_r1, j_ai, j_aii, j_ail, j_aid, j_air, j_st1, j_st2, j_stu, j_kl, j_cond, j_args, j_out, j_few, j_cw, j_nat, j_pad, j_exp, Nat.reduceAdd]
  simp only [MB_sh s, MB_sh s0, t0.2.1.1, j_ref, j_ari, j_arb, j_arr, j_len, j_nar, j_oi, j_ol, j_of, j_od, j_or, j_ov, true_and, and_true]
  rw [show nI sz + 20 = nI (sz + 20) from nI_add sz 20]
  by_cases g : 800 < sz + 20
  · rw [if_pos (show (800 : Int32) < nI (sz + 20) from nI_lt (a := 800) g (by omega))]
    exact H1 g
  · rw [if_neg (show ¬ (800 : Int32) < nI (sz + 20) from nI_nlt (a := 800) (by omega) (by omega))]
    have H := H0 g
    have stp : ∀ (k : Nat) (w sh : Int32) (B1 : Nat → Int32) (h1 : j_H) (x : Value), k < 20 → (if k < 4 then w1 else if k < 8 then w2 else if k < 12 then w3 else if k < 16 then w4 else w5) = w → (24 : Int32) - 8 * nI (k % 4) = sh → HT h1 m B1 (sz + k) ep → MB E m M h1 → FM (fun b => b = m + 11) m (fun k => k = 10 ∨ k = 15) h h1 → j_I h1 m 10 = 0 →
        (∀ (h2 : j_H) (y : Value), HT h2 m (up1 B1 (sz + k) (tByte w sh)) (sz + (k + 1)) ep → MB E m M h2 → FM (fun b => b = m + 11) m (fun k => k = 10 ∨ k = 15) h h2 → j_I h2 m 10 = 0 → G 23 [.ref m, .int w1, .int w2, .int w3, .int w4, .int w5, .int (nI (k + 1)), y] [] h2) → G 23 [.ref m, .int w1, .int w2, .int w3, .int w4, .int w5, .int (nI k), x] [] h1 := by
      intro k w sh B1 h1 x hk hw hsh t1 b1 f1 x1 K
      have er : nI k - nI k / 4 * 4 = nI (k % 4) := pk_rem (d := 4) (by omega) (by omega) (by omega)
      have m1 := b1.1
      have fin : ∀ y : Value, G 76 [.ref m, .int w1, .int w2, .int w3, .int w4, .int w5, .int (nI k), y] [.int w] h1 := by
        intro y
        refine b_X9_feed_76 hG ?_
        dsimp only [q_X9_feed_76, j_wp, j_opB, j_opA, j_nth, j_i1, j_i2, j_l1, j_l2, j_li, j_f1, j_f2, j_d1, j_d2, j_r1, j_ai, j_aii, j_ail, j_aid, j_air, j_st1, j_st2, j_stu, j_kl, j_cond, j_args, j_out, j_few, j_cw, j_nat, j_pad, j_exp, Nat.reduceAdd]
        simp only [mk_sh m1, mk_r14 m1, mk_a14 m1, t1.2.1.1, er, hsh, j_ref, j_ari, j_arb, j_arr, j_len, j_nar, j_oi, j_ol, j_of, j_od, j_or, j_ov, true_and, and_true]
        refine ⟨by decide, vp_in_nI (by omega) (by omega), ?_⟩
        rw [nI_clamp (by omega)]
        have m2 : mk (j_setI h1 (m + 11) (sz + k) (w >>> (sh &&& 31) &&& 255)) m := m1
        have e15 : j_I (j_setI h1 (m + 11) (sz + k) (w >>> (sh &&& 31) &&& 255)) m 15 = nI (sz + k) := by rw [jh_In (by omega)]; exact t1.2.1.1
        simp only [mk_sh m2, e15, j_ref, j_ari, j_arb, j_arr, j_len, j_nar, j_oi, j_ol, j_of, j_od, j_or, j_ov, true_and, and_true]
        rw [nI_1, nI_1]
        have f2 : FM (fun b => b = m + 11) m (fun k => k = 10 ∨ k = 15) h (j_setI (j_setI h1 (m + 11) (sz + k) (w >>> (sh &&& 31) &&& 255)) m 15 (nI (sz + k + 1))) := FM_I (FM_tr f1 (FM_FA (FA_I FA_rf rfl))) (Or.inr rfl)
        refine K _ _ ⟨fun i hi => ?_, ⟨jh_Is _ _ _ _, by omega⟩, ?_⟩ ?_ f2 ?_
        · rw [jh_In (by omega), jh_I]
          unfold up1
          by_cases e : i = sz + k
          · rw [if_pos e, if_pos ⟨rfl, e⟩]
            exact bRel_and _
          · rw [if_neg e, if_neg (fun z => e z.2)]
            exact t1.1 i hi
        · rw [jh_In (by omega), jh_In (by omega)]
          exact t1.2.2
        · exact ⟨mk_FM s.1 f2, RG_cp s.2.1 (fun k _ => f2.2.2.2.2.2.2.1 _ _ (by omega) (fun z => absurd z.1 (by omega))), RGV_cp s.2.2.1 (fun k _ => f2.2.2.2.2.2.2.2 _ _ (by omega)), FM_bd f2 hB⟩
        · rw [jh_In (by omega), jh_In (by omega)]
          exact x1
      refine b_X9_feed_23 hG ?_
      dsimp only [q_X9_feed_23, j_wp, j_opB, j_opA, j_nth, j_i1, j_i2, j_l1, j_l2, j_li, j_f1, j_f2, j_d1, j_d2, j_r1, j_ai, j_aii, j_ail, j_aid, j_air, j_st1, j_st2, j_stu, j_kl, j_cond, j_args, j_out, j_few, j_cw, j_nat, j_pad, j_exp, Nat.reduceAdd]
      rw [if_pos (show nI k < (20 : Int32) from nI_lt (b := 20) hk (by omega))]
      by_cases g1 : k < 4
      · rw [if_pos g1] at hw
        rw [if_pos (show nI k < (4 : Int32) from nI_lt (b := 4) g1 (by omega))]
        subst hw
        exact fin _
      · rw [if_neg g1] at hw
        rw [if_neg (show ¬ nI k < (4 : Int32) from nI_nlt (b := 4) (by omega) (by omega))]
        refine b_X9_feed_40 hG ?_
        dsimp only [q_X9_feed_40, j_wp, j_opB, j_opA, j_nth, j_i1, j_i2, j_l1, j_l2, j_li, j_f1, j_f2, j_d1, j_d2, j_r1, j_ai, j_aii, j_ail, j_aid, j_air, j_st1, j_st2, j_stu, j_kl, j_cond, j_args, j_out, j_few, j_cw, j_nat, j_pad, j_exp, Nat.reduceAdd]
        by_cases g2 : k < 8
        · rw [if_pos g2] at hw
          rw [if_pos (show nI k < (8 : Int32) from nI_lt (b := 8) g2 (by omega))]
          subst hw
          exact fin _
        · rw [if_neg g2] at hw
          rw [if_neg (show ¬ nI k < (8 : Int32) from nI_nlt (b := 8) (by omega) (by omega))]
          refine b_X9_feed_51 hG ?_
          dsimp only [q_X9_feed_51, j_wp, j_opB, j_opA, j_nth, j_i1, j_i2, j_l1, j_l2, j_li, j_f1, j_f2, j_d1, j_d2, j_r1, j_ai, j_aii, j_ail, j_aid, j_air, j_st1, j_st2, j_stu, j_kl, j_cond, j_args, j_out, j_few, j_cw, j_nat, j_pad, j_exp, Nat.reduceAdd]
          by_cases g3 : k < 12
          · rw [if_pos g3] at hw
            rw [if_pos (show nI k < (12 : Int32) from nI_lt (b := 12) g3 (by omega))]
            subst hw
            exact fin _
          · rw [if_neg g3] at hw
            rw [if_neg (show ¬ nI k < (12 : Int32) from nI_nlt (b := 12) (by omega) (by omega))]
            refine b_X9_feed_62 hG ?_
            dsimp only [q_X9_feed_62, j_wp, j_opB, j_opA, j_nth, j_i1, j_i2, j_l1, j_l2, j_li, j_f1, j_f2, j_d1, j_d2, j_r1, j_ai, j_aii, j_ail, j_aid, j_air, j_st1, j_st2, j_stu, j_kl, j_cond, j_args, j_out, j_few, j_cw, j_nat, j_pad, j_exp, Nat.reduceAdd]
            by_cases g4 : k < 16
            · rw [if_pos g4] at hw
              rw [if_pos (show nI k < (16 : Int32) from nI_lt (b := 16) g4 (by omega))]
              subst hw
              exact fin _
            · rw [if_neg g4] at hw
              rw [if_neg (show ¬ nI k < (16 : Int32) from nI_nlt (b := 16) (by omega) (by omega))]
              refine b_X9_feed_74 hG ?_
              dsimp only [q_X9_feed_74, j_wp, j_opB, j_opA, j_nth, j_i1, j_i2, j_l1, j_l2, j_li, j_f1, j_f2, j_d1, j_d2, j_r1, j_ai, j_aii, j_ail, j_aid, j_air, j_st1, j_st2, j_stu, j_kl, j_cond, j_args, j_out, j_few, j_cw, j_nat, j_pad, j_exp, Nat.reduceAdd]
              subst hw
              exact fin _
    have f0 : FM (fun b => b = m + 11) m (fun k => k = 10 ∨ k = 15) h (j_setI h m 10 0) := FM_I FM_rf (Or.inl rfl)
    have x0 : j_I (j_setI h m 10 0) m 10 = 0 := jh_Is _ _ _ _
    refine b_X9_feed_20 hG ?_
    dsimp only [q_X9_feed_20, j_wp, j_opB, j_opA, j_nth, j_i1, j_i2, j_l1, j_l2, j_li, j_f1, j_f2, j_d1, j_d2, j_r1, j_ai, j_aii, j_ail, j_aid, j_air, j_st1, j_st2, j_stu, j_kl, j_cond, j_args, j_out, j_few, j_cw, j_nat, j_pad, j_exp, Nat.reduceAdd]
    refine stp 0 w1 24 _ _ _ (by omega) rfl (by decide) t0 s0 f0 x0 (fun h1 y1 t1 b1 f1 x1 => ?_)
    refine stp 1 w1 16 _ _ _ (by omega) rfl (by decide) t1 b1 f1 x1 (fun h2 y2 t2 b2 f2 x2 => ?_)
    refine stp 2 w1 8 _ _ _ (by omega) rfl (by decide) t2 b2 f2 x2 (fun h3 y3 t3 b3 f3 x3 => ?_)
    refine stp 3 w1 0 _ _ _ (by omega) rfl (by decide) t3 b3 f3 x3 (fun h4 y4 t4 b4 f4 x4 => ?_)
    refine stp 4 w2 24 _ _ _ (by omega) rfl (by decide) t4 b4 f4 x4 (fun h5 y5 t5 b5 f5 x5 => ?_)
    refine stp 5 w2 16 _ _ _ (by omega) rfl (by decide) t5 b5 f5 x5 (fun h6 y6 t6 b6 f6 x6 => ?_)
    refine stp 6 w2 8 _ _ _ (by omega) rfl (by decide) t6 b6 f6 x6 (fun h7 y7 t7 b7 f7 x7 => ?_)
    refine stp 7 w2 0 _ _ _ (by omega) rfl (by decide) t7 b7 f7 x7 (fun h8 y8 t8 b8 f8 x8 => ?_)
    refine stp 8 w3 24 _ _ _ (by omega) rfl (by decide) t8 b8 f8 x8 (fun h9 y9 t9 b9 f9 x9 => ?_)
    refine stp 9 w3 16 _ _ _ (by omega) rfl (by decide) t9 b9 f9 x9 (fun h10 y10 t10 b10 f10 x10 => ?_)
    refine stp 10 w3 8 _ _ _ (by omega) rfl (by decide) t10 b10 f10 x10 (fun h11 y11 t11 b11 f11 x11 => ?_)
    refine stp 11 w3 0 _ _ _ (by omega) rfl (by decide) t11 b11 f11 x11 (fun h12 y12 t12 b12 f12 x12 => ?_)
    refine stp 12 w4 24 _ _ _ (by omega) rfl (by decide) t12 b12 f12 x12 (fun h13 y13 t13 b13 f13 x13 => ?_)
    refine stp 13 w4 16 _ _ _ (by omega) rfl (by decide) t13 b13 f13 x13 (fun h14 y14 t14 b14 f14 x14 => ?_)
    refine stp 14 w4 8 _ _ _ (by omega) rfl (by decide) t14 b14 f14 x14 (fun h15 y15 t15 b15 f15 x15 => ?_)
    refine stp 15 w4 0 _ _ _ (by omega) rfl (by decide) t15 b15 f15 x15 (fun h16 y16 t16 b16 f16 x16 => ?_)
    refine stp 16 w5 24 _ _ _ (by omega) rfl (by decide) t16 b16 f16 x16 (fun h17 y17 t17 b17 f17 x17 => ?_)
    refine stp 17 w5 16 _ _ _ (by omega) rfl (by decide) t17 b17 f17 x17 (fun h18 y18 t18 b18 f18 x18 => ?_)
    refine stp 18 w5 8 _ _ _ (by omega) rfl (by decide) t18 b18 f18 x18 (fun h19 y19 t19 b19 f19 x19 => ?_)
    refine stp 19 w5 0 _ _ _ (by omega) rfl (by decide) t19 b19 f19 x19 (fun h20 y20 t20 b20 f20 x20 => ?_)
    refine b_X9_feed_23 hG ?_
    dsimp only [q_X9_feed_23, j_wp, j_opB, j_opA, j_nth, j_i1, j_i2, j_l1, j_l2, j_li, j_f1, j_f2, j_d1, j_d2, j_r1, j_ai, j_aii, j_ail, j_aid, j_air, j_st1, j_st2, j_stu, j_kl, j_cond, j_args, j_out, j_few, j_cw, j_nat, j_pad, j_exp, Nat.reduceAdd]
    rw [if_neg (by decide)]
    refine b_X9_feed_120 hG ?_
    dsimp only [q_X9_feed_120, j_wp, j_opB, j_opA, j_nth, j_i1, j_i2, j_l1, j_l2, j_li, j_f1, j_f2, j_d1, j_d2, j_r1, j_ai, j_aii, j_ail, j_aid, j_air, j_st1, j_st2, j_stu, j_kl, j_cond, j_args, j_out, j_few, j_cw, j_nat, j_pad, j_exp, Nat.reduceAdd]
    simp only [MB_sh b20, t20.2.1.1, j_ref, j_ari, j_arb, j_arr, j_len, j_nar, j_oi, j_ol, j_of, j_od, j_or, j_ov, true_and, and_true]
    exact H h20 b20 t20 x20 f20
end RFe
