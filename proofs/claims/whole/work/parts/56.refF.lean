/-! ===== the reference: the methods that change the traffic ===== -/
section RefF
variable {l : Launch} {D : va_G} {bs : Nat} {E : j_E} {h0 h : j_H} {m : Nat} {M : Rf} {d : Nat} {Q : j_O → j_H → Prop}
/-- the cells that these methods change -/
def cA (m : Nat) : Nat → Prop := fun b => b = m + 1 ∨ b = m + 6 ∨ b = m + 5 ∨ b = m + 9
def cF : Nat → Prop := fun k => k = 9 ∨ k = 10
/-- behind such a method: the traffic, the history, nothing thrown -/
def MC (E : j_E) (m : Nat) (h : j_H) (M' : Rf) (U' : Nat → Rf) (uc' : Nat) (h' : j_H) : Prop := MB E m M' h' ∧ HU h' m U' uc' ∧ j_I h' m 10 = 0 ∧ FM (cA m) m cF h h'
variable {U : Nat → Rf} {uc : Nat}
theorem HU_I (u : HU h m U uc) {k : Nat} {v : Int32} (hk : k ≠ 9) : HU (j_setI h m k v) m U uc := HU_FM u (FM_I (A := fun _ => False) (F := fun j => j = k) FM_rf rfl) id (fun z => hk z.symm) id id
/-- 'thrown = 0; remember()': the traffic is as before, the history longer by it -/
theorem rem0 (hl : l.stackTraces = false) (s : MB E m M h) (u : HU h m U uc) (H : ∀ h', MB E m M h' → HU h' m (rRem U uc M) (min (uc + 1) 10) → j_I h' m 10 = 0 → FM (cA m) m cF h h' → Q (.inl none) h') : j_Met l D bs E (d + 2) n_X9_remember [.ref m] (j_setI h m 10 0) Q := by
  have s0 := MB_I s (k := 10) 0
  refine sp_X9_remember hl s0.1 s0.2.2.2 s0.2.1 s0.2.2.1 (HU_I u (k := 10) (by omega)) (fun h1 f1 u1 => ?_)
  have n1 : ¬ hA m (m + 1) := fun z => by unfold hA at z; omega
  have n6 : ¬ hA m (m + 6) := fun z => by unfold hA at z; omega
  have n0 : ¬ hA m m := fun z => by unfold hA at z; omega
  refine H h1 ⟨mk_FM s0.1 f1, ?_, ?_, FM_bd f1 s0.2.2.2⟩ u1 ?_ ?_
  · exact RG_cp s0.2.1 (fun k _ => f1.2.2.2.2.2.2.1 _ _ n1 (fun z => absurd z.1 (by omega)))
  · exact RGV_cp s0.2.2.1 (fun k _ => f1.2.2.2.2.2.2.2 _ _ n6)
  · rw [f1.2.2.2.2.2.2.1 _ _ n0 (fun z => absurd z.2 (by decide))]
    exact jh_Is _ _ _ _
  · exact FM_tr (FM_I FM_rf (Or.inr rfl)) (FM_mono f1 (fun b e => Or.inr (Or.inr e)) (fun k e => Or.inl e))
/-- behind it, a piece that changes the traffic alone -/
theorem MC_q {M1 M2 : Rf} {h1 h2 : j_H} {U' : Nat → Rf} {uc' : Nat} (s : MC E m h M1 U' uc' h1) (q : ME E h1 m M2 h2) : MC E m h M2 U' uc' h2 := by
  have n0 : ¬ tA m m := fun z => by unfold tA at z; omega
  refine ⟨MB_of q, HU_FM s.2.1 (FM_FA (F := fun _ => False) q.2.2.2.1) n0 id (fun z => by unfold tA at z; omega) (fun z => by unfold tA at z; omega), ?_, FM_tr s.2.2.2 (FM_FA (FA_mono q.2.2.2.1 (fun b e => e.elim Or.inl (fun z => Or.inr (Or.inl z)))))⟩
  rw [q.2.2.2.1.2.2.2.2.2.2.1 _ _ n0]
  exact s.2.2.1
/-- a new packet -/
def rArr (M : Rf) (f p : Nat) (a b c sz : Int32) : Rf :=
  let M1 := rsX M 2 (rX M 2 + 1)
  let M2 := rsP M1 p 0 (nI f)
  let M3 := rsP M2 p 1 sz
  let M4 := rsP M3 p 2 (rX M3 4)
  let M5 := rsP M4 p 3 0
  let M6 := rsP M5 p 4 0
  let M7 := rsP M6 p 5 (-1)
  let M8 := rsP M7 p 6 a
  let M9 := rsP M8 p 7 b
  let M10 := rsP M9 p 8 c
  rPutEnd M10 f p
theorem rForgive_X (M : Rf) (nf ns f : Nat) : rX (rForgive M nf ns f) = rX M := by unfold rForgive; split <;> rfl
theorem rForgive_F (M : Rf) (nf ns f g k : Nat) (hk : k ≠ 13) : rF (rForgive M nf ns f) g k = rF M g k := by
  unfold rForgive
  split
  · show j_up (rF M) f 13 _ g k = _
    rw [j_up, if_neg (fun z => hk z.2)]
  · rfl
/-- what arriving asks of the state -/
def rArrOk (M : Rf) (nf nr np ns : Nat) : Prop := nf ≤ 6 ∧ rX M 0 = nI nf ∧ nr ≤ 12 ∧ rX M 1 = nI nr ∧ np ≤ 100 ∧ rX M 2 = nI np ∧ ns ≤ 300 ∧ rX M 3 = nI ns ∧ rSok M ns ∧ (∀ f, f < nf → ¬ (rF M f 0).toInt64 = 0 ∧ ∃ q, q ≤ np ∧ rF M f 7 = nI q ∧ rQok M f q) ∧ ∀ a b c, rFor M a b c nr 0 = -1 ∨ ∃ f, f < nf ∧ rFor M a b c nr 0 = nI f
set_option maxRecDepth 8000 in
theorem sp_X9_arrive (hl : l.stackTraces = false) (s : MB E m M h) (u : HU h m U uc) {nf nr np ns : Nat} (ok : rArrOk M nf nr np ns) {a b c sz : Int32}
    (H1 : ¬ ((inx a 256 ∧ inx b 256 ∧ inx c 256) ∧ rIn sz 1 1500 = true) → Q (.inl (some (.int 0))) (j_setI h m 10 1))
    (H2 : inx a 256 ∧ inx b 256 ∧ inx c 256 → rIn sz 1 1500 = true → rFor M a b c nr 0 = -1 → Q (.inl (some (.int (-2)))) (j_setI h m 10 0))
    (H3 : inx a 256 ∧ inx b 256 ∧ inx c 256 → rIn sz 1 1500 = true → ¬ rFor M a b c nr 0 = -1 → np = 100 → Q (.inl (some (.int (-3)))) (j_setI h m 10 0))
    (H4 : inx a 256 ∧ inx b 256 ∧ inx c 256 → rIn sz 1 1500 = true → ∀ f, f < nf → rFor M a b c nr 0 = nI f → np < 100 → rF M f 1 < rBytes M f (tn (rF M f 7)) 0 0 + sz → Q (.inl (some (.int (-4)))) (j_setI h m 10 0))
    (H0 : inx a 256 ∧ inx b 256 ∧ inx c 256 → rIn sz 1 1500 = true → ∀ f, f < nf → rFor M a b c nr 0 = nI f → np < 100 → ¬ rF M f 1 < rBytes M f (tn (rF M f 7)) 0 0 + sz → ∀ h', MC E m h (rArr (rForgive M nf ns f) f np a b c sz) (rRem U uc M) (min (uc + 1) 10) h' → Q (.inl (some (.int (nI np)))) h') :
    j_Met l D bs E (d + 6) n_X9_arrive [.ref m, .int a, .int b, .int c, .int sz] h Q := by
  have hB := s.2.2.2
  have s0 := MB_I s (k := 10) 0
  have q := MB_q s0
  have hB0 := s0.2.2.2
  obtain ⟨hnf, hx0, hnr, hx1, hnp, hx2, hns, hx3, hsok, hfl, hfor⟩ := ok
  have y : ∀ {v : Int32}, inx v 256 → rIn v 0 255 = true := fun z => rIn_y (n := 256) (by omega) z
  have n : ∀ {v : Int32}, ¬ inx v 256 → rIn v 0 255 = false := fun z => rIn_n (n := 256) (by omega) z
  refine j_meth hl rfl g_X9_arrive (Nat.le_of_ble_eq_true rfl) (fun _ => ⟨_, _, rfl, (MB_sh s)⟩) hB.1 hB.2 (fun G hG => ?_)
  have bad : ¬ ((inx a 256 ∧ inx b 256 ∧ inx c 256) ∧ rIn sz 1 1500 = true) → G 38 [.ref m, .int a, .int b, .int c, .int sz, j_u, j_u] [] (j_setI h m 10 0) := by
    intro z
    refine b_X9_arrive_38 hG ?_
    dsimp only [q_X9_arrive_38, j_wp, j_opB, j_opA, j_nth, j_i1, j_i2, j_l1, j_l2, j_li, j_f1, j_f2, j_d1, j_d2, j_r1, j_ai, j_aii, j_ail, j_aid, j_air, j_st1, j_st2, j_stu, j_kl, j_cond, j_args, j_out, j_few, j_cw, j_nat, j_pad, j_exp, Nat.reduceAdd]
    refine raise0 hl s ?_
    simp only [j_ref, j_ari, j_arb, j_arr, j_len, j_nar, j_oi, j_ol, j_of, j_od, j_or, j_ov, true_and, and_true]
    exact H1 z
  have go : inx a 256 ∧ inx b 256 ∧ inx c 256 → rIn sz 1 1500 = true → G 44 [.ref m, .int a, .int b, .int c, .int sz, j_u, j_u] [] (j_setI h m 10 0) := by
    intro z1 z2
    refine b_X9_arrive_44 hG ?_
    dsimp only [q_X9_arrive_44, j_wp, j_opB, j_opA, j_nth, j_i1, j_i2, j_l1, j_l2, j_li, j_f1, j_f2, j_d1, j_d2, j_r1, j_ai, j_aii, j_ail, j_aid, j_air, j_st1, j_st2, j_stu, j_kl, j_cond, j_args, j_out, j_few, j_cw, j_nat, j_pad, j_exp, Nat.reduceAdd]
    refine sp_X9_flowFor hl q hnr hx1 ?_
    simp only [ME_sh q, ME_r0 q, ME_a0 q, ME_r5 q, ME_a5 q, j_ref, j_ari, j_arb, j_arr, j_len, j_nar, j_oi, j_ol, j_of, j_od, j_or, j_ov, true_and, and_true, ME_x2 q, hx2, j_st1, j_kl]
    rcases hfor a b c with e | ⟨f, hf, e⟩
    · rw [if_pos e]
      refine b_X9_arrive_70 hG ?_
      dsimp only [q_X9_arrive_70, j_wp, j_opB, j_opA, j_nth, j_i1, j_i2, j_l1, j_l2, j_li, j_f1, j_f2, j_d1, j_d2, j_r1, j_ai, j_aii, j_ail, j_aid, j_air, j_st1, j_st2, j_stu, j_kl, j_cond, j_args, j_out, j_few, j_cw, j_nat, j_pad, j_exp, Nat.reduceAdd]
      rw [if_pos e]
      refine b_X9_arrive_83 hG ?_
      dsimp only [q_X9_arrive_83, j_wp, j_opB, j_opA, j_nth, j_i1, j_i2, j_l1, j_l2, j_li, j_f1, j_f2, j_d1, j_d2, j_r1, j_ai, j_aii, j_ail, j_aid, j_air, j_st1, j_st2, j_stu, j_kl, j_cond, j_args, j_out, j_few, j_cw, j_nat, j_pad, j_exp, Nat.reduceAdd]
      exact ⟨trivial, H2 z1 z2 e⟩
    · have e1 : ¬ rFor M a b c nr 0 = -1 := by rw [e]; exact nI_ne1 (by omega)
      rw [if_neg e1]
      refine ⟨vp_c (k := 2) (by omega) (by omega), ?_⟩
      by_cases g : np = 100
      · rw [if_pos (show nI np = 100 by rw [g]; rfl)]
        refine b_X9_arrive_70 hG ?_
        dsimp only [q_X9_arrive_70, j_wp, j_opB, j_opA, j_nth, j_i1, j_i2, j_l1, j_l2, j_li, j_f1, j_f2, j_d1, j_d2, j_r1, j_ai, j_aii, j_ail, j_aid, j_air, j_st1, j_st2, j_stu, j_kl, j_cond, j_args, j_out, j_few, j_cw, j_nat, j_pad, j_exp, Nat.reduceAdd]
        rw [if_neg e1]
        refine b_X9_arrive_81 hG ?_
        dsimp only [q_X9_arrive_81, j_wp, j_opB, j_opA, j_nth, j_i1, j_i2, j_l1, j_l2, j_li, j_f1, j_f2, j_d1, j_d2, j_r1, j_ai, j_aii, j_ail, j_aid, j_air, j_st1, j_st2, j_stu, j_kl, j_cond, j_args, j_out, j_few, j_cw, j_nat, j_pad, j_exp, Nat.reduceAdd]
        refine b_X9_arrive_83 hG ?_
        dsimp only [q_X9_arrive_83, j_wp, j_opB, j_opA, j_nth, j_i1, j_i2, j_l1, j_l2, j_li, j_f1, j_f2, j_d1, j_d2, j_r1, j_ai, j_aii, j_ail, j_aid, j_air, j_st1, j_st2, j_stu, j_kl, j_cond, j_args, j_out, j_few, j_cw, j_nat, j_pad, j_exp, Nat.reduceAdd]
        exact ⟨trivial, H3 z1 z2 e1 g⟩
      · rw [if_neg (show ¬ nI np = 100 from fun z => g ((nI_eq (by omega) (by omega)).mp (show nI np = nI 100 from z)))]
        obtain ⟨hw, cq, hcq, ecq, okq⟩ := hfl f hf
        have tq : tn (rF M f 7) = cq := by rw [ecq]; exact nI_clamp (by omega)
        have H4' := H4 z1 z2 f hf e (by omega)
        have H0' := H0 z1 z2 f hf e (by omega)
        rw [tq] at H4' H0'
        rw [e]
        refine b_X9_arrive_84 hG ?_
        dsimp only [q_X9_arrive_84, j_wp, j_opB, j_opA, j_nth, j_i1, j_i2, j_l1, j_l2, j_li, j_f1, j_f2, j_d1, j_d2, j_r1, j_ai, j_aii, j_ail, j_aid, j_air, j_st1, j_st2, j_stu, j_kl, j_cond, j_args, j_out, j_few, j_cw, j_nat, j_pad, j_exp, Nat.reduceAdd]
        refine sp_X9_bytesQueued hl q (f := f) (by omega) (n := cq) (by omega) ecq okq ?_
        simp only [j_ref, j_ari, j_arb, j_arr, j_len, j_nar, j_oi, j_ol, j_of, j_od, j_or, j_ov, true_and, and_true]
        refine sp_X9_ofFlow hl q (f := f) (by omega) (k := 1) (by omega) ?_
        simp only [j_ref, j_ari, j_arb, j_arr, j_len, j_nar, j_oi, j_ol, j_of, j_od, j_or, j_ov, true_and, and_true]
        by_cases g2 : rF M f 1 < rBytes M f cq 0 0 + sz
        · rw [if_pos g2]
          exact H4' g2
        · rw [if_neg g2]
          have H := H0' g2
          refine b_X9_arrive_106 hG ?_
          dsimp only [q_X9_arrive_106, j_wp, j_opB, j_opA, j_nth, j_i1, j_i2, j_l1, j_l2, j_li, j_f1, j_f2, j_d1, j_d2, j_r1, j_ai, j_aii, j_ail, j_aid, j_air, j_st1, j_st2, j_stu, j_kl, j_cond, j_args, j_out, j_few, j_cw, j_nat, j_pad, j_exp, Nat.reduceAdd]
          refine rem0 hl s u (fun h1 s1 u1 t1 f1 => ?_)
          simp only [j_ref, j_ari, j_arb, j_arr, j_len, j_nar, j_oi, j_ol, j_of, j_od, j_or, j_ov, true_and, and_true]
          have c1 : MC E m h M (rRem U uc M) (min (uc + 1) 10) h1 := ⟨s1, u1, t1, f1⟩
          have q1 := MB_q s1
          refine sp_X9_forgive hl q1 (f := f) (by omega) hnf hx0 hns hx3 hsok hw (fun h2 q2 => ?_)
          have x2 : rX (rForgive M nf ns f) 2 = nI np := by rw [rForgive_X]; exact hx2
          have x7 : rF (rForgive M nf ns f) f 7 = nI cq := by rw [rForgive_F _ _ _ _ _ _ (by omega)]; exact ecq
          generalize rForgive M nf ns f = M1 at *
          simp only [ME_sh q2, ME_r0 q2, ME_a0 q2, ME_r5 q2, ME_a5 q2, j_ref, j_ari, j_arb, j_arr, j_len, j_nar, j_oi, j_ol, j_of, j_od, j_or, j_ov, true_and, and_true, ME_x2 q2, x2, j_st1, j_kl]
          refine ⟨vp_c (k := 2) (by omega) (by omega), vp_c (k := 2) (by omega) (by omega), vp_c (k := 2) (by omega) (by omega), ?_⟩
          have q3 : ME E h1 m (rsX M1 2 (nI np + 1)) (j_setI h2 (m + 1) (Int32.toNatClampNeg 2) (nI np + 1)) := ME_X q2 (k := 2) (by omega) _
          dsimp only [rArr] at H
          rw [x2] at H
          refine sp_X9_putPacket hl q3 (f := np) (by omega) (k := 0) (by omega) (fun h4 q4 => ?_)
          simp only [j_ref, j_ari, j_arb, j_arr, j_len, j_nar, j_oi, j_ol, j_of, j_od, j_or, j_ov, true_and, and_true]
          refine sp_X9_putPacket hl q4 (f := np) (by omega) (k := 1) (by omega) (fun h5 q5 => ?_)
          simp only [ME_sh q5, ME_r0 q5, ME_a0 q5, ME_r5 q5, ME_a5 q5, j_ref, j_ari, j_arb, j_arr, j_len, j_nar, j_oi, j_ol, j_of, j_od, j_or, j_ov, true_and, and_true, ME_x4 q5]
          refine ⟨vp_c (k := 4) (by omega) (by omega), ?_⟩
          refine sp_X9_putPacket hl q5 (f := np) (by omega) (k := 2) (by omega) (fun h6 q6 => ?_)
          simp only [j_ref, j_ari, j_arb, j_arr, j_len, j_nar, j_oi, j_ol, j_of, j_od, j_or, j_ov, true_and, and_true]
          refine sp_X9_putPacket hl q6 (f := np) (by omega) (k := 3) (by omega) (fun h7 q7 => ?_)
          simp only [j_ref, j_ari, j_arb, j_arr, j_len, j_nar, j_oi, j_ol, j_of, j_od, j_or, j_ov, true_and, and_true]
          refine sp_X9_putPacket hl q7 (f := np) (by omega) (k := 4) (by omega) (fun h8 q8 => ?_)
          simp only [j_ref, j_ari, j_arb, j_arr, j_len, j_nar, j_oi, j_ol, j_of, j_od, j_or, j_ov, true_and, and_true]
          refine sp_X9_putPacket hl q8 (f := np) (by omega) (k := 5) (by omega) (fun h9 q9 => ?_)
          simp only [j_ref, j_ari, j_arb, j_arr, j_len, j_nar, j_oi, j_ol, j_of, j_od, j_or, j_ov, true_and, and_true]
          refine sp_X9_putPacket hl q9 (f := np) (by omega) (k := 6) (by omega) (fun h10 q10 => ?_)
          simp only [j_ref, j_ari, j_arb, j_arr, j_len, j_nar, j_oi, j_ol, j_of, j_od, j_or, j_ov, true_and, and_true]
          refine sp_X9_putPacket hl q10 (f := np) (by omega) (k := 7) (by omega) (fun h11 q11 => ?_)
          simp only [j_ref, j_ari, j_arb, j_arr, j_len, j_nar, j_oi, j_ol, j_of, j_od, j_or, j_ov, true_and, and_true]
          refine sp_X9_putPacket hl q11 (f := np) (by omega) (k := 8) (by omega) (fun h12 q12 => ?_)
          simp only [j_ref, j_ari, j_arb, j_arr, j_len, j_nar, j_oi, j_ol, j_of, j_od, j_or, j_ov, true_and, and_true]
          refine sp_X9_putInto0 hl q12 (n := cq) (f := f) (by omega) (by omega) x7 (fun h13 q13 => ?_)
          simp only [j_ref, j_ari, j_arb, j_arr, j_len, j_nar, j_oi, j_ol, j_of, j_od, j_or, j_ov, true_and, and_true]
          exact H h13 (MC_q c1 q13)
  refine b_X9_arrive_0 hG ?_
  dsimp only [q_X9_arrive_0, j_wp, j_opB, j_opA, j_nth, j_i1, j_i2, j_l1, j_l2, j_li, j_f1, j_f2, j_d1, j_d2, j_r1, j_ai, j_aii, j_ail, j_aid, j_air, j_st1, j_st2, j_stu, j_kl, j_cond, j_args, j_out, j_few, j_cw, j_nat, j_pad, j_exp, Nat.reduceAdd]
  simp only [MB_sh s, j_ref, j_ari, j_arb, j_arr, j_len, j_nar, j_oi, j_ol, j_of, j_od, j_or, j_ov, true_and, and_true]
  refine sp_X9_isByte hl hB0 ?_
  simp only [j_ref, j_ari, j_arb, j_arr, j_len, j_nar, j_oi, j_ol, j_of, j_od, j_or, j_ov, true_and, and_true]
  by_cases g1 : inx a 256
  · simp only [y g1, if_true]
    rw [if_neg (by decide)]
    refine sp_X9_isByte hl hB0 ?_
    simp only [j_ref, j_ari, j_arb, j_arr, j_len, j_nar, j_oi, j_ol, j_of, j_od, j_or, j_ov, true_and, and_true]
    by_cases g2 : inx b 256
    · simp only [y g2, if_true]
      rw [if_neg (by decide)]
      refine sp_X9_isByte hl hB0 ?_
      simp only [j_ref, j_ari, j_arb, j_arr, j_len, j_nar, j_oi, j_ol, j_of, j_od, j_or, j_ov, true_and, and_true]
      by_cases g3 : inx c 256
      · simp only [y g3, if_true]
        rw [if_neg (by decide)]
        refine sp_X9_inRange hl hB0 ?_
        simp only [j_ref, j_ari, j_arb, j_arr, j_len, j_nar, j_oi, j_ol, j_of, j_od, j_or, j_ov, true_and, and_true]
        by_cases g4 : rIn sz 1 1500 = true
        · simp only [g4, if_true]
          rw [if_neg (by decide)]
          exact go ⟨g1, g2, g3⟩ g4
        · simp only [g4, Bool.false_eq_true, if_false, if_true]
          exact bad (fun z => g4 z.2)
      · simp only [n g3, Bool.false_eq_true, if_false, if_true]
        exact bad (fun z => g3 z.1.2.2)
    · simp only [n g2, Bool.false_eq_true, if_false, if_true]
      exact bad (fun z => g2 z.1.2.1)
  · simp only [n g1, Bool.false_eq_true, if_false, if_true]
    exact bad (fun z => g1 z.1.1)
/-- k ticks -/
def rTicks (nf : Nat) : Nat → Rf → Rf
  | 0, M => M
  | k + 1, M => rTicks nf k (rTick nf M)
theorem sp_X9_run (hl : l.stackTraces = false) (s : MB E m M h) (u : HU h m U uc) {nf np : Nat} {T : Nat → Rf → Prop} (hnp : np ≤ 100) (hT : ∀ k, k < 501 → T k M) (hx2 : ∀ n M, T n M → rX M 2 = nI np) (hok : ∀ n M, T (n + 1) M → rTickOk nf M ∧ T n (rTick nf M)) {v : Int32}
    (H1 : ¬ inx v 501 → Q (.inl (some (.int 0))) (j_setI h m 10 1))
    (H2 : ∀ k, k < 501 → v = nI k → 1000000 < rX M 4 + nI k → Q (.inl (some (.int (-5)))) (j_setI h m 10 0))
    (H0 : ∀ k, k < 501 → v = nI k → ¬ 1000000 < rX M 4 + nI k → ∀ h', MC E m h (rTicks nf k M) (rRem U uc M) (min (uc + 1) 10) h' → Q (.inl (some (.int (rDeliv (rTicks nf k M) np 0 0 - rDeliv M np 0 0)))) h') :
    j_Met l D bs E (d + 7) n_X9_run [.ref m, .int v] h Q := by
  have hB := s.2.2.2
  have s0 := MB_I s (k := 10) 0
  have q := MB_q s0
  have hB0 := s0.2.2.2
  refine j_meth hl rfl g_X9_run (Nat.le_of_ble_eq_true rfl) (fun _ => ⟨_, _, rfl, (MB_sh s)⟩) hB.1 hB.2 (fun G hG => ?_)
  refine b_X9_run_0 hG ?_
  dsimp only [q_X9_run_0, j_wp, j_opB, j_opA, j_nth, j_i1, j_i2, j_l1, j_l2, j_li, j_f1, j_f2, j_d1, j_d2, j_r1, j_ai, j_aii, j_ail, j_aid, j_air, j_st1, j_st2, j_stu, j_kl, j_cond, j_args, j_out, j_few, j_cw, j_nat, j_pad, j_exp, Nat.reduceAdd]
  simp only [MB_sh s, j_ref, j_ari, j_arb, j_arr, j_len, j_nar, j_oi, j_ol, j_of, j_od, j_or, j_ov, true_and, and_true]
  refine sp_X9_inRange hl hB0 ?_
  simp only [j_ref, j_ari, j_arb, j_arr, j_len, j_nar, j_oi, j_ol, j_of, j_od, j_or, j_ov, true_and, and_true]
  by_cases g1 : inx v 501
  · have e : rIn v 0 500 = true := rIn_y (n := 501) (by omega) g1
    simp only [e, if_true]
    rw [if_neg (by decide)]
    obtain ⟨k, hk, rfl⟩ := g1
    refine b_X9_run_22 hG ?_
    dsimp only [q_X9_run_22, j_wp, j_opB, j_opA, j_nth, j_i1, j_i2, j_l1, j_l2, j_li, j_f1, j_f2, j_d1, j_d2, j_r1, j_ai, j_aii, j_ail, j_aid, j_air, j_st1, j_st2, j_stu, j_kl, j_cond, j_args, j_out, j_few, j_cw, j_nat, j_pad, j_exp, Nat.reduceAdd]
    simp only [ME_sh q, ME_r0 q, ME_a0 q, ME_r5 q, ME_a5 q, j_ref, j_ari, j_arb, j_arr, j_len, j_nar, j_oi, j_ol, j_of, j_od, j_or, j_ov, true_and, and_true, ME_x4 q]
    refine ⟨vp_c (k := 4) (by omega) (by omega), ?_⟩
    by_cases g2 : 1000000 < rX M 4 + nI k
    · rw [if_pos g2]
      exact H2 k hk rfl g2
    · rw [if_neg g2]
      have H := H0 k hk rfl g2
      generalize hr : rTicks nf k M = res at H
      have loop : ∀ (j i : Nat) (M1 : Rf) (h1 : j_H), i + j = k → T j M1 → MC E m h M1 (rRem U uc M) (min (uc + 1) 10) h1 → rTicks nf j M1 = res → G 49 [.ref m, .int (nI k), .int (rDeliv M np 0 0), .int (nI i)] [] h1 := by
        intro j
        induction j with
        | zero =>
          intro i M1 h1 hi t1 c1 e1
          unfold rTicks at e1
          refine b_X9_run_49 hG ?_
          dsimp only [q_X9_run_49, j_wp, j_opB, j_opA, j_nth, j_i1, j_i2, j_l1, j_l2, j_li, j_f1, j_f2, j_d1, j_d2, j_r1, j_ai, j_aii, j_ail, j_aid, j_air, j_st1, j_st2, j_stu, j_kl, j_cond, j_args, j_out, j_few, j_cw, j_nat, j_pad, j_exp, Nat.reduceAdd]
          rw [if_neg (nI_nlt (by omega) (by omega))]
          refine b_X9_run_64 hG ?_
          dsimp only [q_X9_run_64, j_wp, j_opB, j_opA, j_nth, j_i1, j_i2, j_l1, j_l2, j_li, j_f1, j_f2, j_d1, j_d2, j_r1, j_ai, j_aii, j_ail, j_aid, j_air, j_st1, j_st2, j_stu, j_kl, j_cond, j_args, j_out, j_few, j_cw, j_nat, j_pad, j_exp, Nat.reduceAdd]
          refine sp_X9_deliveredCount hl (MB_q c1.1) hnp (hx2 _ M1 t1) ?_
          simp only [j_ref, j_ari, j_arb, j_arr, j_len, j_nar, j_oi, j_ol, j_of, j_od, j_or, j_ov, true_and, and_true]
          rw [← e1] at H
          exact H h1 c1
        | succ j ih =>
          intro i M1 h1 hi t1 c1 e1
          unfold rTicks at e1
          refine b_X9_run_49 hG ?_
          dsimp only [q_X9_run_49, j_wp, j_opB, j_opA, j_nth, j_i1, j_i2, j_l1, j_l2, j_li, j_f1, j_f2, j_d1, j_d2, j_r1, j_ai, j_aii, j_ail, j_aid, j_air, j_st1, j_st2, j_stu, j_kl, j_cond, j_args, j_out, j_few, j_cw, j_nat, j_pad, j_exp, Nat.reduceAdd]
          rw [if_pos (nI_lt (by omega) (by omega))]
          refine sp_X9_tick hl (MB_q c1.1) (hok j M1 t1).1 (fun h2 q2 => ?_)
          simp only [j_ref, j_ari, j_arb, j_arr, j_len, j_nar, j_oi, j_ol, j_of, j_od, j_or, j_ov, true_and, and_true]
          rw [nI_1]
          exact ih (i + 1) _ h2 (by omega) (hok j M1 t1).2 (MC_q c1 q2) e1
      refine b_X9_run_38 hG ?_
      dsimp only [q_X9_run_38, j_wp, j_opB, j_opA, j_nth, j_i1, j_i2, j_l1, j_l2, j_li, j_f1, j_f2, j_d1, j_d2, j_r1, j_ai, j_aii, j_ail, j_aid, j_air, j_st1, j_st2, j_stu, j_kl, j_cond, j_args, j_out, j_few, j_cw, j_nat, j_pad, j_exp, Nat.reduceAdd]
      refine rem0 hl s u (fun h1 s1 u1 t1 f1 => ?_)
      simp only [j_ref, j_ari, j_arb, j_arr, j_len, j_nar, j_oi, j_ol, j_of, j_od, j_or, j_ov, true_and, and_true]
      refine sp_X9_deliveredCount hl (MB_q s1) hnp (hx2 _ M (hT k hk)) ?_
      simp only [j_ref, j_ari, j_arb, j_arr, j_len, j_nar, j_oi, j_ol, j_of, j_od, j_or, j_ov, true_and, and_true, j_st1, j_kl]
      exact loop k 0 M h1 (by omega) (hT k hk) ⟨s1, u1, t1, f1⟩ hr
  · have e : rIn v 0 500 = false := rIn_n (n := 501) (by omega) g1
    simp only [e, Bool.false_eq_true, if_false, if_true]
    refine raise0 hl s ?_
    simp only [j_ref, j_ari, j_arb, j_arr, j_len, j_nar, j_oi, j_ol, j_of, j_od, j_or, j_ov, true_and, and_true]
    exact H1 g1
theorem sp_X9_setWeight (hl : l.stackTraces = false) (s : MB E m M h) (u : HU h m U uc) {n : Nat} (hn : n ≤ 6) (hx : rX M 0 = nI n) {v w : Int32}
    (H1 : ¬ inx v n → Q (.inl (some (.int 0))) (j_setI h m 10 1)) (H2 : inx v n → ¬ rIn w 1 16 = true → Q (.inl (some (.int 0))) (j_setI h m 10 2))
    (H0 : ∀ f, f < n → v = nI f → rIn w 1 16 = true → ∀ h', MC E m h (rsF M f 0 (rF M f 0 + (w - rF M f 0))) (rRem U uc M) (min (uc + 1) 10) h' → Q (.inl (some (.int (rF M f 0)))) h') :
    j_Met l D bs E (d + 3) n_X9_setWeight [.ref m, .int v, .int w] h Q := by
  have hB := s.2.2.2
  have s0 := MB_I s (k := 10) 0
  have q := MB_q s0
  have hB0 := s0.2.2.2
  refine j_meth hl rfl g_X9_setWeight (Nat.le_of_ble_eq_true rfl) (fun _ => ⟨_, _, rfl, (MB_sh s)⟩) hB.1 hB.2 (fun G hG => ?_)
  refine b_X9_setWeight_0 hG ?_
  dsimp only [q_X9_setWeight_0, j_wp, j_opB, j_opA, j_nth, j_i1, j_i2, j_l1, j_l2, j_li, j_f1, j_f2, j_d1, j_d2, j_r1, j_ai, j_aii, j_ail, j_aid, j_air, j_st1, j_st2, j_stu, j_kl, j_cond, j_args, j_out, j_few, j_cw, j_nat, j_pad, j_exp, Nat.reduceAdd]
  simp only [MB_sh s, j_ref, j_ari, j_arb, j_arr, j_len, j_nar, j_oi, j_ol, j_of, j_od, j_or, j_ov, true_and, and_true]
  refine sp_X9_isFlow hl q ?_
  simp only [j_ref, j_ari, j_arb, j_arr, j_len, j_nar, j_oi, j_ol, j_of, j_od, j_or, j_ov, true_and, and_true, hx]
  by_cases g1 : inx v n
  · simp only [rIn_y (by omega) g1, if_true]
    rw [if_neg (by decide)]
    refine b_X9_setWeight_19 hG ?_
    dsimp only [q_X9_setWeight_19, j_wp, j_opB, j_opA, j_nth, j_i1, j_i2, j_l1, j_l2, j_li, j_f1, j_f2, j_d1, j_d2, j_r1, j_ai, j_aii, j_ail, j_aid, j_air, j_st1, j_st2, j_stu, j_kl, j_cond, j_args, j_out, j_few, j_cw, j_nat, j_pad, j_exp, Nat.reduceAdd]
    refine sp_X9_inRange hl hB0 ?_
    simp only [j_ref, j_ari, j_arb, j_arr, j_len, j_nar, j_oi, j_ol, j_of, j_od, j_or, j_ov, true_and, and_true]
    by_cases g2 : rIn w 1 16 = true
    · simp only [g2, if_true]
      rw [if_neg (by decide)]
      obtain ⟨f, hf, rfl⟩ := g1
      refine b_X9_setWeight_35 hG ?_
      dsimp only [q_X9_setWeight_35, j_wp, j_opB, j_opA, j_nth, j_i1, j_i2, j_l1, j_l2, j_li, j_f1, j_f2, j_d1, j_d2, j_r1, j_ai, j_aii, j_ail, j_aid, j_air, j_st1, j_st2, j_stu, j_kl, j_cond, j_args, j_out, j_few, j_cw, j_nat, j_pad, j_exp, Nat.reduceAdd]
      refine rem0 hl s u (fun h1 s1 u1 t1 f1 => ?_)
      simp only [j_ref, j_ari, j_arb, j_arr, j_len, j_nar, j_oi, j_ol, j_of, j_od, j_or, j_ov, true_and, and_true]
      have q1 := MB_q s1
      refine sp_X9_ofFlow hl q1 (f := f) (by omega) (k := 0) (by omega) ?_
      simp only [j_ref, j_ari, j_arb, j_arr, j_len, j_nar, j_oi, j_ol, j_of, j_od, j_or, j_ov, true_and, and_true, j_st1, j_kl]
      refine sp_X9_addToFlow hl q1 (f := f) (by omega) (k := 0) (by omega) (fun h2 q2 => ?_)
      simp only [j_ref, j_ari, j_arb, j_arr, j_len, j_nar, j_oi, j_ol, j_of, j_od, j_or, j_ov, true_and, and_true]
      exact H0 f hf rfl g2 h2 (MC_q ⟨s1, u1, t1, f1⟩ q2)
    · simp only [g2, Bool.false_eq_true, if_false, if_true]
      refine raise0 hl s ?_
      simp only [j_ref, j_ari, j_arb, j_arr, j_len, j_nar, j_oi, j_ol, j_of, j_od, j_or, j_ov, true_and, and_true]
      exact H2 g1 g2
  · simp only [rIn_n (by omega) g1, Bool.false_eq_true, if_false, if_true]
    refine raise0 hl s ?_
    simp only [j_ref, j_ari, j_arb, j_arr, j_len, j_nar, j_oi, j_ol, j_of, j_od, j_or, j_ov, true_and, and_true]
    exact H1 g1
theorem sp_X9_undoCount (hl : l.stackTraces = false) (s : MB E m M h) (u : HU h m U uc) (H : Q (.inl (some (.int (nI uc)))) (j_setI h m 10 0)) : j_Met l D bs E (d + 1) n_X9_undoCount [.ref m] h Q := by
  have hB := s.2.2.2
  have s0 := MB_I s (k := 10) 0
  refine j_meth hl rfl g_X9_undoCount (Nat.le_of_ble_eq_true rfl) (fun _ => ⟨_, _, rfl, (MB_sh s)⟩) hB.1 hB.2 (fun G hG => ?_)
  refine b_X9_undoCount_0 hG ?_
  dsimp only [q_X9_undoCount_0, j_wp, j_opB, j_opA, j_nth, j_i1, j_i2, j_l1, j_l2, j_li, j_f1, j_f2, j_d1, j_d2, j_r1, j_ai, j_aii, j_ail, j_aid, j_air, j_st1, j_st2, j_stu, j_kl, j_cond, j_args, j_out, j_few, j_cw, j_nat, j_pad, j_exp, Nat.reduceAdd]
  simp only [MB_sh s, MB_sh s0, (HU_I u (k := 10) (v := 0) (by omega)).1, j_ref, j_ari, j_arb, j_arr, j_len, j_nar, j_oi, j_ol, j_of, j_od, j_or, j_ov, true_and, and_true]
  exact H
theorem HU_less {uc' : Nat} (u : HU h m U uc) (hu : uc' ≤ uc) : HU (j_setI h m 9 (nI uc')) m U uc' := by
  obtain ⟨u1, u2, u3⟩ := u
  exact ⟨jh_Is _ _ _ _, by omega, fun i hi => RW_eq (u3 i (by omega)) (fun k _ => by rw [jh_In (by omega)]) (fun k _ => rfl)⟩
set_option maxRecDepth 8000 in
theorem sp_X9_undo (hl : l.stackTraces = false) (s : MB E m M h) (u : HU h m U uc) (H1 : uc = 0 → Q (.inl (some (.int (-1)))) (j_setI h m 10 0)) (H0 : ∀ n, uc = n + 1 → ∀ h', MC E m h (U n) U n h' → Q (.inl (some (.int (nI n)))) h') : j_Met l D bs E (d + 2) n_X9_undo [.ref m] h Q := by
  have hB := s.2.2.2
  have s0 := MB_I s (k := 10) 0
  have u0 := HU_I u (k := 10) (v := 0) (by omega)
  have hu := u.2.1
  refine j_meth hl rfl g_X9_undo (Nat.le_of_ble_eq_true rfl) (fun _ => ⟨_, _, rfl, (MB_sh s)⟩) hB.1 hB.2 (fun G hG => ?_)
  refine b_X9_undo_0 hG ?_
  dsimp only [q_X9_undo_0, j_wp, j_opB, j_opA, j_nth, j_i1, j_i2, j_l1, j_l2, j_li, j_f1, j_f2, j_d1, j_d2, j_r1, j_ai, j_aii, j_ail, j_aid, j_air, j_st1, j_st2, j_stu, j_kl, j_cond, j_args, j_out, j_few, j_cw, j_nat, j_pad, j_exp, Nat.reduceAdd]
  simp only [MB_sh s, MB_sh s0, u0.1, j_ref, j_ari, j_arb, j_arr, j_len, j_nar, j_oi, j_ol, j_of, j_od, j_or, j_ov, true_and, and_true]
  by_cases g : uc = 0
  · rw [if_pos (show nI uc = 0 by rw [g]; rfl)]
    exact H1 g
  · rw [if_neg (show ¬ nI uc = 0 from fun z => g ((nI_eq (by omega) (by omega)).mp (show nI uc = nI 0 from z)))]
    obtain ⟨n, rfl⟩ : ∃ n, uc = n + 1 := ⟨uc - 1, by omega⟩
    have H := H0 n rfl
    have u1 := HU_less u0 (uc' := n) (by omega)
    have w1 : RW (j_setI (j_setI h m 10 0) m 9 (nI n)) m n (U n) := RW_eq (u0.2.2 n (by omega)) (fun k _ => by rw [jh_In (by omega)]) (fun k _ => rfl)
    have s1 : MB E m M (j_setI (j_setI h m 10 0) m 9 (nI n)) := MB_I s0 (nI n)
    have f1 : FM (cA m) m cF h (j_setI (j_setI h m 10 0) m 9 (nI n)) := FM_I (FM_I FM_rf (Or.inr rfl)) (Or.inl rfl)
    have t1 : j_I (j_setI (j_setI h m 10 0) m 9 (nI n)) m 10 = 0 := by rw [jh_In (by omega)]; exact jh_Is _ _ _ _
    refine b_X9_undo_14 hG ?_
    dsimp only [q_X9_undo_14, j_wp, j_opB, j_opA, j_nth, j_i1, j_i2, j_l1, j_l2, j_li, j_f1, j_f2, j_d1, j_d2, j_r1, j_ai, j_aii, j_ail, j_aid, j_air, j_st1, j_st2, j_stu, j_kl, j_cond, j_args, j_out, j_few, j_cw, j_nat, j_pad, j_exp, Nat.reduceAdd]
    simp only [MB_sh s, MB_sh s0, u0.1, nI_pred, j_ref, j_ari, j_arb, j_arr, j_len, j_nar, j_oi, j_ol, j_of, j_od, j_or, j_ov, true_and, and_true]
    generalize j_setI (j_setI h m 10 0) m 9 (nI n) = h1 at *
    have m1 := s1.1
    simp only [mk_sh m1, mk_r4 m1, mk_r0 m1, u1.1, j_ref, j_ari, j_arb, j_arr, j_len, j_nar, j_oi, j_ol, j_of, j_od, j_or, j_ov, true_and, and_true]
    refine sp_X9_copy hl s1.2.2.2 (tr := 0) (mk_a4 m1) (mk_a0 m1) (by omega) (by omega) (by omega) (by omega) (Or.inl (by omega)) (fun h2 f2 c2 o2 => ?_)
    have m2 := mk_FA m1 f2
    have e2 : j_I h2 m 9 = nI n := by rw [f2.2.2.2.2.2.2.1 _ _ (by omega)]; exact u1.1
    simp only [mk_sh m2, mk_r8 m2, mk_r5 m2, e2, j_ref, j_ari, j_arb, j_arr, j_len, j_nar, j_oi, j_ol, j_of, j_od, j_or, j_ov, true_and, and_true]
    refine sp_X9_copyTimes hl (FA_bd f2 s1.2.2.2) (tr := 0) (mk_a8 m2) (mk_a5 m2) (by omega) (by omega) (by omega) (by omega) (Or.inl (by omega)) (fun h3 f3 c3 o3 => ?_)
    have m3 := mk_FA m2 f3
    have e3 : j_I h3 m 9 = nI n := by rw [f3.2.2.2.2.2.2.1 _ _ (by omega)]; exact e2
    simp only [mk_sh m3, e3, j_ref, j_ari, j_arb, j_arr, j_len, j_nar, j_oi, j_ol, j_of, j_od, j_or, j_ov, true_and, and_true]
    have F3 : FM (fun c => c = m + 1 ∨ c = m + 6) m (fun _ => False) h1 h3 := FM_tr (FM_FA (FA_mono f2 (fun b e => Or.inl e))) (FM_FA (FA_mono f3 (fun b e => Or.inr e)))
    refine H h3 ⟨⟨m3, RG_cp w1.1 (fun k hk => ?_), RGV_cp w1.2 (fun k hk => ?_), FA_bd f3 (FA_bd f2 s1.2.2.2)⟩, HU_FM u1 F3 (by omega) id (by omega) (by omega), ?_, ?_⟩
    · rw [f3.2.2.2.2.2.2.1 _ _ (by omega), ← c2 k hk, show 4073 * 0 + k = k by omega]
    · have := c3 k hk
      rw [show 306 * 0 + k = k by omega, f2.2.2.2.2.2.2.2 _ _ (by omega)] at this
      exact this
    · rw [F3.2.2.2.2.2.2.1 _ _ (by omega) (fun z => z.2)]
      exact t1
    · exact FM_tr f1 (FM_mono F3 (fun b e => e.elim Or.inl (fun z => Or.inr (Or.inl z))) (fun k e => e.elim))
/-- the snapshot of the reference -/
def HS (h : j_H) (m : Nat) (S : Option Rf) : Prop := j_I h m 11 = (if S.isSome = true then 1 else 0) ∧ ∀ K, S = some K → RG (j_I h (m + 4)) K ∧ RGV (j_L h (m + 8)) K
theorem HS_FM {A F : Nat → Prop} {h' : j_H} {S : Option Rf} (u : HS h m S) (hF : FM A m F h h') (h0 : ¬ A m) (h3 : ¬ F 11) (h1 : ¬ A (m + 4)) (h2 : ¬ A (m + 8)) : HS h' m S := by
  refine ⟨by rw [hF.2.2.2.2.2.2.1 _ _ h0 (fun z => h3 z.2)]; exact u.1, fun K e => ?_⟩
  obtain ⟨a, b⟩ := u.2 K e
  exact ⟨RG_cp a (fun k _ => hF.2.2.2.2.2.2.1 _ _ h1 (fun z => absurd z.1 (by omega))), RGV_cp b (fun k _ => hF.2.2.2.2.2.2.2 _ _ h2)⟩
def sA (m : Nat) : Nat → Prop := fun b => b = m + 4 ∨ b = m + 8
set_option maxRecDepth 8000 in
theorem sp_X9_saveSnapshot (hl : l.stackTraces = false) (s : MB E m M h) (H : ∀ h', MB E m M h' → HS h' m (some M) → j_I h' m 10 = 0 → FM (sA m) m (fun k => k = 10 ∨ k = 11) h h' → Q (.inl none) h') : j_Met l D bs E (d + 2) n_X9_saveSnapshot [.ref m] h Q := by
  have hB := s.2.2.2
  have s1 := MB_I s (k := 10) 0
  have f1 : FM (sA m) m (fun k => k = 10 ∨ k = 11) h (j_setI h m 10 0) := FM_I FM_rf (Or.inl rfl)
  have t1 : j_I (j_setI h m 10 0) m 10 = 0 := jh_Is _ _ _ _
  refine j_meth hl rfl g_X9_saveSnapshot (Nat.le_of_ble_eq_true rfl) (fun _ => ⟨_, _, rfl, (MB_sh s)⟩) hB.1 hB.2 (fun G hG => ?_)
  refine b_X9_saveSnapshot_0 hG ?_
  dsimp only [q_X9_saveSnapshot_0, j_wp, j_opB, j_opA, j_nth, j_i1, j_i2, j_l1, j_l2, j_li, j_f1, j_f2, j_d1, j_d2, j_r1, j_ai, j_aii, j_ail, j_aid, j_air, j_st1, j_st2, j_stu, j_kl, j_cond, j_args, j_out, j_few, j_cw, j_nat, j_pad, j_exp, Nat.reduceAdd]
  simp only [MB_sh s, j_ref, j_ari, j_arb, j_arr, j_len, j_nar, j_oi, j_ol, j_of, j_od, j_or, j_ov, true_and, and_true]
  generalize j_setI h m 10 0 = h1 at *
  have m1 := s1.1
  simp only [mk_sh m1, mk_r3 m1, mk_r0 m1, j_ref, j_ari, j_arb, j_arr, j_len, j_nar, j_oi, j_ol, j_of, j_od, j_or, j_ov, true_and, and_true]
  refine sp_X9_copy hl s1.2.2.2 (fr := 0) (tr := 0) (mk_a0 m1) (mk_a3 m1) (by omega) (by omega) (by omega) (by omega) (Or.inl (by omega)) (fun h2 f2 c2 o2 => ?_)
  have m2 := mk_FA m1 f2
  simp only [mk_sh m2, mk_r7 m2, mk_r5 m2, j_ref, j_ari, j_arb, j_arr, j_len, j_nar, j_oi, j_ol, j_of, j_od, j_or, j_ov, true_and, and_true]
  refine sp_X9_copyTimes hl (FA_bd f2 s1.2.2.2) (fr := 0) (tr := 0) (mk_a5 m2) (mk_a7 m2) (by omega) (by omega) (by omega) (by omega) (Or.inl (by omega)) (fun h3 f3 c3 o3 => ?_)
  have m3 := mk_FA m2 f3
  simp only [mk_sh m3, j_ref, j_ari, j_arb, j_arr, j_len, j_nar, j_oi, j_ol, j_of, j_od, j_or, j_ov, true_and, and_true]
  refine ⟨(by first | exact Or.inl rfl | exact Or.inr rfl | decide), ?_⟩
  have F3 : FM (sA m) m (fun k => k = 10 ∨ k = 11) h1 h3 := FM_tr (FM_FA (FA_mono f2 (fun b e => Or.inl e))) (FM_FA (FA_mono f3 (fun b e => Or.inr e)))
  have n1 : ¬ sA m (m + 1) := fun z => by unfold sA at z; omega
  have n6 : ¬ sA m (m + 6) := fun z => by unfold sA at z; omega
  refine H (j_setI h3 m 11 1) (MB_I ⟨m3, RG_cp s1.2.1 (fun k _ => F3.2.2.2.2.2.2.1 _ _ n1 (fun z => absurd z.1 (by omega))), RGV_cp s1.2.2.1 (fun k _ => F3.2.2.2.2.2.2.2 _ _ n6), FA_bd f3 (FA_bd f2 s1.2.2.2)⟩ 1) ⟨jh_Is _ _ _ _, fun K e => ?_⟩ ?_ (FM_I (FM_tr f1 F3) (Or.inr rfl))
  · cases e
    refine ⟨RG_cp s1.2.1 (fun k hk => ?_), RGV_cp s1.2.2.1 (fun k hk => ?_)⟩
    · have := c2 k hk
      rw [show 4073 * 0 + k = k by omega] at this
      rw [jh_In (by omega), f3.2.2.2.2.2.2.1 _ _ (by omega)]
      exact this
    · have := c3 k hk
      rw [show 306 * 0 + k = k by omega, f2.2.2.2.2.2.2.2 _ _ (by omega)] at this
      exact this
  · rw [jh_In (by omega), f3.2.2.2.2.2.2.1 _ _ (by omega), f2.2.2.2.2.2.2.1 _ _ (by omega)]
    exact t1
set_option maxRecDepth 8000 in
theorem sp_X9_restoreSnapshot (hl : l.stackTraces = false) (s : MB E m M h) {S : Option Rf} (z : HS h m S) (H1 : S = none → Q (.inl (some (.int 0))) (j_setI h m 10 0)) (H0 : ∀ K, S = some K → ∀ h', MC E m h K U 0 h' → Q (.inl (some (.int 1))) h') : j_Met l D bs E (d + 2) n_X9_restoreSnapshot [.ref m] h Q := by
  have hB := s.2.2.2
  have s1 := MB_I s (k := 10) 0
  have f1 : FM (cA m) m cF h (j_setI h m 10 0) := FM_I FM_rf (Or.inr rfl)
  have t1 : j_I (j_setI h m 10 0) m 10 = 0 := jh_Is _ _ _ _
  have z1 : HS (j_setI h m 10 0) m S := HS_FM z (FM_I (A := fun _ => False) (F := fun k => k = 10) FM_rf rfl) id (by omega) id id
  refine j_meth hl rfl g_X9_restoreSnapshot (Nat.le_of_ble_eq_true rfl) (fun _ => ⟨_, _, rfl, (MB_sh s)⟩) hB.1 hB.2 (fun G hG => ?_)
  refine b_X9_restoreSnapshot_0 hG ?_
  dsimp only [q_X9_restoreSnapshot_0, j_wp, j_opB, j_opA, j_nth, j_i1, j_i2, j_l1, j_l2, j_li, j_f1, j_f2, j_d1, j_d2, j_r1, j_ai, j_aii, j_ail, j_aid, j_air, j_st1, j_st2, j_stu, j_kl, j_cond, j_args, j_out, j_few, j_cw, j_nat, j_pad, j_exp, Nat.reduceAdd]
  simp only [MB_sh s, MB_sh s1, z1.1, j_ref, j_ari, j_arb, j_arr, j_len, j_nar, j_oi, j_ol, j_of, j_od, j_or, j_ov, true_and, and_true]
  cases hS : S with
  | none =>
    subst hS
    rw [if_pos (by decide)]
    exact ⟨(by first | exact Or.inl rfl | exact Or.inr rfl | decide), H1 rfl⟩
  | some K =>
    subst hS
    rw [if_neg (show ¬ (if (some K).isSome = true then (1 : Int32) else 0) = 0 from fun z => absurd (show (1 : Int32) = 0 from z) (by decide))]
    refine b_X9_restoreSnapshot_14 hG ?_
    dsimp only [q_X9_restoreSnapshot_14, j_wp, j_opB, j_opA, j_nth, j_i1, j_i2, j_l1, j_l2, j_li, j_f1, j_f2, j_d1, j_d2, j_r1, j_ai, j_aii, j_ail, j_aid, j_air, j_st1, j_st2, j_stu, j_kl, j_cond, j_args, j_out, j_few, j_cw, j_nat, j_pad, j_exp, Nat.reduceAdd]
    generalize j_setI h m 10 0 = h1 at *
    have m1 := s1.1
    obtain ⟨k1, k2⟩ := z1.2 K rfl
    simp only [mk_sh m1, mk_r3 m1, mk_r0 m1, j_ref, j_ari, j_arb, j_arr, j_len, j_nar, j_oi, j_ol, j_of, j_od, j_or, j_ov, true_and, and_true]
    refine sp_X9_copy hl s1.2.2.2 (fr := 0) (tr := 0) (mk_a3 m1) (mk_a0 m1) (by omega) (by omega) (by omega) (by omega) (Or.inl (by omega)) (fun h2 f2 c2 o2 => ?_)
    have m2 := mk_FA m1 f2
    simp only [mk_sh m2, mk_r7 m2, mk_r5 m2, j_ref, j_ari, j_arb, j_arr, j_len, j_nar, j_oi, j_ol, j_of, j_od, j_or, j_ov, true_and, and_true]
    refine sp_X9_copyTimes hl (FA_bd f2 s1.2.2.2) (fr := 0) (tr := 0) (mk_a7 m2) (mk_a5 m2) (by omega) (by omega) (by omega) (by omega) (Or.inl (by omega)) (fun h3 f3 c3 o3 => ?_)
    have m3 := mk_FA m2 f3
    simp only [mk_sh m3, j_ref, j_ari, j_arb, j_arr, j_len, j_nar, j_oi, j_ol, j_of, j_od, j_or, j_ov, true_and, and_true]
    refine ⟨(by first | exact Or.inl rfl | exact Or.inr rfl | decide), ?_⟩
    have F3 : FM (cA m) m cF h1 h3 := FM_tr (FM_FA (FA_mono f2 (fun b e => Or.inl e))) (FM_FA (FA_mono f3 (fun b e => Or.inr (Or.inl e))))
    refine H0 K rfl (j_setI h3 m 9 0) ⟨MB_I ⟨m3, RG_cp k1 (fun k hk => ?_), RGV_cp k2 (fun k hk => ?_), FA_bd f3 (FA_bd f2 s1.2.2.2)⟩ 0, ⟨jh_Is _ _ _ _, by omega, fun i hi => absurd hi (by omega)⟩, ?_, FM_I (FM_tr f1 F3) (Or.inl rfl)⟩
    · have := c2 k hk
      rw [show 4073 * 0 + k = k by omega] at this
      rw [f3.2.2.2.2.2.2.1 _ _ (by omega)]
      exact this
    · have := c3 k hk
      rw [show 306 * 0 + k = k by omega, f2.2.2.2.2.2.2.2 _ _ (by omega)] at this
      exact this
    · rw [jh_In (by omega), f3.2.2.2.2.2.2.1 _ _ (by omega), f2.2.2.2.2.2.2.1 _ _ (by omega)]
      exact t1
end RefF
