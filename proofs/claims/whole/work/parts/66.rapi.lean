/-! ===== the reference: load, feed, errorPosition ===== -/
section RLo
variable {l : Launch} {D : va_G} {bs : Nat} {E : j_E} {h0 h : j_H} {m : Nat} {d : Nat} {Q : j_O → j_H → Prop} {B : Nat → Int32} {sz len : Nat} {p : Tk} {M Md : Rf} {S : Sup} {n q : Nat} {U : Nat → Rf} {uc : Nat}
/-- the reference's text between the calls: the buffer, how much is fed, the place of the last error -/
def HT (h : j_H) (m : Nat) (B : Nat → Int32) (sz : Nat) (ep : Int32) : Prop := (∀ i, i < 800 → bRel (B i) (j_I h (m + 11) i)) ∧ (j_I h m 15 = nI sz ∧ sz ≤ 800) ∧ j_I h m 22 = ep
theorem HT_FM {A F : Nat → Prop} {h' : j_H} {ep : Int32} (t : HT h m B sz ep) (f : FM A m F h h') (h1 : ¬ A m) (h2 : ¬ A (m + 11)) (h3 : ¬ F 15) (h4 : ¬ F 22) : HT h' m B sz ep := by
  obtain ⟨r2, ⟨r3, r4⟩, r5⟩ := t
  exact ⟨fun i hi => by rw [f.2.2.2.2.2.2.1 _ _ h2 (fun z => absurd z.1 (by omega))]; exact r2 i hi, ⟨by rw [f.2.2.2.2.2.2.1 _ _ h1 (fun z => h3 z.2)]; exact r3, r4⟩, by rw [f.2.2.2.2.2.2.1 _ _ h1 (fun z => h4 z.2)]; exact r5⟩
theorem sp_X9_errorPosition (hl : l.stackTraces = false) (s : MB E m M h) {ep : Int32} (t : HT h m B sz ep) (H : Q (.inl (some (.int ep))) (j_setI h m 10 0)) : j_Met l D bs E (d + 1) n_X9_errorPosition [.ref m] h Q := by
  have hB := s.2.2.2
  have s0 := MB_I s (k := 10) 0
  have e : j_I (j_setI h m 10 0) m 22 = ep := by rw [jh_In (by omega)]; exact t.2.2
  refine j_meth hl rfl g_X9_errorPosition (Nat.le_of_ble_eq_true rfl) (fun _ => ⟨_, _, rfl, (MB_sh s)⟩) hB.1 hB.2 (fun G hG => ?_)
  refine b_X9_errorPosition_0 hG ?_
  dsimp only [q_X9_errorPosition_0, j_wp, j_opB, j_opA, j_nth, j_i1, j_i2, j_l1, j_l2, j_li, j_f1, j_f2, j_d1, j_d2, j_r1, j_ai, j_aii, j_ail, j_aid, j_air, j_st1, j_st2, j_stu, j_kl, j_cond, j_args, j_out, j_few, j_cw, j_nat, j_pad, j_exp, Nat.reduceAdd]
  simp only [MB_sh s, MB_sh s0, e, j_ref, j_ari, j_arb, j_arr, j_len, j_nar, j_oi, j_ol, j_of, j_od, j_or, j_ov, true_and, and_true]
  exact H
/-- the text is opened: the first token -/
theorem sp_X9_startText (hl : l.stackTraces = false) (hm : mk h m) (hB : j_bd E h) (hk : KS E bs h) (hbm : bs ≤ m) {ep : Int32} (t : HT h m B sz ep) (g : RG (j_I h (m + 2)) Md) {n : Nat} (hn : n ≤ 800) (H : ∀ h', PR E bs (j_setI h m 23 0) m B sz n (tOpen B n 0) Md h' → Q (.inl none) h') : j_Met l D bs E (d + 4) n_X9_startText [.ref m, .int (nI n)] h Q := by
  have f0 : FM nA m pF2 (j_setI h m 23 0) (j_setI (j_setI (j_setI (j_setI h m 16 (nI n)) m 17 0) m 20 0) m 23 0) := by
    refine ⟨rfl, rfl, rfl, rfl, rfl, rfl, fun b k z y => ?_, fun b k z => rfl⟩
    by_cases e : b = m ∧ k = 23
    · obtain ⟨rfl, rfl⟩ := e
      rw [jh_Is, jh_Is]
    · rw [jh_In e, jh_In (fun w => y ⟨w.1, by unfold pF2; omega⟩), jh_In (fun w => y ⟨w.1, by unfold pF2; omega⟩), jh_In (fun w => y ⟨w.1, by unfold pF2; omega⟩), jh_In e]
  have f00 : FM nA m (fun k => k = 23) h (j_setI h m 23 0) := FM_I FM_rf rfl
  have hB0 := FM_bd f00 hB
  have r : RB (j_setI (j_setI (j_setI (j_setI h m 16 (nI n)) m 17 0) m 20 0) m 23 0) m B sz n := by
    refine ⟨hm, fun i hi => ?_, ⟨?_, t.2.1.2⟩, ?_, hn⟩
    · rw [jh_In (by omega), jh_In (by omega), jh_In (by omega), jh_In (by omega)]; exact t.1 i hi
    · rw [jh_In (by omega), jh_In (by omega), jh_In (by omega), jh_In (by omega)]; exact t.2.1.1
    · rw [jh_In (by omega), jh_In (by omega), jh_In (by omega)]; exact jh_Is _ _ _ _
  have e17 : j_I (j_setI (j_setI (j_setI (j_setI h m 16 (nI n)) m 17 0) m 20 0) m 23 0) m 17 = nI 0 := by rw [jh_In (by omega), jh_In (by omega)]; exact jh_Is _ _ _ _
  have e20 : j_I (j_setI (j_setI (j_setI (j_setI h m 16 (nI n)) m 17 0) m 20 0) m 23 0) m 20 = 0 := by rw [jh_In (by omega)]; exact jh_Is _ _ _ _
  have g0 : RG (j_I (j_setI h m 23 0) (m + 2)) Md := RG_cp g (fun k _ => by rw [jh_In (by omega)])
  have k0 : KS E bs (j_setI h m 23 0) := KS_FM hk f00 hbm (fun b z => z.elim)
  refine j_meth hl rfl g_X9_startText (Nat.le_of_ble_eq_true rfl) (fun _ => ⟨_, _, rfl, (mk_sh hm)⟩) hB.1 hB.2 (fun G hG => ?_)
  refine b_X9_startText_0 hG ?_
  dsimp only [q_X9_startText_0, j_wp, j_opB, j_opA, j_nth, j_i1, j_i2, j_l1, j_l2, j_li, j_f1, j_f2, j_d1, j_d2, j_r1, j_ai, j_aii, j_ail, j_aid, j_air, j_st1, j_st2, j_stu, j_kl, j_cond, j_args, j_out, j_few, j_cw, j_nat, j_pad, j_exp, Nat.reduceAdd]
  have sh1 : j_sh (j_setI h m 16 (nI n)) m = some (.inr 11) := by have z9 := mk_sh hm; exact z9
  have sh2 : j_sh (j_setI (j_setI h m 16 (nI n)) m 17 0) m = some (.inr 11) := by have z9 := mk_sh hm; exact z9
  have sh3 : j_sh (j_setI (j_setI (j_setI h m 16 (nI n)) m 17 0) m 20 0) m = some (.inr 11) := by have z9 := mk_sh hm; exact z9
  simp only [mk_sh hm, sh1, sh2, sh3, j_ref, j_ari, j_arb, j_arr, j_len, j_nar, j_oi, j_ol, j_of, j_od, j_or, j_ov, true_and, and_true]
  generalize j_setI (j_setI (j_setI (j_setI h m 16 (nI n)) m 17 0) m 20 0) m 23 0 = h1 at *
  refine sp_X9_scan0 hl r (FM_bd f0 hB0) (e := 0) (by omega) e17 (fun h2 f2 x1 x2 x3 => ?_)
  simp only [j_ref, j_ari, j_arb, j_arr, j_len, j_nar, j_oi, j_ol, j_of, j_od, j_or, j_ov, true_and, and_true]
  have f3 : FM nA m pF2 (j_setI h m 23 0) h2 := FM_tr f0 (FM_mono f2 (fun b z => z) (fun k z => by unfold sF3 at z; unfold pF2; omega))
  have f4 : FM (pA2 m) m pF2 (j_setI h m 23 0) h2 := FM_mono f3 (fun b z => z.elim) (fun k z => z)
  have hk4 := (tok_le (B := B) (len := n) (i := 0) (by omega)).1
  have en : tOpen B n 0 = ((tok B n 0).1, (tok B n 0).2.1, (tok B n 0).2.2, 0, -1) := by
    unfold tOpen tNext
    rw [if_neg (show ¬ tkK (1, 0, 0, 0, -1) = 5 from fun z => absurd (show (1 : Nat) = 5 from z) (by decide))]
    rfl
  refine H h2 ⟨RB_F3 r f2, ⟨?_, ?_, tOpen_ok, ?_, fun _ => ?_, fun z => ?_⟩, RG_cp g0 (fun k _ => f3.2.2.2.2.2.2.1 _ _ id (fun z => absurd z.1 (by omega))), f4, FM_bd f4 hB0, KS_FM k0 f4 hbm (fun b z => by unfold pA2 at z; omega), hbm⟩
  · rw [en]; exact x1
  · rw [en]; exact x2
  · have e2 : tOpen B n 0 = tNext B n (2, 0, 0, 0, -1) := by
      rw [en]
      unfold tNext
      rw [if_neg (show ¬ tkK (2, 0, 0, 0, -1) = 5 from fun z => absurd (show (2 : Nat) = 5 from z) (by decide))]
      rfl
    rw [e2]
    exact tNext_d (p := (2, 0, 0, 0, -1)) ⟨by show (2 : Nat) ≤ 5; omega, Nat.le_refl _, Nat.zero_le _, fun z => absurd (show (2 : Nat) = 4 from z) (by decide), fun z => absurd (show (2 : Nat) = 0 from z) (by decide)⟩ ⟨fun z => absurd (show (2 : Nat) = 1 from z) (by decide), fun z => absurd (show (2 : Nat) = 3 from z) (by decide)⟩
  · rw [en]
    exact ⟨x3, by rw [f2.2.2.2.2.2.2.1 _ _ id (fun z => by have := z.2; unfold sF3 at this; omega)]; exact e20, rfl, rfl⟩
  · rw [en] at z
    have z1 : (tok B n 0).1 = 5 := z
    omega
/-- the reading ends -/
theorem sp_X9_finish (hl : l.stackTraces = false) (s : PR E bs h0 m B sz len p Md h) (H : Q (.inl (some (.int (tkC p)))) (j_setI (j_setI h m 15 0) m 22 (tkA p))) : j_Met l D bs E (d + 1) n_X9_finish [.ref m] h Q := by
  have hB := PR_B s
  obtain ⟨t1, t2, t3, t4, t5, t6⟩ := PR_t s
  have sh1 : j_sh (j_setI h m 15 0) m = some (.inr 11) := by have z9 := PR_sh s; exact z9
  have e20 : j_I (j_setI h m 15 0) m 20 = j_I h m 20 := jh_In (by omega)
  refine j_meth hl rfl g_X9_finish (Nat.le_of_ble_eq_true rfl) (fun _ => ⟨_, _, rfl, (PR_sh s)⟩) hB.1 hB.2 (fun G hG => ?_)
  have fin : G 21 [.ref m] [.int (tkA p), .ref m] (j_setI h m 15 0) := by
    have e : j_I (j_setI (j_setI h m 15 0) m 22 (tkA p)) m 20 = tkC p := by
      rw [jh_In (by omega), e20]
      by_cases g : tkK p = 5
      · exact (t6 g).1
      · rw [(t5 g).2.1, (t5 g).2.2.1]
    have sh2 : j_sh (j_setI (j_setI h m 15 0) m 22 (tkA p)) m = some (.inr 11) := by have z9 := PR_sh s; exact z9
    refine b_X9_finish_21 hG ?_
    dsimp only [q_X9_finish_21, j_wp, j_opB, j_opA, j_nth, j_i1, j_i2, j_l1, j_l2, j_li, j_f1, j_f2, j_d1, j_d2, j_r1, j_ai, j_aii, j_ail, j_aid, j_air, j_st1, j_st2, j_stu, j_kl, j_cond, j_args, j_out, j_few, j_cw, j_nat, j_pad, j_exp, Nat.reduceAdd]
    simp only [sh1, sh2, e, j_ref, j_ari, j_arb, j_arr, j_len, j_nar, j_oi, j_ol, j_of, j_od, j_or, j_ov, true_and, and_true]
    exact H
  refine b_X9_finish_0 hG ?_
  dsimp only [q_X9_finish_0, j_wp, j_opB, j_opA, j_nth, j_i1, j_i2, j_l1, j_l2, j_li, j_f1, j_f2, j_d1, j_d2, j_r1, j_ai, j_aii, j_ail, j_aid, j_air, j_st1, j_st2, j_stu, j_kl, j_cond, j_args, j_out, j_few, j_cw, j_nat, j_pad, j_exp, Nat.reduceAdd]
  simp only [PR_sh s, sh1, e20, j_ref, j_ari, j_arb, j_arr, j_len, j_nar, j_oi, j_ol, j_of, j_od, j_or, j_ov, true_and, and_true]
  by_cases g : tkK p = 5
  · rw [if_neg (PR_e5 s g)]
    have e21 : j_I (j_setI h m 15 0) m 21 = tkA p := by rw [jh_In (by omega)]; exact (t6 g).2.2
    refine b_X9_finish_17 hG ?_
    dsimp only [q_X9_finish_17, j_wp, j_opB, j_opA, j_nth, j_i1, j_i2, j_l1, j_l2, j_li, j_f1, j_f2, j_d1, j_d2, j_r1, j_ai, j_aii, j_ail, j_aid, j_air, j_st1, j_st2, j_stu, j_kl, j_cond, j_args, j_out, j_few, j_cw, j_nat, j_pad, j_exp, Nat.reduceAdd]
    simp only [sh1, e21, j_ref, j_ari, j_arb, j_arr, j_len, j_nar, j_oi, j_ol, j_of, j_od, j_or, j_ov, true_and, and_true]
    exact fin
  · rw [if_pos (PR_e0 s g)]
    rw [(t5 g).2.2.2] at fin
    exact fin
def pF3 : Nat → Prop := fun k => k = 10 ∨ (15 ≤ k ∧ k ≤ 23)
/-- what load and query change -/
def qA2 (m : Nat) : Nat → Prop := fun b => b = m + 1 ∨ b = m + 6 ∨ b = m + 2 ∨ b = m + 14 ∨ b = m + 15
def qF2 : Nat → Prop := fun k => k = 9 ∨ k = 10 ∨ k = 11 ∨ (15 ≤ k ∧ k ≤ 23) ∨ k = 28
/-- what is loaded -/
def rLoaded (S : Sup) (M : Rf) : Prop := DrB S M (sN S) (sM S) ∧ (∀ k, rV M k = 0) ∧ ∀ k, rC M k = 0
theorem sRead_N {B : Nat → Int32} {len : Nat} : ∀ {k : Nat} {p : Tk} {S : Sup}, sN S ≤ 6 → sM S ≤ 12 → sN (sRead B len k p S).2 ≤ 6 ∧ sM (sRead B len k p S).2 ≤ 12 := by
  intro k
  induction k with
  | zero => intro p S h1 h2; exact ⟨h1, h2⟩
  | succ k ih =>
    intro p S h1 h2
    unfold sRead
    split
    · exact ⟨h1, h2⟩
    · have := sClause_N (B := B) (len := len) (p := p) h1 h2
      exact ih this.1 this.2
set_option maxRecDepth 8000 in
theorem sp_X9_load (hl : l.stackTraces = false) (hJ : JS l D bs E) (s : MB E m M h) (hk : KS E bs h) (hbm : bs ≤ m) {ep : Int32} (t : HT h m B sz ep) (S0 : Sup) {v : Int32}
    (H1 : ¬ inx v (sz + 1) → Q (.inl (some (.int 0))) (j_setI h m 10 1))
    (H2 : ∀ k, k ≤ sz → v = nI k → tkK (sRead B k 800 (tOpen B k 0) (sReset S0)).1 = 5 → ∀ h', MB E m M h' → HT h' m B 0 (tkA (sRead B k 800 (tOpen B k 0) (sReset S0)).1) → j_I h' m 10 = 0 → FM (pA2 m) m pF3 h h' → Q (.inl (some (.int (-10 - tkC (sRead B k 800 (tOpen B k 0) (sReset S0)).1)))) h')
    (H0 : ∀ k, k ≤ sz → v = nI k → tkK (sRead B k 800 (tOpen B k 0) (sReset S0)).1 ≠ 5 → ∀ h' M', MB E m M' h' → rLoaded (sRead B k 800 (tOpen B k 0) (sReset S0)).2 M' → HU h' m U 0 → HS h' m none → HT h' m B 0 (-1) → j_I h' m 10 = 0 → FM (qA2 m) m qF2 h h' → Q (.inl (some (.int (nI (sN (sRead B k 800 (tOpen B k 0) (sReset S0)).2))))) h') :
    j_Met l D bs E (d + 10) n_X9_load [.ref m, .int v] h Q := by
  have hB := s.2.2.2
  have s0 := MB_I s (k := 10) 0
  have t0 : HT (j_setI h m 10 0) m B sz ep := HT_FM t (FM_I (A := nA) (F := fun k => k = 10) FM_rf rfl) id id (by omega) (by omega)
  have f0 : FM nA m (fun k => k = 10) h (j_setI h m 10 0) := FM_I FM_rf rfl
  have k0 : KS E bs (j_setI h m 10 0) := KS_FM hk f0 hbm (fun b z => z.elim)
  have hsz := t.2.1.2
  refine j_meth hl rfl g_X9_load (Nat.le_of_ble_eq_true rfl) (fun _ => ⟨_, _, rfl, (MB_sh s)⟩) hB.1 hB.2 (fun G hG => ?_)
  refine b_X9_load_0 hG ?_
  dsimp only [q_X9_load_0, j_wp, j_opB, j_opA, j_nth, j_i1, j_i2, j_l1, j_l2, j_li, j_f1, j_f2, j_d1, j_d2, j_r1, j_ai, j_aii, j_ail, j_aid, j_air, j_st1, j_st2, j_stu, j_kl, j_cond, j_args, j_out, j_few, j_cw, j_nat, j_pad, j_exp, Nat.reduceAdd]
  simp only [MB_sh s, MB_sh s0, t0.2.1.1, j_ref, j_ari, j_arb, j_arr, j_len, j_nar, j_oi, j_ol, j_of, j_od, j_or, j_ov, true_and, and_true]
  refine sp_X9_inRange hl s0.2.2.2 ?_
  simp only [j_ref, j_ari, j_arb, j_arr, j_len, j_nar, j_oi, j_ol, j_of, j_od, j_or, j_ov, true_and, and_true]
  have e1 : nI sz = nI (sz + 1) - 1 := (nI_pred sz).symm
  rw [e1]
  by_cases g1 : inx v (sz + 1)
  · simp only [rIn_y (by omega) g1, if_true]
    rw [if_neg (by decide)]
    obtain ⟨k, hk', rfl⟩ := g1
    have H2 := H2 k (by omega) rfl
    have H0 := H0 k (by omega) rfl
    have t10 : j_I (j_setI h m 10 0) m 10 = 0 := jh_Is _ _ _ _
    generalize j_setI h m 10 0 = h1 at *
    -- the loop over the clauses
    have loop : ∀ (j : Nat) (p1 : Tk) (S1 : Sup) (Md1 : Rf) (h3 hx : j_H), sN S1 ≤ 6 → sM S1 ≤ 12 → tPhi k p1 ≤ j → PR E bs hx m B sz k p1 Md1 h3 → (tkK p1 ≠ 5 → DrB S1 Md1 (sN S1) (sM S1)) → (∀ h' Md', PR E bs hx m B sz k (sRead B k j p1 S1).1 Md' h' → (tkK (sRead B k j p1 S1).1 ≠ 5 → DrB (sRead B k j p1 S1).2 Md' (sN (sRead B k j p1 S1).2) (sM (sRead B k j p1 S1).2)) → G 56 [.ref m, .int (nI k), j_u] [] h') → G 35 [.ref m, .int (nI k), j_u] [] h3 := by
      intro j
      have stop : ∀ (p1 : Tk) (S1 : Sup) (Md1 : Rf) (h3 hx : j_H), PR E bs hx m B sz k p1 Md1 h3 → (tkK p1 = 0 ∨ tkK p1 = 5) → G 56 [.ref m, .int (nI k), j_u] [] h3 → G 35 [.ref m, .int (nI k), j_u] [] h3 := by
        intro p1 S1 Md1 h3 hx s3 g K
        refine b_X9_load_35 hG ?_
        dsimp only [q_X9_load_35, j_wp, j_opB, j_opA, j_nth, j_i1, j_i2, j_l1, j_l2, j_li, j_f1, j_f2, j_d1, j_d2, j_r1, j_ai, j_aii, j_ail, j_aid, j_air, j_st1, j_st2, j_stu, j_kl, j_cond, j_args, j_out, j_few, j_cw, j_nat, j_pad, j_exp, Nat.reduceAdd]
        simp only [PR_sh s3, j_ref, j_ari, j_arb, j_arr, j_len, j_nar, j_oi, j_ol, j_of, j_od, j_or, j_ov, true_and, and_true]
        by_cases g5 : tkK p1 = 5
        · rw [if_neg (PR_e5 s3 g5)]
          exact K
        · rw [if_pos (PR_e0 s3 g5), PR_19 s3 g5, if_pos (tkNo_0.mpr (g.elim id (fun z => absurd z g5)))]
          exact K
      induction j with
      | zero =>
        intro p1 S1 Md1 h3 hx n1 n2 hp s3 hD K
        have g : tkK p1 = 0 ∨ tkK p1 = 5 := Decidable.byContradiction (fun z => by have := phi_1 (len := k) (p := p1) z; omega)
        exact stop p1 S1 Md1 h3 hx s3 g (K h3 Md1 s3 hD)
      | succ j ih =>
        intro p1 S1 Md1 h3 hx n1 n2 hp s3 hD K
        unfold sRead at K
        by_cases g : tkK p1 = 0 ∨ tkK p1 = 5
        · rw [if_pos g] at K
          exact stop p1 S1 Md1 h3 hx s3 g (K h3 Md1 s3 hD)
        · rw [if_neg g] at K
          have g5 : tkK p1 ≠ 5 := fun z => g (Or.inr z)
          have ph := sClause_phi (B := B) (S := S1) (PR_o s3) g
          have nn := sClause_N (B := B) (len := k) (p := p1) n1 n2
          refine b_X9_load_35 hG ?_
          dsimp only [q_X9_load_35, j_wp, j_opB, j_opA, j_nth, j_i1, j_i2, j_l1, j_l2, j_li, j_f1, j_f2, j_d1, j_d2, j_r1, j_ai, j_aii, j_ail, j_aid, j_air, j_st1, j_st2, j_stu, j_kl, j_cond, j_args, j_out, j_few, j_cw, j_nat, j_pad, j_exp, Nat.reduceAdd]
          simp only [PR_sh s3, j_ref, j_ari, j_arb, j_arr, j_len, j_nar, j_oi, j_ol, j_of, j_od, j_or, j_ov, true_and, and_true]
          rw [if_pos (PR_e0 s3 g5), PR_19 s3 g5, if_neg (fun z => g (Or.inl (tkNo_0.mp z)))]
          refine sp_X9_readClause hl hJ s3 g n1 n2 (hD g5) (by omega) (fun h4 Md4 s4 hD4 => ?_)
          simp only [j_ref, j_ari, j_arb, j_arr, j_len, j_nar, j_oi, j_ol, j_of, j_od, j_or, j_ov, true_and, and_true]
          exact ih _ _ Md4 h4 hx nn.1 nn.2 (by omega) s4 hD4 K
    refine b_X9_load_23 hG ?_
    dsimp only [q_X9_load_23, j_wp, j_opB, j_opA, j_nth, j_i1, j_i2, j_l1, j_l2, j_li, j_f1, j_f2, j_d1, j_d2, j_r1, j_ai, j_aii, j_ail, j_aid, j_air, j_st1, j_st2, j_stu, j_kl, j_cond, j_args, j_out, j_few, j_cw, j_nat, j_pad, j_exp, Nat.reduceAdd]
    simp only [MB_sh s0, mk_r1 s0.1, j_ref, j_ari, j_arb, j_arr, j_len, j_nar, j_oi, j_ol, j_of, j_od, j_or, j_ov, true_and, and_true]
    refine sp_X9_clear hl s0.2.2.2 (mk_a1 s0.1) (fun h2 f2 z2 => ?_)
    simp only [j_ref, j_ari, j_arb, j_arr, j_len, j_nar, j_oi, j_ol, j_of, j_od, j_or, j_ov, true_and, and_true]
    have m2 := mk_FA s0.1 f2
    have F2 : FM (fun c => c = m + 2) m (fun _ => False) h1 h2 := FM_FA f2
    have k2 : KS E bs h2 := KS_FM k0 F2 hbm (fun b z => by omega)
    have t2 : HT h2 m B sz ep := HT_FM t0 F2 (by omega) (by omega) id id
    refine sp_X9_startText hl m2 (FA_bd f2 s0.2.2.2) k2 hbm t2 (RG_zero z2) (n := k) (by omega) (fun h3 s3 => ?_)
    simp only [j_ref, j_ari, j_arb, j_arr, j_len, j_nar, j_oi, j_ol, j_of, j_od, j_or, j_ov, true_and, and_true]
    have hph : tPhi k (tOpen B k 0) ≤ 800 := by
      unfold tPhi
      split
      · omega
      · rename_i g
        have : tkK (tOpen B k 0) = (tok B k 0).1 := rfl
        have h4 := tok_adv (B := B) (len := k) (i := 0) (fun z => g (Or.inl z))
        have h5 : tkE (tOpen B k 0) = (tok B k 0).2.2 := rfl
        omega
    refine loop 800 (tOpen B k 0) (sReset S0) rZero h3 (j_setI h2 m 23 0) (Nat.zero_le _) (Nat.zero_le _) hph s3 (fun _ => ⟨⟨rfl, rfl, ⟨rfl, rfl, rfl, rfl⟩, rfl, rfl, rfl⟩, fun r k g1 _ => absurd g1 (Nat.not_lt_zero _), fun _ _ _ _ => rfl, fun r k g1 _ => absurd g1 (Nat.not_lt_zero _), fun _ _ => rfl, fun _ _ => rfl, fun _ _ => rfl, fun _ _ => rfl⟩) (fun h4 Md4 s4 hD4 => ?_)
    generalize sRead B k 800 (tOpen B k 0) (sReset S0) = y at *
    -- since the beginning
    have F4 : FM (pA2 m) m pF3 h h4 := FM_tr (FM_mono f0 (fun b z => z.elim) (fun k z => Or.inl z)) (FM_tr (FM_I (FM_mono F2 (fun b z => z) (fun k z => z.elim)) (by unfold pF3; omega)) (FM_mono (PR_f s4) (fun b z => z) (fun k z => by unfold pF2 at z; unfold pF3; omega)))
    have F5 : FM (pA2 m) m pF3 h (j_setI (j_setI h4 m 15 0) m 22 (tkA y.1)) := FM_I (FM_I F4 (by unfold pF3; omega)) (by unfold pF3; omega)
    have T5 : HT (j_setI (j_setI h4 m 15 0) m 22 (tkA y.1)) m B 0 (tkA y.1) := ⟨fun i hi => by rw [jh_In (by omega), jh_In (by omega)]; exact s4.1.2.1 i hi, ⟨by rw [jh_In (by omega)]; exact jh_Is _ _ _ _, by omega⟩, jh_Is _ _ _ _⟩
    have X5 : j_I (j_setI (j_setI h4 m 15 0) m 22 (tkA y.1)) m 10 = 0 := by
      rw [jh_In (by omega), jh_In (by omega), (PR_f s4).2.2.2.2.2.2.1 _ _ (fun z => by unfold pA2 at z; omega) (fun z => by have := z.2; unfold pF2 at this; omega), jh_In (by omega), F2.2.2.2.2.2.2.1 _ _ (by omega) (fun z => z.2)]
      exact t10
    have n1 : ¬ pA2 m (m + 1) := fun z => by unfold pA2 at z; omega
    have n6 : ¬ pA2 m (m + 6) := fun z => by unfold pA2 at z; omega
    have B5 : MB E m M (j_setI (j_setI h4 m 15 0) m 22 (tkA y.1)) := ⟨mk_FM s.1 F5, RG_cp s.2.1 (fun k _ => F5.2.2.2.2.2.2.1 _ _ n1 (fun z => absurd z.1 (by omega))), RGV_cp s.2.2.1 (fun k _ => F5.2.2.2.2.2.2.2 _ _ n6), FM_bd F5 hB⟩
    have E20 : j_I (j_setI (j_setI h4 m 15 0) m 22 (tkA y.1)) m 20 = j_I h4 m 20 := by rw [jh_In (by omega), jh_In (by omega)]
    refine b_X9_load_56 hG ?_
    dsimp only [q_X9_load_56, j_wp, j_opB, j_opA, j_nth, j_i1, j_i2, j_l1, j_l2, j_li, j_f1, j_f2, j_d1, j_d2, j_r1, j_ai, j_aii, j_ail, j_aid, j_air, j_st1, j_st2, j_stu, j_kl, j_cond, j_args, j_out, j_few, j_cw, j_nat, j_pad, j_exp, Nat.reduceAdd]
    refine sp_X9_finish hl s4 ?_
    simp only [j_ref, j_ari, j_arb, j_arr, j_len, j_nar, j_oi, j_ol, j_of, j_od, j_or, j_ov, true_and, and_true]
    obtain ⟨p1, p2, p3, p4, p5, p6⟩ := PR_t s4
    by_cases g : tkK y.1 = 5
    · rw [if_neg (show ¬ tkC y.1 = 0 from (p6 g).2.1)]
      simp only [MB_sh B5, E20, (p6 g).1, j_ref, j_ari, j_arb, j_arr, j_len, j_nar, j_oi, j_ol, j_of, j_od, j_or, j_ov, true_and, and_true]
      exact H2 g _ B5 T5 X5 F5
    · rw [if_pos (p5 g).2.2.1]
      have hD5 := hD4 g
      have G5 : RG (j_I (j_setI (j_setI h4 m 15 0) m 22 (tkA y.1)) (m + 2)) Md4 := RG_cp (PR_g s4) (fun k _ => by rw [jh_In (by omega), jh_In (by omega)])
      have ea : tkA y.1 = -1 := (p5 g).2.2.2
      clear p1 p2 p3 p4 p5 p6
      generalize j_setI (j_setI h4 m 15 0) m 22 (tkA y.1) = h5 at *
      rw [ea] at T5
      have m5 := B5.1
      refine b_X9_load_71 hG ?_
      dsimp only [q_X9_load_71, j_wp, j_opB, j_opA, j_nth, j_i1, j_i2, j_l1, j_l2, j_li, j_f1, j_f2, j_d1, j_d2, j_r1, j_ai, j_aii, j_ail, j_aid, j_air, j_st1, j_st2, j_stu, j_kl, j_cond, j_args, j_out, j_few, j_cw, j_nat, j_pad, j_exp, Nat.reduceAdd]
      simp only [mk_sh m5, mk_r1 m5, mk_r0 m5, j_ref, j_ari, j_arb, j_arr, j_len, j_nar, j_oi, j_ol, j_of, j_od, j_or, j_ov, true_and, and_true]
      refine sp_X9_copy hl B5.2.2.2 (fr := 0) (tr := 0) (mk_a1 m5) (mk_a0 m5) (by omega) (by omega) (by omega) (by omega) (Or.inl (by omega)) (fun h6 f6 c6 o6 => ?_)
      simp only [j_ref, j_ari, j_arb, j_arr, j_len, j_nar, j_oi, j_ol, j_of, j_od, j_or, j_ov, true_and, and_true, j_st1, j_kl]
      have times : ∀ (j i : Nat) (h7 : j_H), i + j = 306 → FA (fun c => c = m + 6) h6 h7 → (∀ a, a < i → j_L h7 (m + 6) a = 0) → (∀ h8, FA (fun c => c = m + 6) h6 h8 → (∀ a, a < 306 → j_L h8 (m + 6) a = 0) → ∀ x, G 106 [.ref m, .int (nI k), x] [] h8) → G 86 [.ref m, .int (nI k), .int (nI i)] [] h7 := by
        intro j
        induction j with
        | zero =>
          intro i h7 hi f7 e7 K
          refine b_X9_load_86 hG ?_
          dsimp only [q_X9_load_86, j_wp, j_opB, j_opA, j_nth, j_i1, j_i2, j_l1, j_l2, j_li, j_f1, j_f2, j_d1, j_d2, j_r1, j_ai, j_aii, j_ail, j_aid, j_air, j_st1, j_st2, j_stu, j_kl, j_cond, j_args, j_out, j_few, j_cw, j_nat, j_pad, j_exp, Nat.reduceAdd]
          rw [if_neg (show ¬ nI i < (306 : Int32) from nI_nlt (b := 306) (by omega) (by omega))]
          exact K h7 f7 (fun a ha => e7 a (by omega)) _
        | succ j ih =>
          intro i h7 hi f7 e7 K
          have m7 := mk_FA (mk_FA m5 f6) f7
          refine b_X9_load_86 hG ?_
          dsimp only [q_X9_load_86, j_wp, j_opB, j_opA, j_nth, j_i1, j_i2, j_l1, j_l2, j_li, j_f1, j_f2, j_d1, j_d2, j_r1, j_ai, j_aii, j_ail, j_aid, j_air, j_st1, j_st2, j_stu, j_kl, j_cond, j_args, j_out, j_few, j_cw, j_nat, j_pad, j_exp, Nat.reduceAdd]
          rw [if_pos (show nI i < (306 : Int32) from nI_lt (b := 306) (by omega) (by omega))]
          simp only [mk_sh m7, mk_r5 m7, mk_a5 m7, j_ref, j_ari, j_arb, j_arr, j_len, j_nar, j_oi, j_ol, j_of, j_od, j_or, j_ov, true_and, and_true]
          refine ⟨vp_in_nI (by omega) (by omega), ?_⟩
          rw [nI_clamp (by omega), nI_1]
          refine ih (i + 1) _ (by omega) (FA_L f7 rfl) (fun a ha => ?_) K
          by_cases ea : a = i
          · subst ea; exact jh_Ls _ _ _ _
          · rw [jh_Ln (by omega)]; exact e7 a (by omega)
      refine times 306 0 h6 (by omega) FA_rf (fun a ha => absurd ha (by omega)) (fun h8 f8 e8 x => ?_)
      have F8 : FM (fun b => b = m + 1 ∨ b = m + 6) m (fun _ => False) h5 h8 := FM_tr (FM_FA (FA_mono f6 (fun b z => Or.inl z))) (FM_FA (FA_mono f8 (fun b z => Or.inr z)))
      have m8 := mk_FM m5 F8
      have G8 : RG (j_I h8 (m + 1)) Md4 := RG_cp G5 (fun a ha => by
        rw [f8.2.2.2.2.2.2.1 _ _ (by omega)]
        have := c6 a ha
        rw [show 4073 * 0 + a = a by omega] at this
        exact this)
      have M8 : MB E m (Md4.1, Md4.2.1, Md4.2.2.1, Md4.2.2.2.1, Md4.2.2.2.2.1, Md4.2.2.2.2.2.1, Md4.2.2.2.2.2.2.1, fun _ => 0, fun _ => 0) h8 := ⟨m8, G8, ⟨fun a ha => e8 a (by omega), fun a ha => e8 (6 + a) (by omega)⟩, FM_bd F8 B5.2.2.2⟩
      have sh8 : j_sh (j_setI h8 m 9 0) m = some (.inr 11) := by have z9 := mk_sh m8; exact z9
      have M9 := MB_I (MB_I M8 (k := 9) 0) (k := 11) 0
      have x9 : j_I (j_setI (j_setI h8 m 9 0) m 11 0) (m + 1) (Int32.toNatClampNeg 0) = nI (sN y.2) := by
        rw [show Int32.toNatClampNeg 0 = 0 by decide, jh_In (by omega), jh_In (by omega), G8.1 0 (by omega)]
        exact hD5.1.1
      refine b_X9_load_106 hG ?_
      dsimp only [q_X9_load_106, j_wp, j_opB, j_opA, j_nth, j_i1, j_i2, j_l1, j_l2, j_li, j_f1, j_f2, j_d1, j_d2, j_r1, j_ai, j_aii, j_ail, j_aid, j_air, j_st1, j_st2, j_stu, j_kl, j_cond, j_args, j_out, j_few, j_cw, j_nat, j_pad, j_exp, Nat.reduceAdd]
      simp only [mk_sh m8, sh8, MB_sh M9, mk_r0 M9.1, mk_a0 M9.1, x9, j_ref, j_ari, j_arb, j_arr, j_len, j_nar, j_oi, j_ol, j_of, j_od, j_or, j_ov, true_and, and_true]
      refine ⟨(by first | exact Or.inl rfl | exact Or.inr rfl | decide), vp_c (k := 0) (by omega) (by omega), ?_⟩
      have F9 : FM (qA2 m) m qF2 h (j_setI (j_setI h8 m 9 0) m 11 0) := FM_I (FM_I (FM_tr (FM_mono F5 (fun b z => by unfold pA2 at z; unfold qA2; omega) (fun k z => by unfold pF3 at z; unfold qF2; omega)) (FM_mono F8 (fun b z => by unfold qA2; omega) (fun k z => z.elim))) (Or.inl rfl)) (Or.inr (Or.inr (Or.inl rfl)))
      refine H0 g _ _ M9 ⟨hD5, fun _ => rfl, fun _ => rfl⟩ ⟨?_, by omega, fun i hi => absurd hi (by omega)⟩ ⟨jh_Is _ _ _ _, fun K e => by cases e⟩ ?_ ?_ F9
      · rw [jh_In (by omega)]; exact jh_Is _ _ _ _
      · exact HT_FM T5 (FM_I (FM_I (FM_mono F8 (fun b z => z) (fun k (z : False) => (z.elim : k = 9 ∨ k = 11))) (Or.inl rfl)) (Or.inr rfl)) (by omega) (by omega) (by omega) (by omega)
      · rw [jh_In (by omega), jh_In (by omega), F8.2.2.2.2.2.2.1 _ _ (by omega) (fun z => z.2)]
        exact X5
  · simp only [rIn_n (by omega) g1, Bool.false_eq_true, if_false, if_true]
    refine raise0 hl s ?_
    simp only [j_ref, j_ari, j_arb, j_arr, j_len, j_nar, j_oi, j_ol, j_of, j_od, j_or, j_ov, true_and, and_true]
    exact H1 g1
end RLo
