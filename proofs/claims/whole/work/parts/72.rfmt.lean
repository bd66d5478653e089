/-! ===== the reference: formatting a packet ===== -/
section RFm
variable {l : Launch} {D : va_G} {bs : Nat} {E : j_E} {h0 h : j_H} {m : Nat} {d : Nat} {Q : j_O → j_H → Prop} {M : Rf} {F : List Nat}
/-- what is formatted: the letters F -/
def HF (h : j_H) (m : Nat) (F : List Nat) : Prop := j_I h m 13 = nI F.length ∧ F.length ≤ 40 ∧ ∀ i, i < F.length → j_I h (m + 10) i = nI (F.getD i 0)
def fA (m : Nat) : Nat → Prop := fun b => b = m + 10
def fF : Nat → Prop := fun k => k = 13
theorem HF_FM {A G : Nat → Prop} {h' : j_H} (t : HF h m F) (f : FM A m G h h') (h1 : ¬ A m) (h2 : ¬ A (m + 10)) (h3 : ¬ G 13) : HF h' m F := ⟨by rw [f.2.2.2.2.2.2.1 _ _ h1 (fun z => h3 z.2)]; exact t.1, t.2.1, fun i hi => by rw [f.2.2.2.2.2.2.1 _ _ h2 (fun z => absurd z.1 (by omega))]; exact t.2.2 i hi⟩
theorem HF_push (t : HF h m F) {c : Nat} (hl : F.length < 40) : HF (j_setI (j_setI h (m + 10) F.length (nI c)) m 13 (nI (F.length + 1))) m (F ++ [c]) := by
  refine ⟨by rw [jh_Is]; simp, by simp; omega, fun i hi => ?_⟩
  simp only [List.length_append, List.length_cons, List.length_nil] at hi
  rw [jh_In (by omega), jh_I]
  by_cases e : i = F.length
  · subst e
    simp
  · rw [if_neg (fun z => e z.2), t.2.2 i (by omega)]
    rw [List.getD_eq_getElem?_getD, List.getD_eq_getElem?_getD, List.getElem?_append_left (show i < F.length by omega)]
/-- the reference, its formatting at F, since h -/
def FR (E : j_E) (bs m : Nat) (M : Rf) (h : j_H) (F : List Nat) (h' : j_H) : Prop := MB E m M h' ∧ HF h' m F ∧ FM (fA m) m fF h h' ∧ KS E bs h' ∧ bs ≤ m
theorem FR_push (s : FR E bs m M h0 F h) {c : Nat} (hl : F.length < 40) : FR E bs m M h0 (F ++ [c]) (j_setI (j_setI h (m + 10) F.length (nI c)) m 13 (nI (F.length + 1))) := by
  obtain ⟨s1, s2, s3, s4, s5⟩ := s
  have f : FM (fA m) m fF h (j_setI (j_setI h (m + 10) F.length (nI c)) m 13 (nI (F.length + 1))) := FM_I (FM_FA (FA_I FA_rf rfl)) rfl
  have n1 : ¬ fA m (m + 1) := fun z => by unfold fA at z; omega
  have n6 : ¬ fA m (m + 6) := fun z => by unfold fA at z; omega
  exact ⟨⟨mk_FM s1.1 f, RG_cp s1.2.1 (fun k _ => f.2.2.2.2.2.2.1 _ _ n1 (fun z => absurd z.1 (by omega))), RGV_cp s1.2.2.1 (fun k _ => f.2.2.2.2.2.2.2 _ _ n6), FM_bd f s1.2.2.2⟩, HF_push s2 hl, FM_tr s3 f, KS_FM s4 f s5 (fun b z => by unfold fA at z; omega), s5⟩
theorem sp_X9_write (hl : l.stackTraces = false) (hJ : JS l D bs E) (s : FR E bs m M h0 F h) (i : Nat) {z : String × Nat × String} (hz : j_strs[i]? = some z) (hi : i < 69) (hn : F.length + (wd z.2.2).length ≤ 40) (H : ∀ h', FR E bs m M h0 (F ++ wd z.2.2) h' → Q (.inl none) h') : j_Met l D bs E (d + 4) n_X9_write [.ref m, .ref (E.1 i)] h Q := by
  have hB := s.1.2.2.2
  generalize hw : wd z.2.2 = w at *
  have kst1 : ∀ {h1 : j_H}, KS E bs h1 → kst h1 (E.1 i) w := fun k => by rw [← hw]; exact KS_at k i hz hi
  refine j_meth hl rfl g_X9_write (Nat.le_of_ble_eq_true rfl) (fun _ => ⟨_, _, rfl, (MB_sh s.1)⟩) hB.1 hB.2 (fun G hG => ?_)
  have loop : ∀ (j n : Nat) (h1 : j_H), n + j = w.length → FR E bs m M h0 (F ++ w.take n) h1 → G 2 [.ref m, .ref (E.1 i), .int (nI n)] [] h1 := by
    intro j
    induction j with
    | zero =>
      intro n h1 hn1 s1
      refine b_X9_write_2 hG ?_
      dsimp only [q_X9_write_2, j_wp, j_opB, j_opA, j_nth, j_i1, j_i2, j_l1, j_l2, j_li, j_f1, j_f2, j_d1, j_d2, j_r1, j_ai, j_aii, j_ail, j_aid, j_air, j_st1, j_st2, j_stu, j_kl, j_cond, j_args, j_out, j_few, j_cw, j_nat, j_pad, j_exp, Nat.reduceAdd]
      refine hJ.1 _ h1 _ w _ (kst1 s1.2.2.2.1) s1.1.2.2.2 ?_
      simp only [j_ref, j_ari, j_arb, j_arr, j_len, j_nar, j_oi, j_ol, j_of, j_od, j_or, j_ov, true_and, and_true]
      rw [if_neg (nI_nlt (by omega) (by omega))]
      refine b_X9_write_40 hG ?_
      dsimp only [q_X9_write_40, j_wp, j_opB, j_opA, j_nth, j_i1, j_i2, j_l1, j_l2, j_li, j_f1, j_f2, j_d1, j_d2, j_r1, j_ai, j_aii, j_ail, j_aid, j_air, j_st1, j_st2, j_stu, j_kl, j_cond, j_args, j_out, j_few, j_cw, j_nat, j_pad, j_exp, Nat.reduceAdd]
      rw [List.take_of_length_le (by omega)] at s1
      exact H h1 s1
    | succ j ih =>
      intro n h1 hn1 s1
      have m1 := s1.1.1
      have lf : (F ++ w.take n).length = F.length + n := by simp; omega
      refine b_X9_write_2 hG ?_
      dsimp only [q_X9_write_2, j_wp, j_opB, j_opA, j_nth, j_i1, j_i2, j_l1, j_l2, j_li, j_f1, j_f2, j_d1, j_d2, j_r1, j_ai, j_aii, j_ail, j_aid, j_air, j_st1, j_st2, j_stu, j_kl, j_cond, j_args, j_out, j_few, j_cw, j_nat, j_pad, j_exp, Nat.reduceAdd]
      refine hJ.1 _ h1 _ w _ (kst1 s1.2.2.2.1) s1.1.2.2.2 ?_
      simp only [j_ref, j_ari, j_arb, j_arr, j_len, j_nar, j_oi, j_ol, j_of, j_od, j_or, j_ov, true_and, and_true]
      rw [if_pos (nI_lt (by omega) (by omega))]
      simp only [mk_sh m1, mk_r12 m1, mk_a12 m1, s1.2.1.1, j_ref, j_ari, j_arb, j_arr, j_len, j_nar, j_oi, j_ol, j_of, j_od, j_or, j_ov, true_and, and_true]
      refine hJ.2 _ h1 _ w n _ (kst1 s1.2.2.2.1) s1.1.2.2.2 (by omega) ?_
      simp only [mk_a12 m1, j_ref, j_ari, j_arb, j_arr, j_len, j_nar, j_oi, j_ol, j_of, j_od, j_or, j_ov, true_and, and_true]
      refine ⟨vp_in_nI (by omega) (by omega), ?_⟩
      rw [nI_clamp (by omega)]
      have m2 : mk (j_setI h1 (m + 10) (F ++ w.take n).length (nI (w.getD n 0))) m := m1
      have e13 : j_I (j_setI h1 (m + 10) (F ++ w.take n).length (nI (w.getD n 0))) m 13 = nI (F ++ w.take n).length := by rw [jh_In (by omega)]; exact s1.2.1.1
      simp only [mk_sh m2, e13, j_ref, j_ari, j_arb, j_arr, j_len, j_nar, j_oi, j_ol, j_of, j_od, j_or, j_ov, true_and, and_true]
      rw [nI_1, nI_1]
      refine ih (n + 1) _ (by omega) ?_
      have s2 := FR_push s1 (c := w.getD n 0) (by omega)
      rw [List.append_assoc] at s2
      have et : w.take n ++ [w.getD n 0] = w.take (n + 1) := by
        rw [List.take_succ, List.getD_eq_getElem?_getD]
        congr 1
        rw [List.getElem?_eq_getElem (by omega)]
        rfl
      rw [et] at s2
      exact s2
  refine b_X9_write_0 hG ?_
  dsimp only [q_X9_write_0, j_wp, j_opB, j_opA, j_nth, j_i1, j_i2, j_l1, j_l2, j_li, j_f1, j_f2, j_d1, j_d2, j_r1, j_ai, j_aii, j_ail, j_aid, j_air, j_st1, j_st2, j_stu, j_kl, j_cond, j_args, j_out, j_few, j_cw, j_nat, j_pad, j_exp, Nat.reduceAdd]
  exact loop w.length 0 h (by omega) (by rw [List.take_zero, List.append_nil]; exact s)
/-- the decimal digits of n -/
def decF : Nat → Nat → List Nat
  | 0, n => [48 + n % 10]
  | k + 1, n => (if n ≤ 9 then [] else decF k (n / 10)) ++ [48 + n % 10]
theorem decF_len : ∀ (k n : Nat), 1 ≤ (decF k n).length ∧ (decF k n).length ≤ k + 1 := by
  intro k
  induction k with
  | zero => intro n; exact ⟨Nat.le_refl _, Nat.le_refl _⟩
  | succ k ih =>
    intro n
    unfold decF
    split
    · simp
    · have := ih (n / 10)
      simp
      omega
theorem sp_X9_writeNumber (hl : l.stackTraces = false) : ∀ (k n : Nat) (F : List Nat) (h : j_H) (d : Nat) (Q : j_O → j_H → Prop), FR E bs m M h0 F h → n < 10 ^ (k + 1) → n < 2 ^ 31 → F.length + (k + 1) ≤ 40 → (∀ h', FR E bs m M h0 (F ++ decF k n) h' → Q (.inl none) h') → j_Met l D bs E (d + k + 1) n_X9_writeNumber [.ref m, .int (nI n)] h Q := by
  intro k
  induction k with
  | zero =>
    intro n F h d Q s hn h31 hlen H
    have hB := s.1.2.2.2
    have hn' : n ≤ 9 := by omega
    have er : nI n - nI n / 10 * 10 = nI (n % 10) := pk_rem (d := 10) h31 (by omega) (by omega)
    have m1 := s.1.1
    have ea : (48 : Int32) + nI (n % 10) = nI (48 + n % 10) := nI_add 48 (n % 10)
    have m2 : mk (j_setI h (m + 10) F.length (nI (48 + n % 10))) m := m1
    have e13 : j_I (j_setI h (m + 10) F.length (nI (48 + n % 10))) m 13 = nI F.length := by rw [jh_In (by omega)]; exact s.2.1.1
    refine j_meth hl rfl g_X9_writeNumber (Nat.le_of_ble_eq_true rfl) (fun _ => ⟨_, _, rfl, (MB_sh s.1)⟩) hB.1 hB.2 (fun G hG => ?_)
    refine b_X9_writeNumber_0 hG ?_
    dsimp only [q_X9_writeNumber_0, j_wp, j_opB, j_opA, j_nth, j_i1, j_i2, j_l1, j_l2, j_li, j_f1, j_f2, j_d1, j_d2, j_r1, j_ai, j_aii, j_ail, j_aid, j_air, j_st1, j_st2, j_stu, j_kl, j_cond, j_args, j_out, j_few, j_cw, j_nat, j_pad, j_exp, Nat.reduceAdd]
    rw [if_neg (show ¬ (9 : Int32) < nI n from nI_nlt (a := 9) hn' (by omega))]
    refine b_X9_writeNumber_14 hG ?_
    dsimp only [q_X9_writeNumber_14, j_wp, j_opB, j_opA, j_nth, j_i1, j_i2, j_l1, j_l2, j_li, j_f1, j_f2, j_d1, j_d2, j_r1, j_ai, j_aii, j_ail, j_aid, j_air, j_st1, j_st2, j_stu, j_kl, j_cond, j_args, j_out, j_few, j_cw, j_nat, j_pad, j_exp, Nat.reduceAdd]
    simp only [mk_sh m1, mk_r12 m1, mk_a12 m1, s.2.1.1, er, ea, j_ref, j_ari, j_arb, j_arr, j_len, j_nar, j_oi, j_ol, j_of, j_od, j_or, j_ov, true_and, and_true]
    refine ⟨by decide, vp_in_nI (by omega) (by omega), ?_⟩
    rw [nI_clamp (by omega)]
    simp only [mk_sh m2, e13, j_ref, j_ari, j_arb, j_arr, j_len, j_nar, j_oi, j_ol, j_of, j_od, j_or, j_ov, true_and, and_true]
    rw [nI_1]
    exact H _ (FR_push s (c := 48 + n % 10) (by omega))
  | succ k ih =>
    intro n F h d Q s hn h31 hlen H
    have hB := s.1.2.2.2
    have er : nI n - nI n / 10 * 10 = nI (n % 10) := pk_rem (d := 10) h31 (by omega) (by omega)
    have ed : nI n / 10 = nI (n / 10) := pk_div (d := 10) h31 (by omega) (by omega)
    have ea : (48 : Int32) + nI (n % 10) = nI (48 + n % 10) := nI_add 48 (n % 10)
    refine j_meth hl rfl g_X9_writeNumber (Nat.le_of_ble_eq_true rfl) (fun _ => ⟨_, _, rfl, (MB_sh s.1)⟩) hB.1 hB.2 (fun G hG => ?_)
    have fin : ∀ (F1 : List Nat) (h1 : j_H), FR E bs m M h0 F1 h1 → F1.length < 40 → (∀ h', FR E bs m M h0 (F1 ++ [48 + n % 10]) h' → Q (.inl none) h') → G 14 [.ref m, .int (nI n)] [] h1 := by
      intro F1 h1 s1 l1 K
      have m1 := s1.1.1
      have m2 : mk (j_setI h1 (m + 10) F1.length (nI (48 + n % 10))) m := m1
      have e13 : j_I (j_setI h1 (m + 10) F1.length (nI (48 + n % 10))) m 13 = nI F1.length := by rw [jh_In (by omega)]; exact s1.2.1.1
      refine b_X9_writeNumber_14 hG ?_
      dsimp only [q_X9_writeNumber_14, j_wp, j_opB, j_opA, j_nth, j_i1, j_i2, j_l1, j_l2, j_li, j_f1, j_f2, j_d1, j_d2, j_r1, j_ai, j_aii, j_ail, j_aid, j_air, j_st1, j_st2, j_stu, j_kl, j_cond, j_args, j_out, j_few, j_cw, j_nat, j_pad, j_exp, Nat.reduceAdd]
      simp only [mk_sh m1, mk_r12 m1, mk_a12 m1, s1.2.1.1, er, ea, j_ref, j_ari, j_arb, j_arr, j_len, j_nar, j_oi, j_ol, j_of, j_od, j_or, j_ov, true_and, and_true]
      refine ⟨by decide, vp_in_nI (by omega) (by omega), ?_⟩
      rw [nI_clamp (by omega)]
      simp only [mk_sh m2, e13, j_ref, j_ari, j_arb, j_arr, j_len, j_nar, j_oi, j_ol, j_of, j_od, j_or, j_ov, true_and, and_true]
      rw [nI_1]
      exact K _ (FR_push s1 (c := 48 + n % 10) (by omega))
    unfold decF at H
    refine b_X9_writeNumber_0 hG ?_
    dsimp only [q_X9_writeNumber_0, j_wp, j_opB, j_opA, j_nth, j_i1, j_i2, j_l1, j_l2, j_li, j_f1, j_f2, j_d1, j_d2, j_r1, j_ai, j_aii, j_ail, j_aid, j_air, j_st1, j_st2, j_stu, j_kl, j_cond, j_args, j_out, j_few, j_cw, j_nat, j_pad, j_exp, Nat.reduceAdd]
    by_cases g : n ≤ 9
    · rw [if_neg (show ¬ (9 : Int32) < nI n from nI_nlt (a := 9) g (by omega))]
      rw [if_pos g, List.nil_append] at H
      exact fin F h s (by omega) H
    · rw [if_pos (show (9 : Int32) < nI n from nI_lt (a := 9) (by omega) (by omega))]
      rw [if_neg g] at H
      simp only [ed]
      refine ⟨by decide, ?_⟩
      have hk : n / 10 < 10 ^ (k + 1) := Nat.div_lt_of_lt_mul (by rw [Nat.mul_comm, ← Nat.pow_succ]; exact hn)
      refine ih (n / 10) F h d _ s hk (by omega) (by omega) (fun h1 s1 => ?_)
      simp only [j_ref, j_ari, j_arb, j_arr, j_len, j_nar, j_oi, j_ol, j_of, j_od, j_or, j_ov, true_and, and_true]
      have := decF_len k (n / 10)
      exact fin _ h1 s1 (by simp; omega) (fun h' s' => H h' (by rw [← List.append_assoc]; exact s'))
/-- the text of a packet -/
def rTxt (M : Rf) (p : Nat) : List Nat := wd "p" ++ decF 2 p ++ wd " f" ++ decF 2 (tn (rP M p 0)) ++ wd " " ++ decF 5 (tn (rP M p 1)) ++ (if rP M p 3 = 0 then wd " queued" else if rP M p 3 = 1 then wd " flying" else if rP M p 3 = 3 then wd " dropped" else wd " at ") ++ (if rP M p 3 = 2 then decF 6 (tn (rP M p 5)) else [])
set_option maxRecDepth 8000 in
theorem sp_X9_format (hl : l.stackTraces = false) (hJ : JS l D bs E) (s : MB E m M h) (hF : HF h m F) (hk : KS E bs h) (hbm : bs ≤ m) {np : Nat} (hnp : np ≤ 100) (hx : rX M 2 = nI np) (hp : ∀ p, p < np → (∃ f, f < 100 ∧ rP M p 0 = nI f) ∧ (∃ z, z < 100000 ∧ rP M p 1 = nI z) ∧ (rP M p 3 = 2 → ∃ c, c < 10000000 ∧ rP M p 5 = nI c)) {v : Int32}
    (H1 : ¬ inx v np → Q (.inl (some (.int 0))) (j_setI h m 10 1)) (H0 : ∀ p, p < np → v = nI p → ∀ h', MB E m M h' → HF h' m (rTxt M p) → j_I h' m 10 = 0 → FM (fA m) m (fun k => k = 10 ∨ k = 13) h h' → Q (.inl (some (.int (nI (rTxt M p).length)))) h') : j_Met l D bs E (d + 8) n_X9_format [.ref m, .int v] h Q := by
  have hB := s.2.2.2
  have s0 := MB_I s (k := 10) 0
  have q := MB_q s0
  refine j_meth hl rfl g_X9_format (Nat.le_of_ble_eq_true rfl) (fun _ => ⟨_, _, rfl, (MB_sh s)⟩) hB.1 hB.2 (fun G hG => ?_)
  refine b_X9_format_0 hG ?_
  dsimp only [q_X9_format_0, j_wp, j_opB, j_opA, j_nth, j_i1, j_i2, j_l1, j_l2, j_li, j_f1, j_f2, j_d1, j_d2, j_r1, j_ai, j_aii, j_ail, j_aid, j_air, j_st1, j_st2, j_stu, j_kl, j_cond, j_args, j_out, j_few, j_cw, j_nat, j_pad, j_exp, Nat.reduceAdd]
  simp only [MB_sh s, j_ref, j_ari, j_arb, j_arr, j_len, j_nar, j_oi, j_ol, j_of, j_od, j_or, j_ov, true_and, and_true]
  refine sp_X9_isPacket hl q ?_
  simp only [j_ref, j_ari, j_arb, j_arr, j_len, j_nar, j_oi, j_ol, j_of, j_od, j_or, j_ov, true_and, and_true, hx]
  by_cases g1 : inx v np
  · simp only [rIn_y (by omega) g1, if_true]
    rw [if_neg (by decide)]
    obtain ⟨p, hp1, rfl⟩ := g1
    have H := H0 p hp1 rfl
    obtain ⟨⟨f, hf, ef⟩, ⟨z, hz, ez⟩, hd⟩ := hp p hp1
    have f1 : FM nA m (fun k => k = 10 ∨ k = 13) h (j_setI (j_setI h m 10 0) m 13 0) := FM_I (FM_I FM_rf (Or.inl rfl)) (Or.inr rfl)
    have x10 : j_I (j_setI (j_setI h m 10 0) m 13 0) m 10 = 0 := by rw [jh_In (by omega)]; exact jh_Is _ _ _ _
    have r1 : FR E bs m M (j_setI (j_setI h m 10 0) m 13 0) [] (j_setI (j_setI h m 10 0) m 13 0) := ⟨MB_I s0 0, ⟨jh_Is _ _ _ _, by simp, fun i hi => absurd hi (by simp)⟩, FM_rf, KS_FM hk f1 hbm (fun b z => z.elim), hbm⟩
    refine b_X9_format_19 hG ?_
    dsimp only [q_X9_format_19, j_wp, j_opB, j_opA, j_nth, j_i1, j_i2, j_l1, j_l2, j_li, j_f1, j_f2, j_d1, j_d2, j_r1, j_ai, j_aii, j_ail, j_aid, j_air, j_st1, j_st2, j_stu, j_kl, j_cond, j_args, j_out, j_few, j_cw, j_nat, j_pad, j_exp, Nat.reduceAdd]
    simp only [MB_sh s0, j_ref, j_ari, j_arb, j_arr, j_len, j_nar, j_oi, j_ol, j_of, j_od, j_or, j_ov, true_and, and_true]
    generalize j_setI (j_setI h m 10 0) m 13 0 = h1 at *
    have len2 : ∀ n, (decF 2 n).length ≤ 3 := fun n => (decF_len 2 n).2
    have len5 : ∀ n, (decF 5 n).length ≤ 6 := fun n => (decF_len 5 n).2
    have len6 : ∀ n, (decF 6 n).length ≤ 7 := fun n => (decF_len 6 n).2
    have w48 : (wd "p").length = 1 := by decide
    have w49 : (wd " f").length = 2 := by decide
    have w50 : (wd " ").length = 1 := by decide
    refine sp_X9_write hl hJ r1 48 rfl (by omega) (by decide) (fun h2 r2 => ?_)
    simp only [j_ref, j_ari, j_arb, j_arr, j_len, j_nar, j_oi, j_ol, j_of, j_od, j_or, j_ov, true_and, and_true]
    rw [List.nil_append] at r2
    refine sp_X9_writeNumber hl 2 p _ h2 (d + 4) _ r2 (by omega) (by omega) (by show (wd "p").length + 3 ≤ 40; omega) (fun h3 r3 => ?_)
    simp only [j_ref, j_ari, j_arb, j_arr, j_len, j_nar, j_oi, j_ol, j_of, j_od, j_or, j_ov, true_and, and_true]
    have l2 := len2 p
    refine sp_X9_write hl hJ r3 49 rfl (by omega) (by show (wd "p" ++ decF 2 p).length + (wd " f").length ≤ 40; simp only [List.length_append]; omega) (fun h4 r4 => ?_)
    simp only [j_ref, j_ari, j_arb, j_arr, j_len, j_nar, j_oi, j_ol, j_of, j_od, j_or, j_ov, true_and, and_true]
    refine sp_X9_ofPacket hl (MB_q r4.1) (f := p) (by omega) (k := 0) (by omega) ?_
    simp only [j_ref, j_ari, j_arb, j_arr, j_len, j_nar, j_oi, j_ol, j_of, j_od, j_or, j_ov, true_and, and_true, ef]
    have l2f := len2 f
    refine sp_X9_writeNumber hl 2 f _ h4 (d + 4) _ r4 (by omega) (by omega) (by show (wd "p" ++ decF 2 p ++ wd " f").length + 3 ≤ 40; simp only [List.length_append]; omega) (fun h5 r5 => ?_)
    simp only [j_ref, j_ari, j_arb, j_arr, j_len, j_nar, j_oi, j_ol, j_of, j_od, j_or, j_ov, true_and, and_true]
    refine sp_X9_write hl hJ r5 50 rfl (by omega) (by show (wd "p" ++ decF 2 p ++ wd " f" ++ decF 2 f).length + (wd " ").length ≤ 40; simp only [List.length_append]; omega) (fun h6 r6 => ?_)
    simp only [j_ref, j_ari, j_arb, j_arr, j_len, j_nar, j_oi, j_ol, j_of, j_od, j_or, j_ov, true_and, and_true]
    refine sp_X9_ofPacket hl (MB_q r6.1) (f := p) (by omega) (k := 1) (by omega) ?_
    simp only [j_ref, j_ari, j_arb, j_arr, j_len, j_nar, j_oi, j_ol, j_of, j_od, j_or, j_ov, true_and, and_true, ez]
    have l5 := len5 z
    refine sp_X9_writeNumber hl 5 z _ h6 (d + 1) _ r6 (by omega) (by omega) (by show (wd "p" ++ decF 2 p ++ wd " f" ++ decF 2 f ++ wd " ").length + 6 ≤ 40; simp only [List.length_append]; omega) (fun h7 r7 => ?_)
    simp only [j_ref, j_ari, j_arb, j_arr, j_len, j_nar, j_oi, j_ol, j_of, j_od, j_or, j_ov, true_and, and_true]
    refine sp_X9_ofPacket hl (MB_q r7.1) (f := p) (by omega) (k := 3) (by omega) ?_
    simp only [j_ref, j_ari, j_arb, j_arr, j_len, j_nar, j_oi, j_ol, j_of, j_od, j_or, j_ov, true_and, and_true, j_st1, j_kl]
    have tf : tn (rP M p 0) = f := by rw [ef]; exact nI_clamp (by omega)
    have tz : tn (rP M p 1) = z := by rw [ez]; exact nI_clamp (by omega)
    unfold rTxt at H
    rw [tf, tz] at H
    have lA : (wd "p" ++ decF 2 p ++ wd " f" ++ decF 2 f ++ wd " " ++ decF 5 z).length ≤ 16 := by simp only [List.length_append]; omega
    have r7' : FR E bs m M h1 (wd "p" ++ decF 2 p ++ wd " f" ++ decF 2 f ++ wd " " ++ decF 5 z) h7 := r7
    generalize wd "p" ++ decF 2 p ++ wd " f" ++ decF 2 f ++ wd " " ++ decF 5 z = T at *
    -- behind the last word
    have fin : ∀ (T2 : List Nat) (h8 : j_H) (x : Value), FR E bs m M h1 T2 h8 → (∀ h', MB E m M h' → HF h' m T2 → j_I h' m 10 = 0 → FM (fA m) m (fun k => k = 10 ∨ k = 13) h h' → Q (.inl (some (.int (nI T2.length)))) h') → G 131 [.ref m, .int (nI p), x] [] h8 := by
      intro T2 h8 x r8 K
      have m8 := r8.1.1
      refine b_X9_format_131 hG ?_
      dsimp only [q_X9_format_131, j_wp, j_opB, j_opA, j_nth, j_i1, j_i2, j_l1, j_l2, j_li, j_f1, j_f2, j_d1, j_d2, j_r1, j_ai, j_aii, j_ail, j_aid, j_air, j_st1, j_st2, j_stu, j_kl, j_cond, j_args, j_out, j_few, j_cw, j_nat, j_pad, j_exp, Nat.reduceAdd]
      simp only [mk_sh m8, r8.2.1.1, j_ref, j_ari, j_arb, j_arr, j_len, j_nar, j_oi, j_ol, j_of, j_od, j_or, j_ov, true_and, and_true]
      refine K h8 r8.1 r8.2.1 ?_ (FM_tr (FM_mono f1 (fun b z => z.elim) (fun k z => z)) (FM_mono r8.2.2.1 (fun b z => z) (fun k z => Or.inr z)))
      rw [r8.2.2.1.2.2.2.2.2.2.1 _ _ (fun z => by unfold fA at z; omega) (fun z => by have := z.2; unfold fF at this; omega)]
      exact x10
    have wrt : ∀ (i : Nat) {zz : String × Nat × String}, j_strs[i]? = some zz → i < 69 → (wd zz.2.2).length ≤ 8 → (∀ h', MB E m M h' → HF h' m (T ++ wd zz.2.2 ++ (if rP M p 3 = 2 then decF 6 (tn (rP M p 5)) else [])) → j_I h' m 10 = 0 → FM (fA m) m (fun k => k = 10 ∨ k = 13) h h' → Q (.inl (some (.int (nI (T ++ wd zz.2.2 ++ (if rP M p 3 = 2 then decF 6 (tn (rP M p 5)) else [])).length)))) h') → G 113 [.ref m, .int (nI p), .int (rP M p 3)] [.ref (E.1 i), .ref m] h7 := by
      intro i zz hzz hi69 hw8 K
      refine b_X9_format_113 hG ?_
      dsimp only [q_X9_format_113, j_wp, j_opB, j_opA, j_nth, j_i1, j_i2, j_l1, j_l2, j_li, j_f1, j_f2, j_d1, j_d2, j_r1, j_ai, j_aii, j_ail, j_aid, j_air, j_st1, j_st2, j_stu, j_kl, j_cond, j_args, j_out, j_few, j_cw, j_nat, j_pad, j_exp, Nat.reduceAdd]
      refine sp_X9_write hl hJ r7' i hzz hi69 (by omega) (fun h8 r8 => ?_)
      simp only [j_ref, j_ari, j_arb, j_arr, j_len, j_nar, j_oi, j_ol, j_of, j_od, j_or, j_ov, true_and, and_true]
      by_cases g2 : rP M p 3 = 2
      · rw [if_pos g2] at K ⊢
        obtain ⟨c, hc, ec⟩ := hd g2
        have tc : tn (rP M p 5) = c := by rw [ec]; exact nI_clamp (by omega)
        rw [tc] at K
        refine sp_X9_ofPacket hl (MB_q r8.1) (f := p) (by omega) (k := 5) (by omega) ?_
        simp only [j_ref, j_ari, j_arb, j_arr, j_len, j_nar, j_oi, j_ol, j_of, j_od, j_or, j_ov, true_and, and_true, ec]
        refine sp_X9_writeNumber hl 6 c _ h8 d _ r8 (by omega) (by omega) (by simp only [List.length_append]; omega) (fun h9 r9 => ?_)
        simp only [j_ref, j_ari, j_arb, j_arr, j_len, j_nar, j_oi, j_ol, j_of, j_od, j_or, j_ov, true_and, and_true]
        exact fin _ h9 _ r9 K
      · rw [if_neg g2] at K ⊢
        rw [List.append_nil] at K
        exact fin _ h8 _ r8 K
    by_cases s0' : rP M p 3 = 0
    · rw [if_pos s0'] at H ⊢
      exact wrt 51 rfl (by omega) (by decide) H
    · rw [if_neg s0'] at H ⊢
      refine b_X9_format_88 hG ?_
      dsimp only [q_X9_format_88, j_wp, j_opB, j_opA, j_nth, j_i1, j_i2, j_l1, j_l2, j_li, j_f1, j_f2, j_d1, j_d2, j_r1, j_ai, j_aii, j_ail, j_aid, j_air, j_st1, j_st2, j_stu, j_kl, j_cond, j_args, j_out, j_few, j_cw, j_nat, j_pad, j_exp, Nat.reduceAdd]
      by_cases s1' : rP M p 3 = 1
      · rw [if_pos s1'] at H ⊢
        exact wrt 52 rfl (by omega) (by decide) H
      · rw [if_neg s1'] at H ⊢
        refine b_X9_format_99 hG ?_
        dsimp only [q_X9_format_99, j_wp, j_opB, j_opA, j_nth, j_i1, j_i2, j_l1, j_l2, j_li, j_f1, j_f2, j_d1, j_d2, j_r1, j_ai, j_aii, j_ail, j_aid, j_air, j_st1, j_st2, j_stu, j_kl, j_cond, j_args, j_out, j_few, j_cw, j_nat, j_pad, j_exp, Nat.reduceAdd]
        by_cases s3' : rP M p 3 = 3
        · rw [if_pos s3'] at H ⊢
          exact wrt 53 rfl (by omega) (by decide) H
        · rw [if_neg s3'] at H ⊢
          refine b_X9_format_110 hG ?_
          dsimp only [q_X9_format_110, j_wp, j_opB, j_opA, j_nth, j_i1, j_i2, j_l1, j_l2, j_li, j_f1, j_f2, j_d1, j_d2, j_r1, j_ai, j_aii, j_ail, j_aid, j_air, j_st1, j_st2, j_stu, j_kl, j_cond, j_args, j_out, j_few, j_cw, j_nat, j_pad, j_exp, Nat.reduceAdd]
          exact wrt 54 rfl (by omega) (by decide) H
  · simp only [rIn_n (by omega) g1, Bool.false_eq_true, if_false, if_true]
    refine raise0 hl s ?_
    simp only [j_ref, j_ari, j_arb, j_arr, j_len, j_nar, j_oi, j_ol, j_of, j_od, j_or, j_ov, true_and, and_true]
    exact H1 g1
theorem sp_X9_formattedByte (hl : l.stackTraces = false) (s : MB E m M h) (hF : HF h m F) {v : Int32} (H1 : ¬ inx v F.length → Q (.inl (some (.int (-1)))) (j_setI h m 10 0)) (H0 : ∀ i, i < F.length → v = nI i → Q (.inl (some (.int (nI (F.getD i 0))))) (j_setI h m 10 0)) : j_Met l D bs E (d + 2) n_X9_formattedByte [.ref m, .int v] h Q := by
  have hB := s.2.2.2
  have s0 := MB_I s (k := 10) 0
  have hl40 := hF.2.1
  have e13 : j_I (j_setI h m 10 0) m 13 = nI F.length := by rw [jh_In (by omega)]; exact hF.1
  refine j_meth hl rfl g_X9_formattedByte (Nat.le_of_ble_eq_true rfl) (fun _ => ⟨_, _, rfl, (MB_sh s)⟩) hB.1 hB.2 (fun G hG => ?_)
  refine b_X9_formattedByte_0 hG ?_
  dsimp only [q_X9_formattedByte_0, j_wp, j_opB, j_opA, j_nth, j_i1, j_i2, j_l1, j_l2, j_li, j_f1, j_f2, j_d1, j_d2, j_r1, j_ai, j_aii, j_ail, j_aid, j_air, j_st1, j_st2, j_stu, j_kl, j_cond, j_args, j_out, j_few, j_cw, j_nat, j_pad, j_exp, Nat.reduceAdd]
  simp only [MB_sh s, MB_sh s0, e13, j_ref, j_ari, j_arb, j_arr, j_len, j_nar, j_oi, j_ol, j_of, j_od, j_or, j_ov, true_and, and_true]
  refine sp_X9_inRange hl s0.2.2.2 ?_
  simp only [j_ref, j_ari, j_arb, j_arr, j_len, j_nar, j_oi, j_ol, j_of, j_od, j_or, j_ov, true_and, and_true]
  by_cases g1 : inx v F.length
  · simp only [rIn_y (by omega) g1, if_true]
    rw [if_neg (by decide)]
    obtain ⟨i, hi, rfl⟩ := g1
    have ei : j_I (j_setI h m 10 0) (m + 10) i = nI (F.getD i 0) := by rw [jh_In (by omega)]; exact hF.2.2 i hi
    simp only [MB_sh s0, mk_r12 s0.1, mk_a12 s0.1, j_ref, j_ari, j_arb, j_arr, j_len, j_nar, j_oi, j_ol, j_of, j_od, j_or, j_ov, true_and, and_true]
    refine ⟨vp_in_nI (by omega) (by omega), ?_⟩
    rw [nI_clamp (by omega), ei]
    refine b_X9_formattedByte_29 hG ?_
    dsimp only [q_X9_formattedByte_29, j_wp, j_opB, j_opA, j_nth, j_i1, j_i2, j_l1, j_l2, j_li, j_f1, j_f2, j_d1, j_d2, j_r1, j_ai, j_aii, j_ail, j_aid, j_air, j_st1, j_st2, j_stu, j_kl, j_cond, j_args, j_out, j_few, j_cw, j_nat, j_pad, j_exp, Nat.reduceAdd]
    exact ⟨trivial, H0 i hi rfl⟩
  · simp only [rIn_n (by omega) g1, Bool.false_eq_true, if_false, if_true]
    refine b_X9_formattedByte_28 hG ?_
    dsimp only [q_X9_formattedByte_28, j_wp, j_opB, j_opA, j_nth, j_i1, j_i2, j_l1, j_l2, j_li, j_f1, j_f2, j_d1, j_d2, j_r1, j_ai, j_aii, j_ail, j_aid, j_air, j_st1, j_st2, j_stu, j_kl, j_cond, j_args, j_out, j_few, j_cw, j_nat, j_pad, j_exp, Nat.reduceAdd]
    refine b_X9_formattedByte_29 hG ?_
    dsimp only [q_X9_formattedByte_29, j_wp, j_opB, j_opA, j_nth, j_i1, j_i2, j_l1, j_l2, j_li, j_f1, j_f2, j_d1, j_d2, j_r1, j_ai, j_aii, j_ail, j_aid, j_air, j_st1, j_st2, j_stu, j_kl, j_cond, j_args, j_out, j_few, j_cw, j_nat, j_pad, j_exp, Nat.reduceAdd]
    exact ⟨trivial, H1 g1⟩
end RFm
