/-! ===== the reference: reading tokens ===== -/
section RTy
variable {l : Launch} {D : va_G} {bs : Nat} {E : j_E} {h0 h : j_H} {m : Nat} {d : Nat} {Q : j_O → j_H → Prop} {B : Nat → Int32} {sz len : Nat} {p : Tk} {Md : Rf}
/-- the token p, as the reference has it: kind 5 is an error -/
def RTk (h : j_H) (m : Nat) (B : Nat → Int32) (len : Nat) (p : Tk) : Prop := j_I h m 17 = nI (tkE p) ∧ j_I h m 18 = nI (tkS p) ∧ tkOk len p ∧ tkD B len p ∧ (tkK p ≠ 5 → j_I h m 19 = tkNo (tkK p) ∧ j_I h m 20 = 0 ∧ tkC p = 0 ∧ tkA p = -1) ∧ (tkK p = 5 → j_I h m 20 = tkC p ∧ tkC p ≠ 0 ∧ j_I h m 21 = tkA p)
def pA2 (m : Nat) : Nat → Prop := fun b => b = m + 2
def pF2 : Nat → Prop := fun k => 16 ≤ k ∧ k ≤ 21
/-- the reference reads a text: the buffer, the token, the draft -/
def PR (E : j_E) (bs : Nat) (h0 : j_H) (m : Nat) (B : Nat → Int32) (sz len : Nat) (p : Tk) (Md : Rf) (h : j_H) : Prop := RB h m B sz len ∧ RTk h m B len p ∧ RG (j_I h (m + 2)) Md ∧ FM (pA2 m) m pF2 h0 h ∧ j_bd E h ∧ KS E bs h ∧ bs ≤ m
theorem KS_FM {A F : Nat → Prop} {h' : j_H} (k : KS E bs h) (hF : FM A m F h h') (hm : bs ≤ m) (hA : ∀ b, A b → bs ≤ b) : KS E bs h' := by
  intro i z hz hi
  obtain ⟨k1, ⟨k2, k3, k4, k5, b, k6, k7, k8⟩, k9⟩ := k i z hz hi
  obtain ⟨f1, f2, f3, f4, f5, f6, f7, f8⟩ := hF
  have hb := k9 b k6
  have n1 : ¬ A (E.1 i) := fun y => by have := hA _ y; omega
  have n2 : ¬ A b := fun y => by have := hA _ y; omega
  exact ⟨k1, ⟨by rw [f1]; exact k2, by rw [f7 _ _ n1 (fun y => by omega)]; exact k3, k4, k5, b, by rw [f2]; exact k6, by rw [f1]; exact k7, fun j hj => by rw [f7 _ _ n2 (fun y => by omega)]; exact k8 j hj⟩, fun b' hb' => k9 b' (by rw [f2] at hb'; exact hb')⟩
theorem PR_b (s : PR E bs h0 m B sz len p Md h) : RB h m B sz len := s.1
theorem PR_t (s : PR E bs h0 m B sz len p Md h) : RTk h m B len p := s.2.1
theorem PR_g (s : PR E bs h0 m B sz len p Md h) : RG (j_I h (m + 2)) Md := s.2.2.1
theorem PR_f (s : PR E bs h0 m B sz len p Md h) : FM (pA2 m) m pF2 h0 h := s.2.2.2.1
theorem PR_B (s : PR E bs h0 m B sz len p Md h) : j_bd E h := s.2.2.2.2.1
theorem PR_k (s : PR E bs h0 m B sz len p Md h) : KS E bs h := s.2.2.2.2.2.1
theorem PR_m (s : PR E bs h0 m B sz len p Md h) : bs ≤ m := s.2.2.2.2.2.2
theorem PR_o (s : PR E bs h0 m B sz len p Md h) : tkOk len p := s.2.1.2.2.1
theorem PR_mk (s : PR E bs h0 m B sz len p Md h) : mk h m := s.1.1
theorem PR_sh (s : PR E bs h0 m B sz len p Md h) : j_sh h m = some (.inr 11) := mk_sh s.1.1
theorem PR_17 (s : PR E bs h0 m B sz len p Md h) : j_I h m 17 = nI (tkE p) := s.2.1.1
theorem PR_18 (s : PR E bs h0 m B sz len p Md h) : j_I h m 18 = nI (tkS p) := s.2.1.2.1
theorem PR_e0 (s : PR E bs h0 m B sz len p Md h) (g : tkK p ≠ 5) : j_I h m 20 = 0 := (s.2.1.2.2.2.2.1 g).2.1
theorem PR_19 (s : PR E bs h0 m B sz len p Md h) (g : tkK p ≠ 5) : j_I h m 19 = tkNo (tkK p) := (s.2.1.2.2.2.2.1 g).1
theorem PR_e5 (s : PR E bs h0 m B sz len p Md h) (g : tkK p = 5) : ¬ j_I h m 20 = 0 := by rw [(s.2.1.2.2.2.2.2 g).1]; exact (s.2.1.2.2.2.2.2 g).2.1
theorem PR_bd {q : Tk} {Md' : Rf} {h' : j_H} {A F : Nat → Prop} (s : PR E bs h0 m B sz len p Md h) (f : FM A m F h h') (hA : ∀ b, A b → pA2 m b) (hF : ∀ k, F k → pF2 k) (h16 : ¬ F 16) (t : RTk h' m B len q) (g : RG (j_I h' (m + 2)) Md') : PR E bs h0 m B sz len q Md' h' := by
  have f' := FM_mono f hA hF
  refine ⟨RB_FM s.1 f (fun z => by have := hA _ z; unfold pA2 at this; omega) (fun z => by have := hA _ z; unfold pA2 at this; omega) (fun z => by have := hF _ z; unfold pF2 at this; omega) h16, t, g, FM_tr (PR_f s) f', FM_bd f (PR_B s), KS_FM (PR_k s) f' (PR_m s) (fun b z => by have := PR_m s; unfold pA2 at z; omega), PR_m s⟩
theorem PR_gA {h' : j_H} {F : Nat → Prop} (s : PR E bs h0 m B sz len p Md h) (f : FM nA m F h h') : RG (j_I h' (m + 2)) Md := RG_cp (PR_g s) (fun k _ => f.2.2.2.2.2.2.1 _ _ id (fun z => absurd z.1 (by omega)))
theorem sp_X9_scan (hl : l.stackTraces = false) (s : PR E bs h0 m B sz len p Md h) (g : tkK p ≠ 5) (H : ∀ h', PR E bs h0 m B sz len (tNext B len p) Md h' → Q (.inl none) h') : j_Met l D bs E (d + 3) n_X9_scan [.ref m] h Q := by
  refine sp_X9_scan0 hl (PR_b s) (PR_B s) (PR_o s).2.2.1 (PR_17 s) (fun h1 f1 x1 x2 x3 => ?_)
  have en : tNext B len p = ((tok B len (tkE p)).1, (tok B len (tkE p)).2.1, (tok B len (tkE p)).2.2, tkC p, tkA p) := by unfold tNext; rw [if_neg g]
  have hk := (tok_le (B := B) (PR_o s).2.2.1).1
  obtain ⟨t1, t2, t3, t4, t5, t6⟩ := PR_t s
  have k20 : j_I h1 m 20 = j_I h m 20 := f1.2.2.2.2.2.2.1 _ _ id (fun z => by have := z.2; unfold sF3 at this; omega)
  refine H h1 (PR_bd s f1 (fun b z => z.elim) (fun k z => by unfold sF3 at z; unfold pF2; omega) (fun z => by unfold sF3 at z; omega) ⟨?_, ?_, tNext_ok t3, tNext_d t3 t4, fun _ => ?_, fun z => ?_⟩ (PR_gA s f1))
  · rw [en]; exact x1
  · rw [en]; exact x2
  · rw [en]
    exact ⟨x3, by rw [k20]; exact (t5 g).2.1, (t5 g).2.2⟩
  · rw [en] at z
    have z1 : (tok B len (tkE p)).1 = 5 := z
    omega
theorem sp_X9_fail (hl : l.stackTraces = false) (s : PR E bs h0 m B sz len p Md h) {c : Int32} (hc : c ≠ 0) (H : ∀ h', PR E bs h0 m B sz len (tFail p c) Md h' → Q (.inl none) h') : j_Met l D bs E (d + 1) n_X9_fail [.ref m, .int c] h Q := by
  have hB := PR_B s
  unfold tFail at H
  refine j_meth hl rfl g_X9_fail (Nat.le_of_ble_eq_true rfl) (fun _ => ⟨_, _, rfl, (PR_sh s)⟩) hB.1 hB.2 (fun G hG => ?_)
  refine b_X9_fail_0 hG ?_
  dsimp only [q_X9_fail_0, j_wp, j_opB, j_opA, j_nth, j_i1, j_i2, j_l1, j_l2, j_li, j_f1, j_f2, j_d1, j_d2, j_r1, j_ai, j_aii, j_ail, j_aid, j_air, j_st1, j_st2, j_stu, j_kl, j_cond, j_args, j_out, j_few, j_cw, j_nat, j_pad, j_exp, Nat.reduceAdd]
  simp only [PR_sh s, j_ref, j_ari, j_arb, j_arr, j_len, j_nar, j_oi, j_ol, j_of, j_od, j_or, j_ov, true_and, and_true]
  by_cases g : tkK p = 5
  · rw [if_pos g] at H
    rw [if_neg (PR_e5 s g)]
    refine b_X9_fail_20 hG ?_
    dsimp only [q_X9_fail_20, j_wp, j_opB, j_opA, j_nth, j_i1, j_i2, j_l1, j_l2, j_li, j_f1, j_f2, j_d1, j_d2, j_r1, j_ai, j_aii, j_ail, j_aid, j_air, j_st1, j_st2, j_stu, j_kl, j_cond, j_args, j_out, j_few, j_cw, j_nat, j_pad, j_exp, Nat.reduceAdd]
    exact H h s
  · rw [if_neg g] at H
    rw [if_pos (PR_e0 s g)]
    have e18 : j_I (j_setI h m 20 c) m 18 = nI (tkS p) := by rw [jh_In (by omega)]; exact PR_18 s
    have sh : j_sh (j_setI h m 20 c) m = some (.inr 11) := by have z9 := PR_sh s; exact z9
    simp only [PR_sh s, sh, e18, j_ref, j_ari, j_arb, j_arr, j_len, j_nar, j_oi, j_ol, j_of, j_od, j_or, j_ov, true_and, and_true]
    have f1 : FM nA m (fun k => k = 20 ∨ k = 21) h (j_setI (j_setI h m 20 c) m 21 (nI (tkS p))) := FM_I (FM_I FM_rf (Or.inl rfl)) (Or.inr rfl)
    obtain ⟨t1, t2, t3, t4, t5, t6⟩ := PR_t s
    refine b_X9_fail_20 hG ?_
    dsimp only [q_X9_fail_20, j_wp, j_opB, j_opA, j_nth, j_i1, j_i2, j_l1, j_l2, j_li, j_f1, j_f2, j_d1, j_d2, j_r1, j_ai, j_aii, j_ail, j_aid, j_air, j_st1, j_st2, j_stu, j_kl, j_cond, j_args, j_out, j_few, j_cw, j_nat, j_pad, j_exp, Nat.reduceAdd]
    refine H _ (PR_bd s f1 (fun b z => z.elim) (fun k z => by unfold pF2; omega) (by omega) ⟨?_, ?_, ?_, ?_, fun z => absurd rfl z, fun _ => ⟨?_, hc, jh_Is _ _ _ _⟩⟩ (PR_gA s f1))
    · rw [jh_In (by omega), jh_In (by omega)]; exact t1
    · rw [jh_In (by omega), jh_In (by omega)]; exact t2
    · have := tFail_ok (c := c) t3
      unfold tFail at this
      rw [if_neg g] at this
      exact this
    · have := tFail_d (c := c) t4
      unfold tFail at this
      rw [if_neg g] at this
      exact this
    · rw [jh_In (by omega)]
      exact jh_Is _ _ _ _
theorem sp_X9_check (hl : l.stackTraces = false) (s : PR E bs h0 m B sz len p Md h) {v c : Int32} (hc : c ≠ 0) (H : ∀ h', PR E bs h0 m B sz len (if v = 0 then tFail p c else p) Md h' → Q (.inl none) h') : j_Met l D bs E (d + 2) n_X9_check [.ref m, .int v, .int c] h Q := by
  have hB := PR_B s
  refine j_meth hl rfl g_X9_check (Nat.le_of_ble_eq_true rfl) (fun _ => ⟨_, _, rfl, (PR_sh s)⟩) hB.1 hB.2 (fun G hG => ?_)
  refine b_X9_check_0 hG ?_
  dsimp only [q_X9_check_0, j_wp, j_opB, j_opA, j_nth, j_i1, j_i2, j_l1, j_l2, j_li, j_f1, j_f2, j_d1, j_d2, j_r1, j_ai, j_aii, j_ail, j_aid, j_air, j_st1, j_st2, j_stu, j_kl, j_cond, j_args, j_out, j_few, j_cw, j_nat, j_pad, j_exp, Nat.reduceAdd]
  by_cases g : v = 0
  · rw [if_pos g] at H ⊢
    refine sp_X9_fail hl s hc (fun h1 s1 => ?_)
    simp only [j_ref, j_ari, j_arb, j_arr, j_len, j_nar, j_oi, j_ol, j_of, j_od, j_or, j_ov, true_and, and_true]
    refine b_X9_check_9 hG ?_
    dsimp only [q_X9_check_9, j_wp, j_opB, j_opA, j_nth, j_i1, j_i2, j_l1, j_l2, j_li, j_f1, j_f2, j_d1, j_d2, j_r1, j_ai, j_aii, j_ail, j_aid, j_air, j_st1, j_st2, j_stu, j_kl, j_cond, j_args, j_out, j_few, j_cw, j_nat, j_pad, j_exp, Nat.reduceAdd]
    exact H h1 s1
  · rw [if_neg g] at H ⊢
    refine b_X9_check_9 hG ?_
    dsimp only [q_X9_check_9, j_wp, j_opB, j_opA, j_nth, j_i1, j_i2, j_l1, j_l2, j_li, j_f1, j_f2, j_d1, j_d2, j_r1, j_ai, j_aii, j_ail, j_aid, j_air, j_st1, j_st2, j_stu, j_kl, j_cond, j_args, j_out, j_few, j_cw, j_nat, j_pad, j_exp, Nat.reduceAdd]
    exact H h s
theorem sp_X9_advance (hl : l.stackTraces = false) (s : PR E bs h0 m B sz len p Md h) (H : ∀ h', PR E bs h0 m B sz len (tNext B len p) Md h' → Q (.inl none) h') : j_Met l D bs E (d + 4) n_X9_advance [.ref m] h Q := by
  have hB := PR_B s
  refine j_meth hl rfl g_X9_advance (Nat.le_of_ble_eq_true rfl) (fun _ => ⟨_, _, rfl, (PR_sh s)⟩) hB.1 hB.2 (fun G hG => ?_)
  refine b_X9_advance_0 hG ?_
  dsimp only [q_X9_advance_0, j_wp, j_opB, j_opA, j_nth, j_i1, j_i2, j_l1, j_l2, j_li, j_f1, j_f2, j_d1, j_d2, j_r1, j_ai, j_aii, j_ail, j_aid, j_air, j_st1, j_st2, j_stu, j_kl, j_cond, j_args, j_out, j_few, j_cw, j_nat, j_pad, j_exp, Nat.reduceAdd]
  simp only [PR_sh s, j_ref, j_ari, j_arb, j_arr, j_len, j_nar, j_oi, j_ol, j_of, j_od, j_or, j_ov, true_and, and_true]
  by_cases g : tkK p = 5
  · have e : tNext B len p = p := by unfold tNext; rw [if_pos g]
    rw [e] at H
    rw [if_neg (PR_e5 s g)]
    refine b_X9_advance_11 hG ?_
    dsimp only [q_X9_advance_11, j_wp, j_opB, j_opA, j_nth, j_i1, j_i2, j_l1, j_l2, j_li, j_f1, j_f2, j_d1, j_d2, j_r1, j_ai, j_aii, j_ail, j_aid, j_air, j_st1, j_st2, j_stu, j_kl, j_cond, j_args, j_out, j_few, j_cw, j_nat, j_pad, j_exp, Nat.reduceAdd]
    exact H h s
  · rw [if_pos (PR_e0 s g)]
    refine sp_X9_scan hl s g (fun h1 s1 => ?_)
    simp only [j_ref, j_ari, j_arb, j_arr, j_len, j_nar, j_oi, j_ol, j_of, j_od, j_or, j_ov, true_and, and_true]
    refine b_X9_advance_11 hG ?_
    dsimp only [q_X9_advance_11, j_wp, j_opB, j_opA, j_nth, j_i1, j_i2, j_l1, j_l2, j_li, j_f1, j_f2, j_d1, j_d2, j_r1, j_ai, j_aii, j_ail, j_aid, j_air, j_st1, j_st2, j_stu, j_kl, j_cond, j_args, j_out, j_few, j_cw, j_nat, j_pad, j_exp, Nat.reduceAdd]
    exact H h1 s1
theorem tkNo_3 {k : Nat} (h : k ≠ 1) (h4 : k ≤ 5) (h5 : k ≠ 5) : tkNo k = 3 ↔ k = 4 := by
  unfold tkNo
  constructor
  · intro e
    split at e
    · exact absurd e (by decide)
    · split at e
      · exact absurd e (by decide)
      · split at e
        · exact absurd e (by decide)
        · omega
  · intro e
    subst e
    rfl
theorem tkNo_1 {k : Nat} : tkNo k = 1 ↔ k = 2 := by
  unfold tkNo
  constructor
  · intro e
    split at e
    · exact absurd e (by decide)
    · split at e
      · assumption
      · split at e <;> exact absurd e (by decide)
  · intro e
    subst e
    rfl
theorem tkNo_2 {k : Nat} : tkNo k = 2 ↔ k = 3 := by
  unfold tkNo
  constructor
  · intro e
    split at e
    · exact absurd e (by decide)
    · split at e
      · exact absurd e (by decide)
      · split at e
        · assumption
        · exact absurd e (by decide)
  · intro e
    subst e
    rfl
theorem tkNo_0 {k : Nat} : tkNo k = 0 ↔ k = 0 := by
  unfold tkNo
  constructor
  · intro e
    split at e
    · assumption
    · split at e
      · exact absurd e (by decide)
      · split at e <;> exact absurd e (by decide)
  · intro e
    subst e
    rfl
theorem sp_X9_isSymbol (hl : l.stackTraces = false) (s : PR E bs h0 m B sz len p Md h) {c : Nat} (hc : c < 128) (H : Q (.inl (some (.int (if tIsS B p c = true then 1 else 0)))) h) : j_Met l D bs E (d + 1) n_X9_isSymbol [.ref m, .int (nI c)] h Q := by
  have hB := PR_B s
  have hlen := RB_l (PR_b s)
  unfold tIsS at H
  refine j_meth hl rfl g_X9_isSymbol (Nat.le_of_ble_eq_true rfl) (fun _ => ⟨_, _, rfl, (PR_sh s)⟩) hB.1 hB.2 (fun G hG => ?_)
  have no : ¬ (tkK p = 4 ∧ B (tkS p) = nI c) → G 32 [.ref m, .int (nI c)] [] h := by
    intro z
    rw [if_neg (fun y => z (by simpa using y))] at H
    refine b_X9_isSymbol_32 hG ?_
    dsimp only [q_X9_isSymbol_32, j_wp, j_opB, j_opA, j_nth, j_i1, j_i2, j_l1, j_l2, j_li, j_f1, j_f2, j_d1, j_d2, j_r1, j_ai, j_aii, j_ail, j_aid, j_air, j_st1, j_st2, j_stu, j_kl, j_cond, j_args, j_out, j_few, j_cw, j_nat, j_pad, j_exp, Nat.reduceAdd]
    refine b_X9_isSymbol_33 hG ?_
    dsimp only [q_X9_isSymbol_33, j_wp, j_opB, j_opA, j_nth, j_i1, j_i2, j_l1, j_l2, j_li, j_f1, j_f2, j_d1, j_d2, j_r1, j_ai, j_aii, j_ail, j_aid, j_air, j_st1, j_st2, j_stu, j_kl, j_cond, j_args, j_out, j_few, j_cw, j_nat, j_pad, j_exp, Nat.reduceAdd]
    exact ⟨(by first | exact Or.inl rfl | exact Or.inr rfl | decide), H⟩
  refine b_X9_isSymbol_0 hG ?_
  dsimp only [q_X9_isSymbol_0, j_wp, j_opB, j_opA, j_nth, j_i1, j_i2, j_l1, j_l2, j_li, j_f1, j_f2, j_d1, j_d2, j_r1, j_ai, j_aii, j_ail, j_aid, j_air, j_st1, j_st2, j_stu, j_kl, j_cond, j_args, j_out, j_few, j_cw, j_nat, j_pad, j_exp, Nat.reduceAdd]
  simp only [PR_sh s, RB_14 (PR_b s), RB_a (PR_b s), PR_18 s, j_ref, j_ari, j_arb, j_arr, j_len, j_nar, j_oi, j_ol, j_of, j_od, j_or, j_ov, true_and, and_true]
  by_cases g : tkK p = 5
  · rw [if_neg (PR_e5 s g)]
    exact no (fun z => by omega)
  · rw [if_pos (PR_e0 s g), PR_19 s g]
    by_cases g4 : tkK p = 4
    · rw [if_pos ((tkNo_3 (PR_t s).2.2.2.1.1 (PR_o s).1 g).mpr g4)]
      have hs : tkS p < 800 := by have := (PR_o s).2.2.2.1 g4; have := (PR_o s).2.2.1; omega
      refine ⟨vp_in_nI hs (by omega), ?_⟩
      rw [nI_clamp (by omega)]
      have hb := bRel_e ((PR_b s).2.1 (tkS p) hs) hc
      by_cases g2 : B (tkS p) = nI c
      · rw [if_pos (hb.mpr g2)]
        rw [if_pos (by simp [g4, g2])] at H
        refine b_X9_isSymbol_33 hG ?_
        dsimp only [q_X9_isSymbol_33, j_wp, j_opB, j_opA, j_nth, j_i1, j_i2, j_l1, j_l2, j_li, j_f1, j_f2, j_d1, j_d2, j_r1, j_ai, j_aii, j_ail, j_aid, j_air, j_st1, j_st2, j_stu, j_kl, j_cond, j_args, j_out, j_few, j_cw, j_nat, j_pad, j_exp, Nat.reduceAdd]
        exact ⟨(by first | exact Or.inl rfl | exact Or.inr rfl | decide), H⟩
      · rw [if_neg (fun z => g2 (hb.mp z))]
        exact no (fun z => g2 z.2)
    · rw [if_neg (fun z => g4 ((tkNo_3 (PR_t s).2.2.2.1.1 (PR_o s).1 g).mp z))]
      exact no (fun z => g4 z.1)
set_option maxRecDepth 8000 in
theorem sp_X9_isWord (hl : l.stackTraces = false) (hJ : JS l D bs E) (s : PR E bs h0 m B sz len p Md h) (i : Nat) {z : String × Nat × String} (hz : j_strs[i]? = some z) (hi : i < 69) (H : Q (.inl (some (.int (if tIsW B p (wd z.2.2) = true then 1 else 0)))) h) : j_Met l D bs E (d + 4) n_X9_isWord [.ref m, .ref (E.1 i)] h Q := by
  have hB := PR_B s
  have hlen := RB_l (PR_b s)
  have k := KS_at (PR_k s) i hz hi
  generalize wd z.2.2 = w at *
  have hw : w.length < 1000 := k.2.2.1
  have hw8 := k.2.2.2.1
  obtain ⟨o1, o2, o3, o4, o5⟩ := PR_o s
  refine j_meth hl rfl g_X9_isWord (Nat.le_of_ble_eq_true rfl) (fun _ => ⟨_, _, rfl, (PR_sh s)⟩) hB.1 hB.2 (fun G hG => ?_)
  -- what the loop finds: the first n letters were right
  have fin : ∀ (v : Int32) (x : Value), (v = 0 ∨ v = 1) → Q (.inl (some (.int v))) h → G 82 [.ref m, .ref (E.1 i), .int v, x] [] h := by
    intro v x hv K
    refine b_X9_isWord_82 hG ?_
    dsimp only [q_X9_isWord_82, j_wp, j_opB, j_opA, j_nth, j_i1, j_i2, j_l1, j_l2, j_li, j_f1, j_f2, j_d1, j_d2, j_r1, j_ai, j_aii, j_ail, j_aid, j_air, j_st1, j_st2, j_stu, j_kl, j_cond, j_args, j_out, j_few, j_cw, j_nat, j_pad, j_exp, Nat.reduceAdd]
    exact ⟨hv, K⟩
  have no : ∀ (x : Value), tIsW B p w = false → G 39 [.ref m, .ref (E.1 i), .int 0, x] [] h := by
    intro x e
    simp only [e, Bool.false_eq_true, if_false] at H
    refine b_X9_isWord_39 hG ?_
    dsimp only [q_X9_isWord_39, j_wp, j_opB, j_opA, j_nth, j_i1, j_i2, j_l1, j_l2, j_li, j_f1, j_f2, j_d1, j_d2, j_r1, j_ai, j_aii, j_ail, j_aid, j_air, j_st1, j_st2, j_stu, j_kl, j_cond, j_args, j_out, j_few, j_cw, j_nat, j_pad, j_exp, Nat.reduceAdd]
    first | rw [if_pos rfl] | rw [if_pos trivial]
    exact fin 0 x (Or.inl rfl) H
  have loop : tkK p = 2 → tkE p = tkS p + w.length → ∀ (j n : Nat), n + j = w.length → (∀ a, a < n → B (tkS p + a) = nI (w.getD a 0)) → G 39 [.ref m, .ref (E.1 i), .int 1, .int (nI n)] [] h := by
    intro g2 ge j
    induction j with
    | zero =>
      intro n hn ha
      have e : tIsW B p w = true := by
        unfold tIsW
        simp only [g2, ge, decide_true, Bool.true_and, decide_eq_true_eq]
        exact fun a h1 => ha a (by omega)
      simp only [e, if_true] at H
      refine b_X9_isWord_39 hG ?_
      dsimp only [q_X9_isWord_39, j_wp, j_opB, j_opA, j_nth, j_i1, j_i2, j_l1, j_l2, j_li, j_f1, j_f2, j_d1, j_d2, j_r1, j_ai, j_aii, j_ail, j_aid, j_air, j_st1, j_st2, j_stu, j_kl, j_cond, j_args, j_out, j_few, j_cw, j_nat, j_pad, j_exp, Nat.reduceAdd]
      rw [if_neg (by decide)]
      refine hJ.1 _ h _ w _ k hB ?_
      simp only [j_ref, j_ari, j_arb, j_arr, j_len, j_nar, j_oi, j_ol, j_of, j_od, j_or, j_ov, true_and, and_true]
      rw [if_neg (nI_nlt (by omega) (by omega))]
      exact fin 1 _ (Or.inr rfl) H
    | succ j ih =>
      intro n hn ha
      refine b_X9_isWord_39 hG ?_
      dsimp only [q_X9_isWord_39, j_wp, j_opB, j_opA, j_nth, j_i1, j_i2, j_l1, j_l2, j_li, j_f1, j_f2, j_d1, j_d2, j_r1, j_ai, j_aii, j_ail, j_aid, j_air, j_st1, j_st2, j_stu, j_kl, j_cond, j_args, j_out, j_few, j_cw, j_nat, j_pad, j_exp, Nat.reduceAdd]
      rw [if_neg (by decide)]
      refine hJ.1 _ h _ w _ k hB ?_
      simp only [j_ref, j_ari, j_arb, j_arr, j_len, j_nar, j_oi, j_ol, j_of, j_od, j_or, j_ov, true_and, and_true]
      rw [if_pos (nI_lt (by omega) (by omega))]
      refine hJ.2 _ h _ w n _ k hB (by omega) ?_
      simp only [PR_sh s, RB_14 (PR_b s), RB_a (PR_b s), PR_18 s, nI_add, j_ref, j_ari, j_arb, j_arr, j_len, j_nar, j_oi, j_ol, j_of, j_od, j_or, j_ov, true_and, and_true]
      have hs : tkS p + n < 800 := by omega
      refine ⟨vp_in_nI hs (by omega), ?_⟩
      rw [nI_clamp (by omega)]
      have hb := bRel_e ((PR_b s).2.1 (tkS p + n) hs) (hw8 n (by omega))
      by_cases g3 : B (tkS p + n) = nI (w.getD n 0)
      · rw [if_pos (hb.mpr g3).symm]
        refine b_X9_isWord_75 hG ?_
        dsimp only [q_X9_isWord_75, j_wp, j_opB, j_opA, j_nth, j_i1, j_i2, j_l1, j_l2, j_li, j_f1, j_f2, j_d1, j_d2, j_r1, j_ai, j_aii, j_ail, j_aid, j_air, j_st1, j_st2, j_stu, j_kl, j_cond, j_args, j_out, j_few, j_cw, j_nat, j_pad, j_exp, Nat.reduceAdd]
        rw [nI_1]
        refine ih (n + 1) (by omega) (fun a h1 => ?_)
        by_cases ea : a = n
        · rw [ea]; exact g3
        · exact ha a (by omega)
      · rw [if_neg (fun y => g3 (hb.mp y.symm))]
        refine b_X9_isWord_74 hG ?_
        dsimp only [q_X9_isWord_74, j_wp, j_opB, j_opA, j_nth, j_i1, j_i2, j_l1, j_l2, j_li, j_f1, j_f2, j_d1, j_d2, j_r1, j_ai, j_aii, j_ail, j_aid, j_air, j_st1, j_st2, j_stu, j_kl, j_cond, j_args, j_out, j_few, j_cw, j_nat, j_pad, j_exp, Nat.reduceAdd]
        refine b_X9_isWord_75 hG ?_
        dsimp only [q_X9_isWord_75, j_wp, j_opB, j_opA, j_nth, j_i1, j_i2, j_l1, j_l2, j_li, j_f1, j_f2, j_d1, j_d2, j_r1, j_ai, j_aii, j_ail, j_aid, j_air, j_st1, j_st2, j_stu, j_kl, j_cond, j_args, j_out, j_few, j_cw, j_nat, j_pad, j_exp, Nat.reduceAdd]
        refine no _ ?_
        unfold tIsW
        simp only [g2, ge, decide_true, Bool.true_and, decide_eq_false_iff_not]
        exact fun y => g3 (y n (by omega))
  have n35 : tIsW B p w = false → G 35 [.ref m, .ref (E.1 i), j_u, j_u] [] h := by
    intro e
    refine b_X9_isWord_35 hG ?_
    dsimp only [q_X9_isWord_35, j_wp, j_opB, j_opA, j_nth, j_i1, j_i2, j_l1, j_l2, j_li, j_f1, j_f2, j_d1, j_d2, j_r1, j_ai, j_aii, j_ail, j_aid, j_air, j_st1, j_st2, j_stu, j_kl, j_cond, j_args, j_out, j_few, j_cw, j_nat, j_pad, j_exp, Nat.reduceAdd]
    refine b_X9_isWord_36 hG ?_
    dsimp only [q_X9_isWord_36, j_wp, j_opB, j_opA, j_nth, j_i1, j_i2, j_l1, j_l2, j_li, j_f1, j_f2, j_d1, j_d2, j_r1, j_ai, j_aii, j_ail, j_aid, j_air, j_st1, j_st2, j_stu, j_kl, j_cond, j_args, j_out, j_few, j_cw, j_nat, j_pad, j_exp, Nat.reduceAdd]
    exact no _ e
  refine b_X9_isWord_0 hG ?_
  dsimp only [q_X9_isWord_0, j_wp, j_opB, j_opA, j_nth, j_i1, j_i2, j_l1, j_l2, j_li, j_f1, j_f2, j_d1, j_d2, j_r1, j_ai, j_aii, j_ail, j_aid, j_air, j_st1, j_st2, j_stu, j_kl, j_cond, j_args, j_out, j_few, j_cw, j_nat, j_pad, j_exp, Nat.reduceAdd]
  simp only [PR_sh s, j_ref, j_ari, j_arb, j_arr, j_len, j_nar, j_oi, j_ol, j_of, j_od, j_or, j_ov, true_and, and_true]
  by_cases g : tkK p = 5
  · rw [if_neg (PR_e5 s g)]
    exact n35 (by unfold tIsW; simp [show ¬ tkK p = 2 by omega])
  · rw [if_pos (PR_e0 s g), PR_19 s g]
    by_cases g2 : tkK p = 2
    · rw [if_pos (tkNo_1.mpr g2)]
      refine hJ.1 _ h _ w _ k hB ?_
      simp only [PR_sh s, PR_17 s, PR_18 s, j_ref, j_ari, j_arb, j_arr, j_len, j_nar, j_oi, j_ol, j_of, j_od, j_or, j_ov, true_and, and_true]
      rw [pk_sub o2]
      by_cases g3 : tkE p = tkS p + w.length
      · rw [if_pos (show nI w.length = nI (tkE p - tkS p) by congr 1; omega)]
        refine b_X9_isWord_36 hG ?_
        dsimp only [q_X9_isWord_36, j_wp, j_opB, j_opA, j_nth, j_i1, j_i2, j_l1, j_l2, j_li, j_f1, j_f2, j_d1, j_d2, j_r1, j_ai, j_aii, j_ail, j_aid, j_air, j_st1, j_st2, j_stu, j_kl, j_cond, j_args, j_out, j_few, j_cw, j_nat, j_pad, j_exp, Nat.reduceAdd]
        exact loop g2 g3 w.length 0 (by omega) (fun a h1 => absurd h1 (by omega))
      · rw [if_neg (fun y => g3 (by have := (nI_eq (by omega) (by omega)).mp y; omega))]
        exact n35 (by unfold tIsW; simp [g3])
    · rw [if_neg (fun y => g2 (tkNo_1.mp y))]
      exact n35 (by unfold tIsW; simp [g2])
theorem sp_X9_accept (hl : l.stackTraces = false) (hJ : JS l D bs E) (s : PR E bs h0 m B sz len p Md h) (i : Nat) {z : String × Nat × String} (hz : j_strs[i]? = some z) (hi : i < 69) (H : ∀ h', PR E bs h0 m B sz len (if tIsW B p (wd z.2.2) = true then tNext B len p else p) Md h' → Q (.inl (some (.int (if tIsW B p (wd z.2.2) = true then 1 else 0)))) h') : j_Met l D bs E (d + 5) n_X9_accept [.ref m, .ref (E.1 i)] h Q := by
  have hB := PR_B s
  refine j_meth hl rfl g_X9_accept (Nat.le_of_ble_eq_true rfl) (fun _ => ⟨_, _, rfl, (PR_sh s)⟩) hB.1 hB.2 (fun G hG => ?_)
  refine b_X9_accept_0 hG ?_
  dsimp only [q_X9_accept_0, j_wp, j_opB, j_opA, j_nth, j_i1, j_i2, j_l1, j_l2, j_li, j_f1, j_f2, j_d1, j_d2, j_r1, j_ai, j_aii, j_ail, j_aid, j_air, j_st1, j_st2, j_stu, j_kl, j_cond, j_args, j_out, j_few, j_cw, j_nat, j_pad, j_exp, Nat.reduceAdd]
  refine sp_X9_isWord hl hJ s i hz hi ?_
  simp only [j_ref, j_ari, j_arb, j_arr, j_len, j_nar, j_oi, j_ol, j_of, j_od, j_or, j_ov, true_and, and_true, j_st1]
  by_cases g : tIsW B p (wd z.2.2) = true
  · simp only [g, if_true] at H ⊢
    rw [if_neg (by decide)]
    refine sp_X9_scan hl s ?_ (fun h1 s1 => ?_)
    · intro y
      unfold tIsW at g
      simp [y] at g
    · simp only [j_ref, j_ari, j_arb, j_arr, j_len, j_nar, j_oi, j_ol, j_of, j_od, j_or, j_ov, true_and, and_true]
      refine b_X9_accept_14 hG ?_
      dsimp only [q_X9_accept_14, j_wp, j_opB, j_opA, j_nth, j_i1, j_i2, j_l1, j_l2, j_li, j_f1, j_f2, j_d1, j_d2, j_r1, j_ai, j_aii, j_ail, j_aid, j_air, j_st1, j_st2, j_stu, j_kl, j_cond, j_args, j_out, j_few, j_cw, j_nat, j_pad, j_exp, Nat.reduceAdd]
      exact ⟨(by first | exact Or.inl rfl | exact Or.inr rfl | decide), H h1 s1⟩
  · simp only [g, Bool.false_eq_true, if_false, if_true] at H ⊢
    refine b_X9_accept_14 hG ?_
    dsimp only [q_X9_accept_14, j_wp, j_opB, j_opA, j_nth, j_i1, j_i2, j_l1, j_l2, j_li, j_f1, j_f2, j_d1, j_d2, j_r1, j_ai, j_aii, j_ail, j_aid, j_air, j_st1, j_st2, j_stu, j_kl, j_cond, j_args, j_out, j_few, j_cw, j_nat, j_pad, j_exp, Nat.reduceAdd]
    exact ⟨(by first | exact Or.inl rfl | exact Or.inr rfl | decide), H h s⟩
theorem sp_X9_expectWord (hl : l.stackTraces = false) (hJ : JS l D bs E) (s : PR E bs h0 m B sz len p Md h) (i : Nat) {z : String × Nat × String} (hz : j_strs[i]? = some z) (hi : i < 69) (H : ∀ h', PR E bs h0 m B sz len (tWord B len p (wd z.2.2)) Md h' → Q (.inl none) h') : j_Met l D bs E (d + 5) n_X9_expectWord [.ref m, .ref (E.1 i)] h Q := by
  have hB := PR_B s
  unfold tWord at H
  refine j_meth hl rfl g_X9_expectWord (Nat.le_of_ble_eq_true rfl) (fun _ => ⟨_, _, rfl, (PR_sh s)⟩) hB.1 hB.2 (fun G hG => ?_)
  refine b_X9_expectWord_0 hG ?_
  dsimp only [q_X9_expectWord_0, j_wp, j_opB, j_opA, j_nth, j_i1, j_i2, j_l1, j_l2, j_li, j_f1, j_f2, j_d1, j_d2, j_r1, j_ai, j_aii, j_ail, j_aid, j_air, j_st1, j_st2, j_stu, j_kl, j_cond, j_args, j_out, j_few, j_cw, j_nat, j_pad, j_exp, Nat.reduceAdd]
  refine sp_X9_isWord hl hJ s i hz hi ?_
  simp only [j_ref, j_ari, j_arb, j_arr, j_len, j_nar, j_oi, j_ol, j_of, j_od, j_or, j_ov, true_and, and_true]
  refine sp_X9_check hl s (by decide) (fun h1 s1 => ?_)
  simp only [j_ref, j_ari, j_arb, j_arr, j_len, j_nar, j_oi, j_ol, j_of, j_od, j_or, j_ov, true_and, and_true]
  refine sp_X9_advance hl s1 (fun h2 s2 => ?_)
  simp only [j_ref, j_ari, j_arb, j_arr, j_len, j_nar, j_oi, j_ol, j_of, j_od, j_or, j_ov, true_and, and_true]
  refine H h2 ?_
  by_cases g : tIsW B p (wd z.2.2) = true
  · simp only [g, if_true] at s2 ⊢
    rw [if_neg (by decide)] at s2
    exact s2
  · simp only [g, Bool.false_eq_true, if_false, if_true] at s2 ⊢
    exact s2
theorem sp_X9_expect (hl : l.stackTraces = false) (s : PR E bs h0 m B sz len p Md h) {c : Nat} (hc : c < 128) (H : ∀ h', PR E bs h0 m B sz len (tSign B len p c) Md h' → Q (.inl none) h') : j_Met l D bs E (d + 5) n_X9_expect [.ref m, .int (nI c)] h Q := by
  have hB := PR_B s
  unfold tSign at H
  refine j_meth hl rfl g_X9_expect (Nat.le_of_ble_eq_true rfl) (fun _ => ⟨_, _, rfl, (PR_sh s)⟩) hB.1 hB.2 (fun G hG => ?_)
  refine b_X9_expect_0 hG ?_
  dsimp only [q_X9_expect_0, j_wp, j_opB, j_opA, j_nth, j_i1, j_i2, j_l1, j_l2, j_li, j_f1, j_f2, j_d1, j_d2, j_r1, j_ai, j_aii, j_ail, j_aid, j_air, j_st1, j_st2, j_stu, j_kl, j_cond, j_args, j_out, j_few, j_cw, j_nat, j_pad, j_exp, Nat.reduceAdd]
  refine sp_X9_isSymbol hl s hc ?_
  simp only [j_ref, j_ari, j_arb, j_arr, j_len, j_nar, j_oi, j_ol, j_of, j_od, j_or, j_ov, true_and, and_true]
  refine sp_X9_check hl s (by decide) (fun h1 s1 => ?_)
  simp only [j_ref, j_ari, j_arb, j_arr, j_len, j_nar, j_oi, j_ol, j_of, j_od, j_or, j_ov, true_and, and_true]
  refine sp_X9_advance hl s1 (fun h2 s2 => ?_)
  simp only [j_ref, j_ari, j_arb, j_arr, j_len, j_nar, j_oi, j_ol, j_of, j_od, j_or, j_ov, true_and, and_true]
  refine H h2 ?_
  by_cases g : tIsS B p c = true
  · simp only [g, if_true] at s2 ⊢
    rw [if_neg (by decide)] at s2
    exact s2
  · simp only [g, Bool.false_eq_true, if_false, if_true] at s2 ⊢
    exact s2
theorem min6 (a : Int32) : (if a < 1000000 then a else 1000000) = (if 1000000 < a then 1000000 else a) := by
  by_cases h1 : a < 1000000
  · rw [if_pos h1, if_neg (fun z => by have := Int32.lt_iff_toInt_lt.mp z; have := Int32.lt_iff_toInt_lt.mp h1; omega)]
  · rw [if_neg h1]
    by_cases h2 : 1000000 < a
    · rw [if_pos h2]
    · rw [if_neg h2]
      have e1 : ¬ a.toInt < 1000000 := fun y => h1 (Int32.lt_iff_toInt_lt.mpr y)
      have e2 : ¬ 1000000 < a.toInt := fun y => h2 (Int32.lt_iff_toInt_lt.mpr y)
      exact Int32.toInt_inj.mp (by show (1000000 : Int) = a.toInt; omega)
/-- the number's value; anything if it is none -/
theorem sp_X9_value (hl : l.stackTraces = false) (s : PR E bs h0 m B sz len p Md h) (H : ∀ v, (tkK p = 3 → v = tNum B p) → Q (.inl (some (.int v))) h) : j_Met l D bs E (d + 1) n_X9_value [.ref m] h Q := by
  have hB := PR_B s
  have hlen := RB_l (PR_b s)
  obtain ⟨o1, o2, o3, o4, o5⟩ := PR_o s
  refine j_meth hl rfl g_X9_value (Nat.le_of_ble_eq_true rfl) (fun _ => ⟨_, _, rfl, (PR_sh s)⟩) hB.1 hB.2 (fun G hG => ?_)
  have loop : ∀ (k i : Nat) (v : Int32), i + k = tkE p → tkS p ≤ i → (tkK p = 3 → tNumL B k i v = tNum B p) → G 7 [.ref m, .int v, .int (nI i)] [] h := by
    intro k
    induction k with
    | zero =>
      intro i v hi hs e
      refine b_X9_value_7 hG ?_
      dsimp only [q_X9_value_7, j_wp, j_opB, j_opA, j_nth, j_i1, j_i2, j_l1, j_l2, j_li, j_f1, j_f2, j_d1, j_d2, j_r1, j_ai, j_aii, j_ail, j_aid, j_air, j_st1, j_st2, j_stu, j_kl, j_cond, j_args, j_out, j_few, j_cw, j_nat, j_pad, j_exp, Nat.reduceAdd]
      simp only [PR_sh s, PR_17 s, j_ref, j_ari, j_arb, j_arr, j_len, j_nar, j_oi, j_ol, j_of, j_od, j_or, j_ov, true_and, and_true]
      rw [if_neg (nI_nlt (by omega) (by omega))]
      refine b_X9_value_49 hG ?_
      dsimp only [q_X9_value_49, j_wp, j_opB, j_opA, j_nth, j_i1, j_i2, j_l1, j_l2, j_li, j_f1, j_f2, j_d1, j_d2, j_r1, j_ai, j_aii, j_ail, j_aid, j_air, j_st1, j_st2, j_stu, j_kl, j_cond, j_args, j_out, j_few, j_cw, j_nat, j_pad, j_exp, Nat.reduceAdd]
      exact ⟨trivial, H v (fun g => e g)⟩
    | succ k ih =>
      intro i v hi hs e
      unfold tNumL at e
      refine b_X9_value_7 hG ?_
      dsimp only [q_X9_value_7, j_wp, j_opB, j_opA, j_nth, j_i1, j_i2, j_l1, j_l2, j_li, j_f1, j_f2, j_d1, j_d2, j_r1, j_ai, j_aii, j_ail, j_aid, j_air, j_st1, j_st2, j_stu, j_kl, j_cond, j_args, j_out, j_few, j_cw, j_nat, j_pad, j_exp, Nat.reduceAdd]
      simp only [PR_sh s, PR_17 s, RB_14 (PR_b s), RB_a (PR_b s), j_ref, j_ari, j_arb, j_arr, j_len, j_nar, j_oi, j_ol, j_of, j_od, j_or, j_ov, true_and, and_true]
      rw [if_pos (nI_lt (by omega) (by omega))]
      split
      · refine ⟨vp_in_nI (show i < 800 by omega) (by omega), ?_⟩
        rw [nI_clamp (by omega), nI_1]
        refine ih (i + 1) _ (by omega) (by omega) (fun g => ?_)
        rw [← e g]
        have hd := (PR_t s).2.2.2.1.2 g i hs (by omega)
        unfold kAt at hd
        rw [if_pos (by omega)] at hd
        rw [bRel_d ((PR_b s).2.1 i (by omega)) hd, min6]
        have ea : 10 * v + B i - 48 = v * 10 + (B i - 48) := by
          rw [Int32.mul_comm, Int32.sub_eq_add_neg, Int32.sub_eq_add_neg, Int32.add_assoc]
        rw [ea]
      · rename_i g
        refine b_X9_value_49 hG ?_
        dsimp only [q_X9_value_49, j_wp, j_opB, j_opA, j_nth, j_i1, j_i2, j_l1, j_l2, j_li, j_f1, j_f2, j_d1, j_d2, j_r1, j_ai, j_aii, j_ail, j_aid, j_air, j_st1, j_st2, j_stu, j_kl, j_cond, j_args, j_out, j_few, j_cw, j_nat, j_pad, j_exp, Nat.reduceAdd]
        refine ⟨trivial, H v (fun g3 => absurd ?_ g)⟩
        rw [PR_19 s (by omega)]
        exact tkNo_2.mpr g3
  refine b_X9_value_0 hG ?_
  dsimp only [q_X9_value_0, j_wp, j_opB, j_opA, j_nth, j_i1, j_i2, j_l1, j_l2, j_li, j_f1, j_f2, j_d1, j_d2, j_r1, j_ai, j_aii, j_ail, j_aid, j_air, j_st1, j_st2, j_stu, j_kl, j_cond, j_args, j_out, j_few, j_cw, j_nat, j_pad, j_exp, Nat.reduceAdd]
  simp only [PR_sh s, PR_18 s, j_ref, j_ari, j_arb, j_arr, j_len, j_nar, j_oi, j_ol, j_of, j_od, j_or, j_ov, true_and, and_true]
  exact loop (tkE p - tkS p) (tkS p) 0 (by omega) (by omega) (fun _ => rfl)
end RTy
