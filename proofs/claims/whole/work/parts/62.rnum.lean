/-! ===== the reference: numbers, the draft, options and flows ===== -/
section RTz
variable {l : Launch} {D : va_G} {bs : Nat} {E : j_E} {h0 h : j_H} {m : Nat} {d : Nat} {Q : j_O → j_H → Prop} {B : Nat → Int32} {sz len : Nat} {p : Tk} {Md : Rf}
theorem tNext_5 {B : Nat → Int32} {len : Nat} {p : Tk} (g : tkK p = 5) : tNext B len p = p := by unfold tNext; rw [if_pos g]
theorem tNext_n5 {B : Nat → Int32} {len : Nat} {p : Tk} (ok : tkOk len p) (g : tkK p ≠ 5) : tkK (tNext B len p) ≠ 5 := by
  unfold tNext
  rw [if_neg g]
  have := (tok_le (B := B) ok.2.2.1).1
  show (tok B len (tkE p)).1 ≠ 5
  omega
theorem tFail_5 (p : Tk) (c : Int32) : tkK (tFail p c) = 5 := by
  unfold tFail
  split
  · assumption
  · rfl
theorem tFail_f {p : Tk} {c : Int32} (g : tkK p = 5) : tFail p c = p := by unfold tFail; rw [if_pos g]
theorem tIsS_5 {B : Nat → Int32} {p : Tk} {c : Nat} (g : tkK p ≠ 4) : tIsS B p c = false := by unfold tIsS; simp [g]
theorem tIsW_2 {B : Nat → Int32} {p : Tk} {w : List Nat} (g : tIsW B p w = true) : tkK p = 2 := by
  unfold tIsW at g
  simp only [Bool.and_eq_true, decide_eq_true_eq] at g
  exact g.1
theorem tIsW_n {B : Nat → Int32} {p : Tk} {w : List Nat} (g : tkK p ≠ 2) : tIsW B p w = false := by unfold tIsW; simp [g]
theorem tSign_5 {B : Nat → Int32} {len : Nat} {p : Tk} {c : Nat} (g : tkK p = 5) : tSign B len p c = p := by
  unfold tSign
  rw [tIsS_5 (by omega), if_neg (by decide), tFail_f g, tNext_5 g]
theorem tSign_w {B : Nat → Int32} {len : Nat} {p : Tk} {c : Nat} (g : tkK p ≠ 4) : tSign B len p c = tFail p 1 := by
  unfold tSign
  rw [tIsS_5 g, if_neg (by decide), tNext_5 (tFail_5 p 1)]
theorem tWord_5 {B : Nat → Int32} {len : Nat} {p : Tk} {w : List Nat} (g : tkK p = 5) : tWord B len p w = p := by
  unfold tWord
  rw [tIsW_n (by omega), if_neg (by decide), tFail_f g, tNext_5 g]
theorem tTake_5 {B : Nat → Int32} {len : Nat} {p : Tk} {lo hi : Int32} (g : tkK p = 5) : tTake B len p lo hi = (lo, p) := by
  unfold tTake
  rw [if_neg (by omega), tFail_f g]
set_option maxRecDepth 8000 in
theorem sp_X9_number (hl : l.stackTraces = false) (s : PR E bs h0 m B sz len p Md h) {lo hi : Int32} (H : ∀ h', PR E bs h0 m B sz len (tTake B len p lo hi).2 Md h' → Q (.inl (some (.int (tTake B len p lo hi).1))) h') : j_Met l D bs E (d + 5) n_X9_number [.ref m, .int lo, .int hi] h Q := by
  have hB := PR_B s
  refine j_meth hl rfl g_X9_number (Nat.le_of_ble_eq_true rfl) (fun _ => ⟨_, _, rfl, (PR_sh s)⟩) hB.1 hB.2 (fun G hG => ?_)
  -- behind the second check
  have fin : ∀ (p1 : Tk) (h1 : j_H) (v c : Int32), PR E bs h0 m B sz len p1 Md h1 → tNext B len (if c = 0 then tFail p1 2 else p1) = (tTake B len p lo hi).2 → (tkK (tTake B len p lo hi).2 ≠ 5 → v = (tTake B len p lo hi).1) → (tkK (tTake B len p lo hi).2 = 5 → lo = (tTake B len p lo hi).1) → G 52 [.ref m, .int lo, .int hi, .int v] [.int c, .ref m] h1 := by
    intro p1 h1 v c s1 e1 e2 e3
    refine b_X9_number_52 hG ?_
    dsimp only [q_X9_number_52, j_wp, j_opB, j_opA, j_nth, j_i1, j_i2, j_l1, j_l2, j_li, j_f1, j_f2, j_d1, j_d2, j_r1, j_ai, j_aii, j_ail, j_aid, j_air, j_st1, j_st2, j_stu, j_kl, j_cond, j_args, j_out, j_few, j_cw, j_nat, j_pad, j_exp, Nat.reduceAdd]
    refine sp_X9_check hl s1 (by decide) (fun h2 s2 => ?_)
    simp only [j_ref, j_ari, j_arb, j_arr, j_len, j_nar, j_oi, j_ol, j_of, j_od, j_or, j_ov, true_and, and_true]
    refine sp_X9_advance hl s2 (fun h3 s3 => ?_)
    rw [e1] at s3
    simp only [PR_sh s3, j_ref, j_ari, j_arb, j_arr, j_len, j_nar, j_oi, j_ol, j_of, j_od, j_or, j_ov, true_and, and_true]
    by_cases g : tkK (tTake B len p lo hi).2 = 5
    · rw [if_neg (PR_e5 s3 g)]
      refine b_X9_number_71 hG ?_
      dsimp only [q_X9_number_71, j_wp, j_opB, j_opA, j_nth, j_i1, j_i2, j_l1, j_l2, j_li, j_f1, j_f2, j_d1, j_d2, j_r1, j_ai, j_aii, j_ail, j_aid, j_air, j_st1, j_st2, j_stu, j_kl, j_cond, j_args, j_out, j_few, j_cw, j_nat, j_pad, j_exp, Nat.reduceAdd]
      refine b_X9_number_72 hG ?_
      dsimp only [q_X9_number_72, j_wp, j_opB, j_opA, j_nth, j_i1, j_i2, j_l1, j_l2, j_li, j_f1, j_f2, j_d1, j_d2, j_r1, j_ai, j_aii, j_ail, j_aid, j_air, j_st1, j_st2, j_stu, j_kl, j_cond, j_args, j_out, j_few, j_cw, j_nat, j_pad, j_exp, Nat.reduceAdd]
      rw [e3 g]
      exact ⟨trivial, H h3 s3⟩
    · rw [if_pos (PR_e0 s3 g)]
      refine b_X9_number_72 hG ?_
      dsimp only [q_X9_number_72, j_wp, j_opB, j_opA, j_nth, j_i1, j_i2, j_l1, j_l2, j_li, j_f1, j_f2, j_d1, j_d2, j_r1, j_ai, j_aii, j_ail, j_aid, j_air, j_st1, j_st2, j_stu, j_kl, j_cond, j_args, j_out, j_few, j_cw, j_nat, j_pad, j_exp, Nat.reduceAdd]
      rw [e2 g]
      exact ⟨trivial, H h3 s3⟩
  -- behind the first check
  have mid : ∀ (c : Int32), (tkK p = 3 → c ≠ 0) → (tkK p = 5 → c ≠ 0) → (tkK p ≠ 3 → tkK p ≠ 5 → c = 0) → G 21 [.ref m, .int lo, .int hi, j_u] [.int c, .ref m] h := by
    intro c c3 c5 c0
    refine b_X9_number_21 hG ?_
    dsimp only [q_X9_number_21, j_wp, j_opB, j_opA, j_nth, j_i1, j_i2, j_l1, j_l2, j_li, j_f1, j_f2, j_d1, j_d2, j_r1, j_ai, j_aii, j_ail, j_aid, j_air, j_st1, j_st2, j_stu, j_kl, j_cond, j_args, j_out, j_few, j_cw, j_nat, j_pad, j_exp, Nat.reduceAdd]
    refine sp_X9_check hl s (by decide) (fun h1 s1 => ?_)
    simp only [j_ref, j_ari, j_arb, j_arr, j_len, j_nar, j_oi, j_ol, j_of, j_od, j_or, j_ov, true_and, and_true]
    refine sp_X9_value hl s1 (fun v hv => ?_)
    simp only [PR_sh s1, j_st1, j_kl, j_ref, j_ari, j_arb, j_arr, j_len, j_nar, j_oi, j_ol, j_of, j_od, j_or, j_ov, true_and, and_true]
    by_cases g5 : tkK (if c = 0 then tFail p 1 else p) = 5
    · rw [if_neg (PR_e5 s1 g5)]
      have et : tTake B len p lo hi = (lo, if c = 0 then tFail p 1 else p) := by
        by_cases gc : c = 0
        · rw [if_pos gc]
          unfold tTake
          rw [if_neg (fun z => c3 z gc)]
        · rw [if_neg gc] at g5 ⊢
          exact tTake_5 g5
      refine b_X9_number_47 hG ?_
      dsimp only [q_X9_number_47, j_wp, j_opB, j_opA, j_nth, j_i1, j_i2, j_l1, j_l2, j_li, j_f1, j_f2, j_d1, j_d2, j_r1, j_ai, j_aii, j_ail, j_aid, j_air, j_st1, j_st2, j_stu, j_kl, j_cond, j_args, j_out, j_few, j_cw, j_nat, j_pad, j_exp, Nat.reduceAdd]
      refine fin _ h1 v 1 s1 ?_ (fun z => ?_) (fun _ => ?_)
      · rw [if_neg (by decide), et]
        exact tNext_5 g5
      · rw [et] at z
        exact absurd g5 z
      · rw [et]
    · rw [if_pos (PR_e0 s1 g5)]
      have gc : ¬ c = 0 := fun z => g5 (by rw [if_pos z]; exact tFail_5 p 1)
      rw [if_neg gc] at g5 s1 hv
      have g3 : tkK p = 3 := Decidable.byContradiction (fun z => gc (c0 z g5))
      rw [hv g3]
      refine sp_X9_inRange hl (PR_B s1) ?_
      simp only [j_ref, j_ari, j_arb, j_arr, j_len, j_nar, j_oi, j_ol, j_of, j_od, j_or, j_ov, true_and, and_true]
      by_cases g : tNum B p < lo ∨ hi < tNum B p
      · have e : rIn (tNum B p) lo hi = false := g.elim rIn_f1 rIn_f2
        have et : tTake B len p lo hi = (lo, tFail p 2) := by unfold tTake; rw [if_pos g3, if_pos g]
        simp only [e, Bool.false_eq_true, if_false, if_true]
        refine b_X9_number_51 hG ?_
        dsimp only [q_X9_number_51, j_wp, j_opB, j_opA, j_nth, j_i1, j_i2, j_l1, j_l2, j_li, j_f1, j_f2, j_d1, j_d2, j_r1, j_ai, j_aii, j_ail, j_aid, j_air, j_st1, j_st2, j_stu, j_kl, j_cond, j_args, j_out, j_few, j_cw, j_nat, j_pad, j_exp, Nat.reduceAdd]
        refine fin p h1 _ 0 s1 ?_ (fun z => ?_) (fun _ => ?_)
        · rw [if_pos rfl, et]
          exact tNext_5 (tFail_5 p 2)
        · rw [et] at z
          exact absurd (tFail_5 p 2) z
        · rw [et]
      · have e : rIn (tNum B p) lo hi = true := rIn_t (fun z => g (Or.inl z)) (fun z => g (Or.inr z))
        have et : tTake B len p lo hi = (tNum B p, tNext B len p) := by unfold tTake; rw [if_pos g3, if_neg g]
        simp only [e, if_true]
        rw [if_neg (by decide)]
        refine b_X9_number_47 hG ?_
        dsimp only [q_X9_number_47, j_wp, j_opB, j_opA, j_nth, j_i1, j_i2, j_l1, j_l2, j_li, j_f1, j_f2, j_d1, j_d2, j_r1, j_ai, j_aii, j_ail, j_aid, j_air, j_st1, j_st2, j_stu, j_kl, j_cond, j_args, j_out, j_few, j_cw, j_nat, j_pad, j_exp, Nat.reduceAdd]
        refine fin p h1 _ 1 s1 ?_ (fun _ => ?_) (fun z => ?_)
        · rw [if_neg (by decide), et]
        · rw [et]
        · rw [et] at z
          exact absurd z (tNext_n5 (PR_o s) g5)
  refine b_X9_number_0 hG ?_
  dsimp only [q_X9_number_0, j_wp, j_opB, j_opA, j_nth, j_i1, j_i2, j_l1, j_l2, j_li, j_f1, j_f2, j_d1, j_d2, j_r1, j_ai, j_aii, j_ail, j_aid, j_air, j_st1, j_st2, j_stu, j_kl, j_cond, j_args, j_out, j_few, j_cw, j_nat, j_pad, j_exp, Nat.reduceAdd]
  simp only [PR_sh s, j_ref, j_ari, j_arb, j_arr, j_len, j_nar, j_oi, j_ol, j_of, j_od, j_or, j_ov, true_and, and_true]
  by_cases g : tkK p = 5
  · rw [if_neg (PR_e5 s g)]
    refine b_X9_number_16 hG ?_
    dsimp only [q_X9_number_16, j_wp, j_opB, j_opA, j_nth, j_i1, j_i2, j_l1, j_l2, j_li, j_f1, j_f2, j_d1, j_d2, j_r1, j_ai, j_aii, j_ail, j_aid, j_air, j_st1, j_st2, j_stu, j_kl, j_cond, j_args, j_out, j_few, j_cw, j_nat, j_pad, j_exp, Nat.reduceAdd]
    exact mid 1 (fun _ => by decide) (fun _ => by decide) (fun _ z => absurd g z)
  · rw [if_pos (PR_e0 s g), PR_19 s g]
    by_cases g3 : tkK p = 3
    · rw [if_pos (tkNo_2.mpr g3)]
      refine b_X9_number_16 hG ?_
      dsimp only [q_X9_number_16, j_wp, j_opB, j_opA, j_nth, j_i1, j_i2, j_l1, j_l2, j_li, j_f1, j_f2, j_d1, j_d2, j_r1, j_ai, j_aii, j_ail, j_aid, j_air, j_st1, j_st2, j_stu, j_kl, j_cond, j_args, j_out, j_few, j_cw, j_nat, j_pad, j_exp, Nat.reduceAdd]
      exact mid 1 (fun _ => by decide) (fun _ => by decide) (fun z => absurd g3 z)
    · rw [if_neg (fun z => g3 (tkNo_2.mp z))]
      refine b_X9_number_20 hG ?_
      dsimp only [q_X9_number_20, j_wp, j_opB, j_opA, j_nth, j_i1, j_i2, j_l1, j_l2, j_li, j_f1, j_f2, j_d1, j_d2, j_r1, j_ai, j_aii, j_ail, j_aid, j_air, j_st1, j_st2, j_stu, j_kl, j_cond, j_args, j_out, j_few, j_cw, j_nat, j_pad, j_exp, Nat.reduceAdd]
      exact mid 0 (fun z => absurd z g3) (fun z => absurd z g) (fun _ _ => rfl)
theorem PR_dr (s : PR E bs h0 m B sz len p Md h) {k : Nat} {v : Int32} {Md' : Rf} (g : RG (up1 (j_I h (m + 2)) k v) Md') : PR E bs h0 m B sz len p Md' (j_setI h (m + 2) k v) := by
  have f1 : FM (fun b => b = m + 2) m (fun _ => False) h (j_setI h (m + 2) k v) := FM_FA (FA_I FA_rf rfl)
  obtain ⟨t1, t2, t3, t4, t5, t6⟩ := PR_t s
  have e : ∀ j, j_I (j_setI h (m + 2) k v) m j = j_I h m j := fun j => jh_In (by omega)
  exact PR_bd s f1 (fun b z => z) (fun k z => z.elim) id ⟨by rw [e]; exact t1, by rw [e]; exact t2, t3, t4, fun z => by rw [e, e]; exact t5 z, fun z => by rw [e, e]; exact t6 z⟩ (by rw [jI_row]; exact g)
theorem PR_r1 (s : PR E bs h0 m B sz len p Md h) : j_R h m 1 = some (m + 2) := mk_r1 s.1.1
theorem PR_a1 (s : PR E bs h0 m B sz len p Md h) : j_sh h (m + 2) = some (.inl (0, 4073)) := mk_a1 s.1.1
theorem sp_X9_putNumber (hl : l.stackTraces = false) (s : PR E bs h0 m B sz len p Md h) {k : Nat} (hk : k < 4073) {Mf : Int32 → Rf} (hM : ∀ g v, RG g Md → RG (up1 g k v) (Mf v)) {lo hi : Int32} (H : ∀ h', PR E bs h0 m B sz len (tTake B len p lo hi).2 (if tkK (tTake B len p lo hi).2 = 5 then Md else Mf (tTake B len p lo hi).1) h' → Q (.inl none) h') : j_Met l D bs E (d + 6) n_X9_putNumber [.ref m, .int (nI k), .int lo, .int hi] h Q := by
  have hB := PR_B s
  refine j_meth hl rfl g_X9_putNumber (Nat.le_of_ble_eq_true rfl) (fun _ => ⟨_, _, rfl, (PR_sh s)⟩) hB.1 hB.2 (fun G hG => ?_)
  refine b_X9_putNumber_0 hG ?_
  dsimp only [q_X9_putNumber_0, j_wp, j_opB, j_opA, j_nth, j_i1, j_i2, j_l1, j_l2, j_li, j_f1, j_f2, j_d1, j_d2, j_r1, j_ai, j_aii, j_ail, j_aid, j_air, j_st1, j_st2, j_stu, j_kl, j_cond, j_args, j_out, j_few, j_cw, j_nat, j_pad, j_exp, Nat.reduceAdd]
  refine sp_X9_number hl s (fun h1 s1 => ?_)
  simp only [PR_sh s1, PR_r1 s1, PR_a1 s1, j_st1, j_kl, j_ref, j_ari, j_arb, j_arr, j_len, j_nar, j_oi, j_ol, j_of, j_od, j_or, j_ov, true_and, and_true]
  by_cases g : tkK (tTake B len p lo hi).2 = 5
  · rw [if_pos g] at H
    rw [if_neg (PR_e5 s1 g)]
    refine b_X9_putNumber_23 hG ?_
    dsimp only [q_X9_putNumber_23, j_wp, j_opB, j_opA, j_nth, j_i1, j_i2, j_l1, j_l2, j_li, j_f1, j_f2, j_d1, j_d2, j_r1, j_ai, j_aii, j_ail, j_aid, j_air, j_st1, j_st2, j_stu, j_kl, j_cond, j_args, j_out, j_few, j_cw, j_nat, j_pad, j_exp, Nat.reduceAdd]
    exact H h1 s1
  · rw [if_neg g] at H
    rw [if_pos (PR_e0 s1 g)]
    refine ⟨vp_in_nI hk (by omega), ?_⟩
    rw [nI_clamp (by omega)]
    refine b_X9_putNumber_23 hG ?_
    dsimp only [q_X9_putNumber_23, j_wp, j_opB, j_opA, j_nth, j_i1, j_i2, j_l1, j_l2, j_li, j_f1, j_f2, j_d1, j_d2, j_r1, j_ai, j_aii, j_ail, j_aid, j_air, j_st1, j_st2, j_stu, j_kl, j_cond, j_args, j_out, j_few, j_cw, j_nat, j_pad, j_exp, Nat.reduceAdd]
    exact H _ (PR_dr s1 (hM _ _ (PR_g s1)))
/-- the draft holds what the class's setup holds: n flows, q rules are complete -/
def DrB (S : Sup) (Md : Rf) (n q : Nat) : Prop := (rX Md 0 = nI (sN S) ∧ rX Md 1 = nI (sM S) ∧ (rX Md 2 = 0 ∧ rX Md 3 = 0 ∧ rX Md 4 = 0 ∧ rX Md 5 = 0) ∧ rX Md 6 = sX S 4 ∧ rX Md 7 = sX S 5 ∧ rX Md 8 = sX S 6) ∧ (∀ r k, r < n → k < 7 → rF Md r k = sF S r k) ∧ (∀ r k, r < 6 → (n ≤ r ∨ 7 ≤ k) → rF Md r k = 0) ∧ (∀ r k, r < q → k < 7 → rU Md r k = sR S r k) ∧ (∀ r k, rQ Md r k = 0) ∧ (∀ r k, rP Md r k = 0) ∧ (∀ r k, rS Md r k = 0) ∧ ∀ r k, rW Md r k = 0
theorem DrB_F {S : Sup} {Md : Rf} {n q r k : Nat} (v : Int32) (h : DrB S Md n q) (hr : r < n) (hk : k < 7) : DrB (ssF S r k v) (rsF Md r k v) n q := by
  obtain ⟨d1, d2, d3, d4, d5⟩ := h
  refine ⟨d1, fun r' k' g1 g2 => ?_, fun r' k' g1 g2 => ?_, d4, d5⟩
  · show j_up (rF Md) r k v r' k' = j_up (sF S) r k v r' k'
    simp only [j_up]
    split
    · rfl
    · exact d2 r' k' g1 g2
  · show j_up (rF Md) r k v r' k' = 0
    rw [j_up, if_neg (by omega)]
    exact d3 r' k' g1 g2
theorem DrB_R {S : Sup} {Md : Rf} {n q : Nat} (r k : Nat) (v : Int32) (h : DrB S Md n q) : DrB (ssR S r k v) (rsU Md r k v) n q := by
  obtain ⟨d1, d2, d3, d4, d5⟩ := h
  refine ⟨d1, d2, d3, fun r' k' g1 g2 => ?_, d5⟩
  show j_up (rU Md) r k v r' k' = j_up (sR S) r k v r' k'
  simp only [j_up]
  split
  · rfl
  · exact d4 r' k' g1 g2
theorem DrB_4 {S : Sup} {Md : Rf} {n q : Nat} (v : Int32) (h : DrB S Md n q) : DrB (ssX S 4 v) (rsX Md 6 v) n q := by
  obtain ⟨⟨x0, x1, x2, x3, x4, x5⟩, d2⟩ := h
  exact ⟨⟨x0, x1, x2, rfl, x4, x5⟩, d2⟩
theorem DrB_5 {S : Sup} {Md : Rf} {n q : Nat} (v : Int32) (h : DrB S Md n q) : DrB (ssX S 5 v) (rsX Md 7 v) n q := by
  obtain ⟨⟨x0, x1, x2, x3, x4, x5⟩, d2⟩ := h
  exact ⟨⟨x0, x1, x2, x3, rfl, x5⟩, d2⟩
theorem DrB_6 {S : Sup} {Md : Rf} {n q : Nat} (v : Int32) (h : DrB S Md n q) : DrB (ssX S 6 v) (rsX Md 8 v) n q := by
  obtain ⟨⟨x0, x1, x2, x3, x4, x5⟩, d2⟩ := h
  exact ⟨⟨x0, x1, x2, x3, x4, rfl⟩, d2⟩
/-- an option's word -/
def isOpt (B : Nat → Int32) (p : Tk) : Prop := tIsW B p (wd "burst") = true ∨ tIsW B p (wd "retries") = true ∨ tIsW B p (wd "loss") = true ∨ tIsW B p (wd "late") = true
variable {S : Sup} {n q : Nat}
set_option maxRecDepth 8000 in
theorem sp_X9_readOption (hl : l.stackTraces = false) (hJ : JS l D bs E) (s : PR E bs h0 m B sz len p Md h) (hr : sN S < n) (hn : n ≤ 6) (hD : tkK p ≠ 5 → DrB S Md n q) (H0 : ¬ isOpt B p → ∀ h', PR E bs h0 m B sz len p Md h' → Q (.inl (some (.int 0))) h') (H1 : isOpt B p → ∀ h' Md', PR E bs h0 m B sz len (sOption B len p S).1 Md' h' → (tkK (sOption B len p S).1 ≠ 5 → DrB (sOption B len p S).2 Md' n q) → Q (.inl (some (.int (if tkK (sOption B len p S).1 = 5 then 0 else 1)))) h') : j_Met l D bs E (d + 7) n_X9_readOption [.ref m, .int (nI (9 + 14 * sN S))] h Q := by
  have hB := PR_B s
  refine j_meth hl rfl g_X9_readOption (Nat.le_of_ble_eq_true rfl) (fun _ => ⟨_, _, rfl, (PR_sh s)⟩) hB.1 hB.2 (fun G hG => ?_)
  have fin : ∀ (p1 : Tk) (Md1 : Rf) (h1 : j_H), PR E bs h0 m B sz len p1 Md1 h1 → Q (.inl (some (.int (if tkK p1 = 5 then 0 else 1)))) h1 → G 107 [.ref m, .int (nI (9 + 14 * sN S))] [] h1 := by
    intro p1 Md1 h1 s1 K
    refine b_X9_readOption_107 hG ?_
    dsimp only [q_X9_readOption_107, j_wp, j_opB, j_opA, j_nth, j_i1, j_i2, j_l1, j_l2, j_li, j_f1, j_f2, j_d1, j_d2, j_r1, j_ai, j_aii, j_ail, j_aid, j_air, j_st1, j_st2, j_stu, j_kl, j_cond, j_args, j_out, j_few, j_cw, j_nat, j_pad, j_exp, Nat.reduceAdd]
    simp only [PR_sh s1, j_ref, j_ari, j_arb, j_arr, j_len, j_nar, j_oi, j_ol, j_of, j_od, j_or, j_ov, true_and, and_true]
    by_cases g : tkK p1 = 5
    · rw [if_pos g] at K
      rw [if_neg (PR_e5 s1 g)]
      refine b_X9_readOption_118 hG ?_
      dsimp only [q_X9_readOption_118, j_wp, j_opB, j_opA, j_nth, j_i1, j_i2, j_l1, j_l2, j_li, j_f1, j_f2, j_d1, j_d2, j_r1, j_ai, j_aii, j_ail, j_aid, j_air, j_st1, j_st2, j_stu, j_kl, j_cond, j_args, j_out, j_few, j_cw, j_nat, j_pad, j_exp, Nat.reduceAdd]
      refine b_X9_readOption_119 hG ?_
      dsimp only [q_X9_readOption_119, j_wp, j_opB, j_opA, j_nth, j_i1, j_i2, j_l1, j_l2, j_li, j_f1, j_f2, j_d1, j_d2, j_r1, j_ai, j_aii, j_ail, j_aid, j_air, j_st1, j_st2, j_stu, j_kl, j_cond, j_args, j_out, j_few, j_cw, j_nat, j_pad, j_exp, Nat.reduceAdd]
      exact ⟨(by first | exact Or.inl rfl | exact Or.inr rfl | decide), K⟩
    · rw [if_neg g] at K
      rw [if_pos (PR_e0 s1 g)]
      refine b_X9_readOption_119 hG ?_
      dsimp only [q_X9_readOption_119, j_wp, j_opB, j_opA, j_nth, j_i1, j_i2, j_l1, j_l2, j_li, j_f1, j_f2, j_d1, j_d2, j_r1, j_ai, j_aii, j_ail, j_aid, j_air, j_st1, j_st2, j_stu, j_kl, j_cond, j_args, j_out, j_few, j_cw, j_nat, j_pad, j_exp, Nat.reduceAdd]
      exact ⟨(by first | exact Or.inl rfl | exact Or.inr rfl | decide), K⟩
  have hF : ∀ (Mx : Rf) (k : Nat), k < 7 → ∀ g v, RG g Mx → RG (up1 g (9 + 14 * sN S + k) v) (rsF Mx (sN S) k v) := fun Mx k hk g v r => RG_F r (by omega) (by omega) v
  refine b_X9_readOption_0 hG ?_
  dsimp only [q_X9_readOption_0, j_wp, j_opB, j_opA, j_nth, j_i1, j_i2, j_l1, j_l2, j_li, j_f1, j_f2, j_d1, j_d2, j_r1, j_ai, j_aii, j_ail, j_aid, j_air, j_st1, j_st2, j_stu, j_kl, j_cond, j_args, j_out, j_few, j_cw, j_nat, j_pad, j_exp, Nat.reduceAdd]
  refine sp_X9_accept hl hJ (s) 55 rfl (by omega) (fun h55 s55 => ?_)
  simp only [j_ref, j_ari, j_arb, j_arr, j_len, j_nar, j_oi, j_ol, j_of, j_od, j_or, j_ov, true_and, and_true]
  by_cases g55 : tIsW B p (wd "burst") = true
  · have es : sOption B len p S = ((tTake B len (tNext B len p) 0 20000).2, ssF S (sN S) 2 (tTake B len (tNext B len p) 0 20000).1) := by
      unfold sOption
      rw [if_pos g55]
    have K := H1 (Or.inl g55)
    rw [es] at K
    simp only [g55, if_true] at s55 ⊢
    rw [if_neg (by decide), show nI (9 + 14 * sN S) + 2 = nI (9 + 14 * sN S + 2) from nI_add _ 2]
    refine sp_X9_putNumber hl s55 (k := 9 + 14 * sN S + 2) (by omega) (hF Md 2 (by omega)) (fun h1 s1 => ?_)
    simp only [j_ref, j_ari, j_arb, j_arr, j_len, j_nar, j_oi, j_ol, j_of, j_od, j_or, j_ov, true_and, and_true]
    refine fin _ _ h1 s1 (K h1 _ s1 (fun z => ?_))
    dsimp only at z ⊢
    rw [if_neg z]
    exact DrB_F _ (hD (by rw [tIsW_2 g55]; decide)) hr (by omega)
  · simp only [g55, if_false, Bool.false_eq_true, if_true] at s55 ⊢
    refine b_X9_readOption_24 hG ?_
    dsimp only [q_X9_readOption_24, j_wp, j_opB, j_opA, j_nth, j_i1, j_i2, j_l1, j_l2, j_li, j_f1, j_f2, j_d1, j_d2, j_r1, j_ai, j_aii, j_ail, j_aid, j_air, j_st1, j_st2, j_stu, j_kl, j_cond, j_args, j_out, j_few, j_cw, j_nat, j_pad, j_exp, Nat.reduceAdd]
    refine sp_X9_accept hl hJ (s55) 56 rfl (by omega) (fun h56 s56 => ?_)
    simp only [j_ref, j_ari, j_arb, j_arr, j_len, j_nar, j_oi, j_ol, j_of, j_od, j_or, j_ov, true_and, and_true]
    by_cases g56 : tIsW B p (wd "retries") = true
    · have es : sOption B len p S = ((tTake B len (tNext B len p) 0 9).2, ssF S (sN S) 3 (tTake B len (tNext B len p) 0 9).1) := by
        unfold sOption
        rw [if_neg g55, if_pos g56]
      have K := H1 (Or.inr (Or.inl g56))
      rw [es] at K
      simp only [g56, if_true] at s56 ⊢
      rw [if_neg (by decide), show nI (9 + 14 * sN S) + 3 = nI (9 + 14 * sN S + 3) from nI_add _ 3]
      refine sp_X9_putNumber hl s56 (k := 9 + 14 * sN S + 3) (by omega) (hF Md 3 (by omega)) (fun h1 s1 => ?_)
      simp only [j_ref, j_ari, j_arb, j_arr, j_len, j_nar, j_oi, j_ol, j_of, j_od, j_or, j_ov, true_and, and_true]
      refine fin _ _ h1 s1 (K h1 _ s1 (fun z => ?_))
      dsimp only at z ⊢
      rw [if_neg z]
      exact DrB_F _ (hD (by rw [tIsW_2 g56]; decide)) hr (by omega)
    · simp only [g56, if_false, Bool.false_eq_true, if_true] at s56 ⊢
      refine b_X9_readOption_47 hG ?_
      dsimp only [q_X9_readOption_47, j_wp, j_opB, j_opA, j_nth, j_i1, j_i2, j_l1, j_l2, j_li, j_f1, j_f2, j_d1, j_d2, j_r1, j_ai, j_aii, j_ail, j_aid, j_air, j_st1, j_st2, j_stu, j_kl, j_cond, j_args, j_out, j_few, j_cw, j_nat, j_pad, j_exp, Nat.reduceAdd]
      refine sp_X9_accept hl hJ (s56) 57 rfl (by omega) (fun h57 s57 => ?_)
      simp only [j_ref, j_ari, j_arb, j_arr, j_len, j_nar, j_oi, j_ol, j_of, j_od, j_or, j_ov, true_and, and_true]
      by_cases g57 : tIsW B p (wd "loss") = true
      · have es : sOption B len p S = ((tTake B len (tNext B len p) 2 99).2, ssF S (sN S) 4 (tTake B len (tNext B len p) 2 99).1) := by
          unfold sOption
          rw [if_neg g55, if_neg g56, if_pos g57]
        have K := H1 (Or.inr (Or.inr (Or.inl g57)))
        rw [es] at K
        simp only [g57, if_true] at s57 ⊢
        rw [if_neg (by decide), show nI (9 + 14 * sN S) + 4 = nI (9 + 14 * sN S + 4) from nI_add _ 4]
        refine sp_X9_putNumber hl s57 (k := 9 + 14 * sN S + 4) (by omega) (hF Md 4 (by omega)) (fun h1 s1 => ?_)
        simp only [j_ref, j_ari, j_arb, j_arr, j_len, j_nar, j_oi, j_ol, j_of, j_od, j_or, j_ov, true_and, and_true]
        refine fin _ _ h1 s1 (K h1 _ s1 (fun z => ?_))
        dsimp only at z ⊢
        rw [if_neg z]
        exact DrB_F _ (hD (by rw [tIsW_2 g57]; decide)) hr (by omega)
      · simp only [g57, if_false, Bool.false_eq_true, if_true] at s57 ⊢
        refine b_X9_readOption_70 hG ?_
        dsimp only [q_X9_readOption_70, j_wp, j_opB, j_opA, j_nth, j_i1, j_i2, j_l1, j_l2, j_li, j_f1, j_f2, j_d1, j_d2, j_r1, j_ai, j_aii, j_ail, j_aid, j_air, j_st1, j_st2, j_stu, j_kl, j_cond, j_args, j_out, j_few, j_cw, j_nat, j_pad, j_exp, Nat.reduceAdd]
        refine sp_X9_accept hl hJ s57 58 rfl (by omega) (fun h58 s58 => ?_)
        simp only [j_ref, j_ari, j_arb, j_arr, j_len, j_nar, j_oi, j_ol, j_of, j_od, j_or, j_ov, true_and, and_true]
        by_cases g58 : tIsW B p (wd "late") = true
        · have es : sOption B len p S = ((tTake B len (tTake B len (tNext B len p) 2 99).2 1 200).2, ssF (ssF S (sN S) 5 (tTake B len (tNext B len p) 2 99).1) (sN S) 6 (tTake B len (tTake B len (tNext B len p) 2 99).2 1 200).1) := by
            unfold sOption
            rw [if_neg g55, if_neg g56, if_neg g57, if_pos g58]
          have K := H1 (Or.inr (Or.inr (Or.inr g58)))
          rw [es] at K
          simp only [g58, if_true] at s58 ⊢
          rw [if_neg (by decide), show nI (9 + 14 * sN S) + 5 = nI (9 + 14 * sN S + 5) from nI_add _ 5, show nI (9 + 14 * sN S) + 6 = nI (9 + 14 * sN S + 6) from nI_add _ 6]
          refine sp_X9_putNumber hl s58 (k := 9 + 14 * sN S + 5) (by omega) (hF Md 5 (by omega)) (fun h1 s1 => ?_)
          simp only [j_ref, j_ari, j_arb, j_arr, j_len, j_nar, j_oi, j_ol, j_of, j_od, j_or, j_ov, true_and, and_true]
          refine sp_X9_putNumber hl s1 (k := 9 + 14 * sN S + 6) (by omega) (hF _ 6 (by omega)) (fun h2 s2 => ?_)
          simp only [j_ref, j_ari, j_arb, j_arr, j_len, j_nar, j_oi, j_ol, j_of, j_od, j_or, j_ov, true_and, and_true]
          refine fin _ _ h2 s2 (K h2 _ s2 (fun z => ?_))
          dsimp only at z ⊢
          have z5 : tkK (tTake B len (tNext B len p) 2 99).2 ≠ 5 := fun y => z (by rw [tTake_5 y]; exact y)
          rw [if_neg z, if_neg z5]
          exact DrB_F _ (DrB_F _ (hD (by rw [tIsW_2 g58]; decide)) hr (by omega)) hr (by omega)
        · simp only [g58, if_false, Bool.false_eq_true, if_true] at s58 ⊢
          refine b_X9_readOption_105 hG ?_
          dsimp only [q_X9_readOption_105, j_wp, j_opB, j_opA, j_nth, j_i1, j_i2, j_l1, j_l2, j_li, j_f1, j_f2, j_d1, j_d2, j_r1, j_ai, j_aii, j_ail, j_aid, j_air, j_st1, j_st2, j_stu, j_kl, j_cond, j_args, j_out, j_few, j_cw, j_nat, j_pad, j_exp, Nat.reduceAdd]
          exact ⟨(by first | exact Or.inl rfl | exact Or.inr rfl | decide), H0 (fun z => z.elim g55 (fun z => z.elim g56 (fun z => z.elim g57 g58))) h58 s58⟩
end RTz
