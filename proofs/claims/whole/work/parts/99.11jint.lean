/-! ===== JDK: Integer.stringSize and getChars, a StringBuilder's append(int) ===== -/
section JInt
variable {l : Launch} {D : va_G} {bs : Nat} {E : j_E} {h h' h'' : j_H} {d : Nat} {Q : j_O → j_H → Prop} {x b cap n C K : Nat} {f : Nat → Int32}
theorem getD_l {w v : List Nat} {i : Nat} (hi : i < w.length) : (w ++ v).getD i 0 = w.getD i 0 := by
  rw [List.getD_eq_getElem?_getD, List.getD_eq_getElem?_getD, List.getElem?_append_left hi]
theorem getD_r {w v : List Nat} {i : Nat} : (w ++ v).getD (w.length + i) 0 = v.getD i 0 := by
  rw [List.getD_eq_getElem?_getD, List.getD_eq_getElem?_getD, List.getElem?_append_right (by omega), Nat.add_sub_cancel_left]
theorem decF_dig : ∀ (k w : Nat), w < 10 ^ (k + 1) → ((decF k w).length = 1 ∨ 10 ^ ((decF k w).length - 1) ≤ w) ∧ w < 10 ^ (decF k w).length := by
  intro k
  induction k with
  | zero =>
    intro w hw
    exact ⟨Or.inl rfl, hw⟩
  | succ k ih =>
    intro w hw
    rw [decF]
    by_cases e : w ≤ 9
    · rw [if_pos e]
      exact ⟨Or.inl rfl, by simp; omega⟩
    · rw [if_neg e]
      have hw2 : w / 10 < 10 ^ (k + 1) := by
        rw [Nat.pow_succ] at hw
        omega
      obtain ⟨i1, i2⟩ := ih (w / 10) hw2
      have i3 := (decF_len k (w / 10)).1
      rw [List.length_append, List.length_singleton]
      generalize (decF k (w / 10)).length = s at i1 i2 i3
      refine ⟨Or.inr ?_, ?_⟩
      · rw [Nat.add_sub_cancel]
        rcases i1 with i1 | i1
        · rw [i1]
          omega
        · obtain ⟨t, rfl⟩ : ∃ t, s = t + 1 := ⟨s - 1, by omega⟩
          rw [Nat.add_sub_cancel] at i1
          rw [Nat.pow_succ]
          omega
      · rw [Nat.pow_succ]
        omega
theorem decF_1 {k w : Nat} (h : w ≤ 9) : decF k w = [48 + w % 10] := by
  cases k with
  | zero => rfl
  | succ k => rw [decF, if_pos h]; rfl
theorem decF_2 {k w : Nat} (h : ¬ w ≤ 9) (h2 : w < 100) : decF (k + 1) w = [48 + w / 10 % 10, 48 + w % 10] := by
  rw [decF, if_neg h, decF_1 (by omega)]
  rfl
theorem decF_3 {k w : Nat} (h : 100 ≤ w) : decF (k + 2) w = decF k (w / 100) ++ [48 + w / 10 % 10, 48 + w % 10] := by
  rw [decF, if_neg (by omega), decF, if_neg (by omega), Nat.div_div_eq_div_mul, List.append_assoc]
  rfl
/-- Integer's digits -/
def DG (E : j_E) (h : j_H) : Prop := j_sh h (E.1 200) = some (.inl (8, 100)) ∧ j_sh h (E.1 201) = some (.inl (8, 100)) ∧ (∀ k, k < 100 → j_I h (E.1 200) k = nI (48 + k % 10) ∧ j_I h (E.1 201) k = nI (48 + k / 10)) ∧ E.1 200 < j_z h ∧ E.1 201 < j_z h
theorem js_p {i : Nat} (hi : i < 9) : (10 : Int32) * -nI (10 ^ i) = -nI (10 ^ (i + 1)) := by
  rw [Int32.mul_neg, show (10 : Int32) = nI 10 from rfl, show nI 10 * nI (10 ^ i) = nI (10 * 10 ^ i) from (Int32.ofNat_mul 10 (10 ^ i)).symm, Nat.pow_succ, Nat.mul_comm]
theorem js_lt : ∀ i, i < 10 → 10 ^ i < 2 ^ 31 := by decide
theorem sp_J6_stringSize (hl : l.stackTraces = false) {v s : Nat} (hs1 : 1 ≤ s) (hs9 : s ≤ 9) (h1 : s = 1 ∨ 10 ^ (s - 1) ≤ v) (h2 : v < 10 ^ s) (hB : j_bd E h) (H : Q (.inl (some (.int (nI s)))) h) : j_Met l D bs E (d + 1) n_J6_stringSize_0f7a4 [.int (nI v)] h Q := by
  have hv : v < 2 ^ 31 := Nat.lt_trans h2 (js_lt s (by omega))
  refine j_methF hl rfl g_J6_stringSize_0f7a4 (Nat.le_of_ble_eq_true rfl) (fun z => absurd z (by decide)) hB.1 hB.2 (fun G hG => ?_)
  refine b_J6_stringSize_0f7a4_0 hG ?_
  dsimp only [q_J6_stringSize_0f7a4_0, j_wp, j_opB, j_opA, j_nth, j_i1, j_i2, j_l1, j_l2, j_li, j_f1, j_f2, j_d1, j_d2, j_r1, j_ai, j_aii, j_ail, j_aid, j_air, j_st1, j_st2, j_stu, j_kl, j_cond, j_args, j_out, j_few, j_cw, j_nat, j_pad, j_exp, Nat.reduceAdd]
  rw [if_neg (nI_pos hv)]
  refine b_J6_stringSize_0f7a4_11 hG ?_
  dsimp only [q_J6_stringSize_0f7a4_11, j_wp, j_opB, j_opA, j_nth, j_i1, j_i2, j_l1, j_l2, j_li, j_f1, j_f2, j_d1, j_d2, j_r1, j_ai, j_aii, j_ail, j_aid, j_air, j_st1, j_st2, j_stu, j_kl, j_cond, j_args, j_out, j_few, j_cw, j_nat, j_pad, j_exp, Nat.reduceAdd]
  have L : ∀ (j i : Nat), i + j = s → 1 ≤ i → G 16 [.int (-nI v), .int 0, .int (-nI (10 ^ i)), .int (nI i)] [] h := by
    intro j
    induction j with
    | zero =>
      intro i hi h0
      have e : i = s := by omega
      subst e
      refine b_J6_stringSize_0f7a4_16 hG ?_
      dsimp only [q_J6_stringSize_0f7a4_16, j_wp, j_opB, j_opA, j_nth, j_i1, j_i2, j_l1, j_l2, j_li, j_f1, j_f2, j_d1, j_d2, j_r1, j_ai, j_aii, j_ail, j_aid, j_air, j_st1, j_st2, j_stu, j_kl, j_cond, j_args, j_out, j_few, j_cw, j_nat, j_pad, j_exp, Nat.reduceAdd]
      rw [if_pos (show nI i < (10 : Int32) from nI_lt (b := 10) (by omega) (by decide)), if_pos ((sb_nlt (js_lt i (by omega)) hv).mpr h2)]
      refine ⟨trivial, ?_⟩
      rw [Int32.add_zero]
      exact H
    | succ j ih =>
      intro i hi h0
      have hle : 10 ^ i ≤ v := by
        rcases h1 with h1 | h1
        · omega
        · exact Nat.le_trans (Nat.pow_le_pow_right (by decide) (by omega)) h1
      refine b_J6_stringSize_0f7a4_16 hG ?_
      dsimp only [q_J6_stringSize_0f7a4_16, j_wp, j_opB, j_opA, j_nth, j_i1, j_i2, j_l1, j_l2, j_li, j_f1, j_f2, j_d1, j_d2, j_r1, j_ai, j_aii, j_ail, j_aid, j_air, j_st1, j_st2, j_stu, j_kl, j_cond, j_args, j_out, j_few, j_cw, j_nat, j_pad, j_exp, Nat.reduceAdd]
      rw [if_pos (show nI i < (10 : Int32) from nI_lt (b := 10) (by omega) (by decide)), if_neg (fun z => by have := (sb_nlt (js_lt i (by omega)) hv).mp z; omega)]
      refine b_J6_stringSize_0f7a4_31 hG ?_
      dsimp only [q_J6_stringSize_0f7a4_31, j_wp, j_opB, j_opA, j_nth, j_i1, j_i2, j_l1, j_l2, j_li, j_f1, j_f2, j_d1, j_d2, j_r1, j_ai, j_aii, j_ail, j_aid, j_air, j_st1, j_st2, j_stu, j_kl, j_cond, j_args, j_out, j_few, j_cw, j_nat, j_pad, j_exp, Nat.reduceAdd]
      rw [js_p (by omega), nI_1]
      exact ih (i + 1) (by omega) (by omega)
  exact L (s - 1) 1 (by omega) (by omega)
end JInt
