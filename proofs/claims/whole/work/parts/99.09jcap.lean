/-! ===== JDK: a StringBuilder of Latin-1 letters, its room ===== -/
section JCap
variable {l : Launch} {D : va_G} {bs : Nat} {E : j_E} {h h' h'' : j_H} {d : Nat} {Q : j_O → j_H → Prop} {x b cap n C K : Nat} {f : Nat → Int32}
/-- what a growth still may cost: one cell, 34 slots -/
def sb1 (cap : Nat) : Nat := if cap = 34 then 0 else 1
/-- a builder at x, its bytes f at b (cap of them), n letters; C, K: the cells and slots that it may have used in the end -/
def SB (E : j_E) (h : j_H) (x b cap n : Nat) (f : Nat → Int32) (C K : Nat) : Prop := j_sh h x = some (.inr 1) ∧ j_I h x 1 = 0 ∧ j_R h x 0 = some b ∧ j_sh h b = some (.inl (3, cap)) ∧ j_I h x 3 = nI n ∧ n ≤ cap ∧ (cap = 16 ∨ cap = 34) ∧ (∀ i, i < cap → j_I h b i = f i ∧ (f i).toInt8.toInt32 = f i) ∧ x ≠ b ∧ x < j_z h ∧ b < j_z h ∧ j_c h + sb1 cap = C ∧ j_k h + 34 * sb1 cap = K ∧ C ≤ E.2.1 ∧ K ≤ E.2.2
def sbA (x b : Nat) : Nat → Prop := fun a => a = x ∨ a = b
theorem SB_bd (s : SB E h x b cap n f C K) : j_bd E h := by
  obtain ⟨-, -, -, -, -, -, -, -, -, -, -, s1, s2, s3, s4⟩ := s
  exact ⟨by omega, by omega⟩
theorem SB_cap (s : SB E h x b cap n f C K) : cap = 16 ∨ cap = 34 := s.2.2.2.2.2.2.1
theorem SB_tr {b' : Nat} (f1 : FG (sbA x b) h h') (hb : b' = b ∨ j_z h ≤ b') (f2 : FG (sbA x b') h' h'') : FG (sbA x b) h h'' := by
  refine ⟨Nat.le_trans f1.1 f2.1, fun a ha z => sm_tr (f1.2 a ha z) (f2.2 a (Nat.lt_of_lt_of_le ha f1.1) (fun y => ?_))⟩
  rcases y with y | y
  · exact z (Or.inl y)
  · rcases hb with e | e
    · exact z (Or.inr (y.trans e))
    · omega
theorem sp_J8_newLength (hl : l.stackTraces = false) {g : Int32} (hg : (if g < nI 18 then nI 18 else g) = nI 18) (hB : j_bd E h) (H : Q (.inl (some (.int (nI 34)))) h) : j_Met l D bs E (d + 1) n_J8_newLength_cabcc [.int (nI 16), .int g, .int (nI 18)] h Q := by
  refine j_methF hl rfl g_J8_newLength_cabcc (Nat.le_of_ble_eq_true rfl) (fun z => absurd z (by decide)) hB.1 hB.2 (fun G hG => ?_)
  refine b_J8_newLength_cabcc_0 hG ?_
  dsimp only [q_J8_newLength_cabcc_0, j_wp, j_opB, j_opA, j_nth, j_i1, j_i2, j_l1, j_l2, j_li, j_f1, j_f2, j_d1, j_d2, j_r1, j_ai, j_aii, j_ail, j_aid, j_air, j_st1, j_st2, j_stu, j_kl, j_cond, j_args, j_out, j_few, j_cw, j_nat, j_pad, j_exp, Nat.reduceAdd]
  show (if (0 : Int32) < nI 16 + (if g < nI 18 then nI 18 else g) then (if (2147483639 : Int32) < nI 16 + (if g < nI 18 then nI 18 else g) then _ else (j_nar 0 (nI 16 + (if g < nI 18 then nI 18 else g)) ∧ Q (.inl (some (.int (nI 16 + (if g < nI 18 then nI 18 else g))))) h)) else _)
  rw [hg, show nI 16 + nI 18 = nI 34 from rfl, if_pos (by decide), if_neg (by decide)]
  exact ⟨trivial, H⟩
theorem jc_g : ∀ q, q < 35 → 16 < q → (if nI q - nI 16 < nI 18 then nI 18 else nI q - nI 16) = nI 18 := by decide +kernel
theorem sp_J5_newCapacity (hl : l.stackTraces = false) (hx : j_sh h x = some (.inr 1)) (hc : j_I h x 1 = 0) (hr : j_R h x 0 = some b) (hb : j_sh h b = some (.inl (3, 16))) {q : Nat} (h1 : 16 < q) (h2 : q < 35) (hB : j_bd E h) (H : Q (.inl (some (.int (nI 34)))) h) : j_Met l D bs E (d + 2) n_J5_newCapacity_0f7a4 [.ref x, .int (nI q)] h Q := by
  refine j_methF hl rfl g_J5_newCapacity_0f7a4 (Nat.le_of_ble_eq_true rfl) (fun _ => ⟨_, _, rfl, hx⟩) hB.1 hB.2 (fun G hG => ?_)
  refine b_J5_newCapacity_0f7a4_0 hG ?_
  dsimp only [q_J5_newCapacity_0f7a4_0, j_wp, j_opB, j_opA, j_nth, j_i1, j_i2, j_l1, j_l2, j_li, j_f1, j_f2, j_d1, j_d2, j_r1, j_ai, j_aii, j_ail, j_aid, j_air, j_st1, j_st2, j_stu, j_kl, j_cond, j_args, j_out, j_few, j_cw, j_nat, j_pad, j_exp, Nat.reduceAdd]
  simp only [hx, hr, hb, hc, j_ref, j_len, true_and, sb_shl0]
  rw [show nI 16 + 2 = nI 18 from rfl]
  refine sp_J8_newLength hl (jc_g q h2 h1) hB ?_
  show j_cond .ne (nI 34) 2147483647 _ _
  dsimp only [j_cond]
  rw [if_neg (show ¬ nI 34 = 2147483647 by decide)]
  refine b_J5_newCapacity_0f7a4_51 hG ?_
  dsimp only [q_J5_newCapacity_0f7a4_51, j_wp, j_opB, j_opA, j_nth, j_i1, j_i2, j_l1, j_l2, j_li, j_f1, j_f2, j_d1, j_d2, j_r1, j_ai, j_aii, j_ail, j_aid, j_air, j_st1, j_st2, j_stu, j_kl, j_cond, j_args, j_out, j_few, j_cw, j_nat, j_pad, j_exp, Nat.reduceAdd]
  simp only [hx, hc, true_and, sb_shr0]
  exact ⟨trivial, H⟩
/-- Arrays.copyOf, of 16 bytes into 34 -/
theorem sp_J7_copyOf (hl : l.stackTraces = false) (hb : j_sh h b = some (.inl (3, 16))) (hz : b < j_z h) (hf : ∀ i, i < 16 → j_I h b i = f i ∧ (f i).toInt8.toInt32 = f i) (hc1 : j_c h + 1 ≤ E.2.1) (hc2 : j_k h + 34 ≤ E.2.2)
    (H : Q (.inl (some (.ref (j_z h)))) (j_rowI (j_new h (.inl (3, 34)) 34) (j_z h) (va_cpy (j_I h b) (fun _ => 0) 0 0 16))) : j_Met l D bs E (d + 1) n_J7_copyOf_9075b [.ref b, .int (nI 34)] h Q := by
  have hB : j_bd E h := ⟨by omega, by omega⟩
  refine j_methF hl rfl g_J7_copyOf_9075b (Nat.le_of_ble_eq_true rfl) (fun z => absurd z (by decide)) hB.1 hB.2 (fun G hG => ?_)
  refine b_J7_copyOf_9075b_0 hG ?_
  dsimp only [q_J7_copyOf_9075b_0, j_wp, j_opB, j_opA, j_nth, j_i1, j_i2, j_l1, j_l2, j_li, j_f1, j_f2, j_d1, j_d2, j_r1, j_ai, j_aii, j_ail, j_aid, j_air, j_st1, j_st2, j_stu, j_kl, j_cond, j_args, j_out, j_few, j_cw, j_nat, j_pad, j_exp, Nat.reduceAdd]
  rw [hb]
  dsimp only [j_len]
  rw [if_neg (show ¬ nI 34 = nI 16 by decide)]
  refine b_J7_copyOf_9075b_14 hG ?_
  dsimp only [q_J7_copyOf_9075b_14, j_wp, j_opB, j_opA, j_nth, j_i1, j_i2, j_l1, j_l2, j_li, j_f1, j_f2, j_d1, j_d2, j_r1, j_ai, j_aii, j_ail, j_aid, j_air, j_st1, j_st2, j_stu, j_kl, j_cond, j_args, j_out, j_few, j_cw, j_nat, j_pad, j_exp, Nat.reduceAdd]
  have e34 : (nI 34).toNatClampNeg = 34 := nI_clamp (by decide)
  rw [e34]
  have hne : b ≠ j_z h := by omega
  have hb' : j_sh (j_new h (.inl (3, 34)) 34) b = some (.inl (3, 16)) := by rw [show j_sh (j_new h (.inl (3, 34)) 34) b = if b = j_z h then some (.inl (3, 34)) else j_sh h b from rfl, if_neg hne]; exact hb
  have hn' : j_sh (j_new h (.inl (3, 34)) 34) (j_z h) = some (.inl (3, 34)) := by rw [show j_sh (j_new h (.inl (3, 34)) 34) (j_z h) = if j_z h = j_z h then some (.inl (3, 34)) else j_sh h (j_z h) from rfl, if_pos rfl]
  refine ⟨by decide, by decide, hc1, hc2, ?_⟩
  have ei : j_I (j_new h (.inl (3, 34)) 34) b = j_I h b := by
    funext k
    simp [j_I, j_new, j_row, hne]
  have ez : j_I (j_new h (.inl (3, 34)) 34) (j_z h) = fun _ => 0 := by
    funext k
    simp [j_I, j_new, j_row]
  have em : (if nI 34 < nI 16 then nI 34 else nI 16) = nI 16 := by decide
  have c16 : (nI 16).toNatClampNeg = 16 := nI_clamp (by decide)
  have c0 : (0 : Int32).toNatClampNeg = 0 := rfl
  rw [hb']
  dsimp only [j_len]
  rw [hn']
  dsimp only [j_arb, j_arr]
  rw [em, c16, c0, ei, ez]
  refine ⟨rfl, by decide, by decide, by decide, by decide, by decide, fun i hi => ?_, hne, H⟩
  rw [Nat.zero_add, (hf i hi).1]
  exact (hf i hi).2
end JCap
