/-! ===== JDK: a StringBuilder's append(String) of a constant ===== -/
section JApp
variable {l : Launch} {D : va_G} {bs : Nat} {E : j_E} {h h' h'' : j_H} {d : Nat} {Q : j_O → j_H → Prop} {x b cap n C K a : Nat} {f : Nat → Int32} {w : List Nat}
/-- letters put -/
theorem SB_row {g : Nat → Int32} (s : SB E h x b cap n f C K) (hg : ∀ i, i < cap → (g i).toInt8.toInt32 = g i) : SB E (j_rowI h b g) x b cap n g C K := by
  obtain ⟨hx, hc, hr, hb, hn, hnc, hcap, hf, hxb, hxz, hbz, hC, hK, hCE, hKE⟩ := s
  exact ⟨hx, by rw [jh_row, if_neg hxb]; exact hc, hr, hb, by rw [jh_row, if_neg hxb]; exact hn, hnc, hcap, fun i hi => ⟨by rw [jh_row, if_pos rfl], hg i hi⟩, hxb, hxz, hbz, hC, hK, hCE, hKE⟩
theorem FG_row {A : Nat → Prop} {q : Nat} {g : Nat → Int32} (t : FG A h h') (hq : A q) : FG A h (j_rowI h' q g) := by
  refine ⟨t.1, fun c hc z => ?_⟩
  obtain ⟨t1, t2, t3, t4, t5⟩ := t.2 c hc z
  exact ⟨t1, t2, t3, fun k => by rw [jh_row, if_neg (fun e => z (by rw [e]; exact hq))]; exact t4 k, t5⟩
theorem sp_J0_getBytes (hl : l.stackTraces = false) (k : kst h a w) (s : SB E h x b cap n f C K) (hn : n + w.length ≤ cap) (H : ∀ g, (∀ i, i < n → g i = f i) → (∀ i, i < w.length → g (n + i) = nI (w.getD i 0)) → SB E (j_rowI h b g) x b cap n g C K → Q (.inl none) (j_rowI h b g)) : j_Met l D bs E (d + 2) n_J0_getBytes_840e7 [.ref a, .ref b, .int (nI n), .int 0] h Q := by
  have hB := SB_bd s
  obtain ⟨k1, k2, k3, k4, bb, k5, k6, k7⟩ := k
  have s0 := s
  obtain ⟨hx, hc, hr, hb, hn3, hnc, hcap, hf, hxb, hxz, hbz, hC, hK, hCE, hKE⟩ := s
  have hne : bb ≠ b := fun e => by rw [e, hb] at k6; cases k6
  refine j_methF hl rfl g_J0_getBytes_840e7 (Nat.le_of_ble_eq_true rfl) (fun _ => ⟨_, _, rfl, k1⟩) hB.1 hB.2 (fun G hG => ?_)
  refine b_J0_getBytes_840e7_0 hG ?_
  dsimp only [q_J0_getBytes_840e7_0, j_wp, j_opB, j_opA, j_nth, j_i1, j_i2, j_l1, j_l2, j_li, j_f1, j_f2, j_d1, j_d2, j_r1, j_ai, j_aii, j_ail, j_aid, j_air, j_st1, j_st2, j_stu, j_kl, j_cond, j_args, j_out, j_few, j_cw, j_nat, j_pad, j_exp, Nat.reduceAdd]
  refine sp_J0_coder hl k1 k2 hB ?_
  show j_cond .ne 0 0 _ _
  dsimp only [j_cond]
  rw [if_pos rfl]
  simp only [k1, k5, k6, hb, j_ref, j_len, j_arb, j_arr, true_and, sb_shl0]
  have c0 : (0 : Int32).toNatClampNeg = 0 := rfl
  rw [nI_clamp (n := n) (by omega), nI_clamp (n := w.length) (by omega), c0]
  refine ⟨by decide, nI_pos (by omega), nI_pos (by omega), by omega, hn, fun i hi => ?_, hne, ?_⟩
  · rw [Nat.zero_add, k7 i hi]
    exact jb_b _ (k4 i hi)
  refine b_J0_getBytes_840e7_43 hG ?_
  dsimp only [q_J0_getBytes_840e7_43, j_wp, j_opB, j_opA, j_nth, j_i1, j_i2, j_l1, j_l2, j_li, j_f1, j_f2, j_d1, j_d2, j_r1, j_ai, j_aii, j_ail, j_aid, j_air, j_st1, j_st2, j_stu, j_kl, j_cond, j_args, j_out, j_few, j_cw, j_nat, j_pad, j_exp, Nat.reduceAdd]
  refine H _ (fun i hi => ?_) (fun i hi => ?_) (SB_row s0 (fun i hi => ?_))
  · rw [pk_cpy_out (by omega)]
    exact (hf i (by omega)).1
  · rw [pk_cpy_in (by omega) (by omega), show 0 + (n + i - n) = i by omega]
    exact k7 i hi
  · by_cases e : n ≤ i ∧ i < n + w.length
    · rw [pk_cpy_in e.1 e.2, k7 _ (by omega)]
      exact jb_b _ (k4 _ (by omega))
    · rw [pk_cpy_out (by omega), (hf i hi).1]
      exact (hf i hi).2
theorem sp_J5_inflateIf (hl : l.stackTraces = false) (k : kst h a w) (s : SB E h x b cap n f C K) (H : Q (.inl none) h) : j_Met l D bs E (d + 2) n_J5_inflateIfNeededFor_a7421 [.ref x, .ref a] h Q := by
  have hB := SB_bd s
  have hx := s.1
  have hc := s.2.1
  refine j_methF hl rfl g_J5_inflateIfNeededFor_a7421 (Nat.le_of_ble_eq_true rfl) (fun _ => ⟨_, _, rfl, hx⟩) hB.1 hB.2 (fun G hG => ?_)
  refine b_J5_inflateIfNeededFor_a7421_0 hG ?_
  dsimp only [q_J5_inflateIfNeededFor_a7421_0, j_wp, j_opB, j_opA, j_nth, j_i1, j_i2, j_l1, j_l2, j_li, j_f1, j_f2, j_d1, j_d2, j_r1, j_ai, j_aii, j_ail, j_aid, j_air, j_st1, j_st2, j_stu, j_kl, j_cond, j_args, j_out, j_few, j_cw, j_nat, j_pad, j_exp, Nat.reduceAdd]
  rw [if_neg (by decide)]
  refine ⟨hx, ?_⟩
  refine sp_J0_coder hl k.1 k.2.1 hB ?_
  rw [hc]
  show j_cond .eq 0 0 _ _
  dsimp only [j_cond]
  rw [if_pos rfl]
  refine b_J5_inflateIfNeededFor_a7421_21 hG ?_
  dsimp only [q_J5_inflateIfNeededFor_a7421_21, j_wp, j_opB, j_opA, j_nth, j_i1, j_i2, j_l1, j_l2, j_li, j_f1, j_f2, j_d1, j_d2, j_r1, j_ai, j_aii, j_ail, j_aid, j_air, j_st1, j_st2, j_stu, j_kl, j_cond, j_args, j_out, j_few, j_cw, j_nat, j_pad, j_exp, Nat.reduceAdd]
  exact H
theorem sp_J5_putStringAt (hl : l.stackTraces = false) (k : kst h a w) (s : SB E h x b cap n f C K) (hn : n + w.length ≤ cap) (H : ∀ g, (∀ i, i < n → g i = f i) → (∀ i, i < w.length → g (n + i) = nI (w.getD i 0)) → SB E (j_rowI h b g) x b cap n g C K → Q (.inl none) (j_rowI h b g)) : j_Met l D bs E (d + 3) n_J5_putStringAt_47b60 [.ref x, .int (nI n), .ref a] h Q := by
  have hB := SB_bd s
  have hx := s.1
  have hc := s.2.1
  have hr := s.2.2.1
  refine j_methF hl rfl g_J5_putStringAt_47b60 (Nat.le_of_ble_eq_true rfl) (fun _ => ⟨_, _, rfl, hx⟩) hB.1 hB.2 (fun G hG => ?_)
  refine b_J5_putStringAt_47b60_0 hG ?_
  dsimp only [q_J5_putStringAt_47b60_0, j_wp, j_opB, j_opA, j_nth, j_i1, j_i2, j_l1, j_l2, j_li, j_f1, j_f2, j_d1, j_d2, j_r1, j_ai, j_aii, j_ail, j_aid, j_air, j_st1, j_st2, j_stu, j_kl, j_cond, j_args, j_out, j_few, j_cw, j_nat, j_pad, j_exp, Nat.reduceAdd]
  refine sp_J5_inflateIf hl k s ?_
  refine ⟨hx, ?_⟩
  rw [hr]
  dsimp only [j_ref]
  refine ⟨hx, ?_⟩
  rw [hc]
  exact sp_J0_getBytes hl k s hn H
theorem sp_J5_appendS (hl : l.stackTraces = false) (s : SB E h x b cap n f C K) (hk : ∀ h1, FG (sbA x b) h h1 → kst h1 a w) (hn : n + w.length ≤ 34) (H : ∀ h' b' cap' f', SB E h' x b' cap' (n + w.length) f' C K → (∀ i, i < n → f' i = f i) → (∀ i, i < w.length → f' (n + i) = nI (w.getD i 0)) → FG (sbA x b) h h' → (b' = b ∨ j_z h ≤ b') → Q (.inl (some (.ref x))) h') : j_Met l D bs E (d + 4) n_J5_append_cf1ce [.ref x, .ref a] h Q := by
  have hB := SB_bd s
  have hx := s.1
  have hn3 : j_I h x 3 = nI n := s.2.2.2.2.1
  have hnc : n ≤ cap := s.2.2.2.2.2.1
  obtain ⟨k1, k2, k3, k4, bb, k5, k6, k7⟩ := hk h FG_rf
  refine j_methF hl rfl g_J5_append_cf1ce (Nat.le_of_ble_eq_true rfl) (fun _ => ⟨_, _, rfl, hx⟩) hB.1 hB.2 (fun G hG => ?_)
  refine b_J5_append_cf1ce_0 hG ?_
  dsimp only [q_J5_append_cf1ce_0, j_wp, j_opB, j_opA, j_nth, j_i1, j_i2, j_l1, j_l2, j_li, j_f1, j_f2, j_d1, j_d2, j_r1, j_ai, j_aii, j_ail, j_aid, j_air, j_st1, j_st2, j_stu, j_kl, j_cond, j_args, j_out, j_few, j_cw, j_nat, j_pad, j_exp, Nat.reduceAdd]
  refine b_J5_append_cf1ce_9 hG ?_
  dsimp only [q_J5_append_cf1ce_9, j_wp, j_opB, j_opA, j_nth, j_i1, j_i2, j_l1, j_l2, j_li, j_f1, j_f2, j_d1, j_d2, j_r1, j_ai, j_aii, j_ail, j_aid, j_air, j_st1, j_st2, j_stu, j_kl, j_cond, j_args, j_out, j_few, j_cw, j_nat, j_pad, j_exp, Nat.reduceAdd]
  refine sp_J0_length hl k1 k2 k5 k6 hB ?_
  refine ⟨hx, ?_⟩
  rw [hn3, nI_add]
  refine sp_J5_ensure hl s hn (fun h' b' cap' f' s' hq hff fg hb' => ?_)
  have hx' := s'.1
  have hn' : j_I h' x 3 = nI n := s'.2.2.2.2.1
  refine ⟨hx', ?_⟩
  rw [hn']
  refine sp_J5_putStringAt hl (hk h' fg) s' hq (fun g g1 g2 g3 => ?_)
  have hx2 := g3.1
  have hn2 : j_I (j_rowI h' b' g) x 3 = nI n := g3.2.2.2.2.1
  refine ⟨hx2, ?_⟩
  rw [hn2, nI_add]
  refine ⟨hx2, trivial, ?_⟩
  have fg1 := FG_row (g := g) (FG_rf (A := sbA x b') (h := h')) (Or.inr rfl)
  have fg2 := FG_sI (k := 3) (v := nI (n + w.length)) fg1 (Or.inl rfl)
  exact H _ b' cap' g (SB_I3 g3 hq) (fun i hi => (g1 i hi).trans (hff i (by omega))) g2 (SB_tr fg hb' fg2) hb'
end JApp
