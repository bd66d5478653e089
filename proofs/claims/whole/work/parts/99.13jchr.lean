/-! ===== JDK: Integer.getChars, a StringBuilder's append(int) ===== -/
section JChr
variable {l : Launch} {D : va_G} {bs : Nat} {E : j_E} {h h' h'' : j_H} {d : Nat} {Q : j_O → j_H → Prop} {x b cap n0 n C K : Nat} {f : Nat → Int32}
theorem DG_FG (t : DG E h) (s : SB E h x b cap n0 f C K) (fg : FG (sbA x b) h h') : DG E h' := by
  obtain ⟨t1, t2, t3, t4, t5⟩ := t
  obtain ⟨hx, hc, hr, hb, -⟩ := s
  have n1 : ¬ sbA x b (E.1 200) := fun z => by
    rcases z with z | z
    · rw [z, hx] at t1; cases t1
    · rw [z, hb] at t1; cases t1
  have n2 : ¬ sbA x b (E.1 201) := fun z => by
    rcases z with z | z
    · rw [z, hx] at t2; cases t2
    · rw [z, hb] at t2; cases t2
  have m1 := fg.2 _ t4 n1
  have m2 := fg.2 _ t5 n2
  have hz := fg.1
  exact ⟨m1.1.trans t1, m2.1.trans t2, fun k hk => ⟨(m1.2.2.2.1 k).trans (t3 k hk).1, (m2.2.2.2.1 k).trans (t3 k hk).2⟩, by omega, by omega⟩
/-- one digit is put at p -/
theorem SB_dig {p c : Nat} (s : SB E h x b cap n0 f C K) (hp : p < cap) (hc : c < 128) : SB E (j_setI h b p (nI c)) x b cap n0 (fun i => if i = p then nI c else f i) C K ∧ FG (sbA x b) h (j_setI h b p (nI c)) := ⟨SB_put s hp (jb_b c hc), FG_sI FG_rf (Or.inr rfl)⟩
/-- the end of getChars: the digits L lie at n, .. -/
def gcE (Q : j_O → j_H → Prop) (E : j_E) (x b cap n0 C K n : Nat) (h : j_H) (f : Nat → Int32) (p : Nat) (L : List Nat) : Prop := ∀ h' f', SB E h' x b cap n0 f' C K → FG (sbA x b) h h' → (∀ j, j < n ∨ p ≤ j → f' j = f j) → (∀ i, i < L.length → f' (n + i) = nI (L.getD i 0)) → Q (.inl (some (.int (nI n)))) h'
set_option maxHeartbeats 2000000 in
theorem gc_loop {G : j_G} {CC : j_Cal} (hG : j_clo CC E Q m_J6_getChars_ba4f3 G) : ∀ (k : Nat), ∀ (v p : Nat) (h : j_H) (f : Nat → Int32) (u1 u3 u4 : Value), k ≤ 8 → v < 10 ^ (k + 1) → SB E h x b cap n0 f C K → DG E h → p = n + (decF k v).length → p ≤ cap → gcE Q E x b cap n0 C K n h f p (decF k v) → G 22 [.int (-nI v), u1, .ref b, u3, u4, .int (nI p), .int 0] [] h := by
  intro k
  induction k using Nat.strongRecOn with
  | _ k ih =>
    intro v p h f u1 u3 u4 hk hv s t hp hpc H
    have hv31 : v < 2 ^ 31 := Nat.lt_of_lt_of_le hv (by
      have : 10 ^ (k + 1) ≤ 10 ^ 9 := Nat.pow_le_pow_right (by decide) (by omega)
      omega)
    have hL := (decF_len k v).1
    obtain ⟨t1, t2, t3, t4, t5⟩ := id t
    obtain ⟨hx, hc, hr, hb, hn, hnc, hcap, hf, hxb, hxz, hbz, hC, hK, hCE, hKE⟩ := id s
    have ne1 : E.1 200 ≠ b := fun e => by rw [e, hb] at t1; cases t1
    have ne2 : E.1 201 ≠ b := fun e => by rw [e, hb] at t2; cases t2
    have q1 : nI p + (-1) = nI (p - 1) := sb_m1 (by omega)
    have w1 : vp_in (nI (p - 1)) cap := vp_in_nI (by omega) (by omega)
    have z1 : (nI (p - 1)).toNatClampNeg = p - 1 := nI_clamp (by omega)
    by_cases h100 : v < 100
    · have i1 : vp_in (nI v) 100 := vp_in_nI h100 (by decide)
      have cv : (nI v).toNatClampNeg = v := nI_clamp hv31
      have b1 : (nI (48 + v % 10)).toInt8.toInt32 = nI (48 + v % 10) := jb_b _ (by omega)
      obtain ⟨s1, f1⟩ := SB_dig s (p := p - 1) (c := 48 + v % 10) (by omega) (by omega)
      refine b_J6_getChars_ba4f3_22 hG ?_
      dsimp only [q_J6_getChars_ba4f3_22, j_wp, j_opB, j_opA, j_nth, j_i1, j_i2, j_l1, j_l2, j_li, j_f1, j_f2, j_d1, j_d2, j_r1, j_ai, j_aii, j_ail, j_aid, j_air, j_st1, j_st2, j_stu, j_kl, j_cond, j_args, j_out, j_few, j_cw, j_nat, j_pad, j_exp, Nat.reduceAdd]
      rw [if_pos (show (-100 : Int32) < -nI v from (sb_nlt (a := 100) (by decide) hv31).mpr h100)]
      refine b_J6_getChars_ba4f3_72 hG ?_
      dsimp only [q_J6_getChars_ba4f3_72, j_wp, j_opB, j_opA, j_nth, j_i1, j_i2, j_l1, j_l2, j_li, j_f1, j_f2, j_d1, j_d2, j_r1, j_ai, j_aii, j_ail, j_aid, j_air, j_st1, j_st2, j_stu, j_kl, j_cond, j_args, j_out, j_few, j_cw, j_nat, j_pad, j_exp, Nat.reduceAdd]
      simp only [t1, t2, hb, j_arb, j_arr, jh_shI, Int32.neg_neg, true_and, q1, z1, cv, (t3 v h100).1, b1]
      refine ⟨i1, w1, ?_⟩
      by_cases h9 : v ≤ 9
      · rw [if_neg (fun z => by have := (sb_nlt (a := v) (b := 9) hv31 (by decide)).mp (show -nI v < -nI 9 from z); omega)]
        have eL : decF k v = [48 + v % 10] := decF_1 h9
        rw [eL] at hp H
        refine b_J6_getChars_ba4f3_104 hG ?_
        dsimp only [q_J6_getChars_ba4f3_104, j_wp, j_opB, j_opA, j_nth, j_i1, j_i2, j_l1, j_l2, j_li, j_f1, j_f2, j_d1, j_d2, j_r1, j_ai, j_aii, j_ail, j_aid, j_air, j_st1, j_st2, j_stu, j_kl, j_cond, j_args, j_out, j_few, j_cw, j_nat, j_pad, j_exp, Nat.reduceAdd]
        rw [if_pos rfl]
        refine b_J6_getChars_ba4f3_118 hG ?_
        dsimp only [q_J6_getChars_ba4f3_118, j_wp, j_opB, j_opA, j_nth, j_i1, j_i2, j_l1, j_l2, j_li, j_f1, j_f2, j_d1, j_d2, j_r1, j_ai, j_aii, j_ail, j_aid, j_air, j_st1, j_st2, j_stu, j_kl, j_cond, j_args, j_out, j_few, j_cw, j_nat, j_pad, j_exp, Nat.reduceAdd]
        simp only [List.length_singleton] at hp
        refine ⟨trivial, ?_⟩
        rw [show p - 1 = n by omega] at s1 f1 ⊢
        refine H _ _ s1 f1 (fun j hj => if_neg (by omega)) (fun i hi => ?_)
        simp only [List.length_singleton] at hi
        obtain rfl : i = 0 := by omega
        exact if_pos rfl
      · obtain ⟨k', rfl⟩ : ∃ k', k = k' + 1 := ⟨k - 1, by
          rcases Nat.eq_zero_or_pos k with e | e
          · rw [e] at hv
            omega
          · omega⟩
        have eL : decF (k' + 1) v = [48 + v / 10 % 10, 48 + v % 10] := decF_2 h9 h100
        rw [eL] at hp H
        simp only [List.length_cons, List.length_nil] at hp
        have d2 : v / 10 % 10 = v / 10 := by omega
        have q2 : nI (p - 1) + (-1) = nI (p - 1 - 1) := sb_m1 (by omega)
        have w2 : vp_in (nI (p - 1 - 1)) cap := vp_in_nI (by omega) (by omega)
        have z2 : (nI (p - 1 - 1)).toNatClampNeg = p - 1 - 1 := nI_clamp (by omega)
        have b2 : (nI (48 + v / 10)).toInt8.toInt32 = nI (48 + v / 10) := jb_b _ (by omega)
        have r2 : j_I (j_setI h b (p - 1) (nI (48 + v % 10))) (E.1 201) v = nI (48 + v / 10) := by
          rw [jh_In (fun z => ne2 z.1)]
          exact (t3 v h100).2
        obtain ⟨s2, f2⟩ := SB_dig s1 (p := p - 1 - 1) (c := 48 + v / 10) (by omega) (by omega)
        rw [if_pos (show -nI v < (-9 : Int32) from (sb_nlt (a := v) (b := 9) hv31 (by decide)).mpr (by omega))]
        simp only [q2, z2, r2, b2]
        refine ⟨i1, w2, ?_⟩
        refine b_J6_getChars_ba4f3_104 hG ?_
        dsimp only [q_J6_getChars_ba4f3_104, j_wp, j_opB, j_opA, j_nth, j_i1, j_i2, j_l1, j_l2, j_li, j_f1, j_f2, j_d1, j_d2, j_r1, j_ai, j_aii, j_ail, j_aid, j_air, j_st1, j_st2, j_stu, j_kl, j_cond, j_args, j_out, j_few, j_cw, j_nat, j_pad, j_exp, Nat.reduceAdd]
        rw [if_pos rfl]
        refine b_J6_getChars_ba4f3_118 hG ?_
        dsimp only [q_J6_getChars_ba4f3_118, j_wp, j_opB, j_opA, j_nth, j_i1, j_i2, j_l1, j_l2, j_li, j_f1, j_f2, j_d1, j_d2, j_r1, j_ai, j_aii, j_ail, j_aid, j_air, j_st1, j_st2, j_stu, j_kl, j_cond, j_args, j_out, j_few, j_cw, j_nat, j_pad, j_exp, Nat.reduceAdd]
        refine ⟨trivial, ?_⟩
        rw [show p - 1 - 1 = n by omega, show p - 1 = n + 1 by omega] at s2 f2
        rw [show p - 1 = n + 1 by omega] at f1
        rw [show p - 1 - 1 = n by omega, show p - 1 = n + 1 by omega]
        refine H _ _ s2 (FG_tr f1 f2) (fun j hj => ?_) (fun i hi => ?_)
        · rw [if_neg (by omega), if_neg (by omega)]
        · simp only [List.length_cons, List.length_nil] at hi
          obtain rfl | rfl : i = 0 ∨ i = 1 := by omega
          · rw [if_pos (Nat.add_zero n), d2]
            rfl
          · rw [if_neg (by omega), if_pos rfl]
            rfl
    · have hk2 : 2 ≤ k := by
        rcases Nat.lt_or_ge k 2 with e | e
        · have : 10 ^ (k + 1) ≤ 10 ^ 2 := Nat.pow_le_pow_right (by decide) (by omega)
          omega
        · exact e
      obtain ⟨k', rfl⟩ : ∃ k', k = k' + 2 := ⟨k - 2, by omega⟩
      have hv' : v / 100 < 10 ^ (k' + 1) := by
        rw [show k' + 2 + 1 = (k' + 1) + 1 + 1 by omega, Nat.pow_succ, Nat.pow_succ] at hv
        omega
      have eL : decF (k' + 2) v = decF k' (v / 100) ++ [48 + v / 10 % 10, 48 + v % 10] := decF_3 (by omega)
      rw [eL] at hp H
      have hL' := (decF_len k' (v / 100)).1
      rw [List.length_append] at hp
      simp only [List.length_cons, List.length_nil] at hp
      have r100 : v % 100 < 100 := Nat.mod_lt _ (by decide)
      have i1 : vp_in (nI (v % 100)) 100 := vp_in_nI r100 (by decide)
      have cv : (nI (v % 100)).toNatClampNeg = v % 100 := nI_clamp (by omega)
      have b1 : (nI (48 + v % 100 % 10)).toInt8.toInt32 = nI (48 + v % 100 % 10) := jb_b _ (by omega)
      have b2 : (nI (48 + v % 100 / 10)).toInt8.toInt32 = nI (48 + v % 100 / 10) := jb_b _ (by omega)
      have q2 : nI (p - 1) + (-1) = nI (p - 1 - 1) := sb_m1 (by omega)
      have w2 : vp_in (nI (p - 1 - 1)) cap := vp_in_nI (by omega) (by omega)
      have z2 : (nI (p - 1 - 1)).toNatClampNeg = p - 1 - 1 := nI_clamp (by omega)
      obtain ⟨s1, f1⟩ := SB_dig s (p := p - 1) (c := 48 + v % 100 % 10) (by omega) (by omega)
      have r2 : j_I (j_setI h b (p - 1) (nI (48 + v % 100 % 10))) (E.1 201) (v % 100) = nI (48 + v % 100 / 10) := by
        rw [jh_In (fun z => ne2 z.1)]
        exact (t3 _ r100).2
      obtain ⟨s2, f2⟩ := SB_dig s1 (p := p - 1 - 1) (c := 48 + v % 100 / 10) (by omega) (by omega)
      refine b_J6_getChars_ba4f3_22 hG ?_
      dsimp only [q_J6_getChars_ba4f3_22, j_wp, j_opB, j_opA, j_nth, j_i1, j_i2, j_l1, j_l2, j_li, j_f1, j_f2, j_d1, j_d2, j_r1, j_ai, j_aii, j_ail, j_aid, j_air, j_st1, j_st2, j_stu, j_kl, j_cond, j_args, j_out, j_few, j_cw, j_nat, j_pad, j_exp, Nat.reduceAdd]
      rw [if_neg (show ¬ (-100 : Int32) < -nI v from fun z => h100 ((sb_nlt (a := 100) (by decide) hv31).mp (show -nI 100 < -nI v from z)))]
      refine ⟨by decide, ?_⟩
      rw [sb_ndiv hv31, sb_nrem hv31]
      simp only [t1, t2, hb, j_arb, j_arr, jh_shI, true_and, q1, z1, cv, (t3 _ r100).1, b1, q2, z2, r2, b2]
      refine ⟨i1, w1, i1, w2, ?_⟩
      refine ih k' (by omega) (v / 100) (p - 1 - 1) _ _ _ _ _ (by omega) hv' s2 (DG_FG t s (FG_tr f1 f2)) (by omega) (by omega) (fun h' f' s' fg g1 g2 => ?_)
      refine H h' f' s' (FG_tr (FG_tr f1 f2) fg) (fun j hj => ?_) (fun i hi => ?_)
      · rw [g1 j (by omega)]
        rw [if_neg (by omega), if_neg (by omega)]
      · rw [List.length_append] at hi
        simp only [List.length_cons, List.length_nil] at hi
        by_cases e : i < (decF k' (v / 100)).length
        · rw [getD_l e]
          exact g2 i e
        · obtain ⟨j, rfl⟩ : ∃ j, i = (decF k' (v / 100)).length + j := ⟨i - (decF k' (v / 100)).length, by omega⟩
          rw [getD_r, g1 _ (by omega)]
          obtain rfl | rfl : j = 0 ∨ j = 1 := by omega
          · rw [if_pos (by omega), show v % 100 / 10 = v / 10 % 10 by omega]
            rfl
          · rw [if_neg (by omega), if_pos (by omega), show v % 100 % 10 = v % 10 by omega]
            rfl
theorem sp_J6_getChars (hl : l.stackTraces = false) {k v p : Nat} (hk : k ≤ 8) (hv : v < 10 ^ (k + 1)) (s : SB E h x b cap n0 f C K) (t : DG E h) (hp : p = n + (decF k v).length) (hpc : p ≤ cap) (H : gcE Q E x b cap n0 C K n h f p (decF k v)) : j_Met l D bs E (d + 1) n_J6_getChars_ba4f3 [.int (nI v), .int (nI p), .ref b] h Q := by
  have hB := SB_bd s
  have hv31 : v < 2 ^ 31 := Nat.lt_of_lt_of_le hv (by
    have : 10 ^ (k + 1) ≤ 10 ^ 9 := Nat.pow_le_pow_right (by decide) (by omega)
    omega)
  refine j_methF hl rfl g_J6_getChars_ba4f3 (Nat.le_of_ble_eq_true rfl) (fun z => absurd z (by decide)) hB.1 hB.2 (fun G hG => ?_)
  refine b_J6_getChars_ba4f3_0 hG ?_
  dsimp only [q_J6_getChars_ba4f3_0, j_wp, j_opB, j_opA, j_nth, j_i1, j_i2, j_l1, j_l2, j_li, j_f1, j_f2, j_d1, j_d2, j_r1, j_ai, j_aii, j_ail, j_aid, j_air, j_st1, j_st2, j_stu, j_kl, j_cond, j_args, j_out, j_few, j_cw, j_nat, j_pad, j_exp, Nat.reduceAdd]
  rw [if_neg (nI_pos hv31)]
  refine b_J6_getChars_ba4f3_11 hG ?_
  dsimp only [q_J6_getChars_ba4f3_11, j_wp, j_opB, j_opA, j_nth, j_i1, j_i2, j_l1, j_l2, j_li, j_f1, j_f2, j_d1, j_d2, j_r1, j_ai, j_aii, j_ail, j_aid, j_air, j_st1, j_st2, j_stu, j_kl, j_cond, j_args, j_out, j_few, j_cw, j_nat, j_pad, j_exp, Nat.reduceAdd]
  refine b_J6_getChars_ba4f3_12 hG ?_
  dsimp only [q_J6_getChars_ba4f3_12, j_wp, j_opB, j_opA, j_nth, j_i1, j_i2, j_l1, j_l2, j_li, j_f1, j_f2, j_d1, j_d2, j_r1, j_ai, j_aii, j_ail, j_aid, j_air, j_st1, j_st2, j_stu, j_kl, j_cond, j_args, j_out, j_few, j_cw, j_nat, j_pad, j_exp, Nat.reduceAdd]
  rw [if_pos rfl]
  exact gc_loop hG k v p h f _ _ _ hk hv s t hp hpc H
theorem sp_J5_appendI (hl : l.stackTraces = false) (s : SB E h x b cap n f C K) (t : DG E h) {k v : Nat} (hk : k ≤ 7) (hv : v < 10 ^ (k + 1)) (hn : n + (decF k v).length ≤ 34) (H : ∀ h' b' cap' f', SB E h' x b' cap' (n + (decF k v).length) f' C K → (∀ i, i < n → f' i = f i) → (∀ i, i < (decF k v).length → f' (n + i) = nI ((decF k v).getD i 0)) → FG (sbA x b) h h' → (b' = b ∨ j_z h ≤ b') → Q (.inl (some (.ref x))) h') : j_Met l D bs E (d + 4) n_J5_append_c97b9 [.ref x, .int (nI v)] h Q := by
  have hB := SB_bd s
  have hx := s.1
  have hn3 : j_I h x 3 = nI n := s.2.2.2.2.1
  have hnc : n ≤ cap := s.2.2.2.2.2.1
  obtain ⟨g1, g2⟩ := decF_dig k v hv
  have g3 := decF_len k v
  refine j_methF hl rfl g_J5_append_c97b9 (Nat.le_of_ble_eq_true rfl) (fun _ => ⟨_, _, rfl, hx⟩) hB.1 hB.2 (fun G hG => ?_)
  refine b_J5_append_c97b9_0 hG ?_
  dsimp only [q_J5_append_c97b9_0, j_wp, j_opB, j_opA, j_nth, j_i1, j_i2, j_l1, j_l2, j_li, j_f1, j_f2, j_d1, j_d2, j_r1, j_ai, j_aii, j_ail, j_aid, j_air, j_st1, j_st2, j_stu, j_kl, j_cond, j_args, j_out, j_few, j_cw, j_nat, j_pad, j_exp, Nat.reduceAdd]
  refine ⟨hx, ?_⟩
  rw [hn3]
  refine sp_J6_stringSize hl g3.1 (by omega) g1 g2 hB ?_
  show j_Met l D bs E _ _ [.ref x, .int (nI n + nI (decF k v).length)] h _
  rw [nI_add]
  refine sp_J5_ensure hl s hn (fun h' b' cap' f' s' hq hff fg hb' => ?_)
  refine sp_J5_isLatin1 hl s' ?_
  show j_cond .eq 1 0 _ _
  dsimp only [j_cond]
  rw [if_neg (by decide)]
  refine ⟨s'.1, ?_⟩
  rw [s'.2.2.1]
  dsimp only [j_ref]
  refine sp_J6_getChars hl (by omega) hv s' (DG_FG t s fg) rfl hq (fun h2 f2 s2 fg2 e1 e2 => ?_)
  refine b_J5_append_c97b9_48 hG ?_
  dsimp only [q_J5_append_c97b9_48, j_wp, j_opB, j_opA, j_nth, j_i1, j_i2, j_l1, j_l2, j_li, j_f1, j_f2, j_d1, j_d2, j_r1, j_ai, j_aii, j_ail, j_aid, j_air, j_st1, j_st2, j_stu, j_kl, j_cond, j_args, j_out, j_few, j_cw, j_nat, j_pad, j_exp, Nat.reduceAdd]
  have s3 := SB_I3 s2 (k := n + (decF k v).length) hq
  refine ⟨s2.1, trivial, ?_⟩
  refine H _ b' cap' f2 s3 (fun i hi => ?_) e2 (SB_tr fg hb' (FG_sI fg2 (Or.inl rfl))) hb'
  rw [e1 i (Or.inl hi)]
  exact hff i (by omega)
end JChr
