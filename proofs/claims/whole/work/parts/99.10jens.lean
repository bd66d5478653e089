/-! ===== JDK: a StringBuilder's ensureCapacityInternal, setLength(0), append(char) ===== -/
section JEns
variable {l : Launch} {D : va_G} {bs : Nat} {E : j_E} {h h' h'' : j_H} {d : Nat} {Q : j_O → j_H → Prop} {x b cap n C K : Nat} {f : Nat → Int32}
/-- grown: 34 new bytes -/
def sbG (h : j_H) (x b : Nat) : j_H := j_setR (j_rowI (j_new h (.inl (3, 34)) 34) (j_z h) (va_cpy (j_I h b) (fun _ => 0) 0 0 16)) x 0 (some (j_z h))
theorem sbG_sh {a : Nat} (ha : a ≠ j_z h) : j_sh (sbG h x b) a = j_sh h a := by
  show (if a = j_z h then _ else j_sh h a) = _
  rw [if_neg ha]
theorem sbG_I {a k : Nat} (ha : a ≠ j_z h) : j_I (sbG h x b) a k = j_I h a k := by
  simp [sbG, j_I, j_setR, j_rowI, j_new, j_row, ha]
theorem sbG_sm {a : Nat} (ha : a ≠ j_z h) (hx : a ≠ x) : sm h (sbG h x b) a := by
  refine ⟨sbG_sh ha, fun k => ?_, fun k => ?_, fun k => sbG_I ha, fun k => ?_⟩
  · simp [sbG, j_R, j_setR, j_rowI, j_new, j_row, j_up, ha, hx]
  · simp [sbG, j_D, j_setR, j_rowI, j_new, j_row, ha]
  · simp [sbG, j_L, j_setR, j_rowI, j_new, j_row, ha]
theorem SB_grow (s : SB E h x b 16 n f C K) : SB E (sbG h x b) x (j_z h) 34 n (fun i => if i < 16 then f i else 0) C K ∧ FG (sbA x b) h (sbG h x b) := by
  obtain ⟨hx, hc, hr, hb, hn, hnc, hcap, hf, hxb, hxz, hbz, hC, hK, hCE, hKE⟩ := s
  have s16 : sb1 16 = 1 := rfl
  have s34 : sb1 34 = 0 := rfl
  have zc : j_c (sbG h x b) = j_c h + 1 := rfl
  have zk : j_k (sbG h x b) = j_k h + 34 := rfl
  have zz : j_z (sbG h x b) = j_z h + 1 := rfl
  refine ⟨⟨by rw [sbG_sh (by omega)]; exact hx, by rw [sbG_I (by omega)]; exact hc, ?_, ?_, by rw [sbG_I (by omega)]; exact hn, by omega, Or.inr rfl, fun i hi => ⟨?_, ?_⟩, by omega, by omega, by omega, by omega, by omega, hCE, hKE⟩, by omega, fun a ha z => sbG_sm (by omega) (fun e => z (Or.inl e))⟩
  · show j_R (j_setR _ x 0 _) x 0 = _
    rw [jh_R, if_pos ⟨rfl, rfl⟩]
  · show (if j_z h = j_z h then some _ else j_sh h (j_z h)) = _
    rw [if_pos rfl]
  · show j_I (j_rowI _ (j_z h) _) (j_z h) i = _
    rw [jh_row, if_pos rfl, va_cpy0]
    dsimp only
    by_cases e : i < 16
    · rw [if_pos e, if_pos e]
      exact (hf i e).1
    · rw [if_neg e, if_neg e]
  · dsimp only
    by_cases e : i < 16
    · rw [if_pos e]
      exact (hf i e).2
    · rw [if_neg e]
      rfl
theorem sp_J5_ensure (hl : l.stackTraces = false) (s : SB E h x b cap n f C K) {q : Nat} (hq : q ≤ 34) (H : ∀ h' b' cap' f', SB E h' x b' cap' n f' C K → q ≤ cap' → (∀ i, i < cap → f' i = f i) → FG (sbA x b) h h' → (b' = b ∨ j_z h ≤ b') → Q (.inl none) h') : j_Met l D bs E (d + 3) n_J5_ensureCapacityInternal_d00df [.ref x, .int (nI q)] h Q := by
  have s0 := s
  obtain ⟨hx, hc, hr, hb, hn, hnc, hcap, hf, hxb, hxz, hbz, hC, hK, hCE, hKE⟩ := s
  have hB := SB_bd s0
  refine j_methF hl rfl g_J5_ensureCapacityInternal_d00df (Nat.le_of_ble_eq_true rfl) (fun _ => ⟨_, _, rfl, hx⟩) hB.1 hB.2 (fun G hG => ?_)
  refine b_J5_ensureCapacityInternal_d00df_0 hG ?_
  dsimp only [q_J5_ensureCapacityInternal_d00df_0, j_wp, j_opB, j_opA, j_nth, j_i1, j_i2, j_l1, j_l2, j_li, j_f1, j_f2, j_d1, j_d2, j_r1, j_ai, j_aii, j_ail, j_aid, j_air, j_st1, j_st2, j_stu, j_kl, j_cond, j_args, j_out, j_few, j_cw, j_nat, j_pad, j_exp, Nat.reduceAdd]
  simp only [hx, hr, hb, hc, j_ref, j_len, true_and, sb_shr0]
  have e1 : (nI q - nI cap).toInt = (q : Int) - cap := pk_sub_toInt (by omega) (by omega)
  by_cases hqc : q ≤ cap
  · rw [if_neg (fun z => by rw [Int32.lt_iff_toInt_lt, e1, Int32.toInt_zero] at z; omega)]
    refine b_J5_ensureCapacityInternal_d00df_38 hG ?_
    dsimp only [q_J5_ensureCapacityInternal_d00df_38, j_wp, j_opB, j_opA, j_nth, j_i1, j_i2, j_l1, j_l2, j_li, j_f1, j_f2, j_d1, j_d2, j_r1, j_ai, j_aii, j_ail, j_aid, j_air, j_st1, j_st2, j_stu, j_kl, j_cond, j_args, j_out, j_few, j_cw, j_nat, j_pad, j_exp, Nat.reduceAdd]
    exact H h b cap f s0 hqc (fun _ _ => rfl) FG_rf (Or.inl rfl)
  · rw [if_pos (by rw [Int32.lt_iff_toInt_lt, e1, Int32.toInt_zero]; omega)]
    have e16 : cap = 16 := by omega
    subst e16
    have s16 : sb1 16 = 1 := rfl
    refine sp_J5_newCapacity hl hx hc hr hb (q := q) (by omega) (by omega) hB ?_
    refine ⟨hx, ?_⟩
    rw [hc, sb_shl0]
    refine sp_J7_copyOf (E := E) hl hb hbz hf (by omega) (by omega) ?_
    obtain ⟨sg, fg⟩ := SB_grow s0
    refine ⟨?_, ?_⟩
    · show (if x = j_z h then _ else j_sh h x) = _
      rw [if_neg (by omega)]
      exact hx
    refine b_J5_ensureCapacityInternal_d00df_38 hG ?_
    dsimp only [q_J5_ensureCapacityInternal_d00df_38, j_wp, j_opB, j_opA, j_nth, j_i1, j_i2, j_l1, j_l2, j_li, j_f1, j_f2, j_d1, j_d2, j_r1, j_ai, j_aii, j_ail, j_aid, j_air, j_st1, j_st2, j_stu, j_kl, j_cond, j_args, j_out, j_few, j_cw, j_nat, j_pad, j_exp, Nat.reduceAdd]
    refine H (sbG h x b) (j_z h) 34 _ sg hq (fun i hi => if_pos hi) fg (Or.inr (Nat.le_refl _))
theorem SB_I2 {v : Int32} (s : SB E h x b cap n f C K) : SB E (j_setI h x 2 v) x b cap n f C K := by
  obtain ⟨hx, hc, hr, hb, hn, hnc, hcap, hf, hxb, hxz, hbz, hC, hK, hCE, hKE⟩ := s
  exact ⟨hx, by rw [jh_In (by omega)]; exact hc, hr, hb, by rw [jh_In (by omega)]; exact hn, hnc, hcap, fun i hi => ⟨by rw [jh_In (by omega)]; exact (hf i hi).1, (hf i hi).2⟩, hxb, hxz, hbz, hC, hK, hCE, hKE⟩
theorem SB_I3 {k : Nat} (s : SB E h x b cap n f C K) (hk : k ≤ cap) : SB E (j_setI h x 3 (nI k)) x b cap k f C K := by
  obtain ⟨hx, hc, hr, hb, hn, hnc, hcap, hf, hxb, hxz, hbz, hC, hK, hCE, hKE⟩ := s
  exact ⟨hx, by rw [jh_In (by omega)]; exact hc, hr, hb, jh_Is _ _ _ _, hk, hcap, fun i hi => ⟨by rw [jh_In (by omega)]; exact (hf i hi).1, (hf i hi).2⟩, hxb, hxz, hbz, hC, hK, hCE, hKE⟩
/-- a byte is put -/
theorem SB_put {j : Nat} {v : Int32} (s : SB E h x b cap n f C K) (hj : j < cap) (hv : v.toInt8.toInt32 = v) : SB E (j_setI h b j v) x b cap n (fun i => if i = j then v else f i) C K := by
  obtain ⟨hx, hc, hr, hb, hn, hnc, hcap, hf, hxb, hxz, hbz, hC, hK, hCE, hKE⟩ := s
  refine ⟨hx, by rw [jh_In (by omega)]; exact hc, hr, hb, by rw [jh_In (by omega)]; exact hn, hnc, hcap, fun i hi => ?_, hxb, hxz, hbz, hC, hK, hCE, hKE⟩
  dsimp only
  by_cases e : i = j
  · subst e
    rw [if_pos rfl]
    exact ⟨jh_Is _ _ _ _, hv⟩
  · rw [if_neg e, jh_In (fun z => e z.2)]
    exact hf i hi
theorem sp_J5_isLatin1 (hl : l.stackTraces = false) (s : SB E h x b cap n f C K) (H : Q (.inl (some (.int 1))) h) : j_Met l D bs E (d + 1) n_J5_isLatin1_aae02 [.ref x] h Q := by
  have hB := SB_bd s
  obtain ⟨hx, hc, -⟩ := s
  refine j_methF hl rfl g_J5_isLatin1_aae02 (Nat.le_of_ble_eq_true rfl) (fun _ => ⟨_, _, rfl, hx⟩) hB.1 hB.2 (fun G hG => ?_)
  refine b_J5_isLatin1_aae02_0 hG ?_
  dsimp only [q_J5_isLatin1_aae02_0, j_wp, j_opB, j_opA, j_nth, j_i1, j_i2, j_l1, j_l2, j_li, j_f1, j_f2, j_d1, j_d2, j_r1, j_ai, j_aii, j_ail, j_aid, j_air, j_st1, j_st2, j_stu, j_kl, j_cond, j_args, j_out, j_few, j_cw, j_nat, j_pad, j_exp, Nat.reduceAdd]
  rw [if_neg (by decide)]
  refine ⟨hx, ?_⟩
  rw [hc, if_pos rfl]
  refine b_J5_isLatin1_aae02_18 hG ?_
  dsimp only [q_J5_isLatin1_aae02_18, j_wp, j_opB, j_opA, j_nth, j_i1, j_i2, j_l1, j_l2, j_li, j_f1, j_f2, j_d1, j_d2, j_r1, j_ai, j_aii, j_ail, j_aid, j_air, j_st1, j_st2, j_stu, j_kl, j_cond, j_args, j_out, j_few, j_cw, j_nat, j_pad, j_exp, Nat.reduceAdd]
  exact ⟨Or.inr rfl, H⟩
theorem sp_J1_canEncode (hl : l.stackTraces = false) {c : Nat} (hc : c < 128) (hB : j_bd E h) (H : Q (.inl (some (.int 1))) h) : j_Met l D bs E (d + 1) n_J1_canEncode_fc78d [.int (nI c)] h Q := by
  refine j_methF hl rfl g_J1_canEncode_fc78d (Nat.le_of_ble_eq_true rfl) (fun z => absurd z (by decide)) hB.1 hB.2 (fun G hG => ?_)
  refine b_J1_canEncode_fc78d_0 hG ?_
  dsimp only [q_J1_canEncode_fc78d_0, j_wp, j_opB, j_opA, j_nth, j_i1, j_i2, j_l1, j_l2, j_li, j_f1, j_f2, j_d1, j_d2, j_r1, j_ai, j_aii, j_ail, j_aid, j_air, j_st1, j_st2, j_stu, j_kl, j_cond, j_args, j_out, j_few, j_cw, j_nat, j_pad, j_exp, Nat.reduceAdd]
  rw [if_neg (show ¬ (255 : Int32) < nI c from nI_nlt (a := 255) (by omega) (by decide))]
  refine b_J1_canEncode_fc78d_12 hG ?_
  dsimp only [q_J1_canEncode_fc78d_12, j_wp, j_opB, j_opA, j_nth, j_i1, j_i2, j_l1, j_l2, j_li, j_f1, j_f2, j_d1, j_d2, j_r1, j_ai, j_aii, j_ail, j_aid, j_air, j_st1, j_st2, j_stu, j_kl, j_cond, j_args, j_out, j_few, j_cw, j_nat, j_pad, j_exp, Nat.reduceAdd]
  exact ⟨Or.inr rfl, H⟩
theorem sp_J5_setLength (hl : l.stackTraces = false) (s : SB E h x b cap n f C K) (H : ∀ h' b' cap' f', SB E h' x b' cap' 0 f' C K → FG (sbA x b) h h' → (b' = b ∨ j_z h ≤ b') → Q (.inl none) h') : j_Met l D bs E (d + 4) n_J5_setLength_d00df [.ref x, .int 0] h Q := by
  have hB := SB_bd s
  refine j_methF hl rfl g_J5_setLength_d00df (Nat.le_of_ble_eq_true rfl) (fun _ => ⟨_, _, rfl, s.1⟩) hB.1 hB.2 (fun G hG => ?_)
  refine b_J5_setLength_d00df_0 hG ?_
  dsimp only [q_J5_setLength_d00df_0, j_wp, j_opB, j_opA, j_nth, j_i1, j_i2, j_l1, j_l2, j_li, j_f1, j_f2, j_d1, j_d2, j_r1, j_ai, j_aii, j_ail, j_aid, j_air, j_st1, j_st2, j_stu, j_kl, j_cond, j_args, j_out, j_few, j_cw, j_nat, j_pad, j_exp, Nat.reduceAdd]
  rw [if_neg (by decide)]
  refine b_J5_setLength_d00df_13 hG ?_
  dsimp only [q_J5_setLength_d00df_13, j_wp, j_opB, j_opA, j_nth, j_i1, j_i2, j_l1, j_l2, j_li, j_f1, j_f2, j_d1, j_d2, j_r1, j_ai, j_aii, j_ail, j_aid, j_air, j_st1, j_st2, j_stu, j_kl, j_cond, j_args, j_out, j_few, j_cw, j_nat, j_pad, j_exp, Nat.reduceAdd]
  refine sp_J5_ensure hl s (q := 0) (by omega) (fun h' b' cap' f' s' _ _ fg hb' => ?_)
  have hn : n < 2 ^ 31 := by obtain ⟨-, -, -, -, -, h1, h2, -⟩ := s; omega
  have hx' := s'.1
  have hn' : j_I h' x 3 = nI n := s'.2.2.2.2.1
  refine ⟨hx', ?_⟩
  rw [hn', if_neg (nI_pos hn)]
  refine b_J5_setLength_d00df_63 hG ?_
  dsimp only [q_J5_setLength_d00df_63, j_wp, j_opB, j_opA, j_nth, j_i1, j_i2, j_l1, j_l2, j_li, j_f1, j_f2, j_d1, j_d2, j_r1, j_ai, j_aii, j_ail, j_aid, j_air, j_st1, j_st2, j_stu, j_kl, j_cond, j_args, j_out, j_few, j_cw, j_nat, j_pad, j_exp, Nat.reduceAdd]
  refine ⟨hx', ?_⟩
  rw [hn']
  have fz : ∀ g : j_H, FG (sbA x b) h g → FG (sbA x b) h (j_setI g x 3 0) := fun g z => FG_sI z (Or.inl rfl)
  by_cases e : ¬ 0 < nI n
  · rw [if_neg e]
    refine b_J5_setLength_d00df_76 hG ?_
    dsimp only [q_J5_setLength_d00df_76, j_wp, j_opB, j_opA, j_nth, j_i1, j_i2, j_l1, j_l2, j_li, j_f1, j_f2, j_d1, j_d2, j_r1, j_ai, j_aii, j_ail, j_aid, j_air, j_st1, j_st2, j_stu, j_kl, j_cond, j_args, j_out, j_few, j_cw, j_nat, j_pad, j_exp, Nat.reduceAdd]
    exact ⟨hx', trivial, H _ b' cap' f' (SB_I3 s' (k := 0) (Nat.zero_le _)) (fz _ fg) hb'⟩
  · rw [if_pos (Decidable.not_not.mp e)]
    refine ⟨hx', Or.inr rfl, ?_⟩
    refine b_J5_setLength_d00df_76 hG ?_
    dsimp only [q_J5_setLength_d00df_76, j_wp, j_opB, j_opA, j_nth, j_i1, j_i2, j_l1, j_l2, j_li, j_f1, j_f2, j_d1, j_d2, j_r1, j_ai, j_aii, j_ail, j_aid, j_air, j_st1, j_st2, j_stu, j_kl, j_cond, j_args, j_out, j_few, j_cw, j_nat, j_pad, j_exp, Nat.reduceAdd]
    exact ⟨hx', trivial, H _ b' cap' f' (SB_I3 (SB_I2 s') (k := 0) (Nat.zero_le _)) (fz _ (FG_sI fg (Or.inl rfl))) hb'⟩
theorem jb_b : ∀ c, c < 128 → (nI c).toInt8.toInt32 = nI c := by decide +kernel
theorem sp_J5_appendC (hl : l.stackTraces = false) (s : SB E h x b cap n f C K) {c : Nat} (hc : c < 128) (hn : n + 1 ≤ 34) (H : ∀ h' b' cap' f', SB E h' x b' cap' (n + 1) f' C K → (∀ i, i < n → f' i = f i) → f' n = nI c → FG (sbA x b) h h' → (b' = b ∨ j_z h ≤ b') → Q (.inl (some (.ref x))) h') : j_Met l D bs E (d + 4) n_J5_append_3fe6f [.ref x, .int (nI c)] h Q := by
  have hB := SB_bd s
  have hx := s.1
  have hn3 : j_I h x 3 = nI n := s.2.2.2.2.1
  have hnc : n ≤ cap := s.2.2.2.2.2.1
  refine j_methF hl rfl g_J5_append_3fe6f (Nat.le_of_ble_eq_true rfl) (fun _ => ⟨_, _, rfl, hx⟩) hB.1 hB.2 (fun G hG => ?_)
  refine b_J5_append_3fe6f_0 hG ?_
  dsimp only [q_J5_append_3fe6f_0, j_wp, j_opB, j_opA, j_nth, j_i1, j_i2, j_l1, j_l2, j_li, j_f1, j_f2, j_d1, j_d2, j_r1, j_ai, j_aii, j_ail, j_aid, j_air, j_st1, j_st2, j_stu, j_kl, j_cond, j_args, j_out, j_few, j_cw, j_nat, j_pad, j_exp, Nat.reduceAdd]
  refine ⟨hx, ?_⟩
  rw [hn3, nI_1]
  refine sp_J5_ensure hl s hn (fun h' b' cap' f' s' hq hff fg hb' => ?_)
  refine sp_J5_isLatin1 hl s' ?_
  show j_cond .eq 1 0 _ _
  dsimp only [j_cond]
  rw [if_neg (by decide)]
  refine sp_J1_canEncode hl hc (SB_bd s') ?_
  show j_cond .eq 1 0 _ _
  dsimp only [j_cond]
  rw [if_neg (by decide)]
  obtain ⟨hx', hc', hr', hb9, hn', hnc', hcap', hf', hxb', hxz', hbz', hC', hK', hCE', hKE'⟩ := id s'
  refine ⟨hx', ?_⟩
  rw [hr']
  dsimp only [j_ref]
  refine ⟨hx', hx', trivial, ?_⟩
  show j_arr 3 (j_sh h' b') _
  rw [hb9, hn', nI_1]
  refine ⟨rfl, vp_in_nI (by omega) (by omega), ?_⟩
  rw [nI_clamp (by omega), jb_b c hc, jb_b c hc]
  refine b_J5_append_3fe6f_75 hG ?_
  dsimp only [q_J5_append_3fe6f_75, j_wp, j_opB, j_opA, j_nth, j_i1, j_i2, j_l1, j_l2, j_li, j_f1, j_f2, j_d1, j_d2, j_r1, j_ai, j_aii, j_ail, j_aid, j_air, j_st1, j_st2, j_stu, j_kl, j_cond, j_args, j_out, j_few, j_cw, j_nat, j_pad, j_exp, Nat.reduceAdd]
  have s2 := SB_put (SB_I3 s' (k := n + 1) hq) (j := n) (v := nI c) (by omega) (jb_b c hc)
  have fg1 := FG_sI (k := 3) (v := nI (n + 1)) (FG_rf (A := sbA x b') (h := h')) (Or.inl rfl)
  have fg2 := FG_sI (q := b') (k := n) (v := nI c) fg1 (Or.inr rfl)
  refine H _ b' cap' _ s2 (fun i hi => ?_) (if_pos rfl) (SB_tr fg hb' fg2) hb'
  rw [if_neg (by omega)]
  exact hff i (by omega)
end JEns
