/-! ===== JDK: StringBuilder itself, its text a list of letters ===== -/
section JSx
variable {l : Launch} {D : va_G} {bs : Nat} {E : j_E} {h0 h h' : j_H} {d : Nat} {Q : j_O → j_H → Prop} {x b0 b cap C K n : Nat} {w v : List Nat} {f : Nat → Int32}
/-- the builder at x holds the letters w; since h0 nothing but it has changed -/
def SX (E : j_E) (h0 : j_H) (x b0 C K : Nat) (w : List Nat) (h : j_H) : Prop := ∃ b cap f, SB E h x b cap w.length f C K ∧ (∀ i, i < w.length → f i = nI (w.getD i 0)) ∧ FG (sbA x b0) h0 h ∧ (b = b0 ∨ j_z h0 ≤ b)
theorem sx_b {b' : Nat} (h1 : b = b0 ∨ j_z h0 ≤ b) (h2 : b' = b ∨ j_z h ≤ b') (hz : j_z h0 ≤ j_z h) : b' = b0 ∨ j_z h0 ≤ b' := by
  rcases h2 with e | e
  · rw [e]; exact h1
  · exact Or.inr (by omega)
theorem SX_sh (s : SX E h0 x b0 C K w h) : j_sh h x = some (.inr 1) := by
  obtain ⟨b, cap, f, s1, -⟩ := s
  exact s1.1
theorem SX_bd (s : SX E h0 x b0 C K w h) : j_bd E h := by
  obtain ⟨b, cap, f, s1, -⟩ := s
  exact SB_bd s1
theorem sp_J4_setLength (hl : l.stackTraces = false) (s : SX E h0 x b0 C K w h) (H : ∀ h', SX E h0 x b0 C K [] h' → Q (.inl none) h') : j_Met l D bs E (d + 5) n_J4_setLength_d00df [.ref x, .int 0] h Q := by
  have hB := SX_bd s
  have hx := SX_sh s
  obtain ⟨b, cap, f, s1, s2, s3, s4⟩ := s
  refine j_methF hl rfl g_J4_setLength_d00df (Nat.le_of_ble_eq_true rfl) (fun _ => ⟨_, _, rfl, hx⟩) hB.1 hB.2 (fun G hG => ?_)
  refine b_J4_setLength_d00df_0 hG ?_
  dsimp only [q_J4_setLength_d00df_0, j_wp, j_opB, j_opA, j_nth, j_i1, j_i2, j_l1, j_l2, j_li, j_f1, j_f2, j_d1, j_d2, j_r1, j_ai, j_aii, j_ail, j_aid, j_air, j_st1, j_st2, j_stu, j_kl, j_cond, j_args, j_out, j_few, j_cw, j_nat, j_pad, j_exp, Nat.reduceAdd]
  refine sp_J5_setLength hl s1 (fun h' b' cap' f' s' fg hb' => ?_)
  exact H h' ⟨b', cap', f', s', fun i hi => absurd hi (Nat.not_lt_zero i), SB_tr s3 s4 fg, sx_b s4 hb' s3.1⟩
theorem sp_J4_appendC (hl : l.stackTraces = false) (s : SX E h0 x b0 C K w h) {c : Nat} (hc : c < 128) (hn : w.length + 1 ≤ 34) (H : ∀ h', SX E h0 x b0 C K (w ++ [c]) h' → Q (.inl (some (.ref x))) h') : j_Met l D bs E (d + 5) n_J4_append_cf468 [.ref x, .int (nI c)] h Q := by
  have hB := SX_bd s
  have hx := SX_sh s
  obtain ⟨b, cap, f, s1, s2, s3, s4⟩ := s
  refine j_methF hl rfl g_J4_append_cf468 (Nat.le_of_ble_eq_true rfl) (fun _ => ⟨_, _, rfl, hx⟩) hB.1 hB.2 (fun G hG => ?_)
  refine b_J4_append_cf468_0 hG ?_
  dsimp only [q_J4_append_cf468_0, j_wp, j_opB, j_opA, j_nth, j_i1, j_i2, j_l1, j_l2, j_li, j_f1, j_f2, j_d1, j_d2, j_r1, j_ai, j_aii, j_ail, j_aid, j_air, j_st1, j_st2, j_stu, j_kl, j_cond, j_args, j_out, j_few, j_cw, j_nat, j_pad, j_exp, Nat.reduceAdd]
  refine sp_J5_appendC hl s1 hc hn (fun h' b' cap' f' s' e1 e2 fg hb' => ?_)
  refine H h' ⟨b', cap', f', ?_, fun i hi => ?_, SB_tr s3 s4 fg, sx_b s4 hb' s3.1⟩
  · rw [List.length_append, List.length_singleton]
    exact s'
  · rw [List.length_append, List.length_singleton] at hi
    by_cases e : i < w.length
    · rw [getD_l e, e1 i e]
      exact s2 i e
    · obtain rfl : i = w.length := by omega
      rw [e2]
      have := getD_r (w := w) (v := [c]) (i := 0)
      rw [Nat.add_zero] at this
      rw [this]
      rfl
theorem sp_J4_appendS (hl : l.stackTraces = false) (s : SX E h0 x b0 C K w h) {a : Nat} (hk : ∀ h1, FG (sbA x b0) h0 h1 → kst h1 a v) (hn : w.length + v.length ≤ 34) (H : ∀ h', SX E h0 x b0 C K (w ++ v) h' → Q (.inl (some (.ref x))) h') : j_Met l D bs E (d + 5) n_J4_append_15ec4 [.ref x, .ref a] h Q := by
  have hB := SX_bd s
  have hx := SX_sh s
  obtain ⟨b, cap, f, s1, s2, s3, s4⟩ := s
  refine j_methF hl rfl g_J4_append_15ec4 (Nat.le_of_ble_eq_true rfl) (fun _ => ⟨_, _, rfl, hx⟩) hB.1 hB.2 (fun G hG => ?_)
  refine b_J4_append_15ec4_0 hG ?_
  dsimp only [q_J4_append_15ec4_0, j_wp, j_opB, j_opA, j_nth, j_i1, j_i2, j_l1, j_l2, j_li, j_f1, j_f2, j_d1, j_d2, j_r1, j_ai, j_aii, j_ail, j_aid, j_air, j_st1, j_st2, j_stu, j_kl, j_cond, j_args, j_out, j_few, j_cw, j_nat, j_pad, j_exp, Nat.reduceAdd]
  refine sp_J5_appendS hl s1 (fun h1 g => hk h1 (SB_tr s3 s4 g)) hn (fun h' b' cap' f' s' e1 e2 fg hb' => ?_)
  refine H h' ⟨b', cap', f', ?_, fun i hi => ?_, SB_tr s3 s4 fg, sx_b s4 hb' s3.1⟩
  · rw [List.length_append]
    exact s'
  · rw [List.length_append] at hi
    by_cases e : i < w.length
    · rw [getD_l e, e1 i e]
      exact s2 i e
    · obtain ⟨j, rfl⟩ : ∃ j, i = w.length + j := ⟨i - w.length, by omega⟩
      rw [getD_r]
      exact e2 j (by omega)
theorem SX_DG (s : SX E h0 x b0 C K w h) {cap0 n0 : Nat} {f0 : Nat → Int32} {C0 K0 : Nat} (s0 : SB E h0 x b0 cap0 n0 f0 C0 K0) (t : DG E h0) : DG E h := by
  obtain ⟨b, cap, f, s1, s2, s3, s4⟩ := s
  exact DG_FG t s0 s3
theorem sp_J4_appendI (hl : l.stackTraces = false) (s : SX E h0 x b0 C K w h) (t : DG E h) {k v : Nat} (hk : k ≤ 7) (hv : v < 10 ^ (k + 1)) (hn : w.length + (decF k v).length ≤ 34) (H : ∀ h', SX E h0 x b0 C K (w ++ decF k v) h' → Q (.inl (some (.ref x))) h') : j_Met l D bs E (d + 5) n_J4_append_bf812 [.ref x, .int (nI v)] h Q := by
  have hB := SX_bd s
  have hx := SX_sh s
  obtain ⟨b, cap, f, s1, s2, s3, s4⟩ := s
  refine j_methF hl rfl g_J4_append_bf812 (Nat.le_of_ble_eq_true rfl) (fun _ => ⟨_, _, rfl, hx⟩) hB.1 hB.2 (fun G hG => ?_)
  refine b_J4_append_bf812_0 hG ?_
  dsimp only [q_J4_append_bf812_0, j_wp, j_opB, j_opA, j_nth, j_i1, j_i2, j_l1, j_l2, j_li, j_f1, j_f2, j_d1, j_d2, j_r1, j_ai, j_aii, j_ail, j_aid, j_air, j_st1, j_st2, j_stu, j_kl, j_cond, j_args, j_out, j_few, j_cw, j_nat, j_pad, j_exp, Nat.reduceAdd]
  refine sp_J5_appendI hl s1 t hk hv hn (fun h' b' cap' f' s' e1 e2 fg hb' => ?_)
  refine H h' ⟨b', cap', f', ?_, fun i hi => ?_, SB_tr s3 s4 fg, sx_b s4 hb' s3.1⟩
  · rw [List.length_append]
    exact s'
  · rw [List.length_append] at hi
    by_cases e : i < w.length
    · rw [getD_l e, e1 i e]
      exact s2 i e
    · obtain ⟨j, rfl⟩ : ∃ j, i = w.length + j := ⟨i - w.length, by omega⟩
      rw [getD_r]
      exact e2 j (by omega)
theorem sp_J4_length (hl : l.stackTraces = false) (s : SX E h0 x b0 C K w h) (H : Q (.inl (some (.int (nI w.length)))) h) : j_Met l D bs E (d + 2) n_J4_length_8abf5 [.ref x] h Q := by
  have hB := SX_bd s
  have hx := SX_sh s
  obtain ⟨b, cap, f, s1, s2, s3, s4⟩ := s
  refine j_methF hl rfl g_J4_length_8abf5 (Nat.le_of_ble_eq_true rfl) (fun _ => ⟨_, _, rfl, hx⟩) hB.1 hB.2 (fun G hG => ?_)
  refine b_J4_length_8abf5_0 hG ?_
  dsimp only [q_J4_length_8abf5_0, j_wp, j_opB, j_opA, j_nth, j_i1, j_i2, j_l1, j_l2, j_li, j_f1, j_f2, j_d1, j_d2, j_r1, j_ai, j_aii, j_ail, j_aid, j_air, j_st1, j_st2, j_stu, j_kl, j_cond, j_args, j_out, j_few, j_cw, j_nat, j_pad, j_exp, Nat.reduceAdd]
  refine j_methF hl rfl g_J5_length_8abf5 (Nat.le_of_ble_eq_true rfl) (fun _ => ⟨_, _, rfl, hx⟩) hB.1 hB.2 (fun G hG => ?_)
  refine b_J5_length_8abf5_0 hG ?_
  dsimp only [q_J5_length_8abf5_0, j_wp, j_opB, j_opA, j_nth, j_i1, j_i2, j_l1, j_l2, j_li, j_f1, j_f2, j_d1, j_d2, j_r1, j_ai, j_aii, j_ail, j_aid, j_air, j_st1, j_st2, j_stu, j_kl, j_cond, j_args, j_out, j_few, j_cw, j_nat, j_pad, j_exp, Nat.reduceAdd]
  refine ⟨hx, trivial, ?_⟩
  rw [s1.2.2.2.2.1]
  exact ⟨trivial, H⟩
theorem sp_J4_charAt (hl : l.stackTraces = false) (s : SX E h0 x b0 C K w h) {i : Nat} (hi : i < w.length) (hc : w.getD i 0 < 128) (H : Q (.inl (some (.int (nI (w.getD i 0))))) h) : j_Met l D bs E (d + 3) n_J4_charAt_5068e [.ref x, .int (nI i)] h Q := by
  have hB := SX_bd s
  have hx := SX_sh s
  obtain ⟨b, cap, f, s1, s2, s3, s4⟩ := s
  obtain ⟨-, hco, hr, hb, hn, hnc, hcap, hf, hxb, hxz, hbz, hC, hK, hCE, hKE⟩ := s1
  have e1 : (if nI cap < nI w.length then nI cap else nI w.length) = nI w.length := if_neg (nI_nlt hnc (by omega))
  refine j_methF hl rfl g_J4_charAt_5068e (Nat.le_of_ble_eq_true rfl) (fun _ => ⟨_, _, rfl, hx⟩) hB.1 hB.2 (fun G hG => ?_)
  refine b_J4_charAt_5068e_0 hG ?_
  dsimp only [q_J4_charAt_5068e_0, j_wp, j_opB, j_opA, j_nth, j_i1, j_i2, j_l1, j_l2, j_li, j_f1, j_f2, j_d1, j_d2, j_r1, j_ai, j_aii, j_ail, j_aid, j_air, j_st1, j_st2, j_stu, j_kl, j_cond, j_args, j_out, j_few, j_cw, j_nat, j_pad, j_exp, Nat.reduceAdd]
  refine j_methF hl rfl g_J5_charAt_5068e (Nat.le_of_ble_eq_true rfl) (fun _ => ⟨_, _, rfl, hx⟩) hB.1 hB.2 (fun G hG => ?_)
  refine b_J5_charAt_5068e_0 hG ?_
  dsimp only [q_J5_charAt_5068e_0, j_wp, j_opB, j_opA, j_nth, j_i1, j_i2, j_l1, j_l2, j_li, j_f1, j_f2, j_d1, j_d2, j_r1, j_ai, j_aii, j_ail, j_aid, j_air, j_st1, j_st2, j_stu, j_kl, j_cond, j_args, j_out, j_few, j_cw, j_nat, j_pad, j_exp, Nat.reduceAdd]
  simp only [hx, hco, hr, hb, hn, j_ref, j_len, true_and, sb_shr0, e1]
  refine sp_J0_checkIndex hl hi (by omega) hB ?_
  dsimp only [j_ov]
  rw [if_pos trivial, hb]
  dsimp only [j_arb]
  refine ⟨vp_in_nI (by omega) (by omega), ?_⟩
  rw [nI_clamp (by omega), (hf i (by omega)).1, s2 i hi, jb_char _ hc]
  exact ⟨jb_char2 _ hc, jb_char2 _ hc, H⟩
/-- a new builder -/
def sbN (h : j_H) (x : Nat) : j_H := j_setI (j_setR (j_new h (.inl (3, 16)) 16) x 0 (some (j_z h))) x 1 0
theorem sp_J4_init (hl : l.stackTraces = false) (hx : j_sh h x = some (.inr 1)) (hxz : x < j_z h) (r1 : j_c h + 1 ≤ E.2.1) (r2 : j_k h + 16 ≤ E.2.2) (H : Q (.inl none) (sbN h x)) : j_Met l D bs E (d + 2) n_J4_init_da8c8 [.ref x] h Q := by
  have hB : j_bd E h := ⟨by omega, by omega⟩
  have hx1 : j_sh (j_new h (.inl (3, 16)) 16) x = some (.inr 1) := by
    show (if x = j_z h then _ else j_sh h x) = _
    rw [if_neg (by omega)]
    exact hx
  refine j_methF hl rfl g_J4_init_da8c8 (Nat.le_of_ble_eq_true rfl) (fun _ => ⟨_, _, rfl, hx⟩) hB.1 hB.2 (fun G hG => ?_)
  refine b_J4_init_da8c8_0 hG ?_
  dsimp only [q_J4_init_da8c8_0, j_wp, j_opB, j_opA, j_nth, j_i1, j_i2, j_l1, j_l2, j_li, j_f1, j_f2, j_d1, j_d2, j_r1, j_ai, j_aii, j_ail, j_aid, j_air, j_st1, j_st2, j_stu, j_kl, j_cond, j_args, j_out, j_few, j_cw, j_nat, j_pad, j_exp, Nat.reduceAdd]
  refine j_methF hl rfl g_J5_init_d00df (Nat.le_of_ble_eq_true rfl) (fun _ => ⟨_, _, rfl, hx⟩) hB.1 hB.2 (fun G hG => ?_)
  refine b_J5_init_d00df_0 hG ?_
  dsimp only [q_J5_init_d00df_0, j_wp, j_opB, j_opA, j_nth, j_i1, j_i2, j_l1, j_l2, j_li, j_f1, j_f2, j_d1, j_d2, j_r1, j_ai, j_aii, j_ail, j_aid, j_air, j_st1, j_st2, j_stu, j_kl, j_cond, j_args, j_out, j_few, j_cw, j_nat, j_pad, j_exp, Nat.reduceAdd]
  rw [if_neg (by decide)]
  refine ⟨by decide, by decide, r1, r2, hx1, hx1, rfl, ?_⟩
  refine b_J5_init_d00df_38 hG ?_
  dsimp only [q_J5_init_d00df_38, j_wp, j_opB, j_opA, j_nth, j_i1, j_i2, j_l1, j_l2, j_li, j_f1, j_f2, j_d1, j_d2, j_r1, j_ai, j_aii, j_ail, j_aid, j_air, j_st1, j_st2, j_stu, j_kl, j_cond, j_args, j_out, j_few, j_cw, j_nat, j_pad, j_exp, Nat.reduceAdd]
  exact H
theorem sbN_SB (hx : j_sh h x = some (.inr 1)) (hxz : x < j_z h) (h3 : j_I h x 3 = 0) (r1 : j_c h + 2 ≤ E.2.1) (r2 : j_k h + 50 ≤ E.2.2) : SB E (sbN h x) x (j_z h) 16 0 (fun _ => 0) (j_c h + 2) (j_k h + 50) ∧ FG (fun a => a = x) h (sbN h x) := by
  have zc : j_c (sbN h x) = j_c h + 1 := rfl
  have zk : j_k (sbN h x) = j_k h + 16 := rfl
  have zz : j_z (sbN h x) = j_z h + 1 := rfl
  have s16 : sb1 16 = 1 := rfl
  have i0 : ∀ a k, a ≠ j_z h → ¬ (a = x ∧ k = 1) → j_I (sbN h x) a k = j_I h a k := by
    intro a k h1 h2
    show j_I (j_setI _ x 1 0) a k = _
    rw [jh_In h2]
    simp [j_I, j_setR, j_new, j_row, h1]
  refine ⟨⟨?_, jh_Is _ _ _ _, ?_, ?_, ?_, Nat.zero_le _, Or.inl rfl, fun i _ => ⟨?_, rfl⟩, by omega, by omega, by omega, by omega, by omega, by omega, by omega⟩, by omega, fun a ha z => ⟨?_, fun k => ?_, fun k => ?_, fun k => i0 a k (by omega) (fun y => z y.1), fun k => ?_⟩⟩
  · show (if x = j_z h then _ else j_sh h x) = _
    rw [if_neg (by omega)]
    exact hx
  · show j_R (j_setR _ x 0 _) x 0 = _
    rw [jh_R, if_pos ⟨rfl, rfl⟩]
  · show (if j_z h = j_z h then some _ else j_sh h (j_z h)) = _
    rw [if_pos rfl]
  · rw [i0 x 3 (by omega) (by omega)]
    exact h3
  · show j_I (j_setI _ x 1 0) (j_z h) i = _
    rw [jh_In (by omega)]
    simp [j_I, j_setR, j_new, j_row]
  · show (if a = j_z h then _ else j_sh h a) = _
    rw [if_neg (by omega)]
  · have ha' : a ≠ j_z h := by omega
    simp [sbN, j_R, j_setI, j_setR, j_new, j_row, j_up, ha', z]
  · have ha' : a ≠ j_z h := by omega
    simp [sbN, j_D, j_setI, j_setR, j_new, j_row, ha']
  · have ha' : a ≠ j_z h := by omega
    simp [sbN, j_L, j_setI, j_setR, j_new, j_row, ha']
end JSx
