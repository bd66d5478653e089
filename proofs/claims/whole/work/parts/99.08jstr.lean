/-! ===== JDK: String.length, String.charAt ===== -/
section JStr
variable {l : Launch} {D : va_G} {bs : Nat} {E : j_E} {h : j_H} {d : Nat} {Q : j_O → j_H → Prop}
theorem j3_dec : decode cJ3_checkIndex_8e157 0 = .ok (.iload_n 0, 1) ∧ decode cJ3_checkIndex_8e157 1 = .ok (.ifCond .lt 8, 3) ∧ decode cJ3_checkIndex_8e157 4 = .ok (.iload_n 0, 1) ∧ decode cJ3_checkIndex_8e157 5 = .ok (.iload_n 1, 1) ∧ decode cJ3_checkIndex_8e157 6 = .ok (.if_icmp .lt 10, 3) ∧ decode cJ3_checkIndex_8e157 16 = .ok (.iload_n 0, 1) ∧ decode cJ3_checkIndex_8e157 17 = .ok (.ireturn, 1) :=
  ⟨by decide +kernel, by decide +kernel, by decide +kernel, by decide +kernel, by decide +kernel, by decide +kernel, by decide +kernel⟩
/-- Preconditions.checkIndex of an index in range: a leaf, at any depth -/
theorem sp_J3_checkIndex {i n : Nat} {v : Value} (hv : v = .null ∨ ∃ a, v = .ref a) (hi : i < n) (hn : n < 2 ^ 31) (hB : j_bd E h) (hp : Q (.inl (some (.int (nI i)))) h) : j_Met l D bs E d n_J3_checkIndex_8e157 [.int (nI i), .int (nI n), v] h Q := by
  refine ⟨i_J3_checkIndex_8e157, rfl, fun z => absurd z (by decide), hB.1, hB.2, ?_⟩
  refine MetFree.of_bodySF (code := cJ3_checkIndex_8e157) (maxLocals := 3) (ret := some .int) g_J3_checkIndex_8e157.1 ?_ ?_
  · intro args s m hp hn
    obtain ⟨meth, c, h1, h2, h3, h4, h5, h6, -, -⟩ := Cond.code_spec hn (atoms_spec (ws := Cond.code yJ3_checkIndex_8e157 cJ3_checkIndex_8e157 3 (some .int) :: j_tbl) hp _ List.mem_cons_self)
    exact ⟨meth, c, h1, h2, h3, h4, h5, h6⟩
  · intro p e s m args below meth c s₁ B hml hP _
    obtain ⟨rfl, henv, hR⟩ := hP
    have hh0 : s₁.heap = s.heap := by rw [B.state]; rfl
    have hlen : (lg_sl [.int (nI i), .int (nI n), v]).length ≤ 3 := by
      rcases hv with rfl | ⟨a, rfl⟩ <;> exact Nat.le_of_ble_eq_true rfl
    have hl0 := j_ent (lv_entry [.int (nI i), .int (nI n), v] (n := 3) hlen)
    obtain ⟨d0, d1, d4, d5, d6, d16, d17⟩ := j3_dec
    have n0 : j_nth (j_pad 3 (j_exp [.int (nI i), .int (nI n), v])) 0 = .int (nI i) := by
      rcases hv with rfl | ⟨a, rfl⟩ <;> rfl
    have n1 : j_nth (j_pad 3 (j_exp [.int (nI i), .int (nI n), v])) 1 = .int (nI n) := by
      rcases hv with rfl | ⟨a, rfl⟩ <;> rfl
    have s0 := j_has_at hl0 n0 rfl
    have s1 := j_has_at hl0 n1 rfl
    have K3 : W p l e (j_room d E h) s m [.int (nI i), .int (nI n), v].toArray below meth c s.heap [] 0 0 (j_MQ below D bs E h Q [.int (nI i), .int (nI n), v].toArray s) (entryFrame m [.int (nI i), .int (nI n), v].toArray 3) := by
      rw [lg_entry_eq]
      refine lv_iload_n B.exec B.bytes d0 rfl s0 ?_
      refine lv_if_lt B.exec B.bytes d1 rfl (fun z => absurd z (nI_pos (by omega))) (fun _ => ?_)
      refine lv_iload_n B.exec B.bytes d4 rfl s0 ?_
      refine lv_iload_n B.exec B.bytes d5 rfl s1 ?_
      refine lv_icmp_lt B.exec B.bytes d6 (tgt := 16) rfl (fun _ => ?_) (fun z => absurd (nI_lt hi hn) z)
      refine lv_iload_n B.exec B.bytes d16 rfl s0 ?_
      have hf := j_fin (below := below) (E := E) (h0 := h) (args := [.int (nI i), .int (nI n), v].toArray) (post := Q) (v := some (.int (nI i))) hR (va_S.rf (A := j_A bs)) ⟨Nat.le_refl _, hB.1, Nat.le_refl _, hB.2⟩ hp
      rw [Nat.sub_self, Nat.sub_self] at hf
      exact j_Wimp hf (W.zret B.exec B.bytes B.returns rfl (fun t g1 g2 => ⟨rfl, g1, g2⟩) (fun q hq => absurd hq List.not_mem_nil) d17 B.notSynchronized)
    obtain ⟨t, a1, o, b1, b2, b3⟩ := K3 s₁ hh0 (Stand.of_body B)
    exact ⟨t, o, a1, b1, b2, b3⟩
theorem sp_J0_checkIndex (hl : l.stackTraces = false) {i n : Nat} (hi : i < n) (hn : n < 2 ^ 31) (hB : j_bd E h) (H : Q (.inl none) h) : j_Met l D bs E (d + 1) n_J0_checkIndex_df160 [.int (nI i), .int (nI n)] h Q := by
  refine j_methF hl rfl g_J0_checkIndex_df160 (Nat.le_of_ble_eq_true rfl) (fun z => absurd z (by decide)) hB.1 hB.2 (fun G hG => ?_)
  refine b_J0_checkIndex_df160_0 hG ?_
  dsimp only [q_J0_checkIndex_df160_0, j_wp, j_opB, j_opA, j_nth, j_i1, j_i2, j_l1, j_l2, j_li, j_f1, j_f2, j_d1, j_d2, j_r1, j_ai, j_aii, j_ail, j_aid, j_air, j_st1, j_st2, j_stu, j_kl, j_cond, j_args, j_out, j_few, j_cw, j_nat, j_pad, j_exp, Nat.reduceAdd]
  exact ⟨sp_J3_checkIndex (Or.inl rfl) hi hn hB H, fun a => sp_J3_checkIndex (Or.inr ⟨a, rfl⟩) hi hn hB H⟩
theorem sp_J0_coder (hl : l.stackTraces = false) {a : Nat} (hs : j_sh h a = some (.inr 0)) (hc : j_I h a 1 = 0) (hB : j_bd E h) (H : Q (.inl (some (.int 0))) h) : j_Met l D bs E (d + 1) n_J0_coder_7d493 [.ref a] h Q := by
  refine j_methF hl rfl g_J0_coder_7d493 (Nat.le_of_ble_eq_true rfl) (fun _ => ⟨_, _, rfl, hs⟩) hB.1 hB.2 (fun G hG => ?_)
  refine b_J0_coder_7d493_0 hG ?_
  dsimp only [q_J0_coder_7d493_0, j_wp, j_opB, j_opA, j_nth, j_i1, j_i2, j_l1, j_l2, j_li, j_f1, j_f2, j_d1, j_d2, j_r1, j_ai, j_aii, j_ail, j_aid, j_air, j_st1, j_st2, j_stu, j_kl, j_cond, j_args, j_out, j_few, j_cw, j_nat, j_pad, j_exp, Nat.reduceAdd]
  rw [if_neg (by decide)]
  refine ⟨hs, ?_⟩
  refine b_J0_coder_7d493_14 hG ?_
  dsimp only [q_J0_coder_7d493_14, j_wp, j_opB, j_opA, j_nth, j_i1, j_i2, j_l1, j_l2, j_li, j_f1, j_f2, j_d1, j_d2, j_r1, j_ai, j_aii, j_ail, j_aid, j_air, j_st1, j_st2, j_stu, j_kl, j_cond, j_args, j_out, j_few, j_cw, j_nat, j_pad, j_exp, Nat.reduceAdd]
  rw [hc]
  exact ⟨rfl, H⟩
theorem sp_J0_isLatin1 (hl : l.stackTraces = false) {a : Nat} (hs : j_sh h a = some (.inr 0)) (hc : j_I h a 1 = 0) (hB : j_bd E h) (H : Q (.inl (some (.int 1))) h) : j_Met l D bs E (d + 1) n_J0_isLatin1_aae02 [.ref a] h Q := by
  refine j_methF hl rfl g_J0_isLatin1_aae02 (Nat.le_of_ble_eq_true rfl) (fun _ => ⟨_, _, rfl, hs⟩) hB.1 hB.2 (fun G hG => ?_)
  refine b_J0_isLatin1_aae02_0 hG ?_
  dsimp only [q_J0_isLatin1_aae02_0, j_wp, j_opB, j_opA, j_nth, j_i1, j_i2, j_l1, j_l2, j_li, j_f1, j_f2, j_d1, j_d2, j_r1, j_ai, j_aii, j_ail, j_aid, j_air, j_st1, j_st2, j_stu, j_kl, j_cond, j_args, j_out, j_few, j_cw, j_nat, j_pad, j_exp, Nat.reduceAdd]
  rw [if_neg (by decide)]
  refine ⟨hs, ?_⟩
  rw [hc, if_pos rfl]
  refine b_J0_isLatin1_aae02_18 hG ?_
  dsimp only [q_J0_isLatin1_aae02_18, j_wp, j_opB, j_opA, j_nth, j_i1, j_i2, j_l1, j_l2, j_li, j_f1, j_f2, j_d1, j_d2, j_r1, j_ai, j_aii, j_ail, j_aid, j_air, j_st1, j_st2, j_stu, j_kl, j_cond, j_args, j_out, j_few, j_cw, j_nat, j_pad, j_exp, Nat.reduceAdd]
  exact ⟨Or.inr rfl, H⟩
theorem sp_J0_length (hl : l.stackTraces = false) {a b t n : Nat} (hs : j_sh h a = some (.inr 0)) (hc : j_I h a 1 = 0) (hr : j_R h a 0 = some b) (hb : j_sh h b = some (.inl (t, n))) (hB : j_bd E h) (H : Q (.inl (some (.int (nI n)))) h) : j_Met l D bs E (d + 2) n_J0_length_8abf5 [.ref a] h Q := by
  refine j_methF hl rfl g_J0_length_8abf5 (Nat.le_of_ble_eq_true rfl) (fun _ => ⟨_, _, rfl, hs⟩) hB.1 hB.2 (fun G hG => ?_)
  refine b_J0_length_8abf5_0 hG ?_
  dsimp only [q_J0_length_8abf5_0, j_wp, j_opB, j_opA, j_nth, j_i1, j_i2, j_l1, j_l2, j_li, j_f1, j_f2, j_d1, j_d2, j_r1, j_ai, j_aii, j_ail, j_aid, j_air, j_st1, j_st2, j_stu, j_kl, j_cond, j_args, j_out, j_few, j_cw, j_nat, j_pad, j_exp, Nat.reduceAdd]
  refine ⟨hs, ?_⟩
  rw [hr]
  dsimp only [j_ref]
  rw [hb]
  dsimp only [j_len]
  refine sp_J0_coder hl hs hc hB ?_
  refine ⟨trivial, ?_⟩
  rw [sb_shr0]
  exact H
theorem jb_char : ∀ c, c < 128 → ((nI c &&& 255).toUInt32 % 65536).toInt32 = nI c := by decide +kernel
theorem jb_char2 : ∀ c, c < 128 → ((nI c).toUInt32 % 65536).toInt32 = nI c := by decide +kernel
theorem sp_J1_charAt (hl : l.stackTraces = false) {b t n i c : Nat} (ht : t = 3 ∨ t = 8) (hb : j_sh h b = some (.inl (t, n))) (hi : i < n) (hn : n < 2 ^ 31) (hc : c < 128) (hv : j_I h b i = nI c) (hB : j_bd E h) (H : Q (.inl (some (.int (nI c)))) h) : j_Met l D bs E (d + 2) n_J1_charAt_3b067 [.ref b, .int (nI i)] h Q := by
  refine j_methF hl rfl g_J1_charAt_3b067 (Nat.le_of_ble_eq_true rfl) (fun z => absurd z (by decide)) hB.1 hB.2 (fun G hG => ?_)
  refine b_J1_charAt_3b067_0 hG ?_
  dsimp only [q_J1_charAt_3b067_0, j_wp, j_opB, j_opA, j_nth, j_i1, j_i2, j_l1, j_l2, j_li, j_f1, j_f2, j_d1, j_d2, j_r1, j_ai, j_aii, j_ail, j_aid, j_air, j_st1, j_st2, j_stu, j_kl, j_cond, j_args, j_out, j_few, j_cw, j_nat, j_pad, j_exp, Nat.reduceAdd]
  rw [hb]
  dsimp only [j_len]
  refine sp_J0_checkIndex hl hi hn hB ?_
  have k : vp_in (nI i) n ∧ j_nar 3 (((j_I h b (nI i).toNatClampNeg) &&& 255).toUInt32 % 65536).toInt32 ∧ Q (.inl (some (.int (((j_I h b (nI i).toNatClampNeg) &&& 255).toUInt32 % 65536).toInt32))) h := by
    rw [nI_clamp (by omega), hv, jb_char c hc]
    exact ⟨vp_in_nI hi hn, jb_char2 c hc, H⟩
  show j_arb (j_sh h b) _
  rw [hb]
  rcases ht with rfl | rfl
  · exact k
  · exact k
theorem sp_J0_charAt (hl : l.stackTraces = false) {a b t n i c : Nat} (ht : t = 3 ∨ t = 8) (hs : j_sh h a = some (.inr 0)) (hco : j_I h a 1 = 0) (hr : j_R h a 0 = some b) (hb : j_sh h b = some (.inl (t, n))) (hi : i < n) (hn : n < 2 ^ 31) (hc : c < 128) (hv : j_I h b i = nI c) (hB : j_bd E h) (H : Q (.inl (some (.int (nI c)))) h) : j_Met l D bs E (d + 3) n_J0_charAt_5068e [.ref a, .int (nI i)] h Q := by
  refine j_methF hl rfl g_J0_charAt_5068e (Nat.le_of_ble_eq_true rfl) (fun _ => ⟨_, _, rfl, hs⟩) hB.1 hB.2 (fun G hG => ?_)
  refine b_J0_charAt_5068e_0 hG ?_
  dsimp only [q_J0_charAt_5068e_0, j_wp, j_opB, j_opA, j_nth, j_i1, j_i2, j_l1, j_l2, j_li, j_f1, j_f2, j_d1, j_d2, j_r1, j_ai, j_aii, j_ail, j_aid, j_air, j_st1, j_st2, j_stu, j_kl, j_cond, j_args, j_out, j_few, j_cw, j_nat, j_pad, j_exp, Nat.reduceAdd]
  refine sp_J0_isLatin1 hl hs hco hB ?_
  show j_cond .eq 1 0 _ _
  dsimp only [j_cond]
  rw [if_neg (by decide)]
  refine ⟨hs, ?_⟩
  rw [hr]
  dsimp only [j_ref]
  refine sp_J1_charAt hl ht hb hi hn hc hv hB ?_
  exact ⟨jb_char2 c hc, H⟩
theorem js_all (hl : l.stackTraces = false) : JS l D bs E := by
  refine ⟨fun d h a w Q k hB H => ?_, fun d h a w i Q k hB hi H => ?_⟩
  · obtain ⟨k1, k2, k3, k4, b, k5, k6, k7⟩ := k
    exact sp_J0_length hl k1 k2 k5 k6 hB H
  · obtain ⟨k1, k2, k3, k4, b, k5, k6, k7⟩ := k
    exact sp_J0_charAt hl (Or.inr rfl) k1 k2 k5 k6 hi (by omega) (k4 i hi) (k7 i hi) hB H
end JStr
