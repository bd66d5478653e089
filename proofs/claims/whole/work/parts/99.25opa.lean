/-! ===== the calls of the law that only look ===== -/
section OpA
variable {l : Launch} {D : va_G} {bs : Nat} {E : j_E} {h : j_H} {d : Nat} {Q : j_O → j_H → Prop} {x sc Ls n : Nat} {xs : Nat → Int32}
theorem kl_st {S : Sup} {np ns c : Nat} {L : Lnk} {M : Rf} (i1 : kI (sN S) np ns c L M) : lX L 12 = rX M 5 ∧ (∀ f, f < sN S → lV L f = rV M f) ∧ (∀ p k, p < np → k < 9 → lP L p k = rP M p k) ∧ (∀ m, m < ns → (∀ k, k < 5 → lS L m k = rS M m k) ∧ (lS L m 5).toInt64 = rC M m) ∧ lServe L (sN S) = rServe M (sN S) ∧ rSok M ns ∧ (∀ f, f < sN S → ¬ (rF M f 0).toInt64 = 0) ∧ ∀ p, p < np → (∃ f, f < sN S ∧ rP M p 0 = nI f) ∧ (∃ z, 1 ≤ z ∧ z ≤ 1500 ∧ rP M p 1 = nI z) ∧ (rP M p 3 = 0 ∨ rP M p 3 = 1 ∨ rP M p 3 = 2 ∨ rP M p 3 = 3) := by
  obtain ⟨q, sf, hst, hz⟩ := i1
  have hsv := (kc_serve hst).1
  obtain ⟨s1, s2, s3, s4, s5, s6, s7, -⟩ := hst
  refine ⟨s2.2.2.2.2.2, s4, s5, s6, hsv, fun i hi => ?_, fun f hf => ?_, fun p hp => ⟨(s7.1 p hp).1, (s7.1 p hp).2, ?_⟩⟩
  · obtain ⟨p, hp, e⟩ := s7.2.1 i hi
    exact ⟨p, by have := s1.2.1; omega, e⟩
  · obtain ⟨⟨w, w1, w2, e⟩, _⟩ := s7.2.2 f hf
    exact kc_w64 w1 w2 e
  · obtain ⟨e, le⟩ := hz p hp
    rw [e]
    have : sf p = 0 ∨ sf p = 1 ∨ sf p = 2 ∨ sf p = 3 := by omega
    rcases this with g | g | g | g <;> rw [g]
    · exact Or.inl rfl
    · exact Or.inr (Or.inl rfl)
    · exact Or.inr (Or.inr (Or.inl rfl))
    · exact Or.inr (Or.inr (Or.inr rfl))
theorem q_neg {v w : Int32} {n p i : Nat} (g : ¬ inx v n ∨ w < 0) (hp : p < n) (e1 : v = nI p) (hi : i < 2 ^ 31) (e2 : w = nI i) : False := by
  rcases g with g | g
  · exact g ⟨p, hp, e1⟩
  · rw [e2] at g
    exact nI_pos hi g
theorem op_errorPosition (hl : l.stackTraces = false) (j : JJ E bs x sc Ls xs (n + 1) h) (H : ∀ a h1, AN l D E bs x sc Ls xs n (d + 60) n_X9_errorPosition [] 0 (fun b => b = .int a) h1 → Q (.inl (some (.int a))) h1) : j_Met l D bs E (d + 60) n_X8_errorPosition [.ref x] h Q := by
  obtain ⟨V, M, U, uc, Sn, w, b, cap, g1, g2, g3, k0, hw, r⟩ := j
  have k := k0.1
  obtain ⟨r', rr⟩ := RM_less r
  have hB := rm_bd rr
  obtain ⟨np, ns, c, hc, hN, hcp, i1, i2, i3, e11, x0, x2, x3, x4⟩ := kl_N k.1
  have px := PS_x g1.1
  have q := PS_q g1.1 hB
  obtain ⟨t1, t2, t3, t4, t5, t6, t7, t8⟩ := kl_st i1
  have ru := k.1.2
  exact sp_X8_errorPosition hl px hB (PS_B g1.1) (H _ _ (an_look g1 g2 g3 k0 hw r' (fun h2 Q r2 o2 hQ => sp_X9_errorPosition hl r2.1 r2.2.2.2.1 (hQ _ (rfl)))))
theorem op_flowCount (hl : l.stackTraces = false) (j : JJ E bs x sc Ls xs (n + 1) h) (H : ∀ a h1, AN l D E bs x sc Ls xs n (d + 60) n_X9_flowCount [] 0 (fun b => b = .int a) h1 → Q (.inl (some (.int a))) h1) : j_Met l D bs E (d + 60) n_X8_flowCount [.ref x] h Q := by
  obtain ⟨V, M, U, uc, Sn, w, b, cap, g1, g2, g3, k0, hw, r⟩ := j
  have k := k0.1
  obtain ⟨r', rr⟩ := RM_less r
  have hB := rm_bd rr
  obtain ⟨np, ns, c, hc, hN, hcp, i1, i2, i3, e11, x0, x2, x3, x4⟩ := kl_N k.1
  have px := PS_x g1.1
  have q := PS_q g1.1 hB
  obtain ⟨t1, t2, t3, t4, t5, t6, t7, t8⟩ := kl_st i1
  have ru := k.1.2
  exact sp_X8_flowCount hl px q (H _ _ (an_look g1 g2 g3 k0 hw r' (fun h2 Q r2 o2 hQ => sp_X9_flowCount hl r2.1 (hQ _ (by rw [x0, hN.2.2.2.2.1])))))
theorem op_ruleCount (hl : l.stackTraces = false) (j : JJ E bs x sc Ls xs (n + 1) h) (H : ∀ a h1, AN l D E bs x sc Ls xs n (d + 60) n_X9_ruleCount [] 0 (fun b => b = .int a) h1 → Q (.inl (some (.int a))) h1) : j_Met l D bs E (d + 60) n_X8_ruleCount [.ref x] h Q := by
  obtain ⟨V, M, U, uc, Sn, w, b, cap, g1, g2, g3, k0, hw, r⟩ := j
  have k := k0.1
  obtain ⟨r', rr⟩ := RM_less r
  have hB := rm_bd rr
  obtain ⟨np, ns, c, hc, hN, hcp, i1, i2, i3, e11, x0, x2, x3, x4⟩ := kl_N k.1
  have px := PS_x g1.1
  have q := PS_q g1.1 hB
  obtain ⟨t1, t2, t3, t4, t5, t6, t7, t8⟩ := kl_st i1
  have ru := k.1.2
  exact sp_X8_ruleCount hl px hB (PS_S g1.1) (H _ _ (an_look g1 g2 g3 k0 hw r' (fun h2 Q r2 o2 hQ => sp_X9_ruleCount hl r2.1 (hQ _ (by rw [ru.2.2.1])))))
theorem op_packetCount (hl : l.stackTraces = false) (j : JJ E bs x sc Ls xs (n + 1) h) (H : ∀ a h1, AN l D E bs x sc Ls xs n (d + 60) n_X9_packetCount [] 0 (fun b => b = .int a) h1 → Q (.inl (some (.int a))) h1) : j_Met l D bs E (d + 60) n_X8_packetCount [.ref x] h Q := by
  obtain ⟨V, M, U, uc, Sn, w, b, cap, g1, g2, g3, k0, hw, r⟩ := j
  have k := k0.1
  obtain ⟨r', rr⟩ := RM_less r
  have hB := rm_bd rr
  obtain ⟨np, ns, c, hc, hN, hcp, i1, i2, i3, e11, x0, x2, x3, x4⟩ := kl_N k.1
  have px := PS_x g1.1
  have q := PS_q g1.1 hB
  obtain ⟨t1, t2, t3, t4, t5, t6, t7, t8⟩ := kl_st i1
  have ru := k.1.2
  exact sp_X8_packetCount hl px q (H _ _ (an_look g1 g2 g3 k0 hw r' (fun h2 Q r2 o2 hQ => sp_X9_packetCount hl r2.1 (hQ _ (by rw [x2, hN.2.2.2.2.2.1])))))
theorem op_transmissionCount (hl : l.stackTraces = false) (j : JJ E bs x sc Ls xs (n + 1) h) (H : ∀ a h1, AN l D E bs x sc Ls xs n (d + 60) n_X9_transmissionCount [] 0 (fun b => b = .int a) h1 → Q (.inl (some (.int a))) h1) : j_Met l D bs E (d + 60) n_X8_transmissionCount [.ref x] h Q := by
  obtain ⟨V, M, U, uc, Sn, w, b, cap, g1, g2, g3, k0, hw, r⟩ := j
  have k := k0.1
  obtain ⟨r', rr⟩ := RM_less r
  have hB := rm_bd rr
  obtain ⟨np, ns, c, hc, hN, hcp, i1, i2, i3, e11, x0, x2, x3, x4⟩ := kl_N k.1
  have px := PS_x g1.1
  have q := PS_q g1.1 hB
  obtain ⟨t1, t2, t3, t4, t5, t6, t7, t8⟩ := kl_st i1
  have ru := k.1.2
  exact sp_X8_transmissionCount hl px q (H _ _ (an_look g1 g2 g3 k0 hw r' (fun h2 Q r2 o2 hQ => sp_X9_transmissionCount hl r2.1 (hQ _ (by rw [x3, hN.2.2.2.2.2.2])))))
theorem op_clock (hl : l.stackTraces = false) (j : JJ E bs x sc Ls xs (n + 1) h) (H : ∀ a h1, AN l D E bs x sc Ls xs n (d + 60) n_X9_clock [] 0 (fun b => b = .int a) h1 → Q (.inl (some (.int a))) h1) : j_Met l D bs E (d + 60) n_X8_clock [.ref x] h Q := by
  obtain ⟨V, M, U, uc, Sn, w, b, cap, g1, g2, g3, k0, hw, r⟩ := j
  have k := k0.1
  obtain ⟨r', rr⟩ := RM_less r
  have hB := rm_bd rr
  obtain ⟨np, ns, c, hc, hN, hcp, i1, i2, i3, e11, x0, x2, x3, x4⟩ := kl_N k.1
  have px := PS_x g1.1
  have q := PS_q g1.1 hB
  obtain ⟨t1, t2, t3, t4, t5, t6, t7, t8⟩ := kl_st i1
  have ru := k.1.2
  exact sp_X8_clock hl px q (H _ _ (an_look g1 g2 g3 k0 hw r' (fun h2 Q r2 o2 hQ => sp_X9_clock hl r2.1 (hQ _ (by rw [x4, e11])))))
theorem op_credit (hl : l.stackTraces = false) (j : JJ E bs x sc Ls xs (n + 1) h) (H : ∀ a h1, AN l D E bs x sc Ls xs n (d + 60) n_X9_credit [] 0 (fun b => b = .int a) h1 → Q (.inl (some (.int a))) h1) : j_Met l D bs E (d + 60) n_X8_credit [.ref x] h Q := by
  obtain ⟨V, M, U, uc, Sn, w, b, cap, g1, g2, g3, k0, hw, r⟩ := j
  have k := k0.1
  obtain ⟨r', rr⟩ := RM_less r
  have hB := rm_bd rr
  obtain ⟨np, ns, c, hc, hN, hcp, i1, i2, i3, e11, x0, x2, x3, x4⟩ := kl_N k.1
  have px := PS_x g1.1
  have q := PS_q g1.1 hB
  obtain ⟨t1, t2, t3, t4, t5, t6, t7, t8⟩ := kl_st i1
  have ru := k.1.2
  exact sp_X8_credit hl px q (H _ _ (an_look g1 g2 g3 k0 hw r' (fun h2 Q r2 o2 hQ => sp_X9_credit hl r2.1 (hQ _ (by rw [t1])))))
theorem op_nextFlow (hl : l.stackTraces = false) (j : JJ E bs x sc Ls xs (n + 1) h) (H : ∀ a h1, AN l D E bs x sc Ls xs n (d + 60) n_X9_nextFlow [] 0 (fun b => b = .int a) h1 → Q (.inl (some (.int a))) h1) : j_Met l D bs E (d + 60) n_X8_nextFlow [.ref x] h Q := by
  obtain ⟨V, M, U, uc, Sn, w, b, cap, g1, g2, g3, k0, hw, r⟩ := j
  have k := k0.1
  obtain ⟨r', rr⟩ := RM_less r
  have hB := rm_bd rr
  obtain ⟨np, ns, c, hc, hN, hcp, i1, i2, i3, e11, x0, x2, x3, x4⟩ := kl_N k.1
  have px := PS_x g1.1
  have q := PS_q g1.1 hB
  obtain ⟨t1, t2, t3, t4, t5, t6, t7, t8⟩ := kl_st i1
  have ru := k.1.2
  exact sp_X8_nextFlow hl px q hN.1 hN.2.2.2.2.1 (H _ _ (an_look g1 g2 g3 k0 hw r' (fun h2 Q r2 o2 hQ => sp_X9_nextFlow hl r2.1 hN.1 x0 (hQ _ (by rw [t5])))))
theorem op_spread (hl : l.stackTraces = false) (j : JJ E bs x sc Ls xs (n + 1) h) (H : ∀ a h1, AN l D E bs x sc Ls xs n (d + 60) n_X9_spread [] 0 (fun b => b = .long a) h1 → Q (.inl (some (.long a))) h1) : j_Met l D bs E (d + 60) n_X8_spread [.ref x] h Q := by
  obtain ⟨V, M, U, uc, Sn, w, b, cap, g1, g2, g3, k0, hw, r⟩ := j
  have k := k0.1
  obtain ⟨r', rr⟩ := RM_less r
  have hB := rm_bd rr
  obtain ⟨np, ns, c, hc, hN, hcp, i1, i2, i3, e11, x0, x2, x3, x4⟩ := kl_N k.1
  have px := PS_x g1.1
  have q := PS_q g1.1 hB
  obtain ⟨t1, t2, t3, t4, t5, t6, t7, t8⟩ := kl_st i1
  have ru := k.1.2
  exact sp_X8_spread hl px q hN.1 hN.2.2.2.2.1 (H _ _ (an_look g1 g2 g3 k0 hw r' (fun h2 Q r2 o2 hQ => sp_X9_spread hl r2.1 hN.1 x0 hN.2.2.1 x3 t6 (hQ _ (by rw [ka_spread i1 i2])))))
theorem op_undoCount (hl : l.stackTraces = false) (j : JJ E bs x sc Ls xs (n + 1) h) (H : ∀ a h1, AN l D E bs x sc Ls xs n (d + 60) n_X9_undoCount [] 0 (fun b => b = .int a) h1 → Q (.inl (some (.int a))) h1) : j_Met l D bs E (d + 60) n_X8_undoCount [.ref x] h Q := by
  obtain ⟨V, M, U, uc, Sn, w, b, cap, g1, g2, g3, k0, hw, r⟩ := j
  have k := k0.1
  obtain ⟨r', rr⟩ := RM_less r
  have hB := rm_bd rr
  obtain ⟨np, ns, c, hc, hN, hcp, i1, i2, i3, e11, x0, x2, x3, x4⟩ := kl_N k.1
  have px := PS_x g1.1
  have q := PS_q g1.1 hB
  obtain ⟨t1, t2, t3, t4, t5, t6, t7, t8⟩ := kl_st i1
  have ru := k.1.2
  exact sp_X8_undoCount hl g1.1 hB (H _ _ (an_look g1 g2 g3 k0 hw r' (fun h2 Q r2 o2 hQ => sp_X9_undoCount hl r2.1 r2.2.1 (hQ _ (by rw [k.2.1.1])))))
theorem op_worst (hl : l.stackTraces = false) (j : JJ E bs x sc Ls xs (n + 1) h) (H : ∀ a h1, AN l D E bs x sc Ls xs n (d + 60) n_X9_worst [] 0 (fun b => b = .long a) h1 → Q (.inl (some (.long a))) h1) : j_Met l D bs E (d + 60) n_X8_worst [.ref x] h Q := by
  obtain ⟨V, M, U, uc, Sn, w, b, cap, g1, g2, g3, k0, hw, r⟩ := j
  have k := k0.1
  obtain ⟨r', rr⟩ := RM_less r
  have hB := rm_bd rr
  obtain ⟨np, ns, c, hc, hN, hcp, i1, i2, i3, e11, x0, x2, x3, x4⟩ := kl_N k.1
  have px := PS_x g1.1
  have q := PS_q g1.1 hB
  obtain ⟨t1, t2, t3, t4, t5, t6, t7, t8⟩ := kl_st i1
  have ru := k.1.2
  obtain ⟨t, ht, hlt, hkp, hrow⟩ := ka_row hcp
  exact sp_X8_worst hl px (PS_r g1.1 hB) hN.1 hN.2.2.2.2.1 hN.2.2.2.1 ht hlt (H _ _ (an_look g1 g2 g3 k0 hw r' (fun h2 Q r2 o2 hQ => sp_X9_worst hl r2.1 hN.1 x0 (show c < 2 ^ 30 by omega) x4 t7 (hQ _ (by rw [ka_worst hcp hrow hkp])))))
theorem op_formattedByte (hl : l.stackTraces = false) (j : JJ E bs x sc Ls xs (n + 1) h) {v : Int32} (H : ∀ a h1, AN l D E bs x sc Ls xs n (d + 60) n_X9_formattedByte [.int v] 0 (fun b => b = .int a) h1 → Q (.inl (some (.int a))) h1) : j_Met l D bs E (d + 60) n_X8_formattedByte [.ref x, .int v] h Q := by
  obtain ⟨V, M, U, uc, Sn, w, b, cap, g1, g2, g3, k0, hw, r⟩ := j
  have k := k0.1
  obtain ⟨r', rr⟩ := RM_less r
  have hB := rm_bd rr
  obtain ⟨np, ns, c, hc, hN, hcp, i1, i2, i3, e11, x0, x2, x3, x4⟩ := kl_N k.1
  have px := PS_x g1.1
  have q := PS_q g1.1 hB
  obtain ⟨t1, t2, t3, t4, t5, t6, t7, t8⟩ := kl_st i1
  have ru := k.1.2
  have sx : SX E h (x + 49) b (j_c h + sb1 cap) (j_k h + 34 * sb1 cap) w h := BB_SX g1.2.2.1 (by have := r.1; omega) (by have := r.2; omega)
  have hl34 := hw.2
  refine sp_X8_formattedByte hl px sx hw.1 hw.2 (fun g => H _ _ (an_look g1 g2 g3 k0 hw r' (fun h2 Q r2 o2 hQ => sp_X9_formattedByte hl r2.1 r2.2.2.2.2.1 (fun _ => hQ _ rfl) (fun i hi e => absurd ⟨i, hi, e⟩ g)))) (fun i hi ei => H _ _ (an_look g1 g2 g3 k0 hw r' (fun h2 Q r2 o2 hQ => sp_X9_formattedByte hl r2.1 r2.2.2.2.2.1 (fun g => absurd ⟨i, hi, ei⟩ g) (fun i' hi' e => hQ _ (by rw [(nI_eq (by omega) (by omega)).mp (e.symm.trans ei)])))))
theorem op_classify (hl : l.stackTraces = false) (j : JJ E bs x sc Ls xs (n + 1) h) {v1 v2 v3 : Int32} (H0 : ∀ a h1, AN l D E bs x sc Ls xs n (d + 60) n_X9_classify [.int v1, .int v2, .int v3] 0 (fun b => b = .int a) h1 → Q (.inl (some (.int a))) h1) (H1 : ∀ h1, AN l D E bs x sc Ls xs n (d + 60) n_X9_classify [.int v1, .int v2, .int v3] 1 (fun b => ∃ z, b = .int z) h1 → Q (.inr 1) h1) : j_Met l D bs E (d + 60) n_X8_classify [.ref x, .int v1, .int v2, .int v3] h Q := by
  obtain ⟨V, M, U, uc, Sn, w, b, cap, g1, g2, g3, k0, hw, r⟩ := j
  have k := k0.1
  obtain ⟨r', rr⟩ := RM_less r
  have hB := rm_bd rr
  obtain ⟨np, ns, c, hc, hN, hcp, i1, i2, i3, e11, x0, x2, x3, x4⟩ := kl_N k.1
  have px := PS_x g1.1
  have q := PS_q g1.1 hB
  obtain ⟨t1, t2, t3, t4, t5, t6, t7, t8⟩ := kl_st i1
  have ru := k.1.2
  exact sp_X8_classify hl px rr (PS_S g1.1) (fun g z hz => H1 _ ((fun y1 => an_look y1.1 y1.2.1 y1.2.2 k0 hw (RM_thr r) (fun h2 Q r2 o2 hQ => sp_X9_classify hl r2.1 ru.1.2 ru.2.2.1 (fun _ => hQ _ ⟨_, rfl⟩) (fun g' => absurd g' g))) (st_thr g1 g2 g3 hz rr))) (fun g => H0 _ _ (an_look g1 g2 g3 k0 hw r' (fun h2 Q r2 o2 hQ => sp_X9_classify hl r2.1 ru.1.2 ru.2.2.1 (fun g' => absurd g g') (fun _ => hQ _ (by rw [(ka_for ru v1 v2 v3 (sM (vS V)) 0 (by omega)).1])))))
theorem op_flow (hl : l.stackTraces = false) (j : JJ E bs x sc Ls xs (n + 1) h) {v y : Int32} (H0 : ∀ a h1, AN l D E bs x sc Ls xs n (d + 60) n_X9_flow [.int v, .int y] 0 (fun b => b = .int a) h1 → Q (.inl (some (.int a))) h1) (H1 : ∀ h1, AN l D E bs x sc Ls xs n (d + 60) n_X9_flow [.int v, .int y] 1 (fun b => ∃ z, b = .int z) h1 → Q (.inr 0) h1) : j_Met l D bs E (d + 60) n_X8_flow [.ref x, .int v, .int y] h Q := by
  obtain ⟨V, M, U, uc, Sn, w, b, cap, g1, g2, g3, k0, hw, r⟩ := j
  have k := k0.1
  obtain ⟨r', rr⟩ := RM_less r
  have hB := rm_bd rr
  obtain ⟨np, ns, c, hc, hN, hcp, i1, i2, i3, e11, x0, x2, x3, x4⟩ := kl_N k.1
  have px := PS_x g1.1
  have q := PS_q g1.1 hB
  obtain ⟨t1, t2, t3, t4, t5, t6, t7, t8⟩ := kl_st i1
  have ru := k.1.2
  have b1 := hN.1
  have b2 := hN.2.1
  have b3 := hN.2.2.1
  exact sp_X8_flow hl px q rr hN.1 hN.2.2.2.2.1 (fun g z hz => H1 _ ((fun y1 => an_look y1.1 y1.2.1 y1.2.2 k0 hw (RM_thr r) (fun h2 Q r2 o2 hQ => sp_X9_flow hl r2.1 hN.1 x0 hN.2.1 x2 (fun f hf => by obtain ⟨m, m1, m2, m3⟩ := (ka_bytes hcp.1 hf).2; exact ⟨m, by omega, m2, m3⟩) (fun _ => hQ _ ⟨_, rfl⟩) (fun p k' hp hk' e1 e2 => absurd ⟨⟨p, hp, e1⟩, ⟨k', hk', e2⟩⟩ g))) (st_thr g1 g2 g3 hz rr))) (fun i kk hi hk ei ek => H0 _ _ (an_look g1 g2 g3 k0 hw r' (fun h2 Q r2 o2 hQ => sp_X9_flow hl r2.1 hN.1 x0 hN.2.1 x2 (fun f hf => by obtain ⟨m, m1, m2, m3⟩ := (ka_bytes hcp.1 hf).2; exact ⟨m, by omega, m2, m3⟩) (fun g => absurd ⟨⟨i, hi, ei⟩, ⟨kk, hk, ek⟩⟩ g) (fun p k' hp hk' e1 e2 => hQ _ (by rw [(nI_eq (by omega) (by omega)).mp (e1.symm.trans ei), (nI_eq (by omega) (by omega)).mp (e2.symm.trans ek), ka_flow hcp.1 hi hk])))))
theorem op_packet (hl : l.stackTraces = false) (j : JJ E bs x sc Ls xs (n + 1) h) {v y : Int32} (H0 : ∀ a h1, AN l D E bs x sc Ls xs n (d + 60) n_X9_packet [.int v, .int y] 0 (fun b => b = .int a) h1 → Q (.inl (some (.int a))) h1) (H1 : ∀ h1, AN l D E bs x sc Ls xs n (d + 60) n_X9_packet [.int v, .int y] 1 (fun b => ∃ z, b = .int z) h1 → Q (.inr 0) h1) : j_Met l D bs E (d + 60) n_X8_packet [.ref x, .int v, .int y] h Q := by
  obtain ⟨V, M, U, uc, Sn, w, b, cap, g1, g2, g3, k0, hw, r⟩ := j
  have k := k0.1
  obtain ⟨r', rr⟩ := RM_less r
  have hB := rm_bd rr
  obtain ⟨np, ns, c, hc, hN, hcp, i1, i2, i3, e11, x0, x2, x3, x4⟩ := kl_N k.1
  have px := PS_x g1.1
  have q := PS_q g1.1 hB
  obtain ⟨t1, t2, t3, t4, t5, t6, t7, t8⟩ := kl_st i1
  have ru := k.1.2
  have b1 := hN.1
  have b2 := hN.2.1
  have b3 := hN.2.2.1
  exact sp_X8_packet hl px q rr hN.2.1 hN.2.2.2.2.2.1 (fun g z hz => H1 _ ((fun y1 => an_look y1.1 y1.2.1 y1.2.2 k0 hw (RM_thr r) (fun h2 Q r2 o2 hQ => sp_X9_packet hl r2.1 hN.2.1 x2 (fun _ => hQ _ ⟨_, rfl⟩) (fun p k' hp hk' e1 e2 => absurd ⟨⟨p, hp, e1⟩, ⟨k', hk', e2⟩⟩ g))) (st_thr g1 g2 g3 hz rr))) (fun i kk hi hk ei ek => H0 _ _ (an_look g1 g2 g3 k0 hw r' (fun h2 Q r2 o2 hQ => sp_X9_packet hl r2.1 hN.2.1 x2 (fun g => absurd ⟨⟨i, hi, ei⟩, ⟨kk, hk, ek⟩⟩ g) (fun p k' hp hk' e1 e2 => hQ _ (by rw [(nI_eq (by omega) (by omega)).mp (e1.symm.trans ei), (nI_eq (by omega) (by omega)).mp (e2.symm.trans ek), t3 i kk hi hk])))))
theorem op_transmission (hl : l.stackTraces = false) (j : JJ E bs x sc Ls xs (n + 1) h) {v y : Int32} (H0 : ∀ a h1, AN l D E bs x sc Ls xs n (d + 60) n_X9_transmission [.int v, .int y] 0 (fun b => b = .int a) h1 → Q (.inl (some (.int a))) h1) (H1 : ∀ h1, AN l D E bs x sc Ls xs n (d + 60) n_X9_transmission [.int v, .int y] 1 (fun b => ∃ z, b = .int z) h1 → Q (.inr 0) h1) : j_Met l D bs E (d + 60) n_X8_transmission [.ref x, .int v, .int y] h Q := by
  obtain ⟨V, M, U, uc, Sn, w, b, cap, g1, g2, g3, k0, hw, r⟩ := j
  have k := k0.1
  obtain ⟨r', rr⟩ := RM_less r
  have hB := rm_bd rr
  obtain ⟨np, ns, c, hc, hN, hcp, i1, i2, i3, e11, x0, x2, x3, x4⟩ := kl_N k.1
  have px := PS_x g1.1
  have q := PS_q g1.1 hB
  obtain ⟨t1, t2, t3, t4, t5, t6, t7, t8⟩ := kl_st i1
  have ru := k.1.2
  have b1 := hN.1
  have b2 := hN.2.1
  have b3 := hN.2.2.1
  exact sp_X8_transmission hl px q rr hN.2.2.1 hN.2.2.2.2.2.2 (fun g z hz => H1 _ ((fun y1 => an_look y1.1 y1.2.1 y1.2.2 k0 hw (RM_thr r) (fun h2 Q r2 o2 hQ => sp_X9_transmission hl r2.1 hN.2.2.1 x3 (fun _ => hQ _ ⟨_, rfl⟩) (fun p k' hp hk' e1 e2 => absurd ⟨⟨p, hp, e1⟩, ⟨k', hk', e2⟩⟩ g))) (st_thr g1 g2 g3 hz rr))) (fun i kk hi hk ei ek => H0 _ _ (an_look g1 g2 g3 k0 hw r' (fun h2 Q r2 o2 hQ => sp_X9_transmission hl r2.1 hN.2.2.1 x3 (fun g => absurd ⟨⟨i, hi, ei⟩, ⟨kk, hk, ek⟩⟩ g) (fun p k' hp hk' e1 e2 => hQ _ (by rw [(nI_eq (by omega) (by omega)).mp (e1.symm.trans ei), (nI_eq (by omega) (by omega)).mp (e2.symm.trans ek), (t4 i hi).1 kk hk])))))
theorem op_virtualTime (hl : l.stackTraces = false) (j : JJ E bs x sc Ls xs (n + 1) h) {v : Int32} (H0 : ∀ a h1, AN l D E bs x sc Ls xs n (d + 60) n_X9_virtualTime [.int v] 0 (fun b => b = .long a) h1 → Q (.inl (some (.long a))) h1) (H1 : ∀ h1, AN l D E bs x sc Ls xs n (d + 60) n_X9_virtualTime [.int v] 1 (fun b => ∃ z, b = .long z) h1 → Q (.inr 0) h1) : j_Met l D bs E (d + 60) n_X8_virtualTime [.ref x, .int v] h Q := by
  obtain ⟨V, M, U, uc, Sn, w, b, cap, g1, g2, g3, k0, hw, r⟩ := j
  have k := k0.1
  obtain ⟨r', rr⟩ := RM_less r
  have hB := rm_bd rr
  obtain ⟨np, ns, c, hc, hN, hcp, i1, i2, i3, e11, x0, x2, x3, x4⟩ := kl_N k.1
  have px := PS_x g1.1
  have q := PS_q g1.1 hB
  obtain ⟨t1, t2, t3, t4, t5, t6, t7, t8⟩ := kl_st i1
  have ru := k.1.2
  have b1 := hN.1
  have b2 := hN.2.1
  have b3 := hN.2.2.1
  exact sp_X8_virtualTime hl px q rr hN.1 hN.2.2.2.2.1 (fun g z hz => H1 _ ((fun y1 => an_look y1.1 y1.2.1 y1.2.2 k0 hw (RM_thr r) (fun h2 Q r2 o2 hQ => sp_X9_virtualTime hl r2.1 hN.1 x0 (fun _ => hQ _ ⟨_, rfl⟩) (fun p hp e1 => absurd ⟨p, hp, e1⟩ g))) (st_thr g1 g2 g3 hz rr))) (fun i hi ei => H0 _ _ (an_look g1 g2 g3 k0 hw r' (fun h2 Q r2 o2 hQ => sp_X9_virtualTime hl r2.1 hN.1 x0 (fun g => absurd ⟨i, hi, ei⟩ g) (fun p hp e1 => hQ _ (by rw [(nI_eq (by omega) (by omega)).mp (e1.symm.trans ei)]; rw [t2 i hi])))))
theorem op_isIdle (hl : l.stackTraces = false) (j : JJ E bs x sc Ls xs (n + 1) h) {v : Int32} (H0 : ∀ a h1, AN l D E bs x sc Ls xs n (d + 60) n_X9_isIdle [.int v] 0 (fun b => b = .int a) h1 → Q (.inl (some (.int a))) h1) (H1 : ∀ h1, AN l D E bs x sc Ls xs n (d + 60) n_X9_isIdle [.int v] 1 (fun b => ∃ z, b = .int z) h1 → Q (.inr 0) h1) : j_Met l D bs E (d + 60) n_X8_isIdle [.ref x, .int v] h Q := by
  obtain ⟨V, M, U, uc, Sn, w, b, cap, g1, g2, g3, k0, hw, r⟩ := j
  have k := k0.1
  obtain ⟨r', rr⟩ := RM_less r
  have hB := rm_bd rr
  obtain ⟨np, ns, c, hc, hN, hcp, i1, i2, i3, e11, x0, x2, x3, x4⟩ := kl_N k.1
  have px := PS_x g1.1
  have q := PS_q g1.1 hB
  obtain ⟨t1, t2, t3, t4, t5, t6, t7, t8⟩ := kl_st i1
  have ru := k.1.2
  have b1 := hN.1
  have b2 := hN.2.1
  have b3 := hN.2.2.1
  exact sp_X8_isIdle hl px q rr hN.1 hN.2.2.2.2.1 (fun g z hz => H1 _ ((fun y1 => an_look y1.1 y1.2.1 y1.2.2 k0 hw (RM_thr r) (fun h2 Q r2 o2 hQ => sp_X9_isIdle hl r2.1 hN.1 x0 hN.2.2.1 x3 t6 (fun _ => hQ _ ⟨_, rfl⟩) (fun p hp e1 => absurd ⟨p, hp, e1⟩ g))) (st_thr g1 g2 g3 hz rr))) (fun i hi ei => H0 _ _ (an_look g1 g2 g3 k0 hw r' (fun h2 Q r2 o2 hQ => sp_X9_isIdle hl r2.1 hN.1 x0 hN.2.2.1 x3 t6 (fun g => absurd ⟨i, hi, ei⟩ g) (fun p hp e1 => hQ _ (by rw [(nI_eq (by omega) (by omega)).mp (e1.symm.trans ei)]; obtain ⟨qq, sf, hst, hz⟩ := i1; rw [kc_busy hst i2 hi]; cases rIdle M ns i <;> rfl)))))
theorem op_charge (hl : l.stackTraces = false) (j : JJ E bs x sc Ls xs (n + 1) h) {v : Int32} (H0 : ∀ a h1, AN l D E bs x sc Ls xs n (d + 60) n_X9_charge [.int v] 0 (fun b => b = .long a) h1 → Q (.inl (some (.long a))) h1) (H1 : ∀ h1, AN l D E bs x sc Ls xs n (d + 60) n_X9_charge [.int v] 1 (fun b => ∃ z, b = .long z) h1 → Q (.inr 0) h1) : j_Met l D bs E (d + 60) n_X8_charge [.ref x, .int v] h Q := by
  obtain ⟨V, M, U, uc, Sn, w, b, cap, g1, g2, g3, k0, hw, r⟩ := j
  have k := k0.1
  obtain ⟨r', rr⟩ := RM_less r
  have hB := rm_bd rr
  obtain ⟨np, ns, c, hc, hN, hcp, i1, i2, i3, e11, x0, x2, x3, x4⟩ := kl_N k.1
  have px := PS_x g1.1
  have q := PS_q g1.1 hB
  obtain ⟨t1, t2, t3, t4, t5, t6, t7, t8⟩ := kl_st i1
  have ru := k.1.2
  have b1 := hN.1
  have b2 := hN.2.1
  have b3 := hN.2.2.1
  exact sp_X8_charge hl px q rr hN.2.2.1 hN.2.2.2.2.2.2 (fun g z hz => H1 _ ((fun y1 => an_look y1.1 y1.2.1 y1.2.2 k0 hw (RM_thr r) (fun h2 Q r2 o2 hQ => sp_X9_charge hl r2.1 hN.2.2.1 x3 (fun _ => hQ _ ⟨_, rfl⟩) (fun p hp e1 => absurd ⟨p, hp, e1⟩ g))) (st_thr g1 g2 g3 hz rr))) (fun i hi ei => H0 _ _ (an_look g1 g2 g3 k0 hw r' (fun h2 Q r2 o2 hQ => sp_X9_charge hl r2.1 hN.2.2.1 x3 (fun g => absurd ⟨i, hi, ei⟩ g) (fun p hp e1 => hQ _ (by rw [(nI_eq (by omega) (by omega)).mp (e1.symm.trans ei)]; rw [(t4 i hi).2])))))
theorem op_outstanding (hl : l.stackTraces = false) (j : JJ E bs x sc Ls xs (n + 1) h) {v : Int32} (H0 : ∀ a h1, AN l D E bs x sc Ls xs n (d + 60) n_X9_outstanding [.int v] 0 (fun b => b = .int a) h1 → Q (.inl (some (.int a))) h1) (H1 : ∀ h1, AN l D E bs x sc Ls xs n (d + 60) n_X9_outstanding [.int v] 1 (fun b => ∃ z, b = .int z) h1 → Q (.inr 0) h1) : j_Met l D bs E (d + 60) n_X8_outstanding [.ref x, .int v] h Q := by
  obtain ⟨V, M, U, uc, Sn, w, b, cap, g1, g2, g3, k0, hw, r⟩ := j
  have k := k0.1
  obtain ⟨r', rr⟩ := RM_less r
  have hB := rm_bd rr
  obtain ⟨np, ns, c, hc, hN, hcp, i1, i2, i3, e11, x0, x2, x3, x4⟩ := kl_N k.1
  have px := PS_x g1.1
  have q := PS_q g1.1 hB
  obtain ⟨t1, t2, t3, t4, t5, t6, t7, t8⟩ := kl_st i1
  have ru := k.1.2
  have b1 := hN.1
  have b2 := hN.2.1
  have b3 := hN.2.2.1
  exact sp_X8_outstanding hl px q rr hN.1 hN.2.2.2.2.1 (fun g z hz => H1 _ ((fun y1 => an_look y1.1 y1.2.1 y1.2.2 k0 hw (RM_thr r) (fun h2 Q r2 o2 hQ => sp_X9_outstanding hl r2.1 hN.1 x0 hN.2.2.1 x3 t6 (fun _ => hQ _ ⟨_, rfl⟩) (fun p hp e1 => absurd ⟨p, hp, e1⟩ g))) (st_thr g1 g2 g3 hz rr))) (fun i hi ei => H0 _ _ (an_look g1 g2 g3 k0 hw r' (fun h2 Q r2 o2 hQ => sp_X9_outstanding hl r2.1 hN.1 x0 hN.2.2.1 x3 t6 (fun g => absurd ⟨i, hi, ei⟩ g) (fun p hp e1 => hQ _ (by rw [(nI_eq (by omega) (by omega)).mp (e1.symm.trans ei)]; rw [ka_out i2 hi])))))
theorem op_queued (hl : l.stackTraces = false) (j : JJ E bs x sc Ls xs (n + 1) h) {v y : Int32} (H0 : ∀ a h1, AN l D E bs x sc Ls xs n (d + 60) n_X9_queued [.int v, .int y] 0 (fun b => b = .int a) h1 → Q (.inl (some (.int a))) h1) (H1 : ∀ h1, AN l D E bs x sc Ls xs n (d + 60) n_X9_queued [.int v, .int y] 1 (fun b => ∃ z, b = .int z) h1 → Q (.inr 0) h1) : j_Met l D bs E (d + 60) n_X8_queued [.ref x, .int v, .int y] h Q := by
  obtain ⟨V, M, U, uc, Sn, w, b, cap, g1, g2, g3, k0, hw, r⟩ := j
  have k := k0.1
  obtain ⟨r', rr⟩ := RM_less r
  have hB := rm_bd rr
  obtain ⟨np, ns, c, hc, hN, hcp, i1, i2, i3, e11, x0, x2, x3, x4⟩ := kl_N k.1
  have px := PS_x g1.1
  have q := PS_q g1.1 hB
  obtain ⟨t1, t2, t3, t4, t5, t6, t7, t8⟩ := kl_st i1
  have ru := k.1.2
  have b1 := hN.1
  have b2 := hN.2.1
  exact sp_X8_queued hl px q rr hN.1 hN.2.2.2.2.1 (fun f i hf hi => (ka_queued hcp.1 hf hi).1) (fun g z hz => H1 _ ((fun y1 => an_look y1.1 y1.2.1 y1.2.2 k0 hw (RM_thr r) (fun h2 Q r2 o2 hQ => sp_X9_queued hl r2.1 hN.1 x0 (fun f hf => by obtain ⟨m, m1, m2, m3⟩ := (ka_bytes hcp.1 hf).2; exact ⟨m, by omega, m2⟩) (fun _ => hQ _ ⟨_, rfl⟩) (fun p i hp e1 hi e2 => (q_neg g hp e1 hi e2).elim))) (st_thr g1 g2 g3 hz rr))) (fun f i hf ef hi ei => H0 _ _ (an_look g1 g2 g3 k0 hw r' (fun h2 Q r2 o2 hQ => sp_X9_queued hl r2.1 hN.1 x0 (fun f hf => by obtain ⟨m, m1, m2, m3⟩ := (ka_bytes hcp.1 hf).2; exact ⟨m, by omega, m2⟩) (fun g => (q_neg g hf ef hi ei).elim) (fun p i' hp e1 hi' e2 => hQ _ (by rw [(nI_eq (by omega) (by omega)).mp (e1.symm.trans ef), (nI_eq (by omega) (by omega)).mp (e2.symm.trans ei), (ka_queued hcp.1 hf hi).2])))))
end OpA
