/-! ===== the law: its loop, and its method ===== -/
section LLo
variable {l : Launch} {D : va_G} {bs : Nat} {E : j_E} {h : j_H} {d n x sc Ls : Nat} {xs : Nat → Int32} {G : j_G}
theorem sw_all {K : Nat → Prop} {P : Prop} {a : Int32} {pc : Nat} : ∀ (ts : List Int) (lo : Int), (∀ o ∈ ts, K ((pc : Int) + o).toNat) → P → j_sw lo ts a pc K P
  | [], _, _, h => h
  | o :: ts, lo, hk, h => by
    unfold j_sw
    split
    · exact hk o List.mem_cons_self
    · exact sw_all ts (lo + 1) (fun o' ho => hk o' (List.mem_cons_of_mem _ ho)) h
theorem hd_cmp {i L : Nat} (hi : i < 2 ^ 20) (hL : L ≤ 3072) : nI L - 6 < nI i ↔ L < i + 6 := by
  have e1 : (nI L - 6).toInt = (L : Int) - 6 := pk_sub_toInt (a := L) (b := 6) (by omega) (by omega)
  have e2 : (nI i).toInt = (i : Int) := nI_toInt (by omega)
  rw [Int32.lt_iff_toInt_lt, e1, e2]
  omega
set_option maxRecDepth 8000 in
theorem lw_exit (hl : l.stackTraces = false) (hG : j_clo (j_Met l D bs E (d + 61)) E lpost m_L_law G) (hL : Ls ≤ 3072) {i : Nat} {u v w : Value} (hi : i < 2 ^ 20) (hx : Ls < i + 6) (j : JJ E bs x sc Ls xs n h) : G 28 [.ref sc, .ref x, .ref (x + 51), .ref (x + 67), .ref (x + 68), .int (nI i), u, v, w] [] h := by
  have s0 := co_sh (jj_co j)
  refine b_L_law_28 hG ?_
  dsimp only [q_L_law_28, j_wp, j_opB, j_opA, j_nth, j_i1, j_i2, j_l1, j_l2, j_li, j_f1, j_f2, j_d1, j_d2, j_r1, j_ai, j_aii, j_ail, j_aid, j_air, j_st1, j_st2, j_stu, j_kl, j_cond, j_args, j_out, j_few, j_cw, j_nat, j_pad, j_exp, Nat.reduceAdd]
  rw [s0]
  dsimp only [j_len]
  rw [if_pos ((hd_cmp hi hL).mpr hx)]
  refine b_L_law_1825 hG ?_
  dsimp only [q_L_law_1825, j_wp, j_opB, j_opA, j_nth, j_i1, j_i2, j_l1, j_l2, j_li, j_f1, j_f2, j_d1, j_d2, j_r1, j_ai, j_aii, j_ail, j_aid, j_air, j_st1, j_st2, j_stu, j_kl, j_cond, j_args, j_out, j_few, j_cw, j_nat, j_pad, j_exp, Nat.reduceAdd]
  exact ⟨Or.inr rfl, rfl⟩
set_option maxRecDepth 8000 in
theorem lw_loop (hl : l.stackTraces = false) (hG : j_clo (j_Met l D bs E (d + 61)) E lpost m_L_law G) (hS : j_clS l D bs E (d + 61) s_L_law G) (hL : Ls ≤ 3072) : ∀ (n i : Nat) (h : j_H) (u v w : Value), i < 2 ^ 20 → Ls < i + 6 * (n + 1) → JJ E bs x sc Ls xs n h → G 28 [.ref sc, .ref x, .ref (x + 51), .ref (x + 67), .ref (x + 68), .int (nI i), u, v, w] [] h := by
  intro n
  induction n with
  | zero =>
    intro i h u v w hi hn j
    exact lw_exit hl hG hL hi (by omega) j
  | succ n ih =>
    intro i h u v w hi hn j
    by_cases g : Ls < i + 6
    · exact lw_exit hl hG hL hi g j
    have s0 := co_sh (jj_co j)
    have bk : ∀ u v w h', JJ E bs x sc Ls xs n h' → G 1819 [.ref sc, .ref x, .ref (x + 51), .ref (x + 67), .ref (x + 68), .int (nI i), u, v, w] [] h' := fun u v w h' j' => by
      refine b_L_law_1819 hG ?_
      dsimp only [q_L_law_1819, j_wp, j_opB, j_opA, j_nth, j_i1, j_i2, j_l1, j_l2, j_li, j_f1, j_f2, j_d1, j_d2, j_r1, j_ai, j_aii, j_ail, j_aid, j_air, j_st1, j_st2, j_stu, j_kl, j_cond, j_args, j_out, j_few, j_cw, j_nat, j_pad, j_exp, Nat.reduceAdd]
      have e6 : nI i + 6 = nI (i + 6) := nI_add i 6
      rw [e6]
      exact ih (i + 6) h' u v w (by omega) (by omega) j'
    have key : ∀ o ∈ ([159, 232, 288, 301, 314, 327, 340, 353, 366, 379, 459, 527, 582, 645, 713, 726, 794, 862, 917, 973, 1065, 1121, 1189, 1268, 1282, 1296, 1373, 1451, 1519, 1587, 1643, 1668, 1681, 1694, 1705, 1718] : List Int), G ((45 : Nat) + o).toNat [.ref sc, .ref x, .ref (x + 51), .ref (x + 67), .ref (x + 68), .int (nI i), u, v, w] [] h := List.forall_mem_cons.mpr ⟨ca_feed hl hG hS hL j (Nat.le_of_not_lt g) bk, List.forall_mem_cons.mpr ⟨ca_load hl hG hS hL j (Nat.le_of_not_lt g) bk, List.forall_mem_cons.mpr ⟨ca_errorPosition hl hG hS hL j (Nat.le_of_not_lt g) bk, List.forall_mem_cons.mpr ⟨ca_flowCount hl hG hS hL j (Nat.le_of_not_lt g) bk, List.forall_mem_cons.mpr ⟨ca_ruleCount hl hG hS hL j (Nat.le_of_not_lt g) bk, List.forall_mem_cons.mpr ⟨ca_packetCount hl hG hS hL j (Nat.le_of_not_lt g) bk, List.forall_mem_cons.mpr ⟨ca_transmissionCount hl hG hS hL j (Nat.le_of_not_lt g) bk, List.forall_mem_cons.mpr ⟨ca_clock hl hG hS hL j (Nat.le_of_not_lt g) bk, List.forall_mem_cons.mpr ⟨ca_credit hl hG hS hL j (Nat.le_of_not_lt g) bk, List.forall_mem_cons.mpr ⟨ca_classify hl hG hS hL j (Nat.le_of_not_lt g) bk, List.forall_mem_cons.mpr ⟨ca_flow hl hG hS hL j (Nat.le_of_not_lt g) bk, List.forall_mem_cons.mpr ⟨ca_virtualTime hl hG hS hL j (Nat.le_of_not_lt g) bk, List.forall_mem_cons.mpr ⟨ca_isIdle hl hG hS hL j (Nat.le_of_not_lt g) bk, List.forall_mem_cons.mpr ⟨ca_queued hl hG hS hL j (Nat.le_of_not_lt g) bk, List.forall_mem_cons.mpr ⟨ca_nextFlow hl hG hS hL j (Nat.le_of_not_lt g) bk, List.forall_mem_cons.mpr ⟨ca_packet hl hG hS hL j (Nat.le_of_not_lt g) bk, List.forall_mem_cons.mpr ⟨ca_transmission hl hG hS hL j (Nat.le_of_not_lt g) bk, List.forall_mem_cons.mpr ⟨ca_charge hl hG hS hL j (Nat.le_of_not_lt g) bk, List.forall_mem_cons.mpr ⟨ca_outstanding hl hG hS hL j (Nat.le_of_not_lt g) bk, List.forall_mem_cons.mpr ⟨ca_arrive hl hG hS hL j (Nat.le_of_not_lt g) bk, List.forall_mem_cons.mpr ⟨ca_run hl hG hS hL j (Nat.le_of_not_lt g) bk, List.forall_mem_cons.mpr ⟨ca_setWeight hl hG hS hL j (Nat.le_of_not_lt g) bk, List.forall_mem_cons.mpr ⟨ca_audit hl hG hS hL j (Nat.le_of_not_lt g) bk, List.forall_mem_cons.mpr ⟨ca_worst hl hG hS hL j (Nat.le_of_not_lt g) bk, List.forall_mem_cons.mpr ⟨ca_spread hl hG hS hL j (Nat.le_of_not_lt g) bk, List.forall_mem_cons.mpr ⟨ca_share hl hG hS hL j (Nat.le_of_not_lt g) bk, List.forall_mem_cons.mpr ⟨ca_meanDelay hl hG hS hL j (Nat.le_of_not_lt g) bk, List.forall_mem_cons.mpr ⟨ca_forecast hl hG hS hL j (Nat.le_of_not_lt g) bk, List.forall_mem_cons.mpr ⟨ca_weightFor hl hG hS hL j (Nat.le_of_not_lt g) bk, List.forall_mem_cons.mpr ⟨ca_format hl hG hS hL j (Nat.le_of_not_lt g) bk, List.forall_mem_cons.mpr ⟨ca_formattedByte hl hG hS hL j (Nat.le_of_not_lt g) bk, List.forall_mem_cons.mpr ⟨ca_undoCount hl hG hS hL j (Nat.le_of_not_lt g) bk, List.forall_mem_cons.mpr ⟨ca_undo hl hG hS hL j (Nat.le_of_not_lt g) bk, List.forall_mem_cons.mpr ⟨ca_saveSnapshot hl hG hS hL j (Nat.le_of_not_lt g) bk, List.forall_mem_cons.mpr ⟨ca_restoreSnapshot hl hG hS hL j (Nat.le_of_not_lt g) bk, List.forall_mem_cons.mpr ⟨ca_query hl hG hS hL j (Nat.le_of_not_lt g) bk, fun _ ho => absurd ho List.not_mem_nil⟩⟩⟩⟩⟩⟩⟩⟩⟩⟩⟩⟩⟩⟩⟩⟩⟩⟩⟩⟩⟩⟩⟩⟩⟩⟩⟩⟩⟩⟩⟩⟩⟩⟩⟩⟩
    refine b_L_law_28 hG ?_
    dsimp only [q_L_law_28, j_wp, j_opB, j_opA, j_nth, j_i1, j_i2, j_l1, j_l2, j_li, j_f1, j_f2, j_d1, j_d2, j_r1, j_ai, j_aii, j_ail, j_aid, j_air, j_st1, j_st2, j_stu, j_kl, j_cond, j_args, j_out, j_few, j_cw, j_nat, j_pad, j_exp, Nat.reduceAdd]
    rw [s0]
    dsimp only [j_len, j_ari]
    rw [if_neg (fun z => g ((hd_cmp hi hL).mp z))]
    refine ⟨vp_in_nI (by omega) (by omega), ?_⟩
    exact sw_all _ _ key (bk _ _ _ _ (jj_less j))
end LLo
section LOw
variable {l : Launch} {D : va_G} {bs : Nat} {E : j_E} {d sc Ls : Nat} {xs : Nat → Int32} {G : j_G}
theorem rz_load (S : Sup) : rLoaded (sReset S) rZero := ⟨⟨⟨rfl, rfl, ⟨rfl, rfl, rfl, rfl⟩, rfl, rfl, rfl⟩, fun r k hr => absurd hr (Nat.not_lt_zero _), fun _ _ _ _ => rfl, fun r k hr => absurd hr (Nat.not_lt_zero _), fun _ _ => rfl, fun _ _ => rfl, fun _ _ => rfl, fun _ _ => rfl⟩, fun _ => rfl, fun _ => rfl⟩
theorem FG_lt {h h' : j_H} {z : Nat} (hz : j_z h ≤ j_z h') (g : ∀ c, c < z → sm h h' c) : FG (fun c => z ≤ c) h h' := ⟨hz, fun b _ hb => g b (by omega)⟩
theorem FG_no {h h' : j_H} (hz : j_z h ≤ j_z h') (g : ∀ c, c < j_z h → sm h h' c) : FG (fun _ => False) h h' := ⟨hz, fun b hb _ => g b hb⟩
theorem DG_lt {h h' : j_H} (t : DG E h) (d1 : E.1 200 < bs) (d2 : E.1 201 < bs) (hz : j_z h ≤ j_z h') (g : ∀ c, c < bs → sm h h' c) : DG E h' := by
  obtain ⟨t1, t2, t3, t4, t5⟩ := t
  exact ⟨by rw [(g _ d1).1]; exact t1, by rw [(g _ d2).1]; exact t2, fun k hk => ⟨by rw [(g _ d1).2.2.2.1]; exact (t3 k hk).1, by rw [(g _ d2).2.2.2.1]; exact (t3 k hk).2⟩, by omega, by omega⟩
theorem b_zero : bRel 0 0 := ⟨⟨0, by decide⟩, rfl, rfl⟩
set_option maxRecDepth 8000 in
set_option maxHeartbeats 4000000 in
theorem law_own (hl : l.stackTraces = false) (hE1 : 110000 ≤ E.2.1) (hE2 : 400000 ≤ E.2.2) {h0 : j_H} (z0 : j_z h0 = bs) (c0 : j_c h0 = 0) (k0 : j_k h0 = 0) (hK : KS E bs h0) (hD : DG E h0) (d1 : E.1 200 < bs) (d2 : E.1 201 < bs) (hsc : sc < bs) (hsh : j_sh h0 sc = some (.inl (7, Ls))) (hxs : ∀ i, i < Ls → j_I h0 sc i = xs i) (hL : Ls ≤ 3072)
    (hG : j_clo (j_Met l D bs E (d + 61)) E lpost m_L_law G) (hS : j_clS l D bs E (d + 61) s_L_law G) : G 0 (j_pad 9 (j_exp [.ref sc])) [] h0 := by
  have e_1 : Int32.toNatClampNeg 1 = 1 := by decide
  refine b_L_law_0 hG ?_
  dsimp only [q_L_law_0, j_wp, j_opB, j_opA, j_nth, j_i1, j_i2, j_l1, j_l2, j_li, j_f1, j_f2, j_d1, j_d2, j_r1, j_ai, j_aii, j_ail, j_aid, j_air, j_st1, j_st2, j_stu, j_kl, j_cond, j_args, j_out, j_few, j_cw, j_nat, j_pad, j_exp, Nat.reduceAdd]
  refine ⟨by omega, by omega, ?_⟩
  have n1c : j_c (j_new h0 (.inr 10) 10) = 1 := by show j_c h0 + 1 = 1; omega
  have n1k : j_k (j_new h0 (.inr 10) 10) = 10 := by show j_k h0 + 10 = 10; omega
  have n1z : j_z (j_new h0 (.inr 10) 10) = bs + 1 := by show j_z h0 + 1 = _; omega
  have n1m : ∀ c, c < bs → sm h0 (j_new h0 (.inr 10) 10) c := fun c hc => nw_sm (by omega)
  have n1s : j_sh (j_new h0 (.inr 10) 10) bs = some (.inr 10) := by rw [nw_sh, if_pos z0.symm]
  rw [z0]
  generalize j_new h0 (.inr 10) 10 = h1 at *
  refine sp_X8_init hl n1s n1z (by omega) (by omega) (fun h2 S S2 C C2 C3 p2 rd2 sb2 m2 z2 y2 w2 => ?_)
  have m02 : ∀ c, c < bs → sm h0 h2 c := fun c hc => sm_tr (n1m c hc) (m2 c hc)
  dsimp only [j_oi, j_ol, j_of, j_od, j_or, j_ov]
  refine ⟨by omega, by omega, ?_⟩
  have n3c : j_c (j_new h2 (.inr 11) 29) = j_c h2 + 1 := rfl
  have n3k : j_k (j_new h2 (.inr 11) 29) = j_k h2 + 29 := rfl
  have n3z : j_z (j_new h2 (.inr 11) 29) = bs + 52 := by show j_z h2 + 1 = _; omega
  have n3m : ∀ c, c < bs + 51 → sm h2 (j_new h2 (.inr 11) 29) c := fun c hc => nw_sm (by omega)
  have n3s : j_sh (j_new h2 (.inr 11) 29) (bs + 51) = some (.inr 11) := by rw [nw_sh, if_pos z2.symm]
  have n3i : ∀ k, j_I (j_new h2 (.inr 11) 29) (bs + 51) k = 0 := fun k => by rw [nw_I, if_pos z2.symm]
  rw [z2]
  generalize j_new h2 (.inr 11) 29 = h3 at *
  have m03 : ∀ c, c < bs → sm h0 h3 c := fun c hc => sm_tr (m02 c hc) (n3m c (by omega))
  have hK3 : KS E bs h3 := KS_FG hK (FG_lt (by omega) m03) (fun c hc => hc) (by omega)
  refine sp_X9_init hl n3s (by omega) n3i hK3 (by omega) (by omega) (by omega) (fun h4 mb4 hc4 i4 q4 f4 z4 y4 w4 => ?_)
  have m34 : ∀ c, c < bs + 51 → sm h3 h4 c := fun c hc => fq_sm f4 hc
  have z4' : j_z h4 = bs + 67 := by omega
  dsimp only [j_oi, j_ol, j_of, j_od, j_or, j_ov]
  rw [e_1]
  refine ⟨by decide, by omega, by omega, by omega, ?_⟩
  have n5c : j_c (j_new h4 (.inl (1, 1)) 1) = j_c h4 + 1 := rfl
  have n5k : j_k (j_new h4 (.inl (1, 1)) 1) = j_k h4 + 1 := rfl
  have n5z : j_z (j_new h4 (.inl (1, 1)) 1) = bs + 68 := by show j_z h4 + 1 = _; omega
  have n5m : ∀ c, c < bs + 67 → sm h4 (j_new h4 (.inl (1, 1)) 1) c := fun c hc => nw_sm (by omega)
  have n5s : j_sh (j_new h4 (.inl (1, 1)) 1) (bs + 67) = some (.inl (1, 1)) := by rw [nw_sh, if_pos z4'.symm]
  rw [z4']
  generalize j_new h4 (.inl (1, 1)) 1 = h5 at *
  refine ⟨by decide, by omega, by omega, by omega, ?_⟩
  have n6c : j_c (j_new h5 (.inl (2, 1)) 1) = j_c h5 + 1 := rfl
  have n6k : j_k (j_new h5 (.inl (2, 1)) 1) = j_k h5 + 1 := rfl
  have n6z : j_z (j_new h5 (.inl (2, 1)) 1) = bs + 69 := by show j_z h5 + 1 = _; omega
  have n6m : ∀ c, c < bs + 68 → sm h5 (j_new h5 (.inl (2, 1)) 1) c := fun c hc => nw_sm (by omega)
  have n6s : j_sh (j_new h5 (.inl (2, 1)) 1) (bs + 68) = some (.inl (2, 1)) := by rw [nw_sh, if_pos n5z.symm]
  rw [n5z]
  generalize j_new h5 (.inl (2, 1)) 1 = h6 at *
  have m46 : ∀ c, c < bs + 67 → sm h4 h6 c := fun c hc => sm_tr (n5m c hc) (n6m c (by omega))
  have m26 : ∀ c, c < bs + 51 → sm h2 h6 c := fun c hc => sm_tr (n3m c hc) (sm_tr (m34 c hc) (m46 c (by omega)))
  have m06 : ∀ c, c < bs → sm h0 h6 c := fun c hc => sm_tr (m02 c hc) (m26 c (by omega))
  have f26 : FG (fun _ => False) h2 h6 := FG_no (by omega) (fun c hc => m26 c (by omega))
  have f46 : FG (fun _ => False) h4 h6 := FG_no (by omega) (fun c hc => m46 c (by omega))
  have bd6 : j_bd E h6 := ⟨by omega, by omega⟩
  have p6 : PS h6 bs (bs + 69) (psN0 bs S S2 C C2 C3) := PS_zb (PS_mid p2 f26 (fun c z => z.elim)) rfl (by omega) (by omega)
  have b6 : BB h6 (bs + 49) (bs + 50) 16 [] := by
    obtain ⟨s1, s2, s3, s4, s5, s6, s7, s8, s9, s10, s11, -⟩ := sb2
    exact BB_sm ⟨⟨s1, s2, s3, s4, s5, s6, s7, fun i hi => by rw [(s8 i hi).1]; exact (s8 i hi).2, s9, s10, s11⟩, fun i hi => absurd hi (Nat.not_lt_zero _)⟩ (by omega) (m26 _ (by omega)) (m26 _ (by omega))
  have r4 : RH E (bs + 51) rZero (fun _ => rZero) 0 none (fun _ => 0) 0 (-1) [] h4 := ⟨mb4, ⟨i4 9 (by decide), by omega, fun i hi => absurd hi (Nat.not_lt_zero _)⟩, ⟨i4 11 (by decide), fun K e => by cases e⟩, ⟨fun i _ => by rw [q4.2 i]; exact b_zero, ⟨i4 15 (by decide), by omega⟩, q4.1⟩, ⟨i4 13 (by decide), Nat.zero_le _, fun i hi => absurd hi (Nat.not_lt_zero _)⟩, hc4⟩
  have r6 : RH E (bs + 51) rZero (fun _ => rZero) 0 none (fun _ => 0) 0 (-1) [] h6 := RH_fg r4 f46 (by omega) (fun a z => z.elim) bd6
  have o6 : CO E bs bs sc Ls xs h6 := ⟨KS_FG hK (FG_lt (by omega) m06) (fun c hc => hc) (by omega), ⟨DG_lt hD d1 d2 (by omega) m06, d1, d2⟩, Nat.le_refl _, ⟨by rw [(n6m _ (by omega)).1]; exact n5s, n6s⟩, ⟨hsc, by rw [(m06 _ hsc).1]; exact hsh, fun i hi => by rw [(m06 _ hsc).2.2.2.1]; exact hxs i hi⟩, by omega⟩
  obtain ⟨a1, a2, a3, a4⟩ := ks_reset S
  have kl := kl_load (L := C.1) (R := C.2.2.2) a1 a2 (by omega) (by omega) (rz_load S)
  have k6 : kAm (psN0 bs S S2 C C2 C3) rZero (fun _ => rZero) 0 none := ⟨⟨kl, ⟨rfl, Nat.zero_lt_succ _, by omega⟩, fun jj hj => absurd hj (Nat.not_lt_zero _), rfl, fun K e => by cases e⟩, k5_load (rz_load S), fun i hi => absurd hi (Nat.not_lt_zero _), fun K e => by cases e⟩
  have nn : nnF (vAd (psN0 bs S S2 C C2 C3)) 10 = 10 := rfl
  have jj : JJ E bs bs sc Ls xs 512 h6 := by
    refine ⟨psN0 bs S S2 C C2 C3, rZero, fun _ => rZero, 0, none, [], bs + 50, 16, ⟨p6, rdr_FG rd2 f26 id (by omega), b6, Or.inl rfl⟩, r6, o6, k6, ⟨fun i hi => absurd hi (Nat.not_lt_zero _), Nat.zero_le _⟩, ?_⟩
    unfold RM
    rw [nn, show sb1 16 = 1 from rfl]
    exact ⟨by omega, by omega⟩
  exact lw_loop hl hG hS hL 512 0 h6 _ _ _ (by omega) (by omega) jj
end LOw
