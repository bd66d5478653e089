/-! ===== the law's other calls: audit, floats, forecasts, feed, undo, snapshots ===== -/
section OpB
variable {l : Launch} {D : va_G} {bs : Nat} {E : j_E} {h : j_H} {d : Nat} {Q : j_O → j_H → Prop} {x sc Ls n : Nat} {xs : Nat → Int32}
theorem HCn_fm {m : Nat} {A G : Nat → Prop} {h' : j_H} (c : HCn E h m) (f : FM A m G h h') (h1 : ¬ A (m + 13)) : HCn E h' m := ⟨fun j hj => by rw [f.2.1]; exact c.1 j hj, fun j g1 g2 => by rw [f.2.2.2.2.2.2.1 _ _ h1 (fun z => absurd z.1 (by omega))]; exact c.2 j g1 g2⟩
theorem r_inx {v : Int32} {m : Nat} {hi : Int32} (hm : m < 2 ^ 30) (e : nI m - 1 = hi) : rIn v 0 hi = true ↔ inx v m := by rw [← e]; exact rIn_inx hm
theorem rx_501 {v : Int32} : rIn v 0 500 = true ↔ inx v 501 := r_inx (by omega) (by decide)
theorem rx_1001 {v : Int32} : rIn v 0 1000 = true ↔ inx v 1001 := r_inx (by omega) (by decide)
theorem rx_301 {v : Int32} : rIn v 0 300 = true ↔ inx v 301 := r_inx (by omega) (by decide)
theorem bd_eq {h' : j_H} (hB : j_bd E h) (e1 : j_c h' = j_c h) (e2 : j_k h' = j_k h) : j_bd E h' := ⟨by rw [e1]; exact hB.1, by rw [e2]; exact hB.2⟩
theorem aud_no {v y z : Int32} {ag : Nat} (g : v = y ∨ z < 0) (ne : ¬ v = y) (ha : ag < 2 ^ 31) (e : z = nI ag) : False := by
  rcases g with g | g
  · exact ne g
  · rw [e] at g
    exact nI_pos ha g
theorem op_audit (hl : l.stackTraces = false) (j : JJ E bs x sc Ls xs (n + 1) h) {v y z : Int32} (H0 : ∀ a h1, AN l D E bs x sc Ls xs n (d + 60) n_X9_audit [.int v, .int y, .int z] 0 (fun b => b = .long a) h1 → Q (.inl (some (.long a))) h1) (H1 : ∀ h1, AN l D E bs x sc Ls xs n (d + 60) n_X9_audit [.int v, .int y, .int z] 1 (fun b => ∃ z, b = .long z) h1 → Q (.inr 0) h1) (H2 : ∀ h1, AN l D E bs x sc Ls xs n (d + 60) n_X9_audit [.int v, .int y, .int z] 2 (fun b => ∃ z, b = .long z) h1 → Q (.inr 1) h1) : j_Met l D bs E (d + 60) n_X8_audit [.ref x, .int v, .int y, .int z] h Q := by
  obtain ⟨V, M, U, uc, Sn, w, b, cap, g1, g2, g3, k0, hw, r⟩ := j
  have k := k0.1
  obtain ⟨r', rr⟩ := RM_less r
  have hB := rm_bd rr
  obtain ⟨np, ns, c, hc, hN, hcp, i1, i2, i3, e11, x0, x2, x3, x4⟩ := kl_N k.1
  have px := PS_x g1.1
  have q := PS_q g1.1 hB
  obtain ⟨t1, t2, t3, t4, t5, t6, t7, t8⟩ := kl_st i1
  have ru := k.1.2
  have b1 := hN.1
  obtain ⟨t, ht, hlt, hkp, hrow⟩ := ka_row hcp
  exact sp_X8_audit hl px (PS_r g1.1 hB) rr hN.1 hN.2.2.2.2.1 hN.2.2.2.1 ht hlt
    (fun g z hz => H1 _ ((fun y1 => an_look y1.1 y1.2.1 y1.2.2 k0 hw (RM_thr r) (fun h2 Q r2 o2 hQ => sp_X9_audit hl r2.1 hN.1 x0 (show c < 2 ^ 30 by omega) x4 t7 (fun _ => hQ _ ⟨_, rfl⟩) (fun ga gb _ => absurd ⟨ga, gb⟩ g) (fun f' g' ag hf hg e1 e2 _ _ _ => absurd ⟨⟨f', hf, e1⟩, ⟨g', hg, e2⟩⟩ g))) (st_thr g1 g2 g3 hz rr)))
    (fun ga gb gc z hz => H2 _ ((fun y1 => an_look y1.1 y1.2.1 y1.2.2 k0 hw (RM_thr r) (fun h2 Q r2 o2 hQ => sp_X9_audit hl r2.1 hN.1 x0 (show c < 2 ^ 30 by omega) x4 t7 (fun g => absurd ⟨ga, gb⟩ g) (fun _ _ _ => hQ _ ⟨_, rfl⟩) (fun f' g' ag hf hg e1 e2 ne ha ea => (aud_no gc ne ha ea).elim))) (st_thr g1 g2 g3 hz rr)))
    (fun f g a hf hg ef eg ne ha ea => H0 _ _ (an_look g1 g2 g3 k0 hw r' (fun h2 Q r2 o2 hQ => sp_X9_audit hl r2.1 hN.1 x0 (show c < 2 ^ 30 by omega) x4 t7 (fun g' => absurd ⟨⟨f, hf, ef⟩, ⟨g, hg, eg⟩⟩ g') (fun _ _ gc => (aud_no gc ne ha ea).elim) (fun f' g' ag hf' hg' e1 e2 _ ha' e3 => hQ _ (by rw [(nI_eq (by omega) (by omega)).mp (e1.symm.trans ef), (nI_eq (by omega) (by omega)).mp (e2.symm.trans eg), (nI_eq (by omega) (by omega)).mp (e3.symm.trans ea), ka_audit hcp hrow hkp hf hg a])))))
theorem op_share (hl : l.stackTraces = false) (j : JJ E bs x sc Ls xs (n + 1) h) {v : Int32} (H0 : ∀ a h1, AN l D E bs x sc Ls xs n (d + 60) n_X9_share [.int v] 0 (fun b => b = .double a) h1 → Q (.inl (some (.double a))) h1) (H1 : ∀ h1, AN l D E bs x sc Ls xs n (d + 60) n_X9_share [.int v] 1 (fun b => ∃ z, b = .double z) h1 → Q (.inr 0) h1) : j_Met l D bs E (d + 60) n_X8_share [.ref x, .int v] h Q := by
  obtain ⟨V, M, U, uc, Sn, w, b, cap, g1, g2, g3, k0, hw, r⟩ := j
  have k := k0.1
  obtain ⟨r', rr⟩ := RM_less r
  have hB := rm_bd rr
  obtain ⟨np, ns, c, hc, hN, hcp, i1, i2, i3, e11, x0, x2, x3, x4⟩ := kl_N k.1
  have px := PS_x g1.1
  have q := PS_q g1.1 hB
  obtain ⟨t1, t2, t3, t4, t5, t6, t7, t8⟩ := kl_st i1
  have ru := k.1.2
  have b1 := hN.1
  have es := ka_sum hcp.1 (sN (vS V)) 0 0 (by omega)
  obtain ⟨s0, hs0, es0⟩ := ka_sumN hcp.1 (sN (vS V)) 0 0 (by omega)
  have es0' : rSumF M (sN (vS V)) 0 0 = nI s0 := es0
  have hpos : 0 < cSumF (vC V).1 (sN (vS V)) 0 0 ↔ ¬ rSumF M (sN (vS V)) 0 0 = 0 := by
    rw [es, es0']
    constructor
    · intro g e
      rw [e] at g
      exact absurd g (by decide)
    · intro g
      rcases Nat.eq_zero_or_pos s0 with z | z
      · rw [z] at g; exact absurd rfl g
      · exact nI_lt (a := 0) z (by omega)
  have hF : ∀ f, f < sN (vS V) → lF (vC V).1 f 10 = rF M f 9 := fun f hf => by
    obtain ⟨bb, _, e1, e2⟩ := kc_bytes hcp.1 hf
    rw [e1, e2]
  exact sp_X8_share hl px q rr hN.1 hN.2.2.2.2.1 (fun f hf g => f6_share _ (by rw [es]; exact hpos.mp g))
    (fun g z hz => H1 _ ((fun y1 => an_look y1.1 y1.2.1 y1.2.2 k0 hw (RM_thr r) (fun h2 Q r2 o2 hQ => sp_X9_share hl r2.1 hN.1 x0 (fun f hf g => f6_share _ g) (fun _ rv => hQ _ ⟨_, rfl⟩) (fun p hp e1 _ => absurd ⟨p, hp, e1⟩ g) (fun p hp e1 _ => absurd ⟨p, hp, e1⟩ g))) (st_thr g1 g2 g3 hz rr)))
    (fun f hf ef g => H0 _ _ (an_look g1 g2 g3 k0 hw r' (fun h2 Q r2 o2 hQ => sp_X9_share hl r2.1 hN.1 x0 (fun f hf g => f6_share _ g) (fun g' rv => absurd ⟨f, hf, ef⟩ g') (fun p hp e1 _ => hQ _ rfl) (fun p hp e1 g' => absurd (hpos.mpr g') g))))
    (fun f hf ef g => H0 _ _ (an_look g1 g2 g3 k0 hw r' (fun h2 Q r2 o2 hQ => sp_X9_share hl r2.1 hN.1 x0 (fun f hf g => f6_share _ g) (fun g' rv => absurd ⟨f, hf, ef⟩ g') (fun p hp e1 g' => absurd g' (hpos.mp g)) (fun p hp e1 g' => hQ _ (by rw [(nI_eq (by omega) (by omega)).mp (e1.symm.trans ef), hF f hf, es])))))
theorem op_meanDelay (hl : l.stackTraces = false) (j : JJ E bs x sc Ls xs (n + 1) h) {v : Int32} (H0 : ∀ a h1, vf_n32 a → AN l D E bs x sc Ls xs n (d + 60) n_X9_meanDelay [.int v] 0 (fun b => b = .float a) h1 → Q (.inl (some (.float a))) h1) (H1 : ∀ h1, AN l D E bs x sc Ls xs n (d + 60) n_X9_meanDelay [.int v] 1 (fun b => ∃ z, b = .float z) h1 → Q (.inr 0) h1) : j_Met l D bs E (d + 60) n_X8_meanDelay [.ref x, .int v] h Q := by
  obtain ⟨V, M, U, uc, Sn, w, b, cap, g1, g2, g3, k0, hw, r⟩ := j
  have k := k0.1
  obtain ⟨r', rr⟩ := RM_less r
  have hB := rm_bd rr
  obtain ⟨np, ns, c, hc, hN, hcp, i1, i2, i3, e11, x0, x2, x3, x4⟩ := kl_N k.1
  have px := PS_x g1.1
  have q := PS_q g1.1 hB
  obtain ⟨t1, t2, t3, t4, t5, t6, t7, t8⟩ := kl_st i1
  have ru := k.1.2
  have b1 := hN.1
  have b2 := hN.2.1
  have ed := ka_del hcp.1 v np 0 0 0 (by omega)
  obtain ⟨m0, hm0, em0⟩ := ka_delN (P := rP M) v np 0 0 0
  have em : (rDelG (rP M) v np 0 0 0).2 = nI m0 := em0
  have hpos : 0 < (rDelG (lP (vC V).1) v np 0 0 0).2 ↔ ¬ (rDelG (rP M) v np 0 0 0).2 = 0 := by
    rw [ed, em]
    constructor
    · intro g e
      rw [e] at g
      exact absurd g (by decide)
    · intro g
      rcases Nat.eq_zero_or_pos m0 with z | z
      · rw [z] at g; exact absurd rfl g
      · exact nI_lt (a := 0) z (by omega)
  have hnn : ¬ (rDelG (rP M) v np 0 0 0).2 = 0 → vf_n32 (FP.fdiv (FP.i2f (rDelG (rP M) v np 0 0 0).1) (FP.i2f (rDelG (rP M) v np 0 0 0).2)) := fun g => by
    rw [em] at g ⊢
    exact f3_mean _ (fun z => g (by rw [z]; rfl)) (by omega)
  exact sp_X8_meanDelay hl px q rr hN.1 hN.2.2.2.2.1 hN.2.1 hN.2.2.2.2.2.1 (fun g => by rw [ed]; exact hnn (hpos.mp g))
    (fun g z hz => H1 _ ((fun y1 => an_look y1.1 y1.2.1 y1.2.2 k0 hw (RM_thr r) (fun h2 Q r2 o2 hQ => sp_X9_meanDelay hl r2.1 hN.1 x0 hN.2.1 x2 hnn (fun _ rv => hQ _ ⟨_, rfl⟩) (fun gi _ => absurd gi g) (fun gi _ => absurd gi g))) (st_thr g1 g2 g3 hz rr)))
    (fun gi g => H0 _ _ (show FP.fconst0 &&& 0x7fffffff ≤ 0x7f800000 from by decide) (an_look g1 g2 g3 k0 hw r' (fun h2 Q r2 o2 hQ => sp_X9_meanDelay hl r2.1 hN.1 x0 hN.2.1 x2 hnn (fun g' rv => absurd gi g') (fun _ _ => hQ _ rfl) (fun _ g' => absurd (hpos.mpr g') g))))
    (fun gi g => H0 _ _ (by rw [ed]; exact hnn (hpos.mp g)) (an_look g1 g2 g3 k0 hw r' (fun h2 Q r2 o2 hQ => sp_X9_meanDelay hl r2.1 hN.1 x0 hN.2.1 x2 hnn (fun g' rv => absurd gi g') (fun _ g' => absurd g' (hpos.mp g)) (fun _ g' => hQ _ (by rw [ed])))))
theorem op_forecast (hl : l.stackTraces = false) (j : JJ E bs x sc Ls xs (n + 1) h) {v y : Int32} (H0 : ∀ a h1, AN l D E bs x sc Ls xs n (d + 60) n_X9_forecast [.int v, .int y] 0 (fun b => b = .int a) h1 → Q (.inl (some (.int a))) h1) (H1 : ∀ h1, AN l D E bs x sc Ls xs n (d + 60) n_X9_forecast [.int v, .int y] 1 (fun b => ∃ z, b = .int z) h1 → Q (.inr 0) h1) (H2 : ∀ h1, AN l D E bs x sc Ls xs n (d + 60) n_X9_forecast [.int v, .int y] 2 (fun b => ∃ z, b = .int z) h1 → Q (.inr 1) h1) : j_Met l D bs E (d + 60) n_X8_forecast [.ref x, .int v, .int y] h Q := by
  obtain ⟨V, M, U, uc, Sn, w, b, cap, g1, g2, g3, k0, hw, r⟩ := j
  have k := k0.1
  obtain ⟨r', rr⟩ := RM_less r
  have hB := rm_bd rr
  obtain ⟨np, ns, c, hc, hN, hcp, i1, i2, i3, e11, x0, x2, x3, x4⟩ := kl_N k.1
  have px := PS_x g1.1
  have q := PS_q g1.1 hB
  obtain ⟨t1, t2, t3, t4, t5, t6, t7, t8⟩ := kl_st i1
  have ru := k.1.2
  have tL : ∀ m L, (∃ c M', kFu (sN (vS V)) np c L M' ∧ c + m < 2 ^ 28) → ∀ m', m = m' + 1 → lTickOk (sN (vS V)) L ∧ ∃ c M', kFu (sN (vS V)) np c (lTick (sN (vS V)) L) M' ∧ c + m' < 2 ^ 28 := fun m L ⟨c, M', f, g⟩ m' e => by
    obtain ⟨a1, a2, a3⟩ := kc_fuT f (by omega)
    exact ⟨a3, c + 1, _, a1, by omega⟩
  have tR : ∀ m M', (∃ c L, kFu (sN (vS V)) np c L M' ∧ c + m < 2 ^ 28) → ∀ m', m = m' + 1 → rTickOk (sN (vS V)) M' ∧ ∃ c L, kFu (sN (vS V)) np c L (rTick (sN (vS V)) M') ∧ c + m' < 2 ^ 28 := fun m M' ⟨c, L, f, g⟩ m' e => by
    obtain ⟨a1, a2, a3⟩ := kc_fuT f (by omega)
    exact ⟨a2, c + 1, _, a1, by omega⟩
  have fC : ∀ Z, kFu (sN (vS V)) np c (lCopy Z (vC V).1 (sN (vS V)) np ns) M := fun Z => kc_fuC hcp.1 hN.2.2.2.2.2.2 hN.2.2.1 Z
  have b2 := hN.2.1
  refine sp_X8_forecast hl g1.1 hN rr (T := fun m L => ∃ c M', kFu (sN (vS V)) np c L M' ∧ c + m < 2 ^ 28) (fun m hm => ⟨c, _, fC _, by omega⟩) (fun m L z => tL _ _ z m rfl)
    (fun g z hz => H1 _ ((fun y1 => an_look y1.1 y1.2.1 y1.2.2 k0 hw (RM_thr r) (fun h2 Q r2 o2 hQ => sp_X9_forecast hl r2.1 hN.2.1 x2 (T := fun m M' => ∃ c L, kFu (sN (vS V)) np c L M' ∧ c + m < 2 ^ 28) (fun m hm => ⟨c, _, hcp.1, by omega⟩) (fun m M' z => tR _ _ z m rfl) (fun _ => hQ _ ⟨_, rfl⟩) (fun gi _ => absurd gi g) (fun p k' hp e1 _ _ => absurd ⟨p, hp, e1⟩ g))) (st_thr g1 g2 g3 hz rr)))
    (fun ga gb z hz => H2 _ ((fun y1 => an_look y1.1 y1.2.1 y1.2.2 k0 hw (RM_thr r) (fun h2 Q r2 o2 hQ => sp_X9_forecast hl r2.1 hN.2.1 x2 (T := fun m M' => ∃ c L, kFu (sN (vS V)) np c L M' ∧ c + m < 2 ^ 28) (fun m hm => ⟨c, _, hcp.1, by omega⟩) (fun m M' z => tR _ _ z m rfl) (fun g => absurd ga g) (fun _ _ => hQ _ ⟨_, rfl⟩) (fun p k' hp e1 hk e2 => absurd (rx_1001.mpr ⟨k', hk, e2⟩) gb))) (st_thr g1 g2 g3 hz rr)))
    (fun i kk hi ei hk ek h1 L' p1 f1 ec ek' => ?_)
  obtain ⟨c1, r1, o1⟩ := st_cls g1 g2 g3 f1 p1 (bd_eq hB ec ek')
  refine H0 _ _ (an_step c1 r1 o1 hw (RM_same r ec ek') (fun h2 Q r2 o2 hQ => sp_X9_forecast hl r2.1 hN.2.1 x2 (T := fun m M' => ∃ c L, kFu (sN (vS V)) np c L M' ∧ c + m < 2 ^ 28) (fun m hm => ⟨c, _, hcp.1, by omega⟩) (fun m M' z => tR _ _ z m rfl) (fun g => ?_) (fun _ g => ?_) (fun p k' hp e1 hk' e2 h3 mk3 => ?_)))
  · exact absurd ⟨i, hi, ei⟩ g
  · exact absurd ⟨kk, hk, ek⟩ g
  · have ep : p = i := (nI_eq (by omega) (by omega)).mp (e1.symm.trans ei)
    have ekk : k' = kk := (nI_eq (by omega) (by omega)).mp (e2.symm.trans ek)
    subst ep ekk
    have fm : FM (kA (x + 51)) (x + 51) (fun k => k = 10) h2 h3 := FM_tr (FM_I FM_rf rfl) (FM_FA mk3.2.2)
    have h10 : j_I h3 (x + 51) 10 = 0 := (mk3.2.2.2.2.2.2.2.2.1 _ _ (by unfold kA; omega)).trans (jh_Is _ _ _ _)
    have rh : RH E (x + 51) M U uc Sn (vB V) (vSz V) (tkA (vTk V)) w h3 := ⟨mk3.1, HU_FM r2.2.1 fm (by unfold kA; omega) (by omega) (by unfold kA; omega) (by unfold kA; omega), HS_FM r2.2.2.1 fm (by unfold kA; omega) (by omega) (by unfold kA; omega) (by unfold kA; omega), HT_FM r2.2.2.2.1 fm (by unfold kA; omega) (by unfold kA; omega) (by omega) (by omega), HF_FM r2.2.2.2.2.1 fm (by unfold kA; omega) (by unfold kA; omega) (by omega), HCn_fm r2.2.2.2.2.2 fm (by unfold kA; omega)⟩
    exact hQ _ h3 _ _ M U uc Sn (by rw [kc_til k' 0 c _ M hp (fC _) (by omega)]) h10 fm (fun a z => by unfold kA at z; omega) rh ⟨kl_T k, k0.2⟩
theorem wg_eq {nf p f lim : Nat} {M : Rf} : ∀ (k w : Nat), cWgt (fun y => rTil nf p lim 0 (rsF M f 0 (nI y))) k w = rWgt nf p f lim M k w
  | 0, _ => rfl
  | k + 1, w => by
    show (if rTil nf p lim 0 (rsF M f 0 (nI w)) = -1 then cWgt (fun y => rTil nf p lim 0 (rsF M f 0 (nI y))) k (w + 1) else nI w) = (if rTil nf p lim 0 (rsF M f 0 (nI w)) = -1 then rWgt nf p f lim M k (w + 1) else nI w)
    rw [wg_eq k (w + 1)]
theorem op_weightFor (hl : l.stackTraces = false) (j : JJ E bs x sc Ls xs (n + 1) h) {v y : Int32} (H0 : ∀ a h1, AN l D E bs x sc Ls xs n (d + 60) n_X9_weightFor [.int v, .int y] 0 (fun b => b = .int a) h1 → Q (.inl (some (.int a))) h1) (H1 : ∀ h1, AN l D E bs x sc Ls xs n (d + 60) n_X9_weightFor [.int v, .int y] 1 (fun b => ∃ z, b = .int z) h1 → Q (.inr 0) h1) (H2 : ∀ h1, AN l D E bs x sc Ls xs n (d + 60) n_X9_weightFor [.int v, .int y] 2 (fun b => ∃ z, b = .int z) h1 → Q (.inr 1) h1) : j_Met l D bs E (d + 60) n_X8_weightFor [.ref x, .int v, .int y] h Q := by
  obtain ⟨V, M, U, uc, Sn, w, b, cap, g1, g2, g3, k0, hw, r⟩ := j
  have k := k0.1
  obtain ⟨r', rr⟩ := RM_less r
  have hB := rm_bd rr
  obtain ⟨np, ns, c, hc, hN, hcp, i1, i2, i3, e11, x0, x2, x3, x4⟩ := kl_N k.1
  have px := PS_x g1.1
  have q := PS_q g1.1 hB
  obtain ⟨t1, t2, t3, t4, t5, t6, t7, t8⟩ := kl_st i1
  have ru := k.1.2
  have tL : ∀ m L, (∃ c M', kFu (sN (vS V)) np c L M' ∧ c + m < 2 ^ 28) → ∀ m', m = m' + 1 → lTickOk (sN (vS V)) L ∧ ∃ c M', kFu (sN (vS V)) np c (lTick (sN (vS V)) L) M' ∧ c + m' < 2 ^ 28 := fun m L ⟨c, M', f, g⟩ m' e => by
    obtain ⟨a1, a2, a3⟩ := kc_fuT f (by omega)
    exact ⟨a3, c + 1, _, a1, by omega⟩
  have tR : ∀ m M', (∃ c L, kFu (sN (vS V)) np c L M' ∧ c + m < 2 ^ 28) → ∀ m', m = m' + 1 → rTickOk (sN (vS V)) M' ∧ ∃ c L, kFu (sN (vS V)) np c L (rTick (sN (vS V)) M') ∧ c + m' < 2 ^ 28 := fun m M' ⟨c, L, f, g⟩ m' e => by
    obtain ⟨a1, a2, a3⟩ := kc_fuT f (by omega)
    exact ⟨a2, c + 1, _, a1, by omega⟩
  have fC : ∀ Z, kFu (sN (vS V)) np c (lCopy Z (vC V).1 (sN (vS V)) np ns) M := fun Z => kc_fuC hcp.1 hN.2.2.2.2.2.2 hN.2.2.1 Z
  have b2 := hN.2.1
  have b1 := hN.1
  have hpr : ∀ p, p < np → ∃ f, f < 6 ∧ rP M p 0 = nI f := fun p hp => by
    obtain ⟨f, hf, e⟩ := (t8 p hp).1
    exact ⟨f, by omega, e⟩
  have hpf : ∀ i, i < np → ∃ f, f < 6 ∧ lP (vC V).1 i 0 = nI f := fun p hp => by
    rw [t3 p 0 hp (by omega)]
    exact hpr p hp
  refine sp_X8_weightFor hl g1.1 hN rr (T := fun m L => ∃ c M', kFu (sN (vS V)) np c L M' ∧ c + m < 2 ^ 28) (A := fun i f kk yy => rTil (sN (vS V)) i kk 0 (rsF M f 0 (nI yy))) hpf (fun i f kk yy Z hi ef hk w1 w2 => ⟨c, _, kc_fuW (fC Z) w1 w2, by omega⟩) (fun i f kk yy Z hi hk ef w1 w2 => kc_til kk 0 c _ _ hi (kc_fuW (fC Z) w1 w2) (by omega)) (fun m L z => tL _ _ z m rfl)
    (fun g z hz => H1 _ ((fun y1 => an_look y1.1 y1.2.1 y1.2.2 k0 hw (RM_thr r) (fun h2 Q r2 o2 hQ => sp_X9_weightFor hl r2.1 hN.2.1 x2 hpr (T := fun m M' => ∃ c L, kFu (sN (vS V)) np c L M' ∧ c + m < 2 ^ 28) (fun p f y m hp e w1 w2 hm => ⟨c, _, kc_fuW hcp.1 w1 w2, by omega⟩) (fun m M' z => tR _ _ z m rfl) (fun _ => hQ _ ⟨_, rfl⟩) (fun gi _ => absurd gi g) (fun p k' f hp e1 _ _ _ _ => absurd ⟨p, hp, e1⟩ g))) (st_thr g1 g2 g3 hz rr)))
    (fun ga gb z hz => H2 _ ((fun y1 => an_look y1.1 y1.2.1 y1.2.2 k0 hw (RM_thr r) (fun h2 Q r2 o2 hQ => sp_X9_weightFor hl r2.1 hN.2.1 x2 hpr (T := fun m M' => ∃ c L, kFu (sN (vS V)) np c L M' ∧ c + m < 2 ^ 28) (fun p f y m hp e w1 w2 hm => ⟨c, _, kc_fuW hcp.1 w1 w2, by omega⟩) (fun m M' z => tR _ _ z m rfl) (fun g => absurd ga g) (fun _ _ => hQ _ ⟨_, rfl⟩) (fun p k' f hp e1 hk e2 _ _ => absurd (rx_301.mpr ⟨k', hk, e2⟩) gb))) (st_thr g1 g2 g3 hz rr)))
    (fun i kk f hi ei hk ek hf ef h1 L' p1 f1 ec ek' => ?_)
  obtain ⟨c1, r1, o1⟩ := st_cls g1 g2 g3 f1 p1 (bd_eq hB ec ek')
  refine H0 _ _ (an_step c1 r1 o1 hw (RM_same r ec ek') (fun h2 Q r2 o2 hQ => sp_X9_weightFor hl r2.1 hN.2.1 x2 hpr (T := fun m M' => ∃ c L, kFu (sN (vS V)) np c L M' ∧ c + m < 2 ^ 28) (fun p f y m hp e w1 w2 hm => ⟨c, _, kc_fuW hcp.1 w1 w2, by omega⟩) (fun m M' z => tR _ _ z m rfl) (fun g => ?_) (fun _ g => ?_) (fun p k' f' hp e1 hk' e2 hf' ef' h3 mk3 => ?_)))
  · exact absurd ⟨i, hi, ei⟩ g
  · exact absurd ⟨kk, hk, ek⟩ g
  · have ep : p = i := (nI_eq (by omega) (by omega)).mp (e1.symm.trans ei)
    have ekk : k' = kk := (nI_eq (by omega) (by omega)).mp (e2.symm.trans ek)
    subst ep ekk
    have eff : f' = f := (nI_eq (by omega) (by omega)).mp (ef'.symm.trans ((t3 p 0 hp (by omega)).symm.trans ef))
    subst eff
    have fm : FM (kA (x + 51)) (x + 51) (fun k => k = 10) h2 h3 := FM_tr (FM_I FM_rf rfl) (FM_FA mk3.2.2)
    have h10 : j_I h3 (x + 51) 10 = 0 := (mk3.2.2.2.2.2.2.2.2.1 _ _ (by unfold kA; omega)).trans (jh_Is _ _ _ _)
    have rh : RH E (x + 51) M U uc Sn (vB V) (vSz V) (tkA (vTk V)) w h3 := ⟨mk3.1, HU_FM r2.2.1 fm (by unfold kA; omega) (by omega) (by unfold kA; omega) (by unfold kA; omega), HS_FM r2.2.2.1 fm (by unfold kA; omega) (by omega) (by unfold kA; omega) (by unfold kA; omega), HT_FM r2.2.2.2.1 fm (by unfold kA; omega) (by unfold kA; omega) (by omega) (by omega), HF_FM r2.2.2.2.2.1 fm (by unfold kA; omega) (by unfold kA; omega) (by omega), HCn_fm r2.2.2.2.2.2 fm (by unfold kA; omega)⟩
    exact hQ _ h3 _ _ M U uc Sn (by rw [wg_eq]) h10 fm (fun a z => by unfold kA at z; omega) rh ⟨kl_T k, k0.2⟩
end OpB
