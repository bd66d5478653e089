/-! ===== the law's calls that change the state ===== -/
section OpC
variable {l : Launch} {D : va_G} {bs : Nat} {E : j_E} {h : j_H} {d : Nat} {Q : j_O → j_H → Prop} {x sc Ls n : Nat} {xs : Nat → Int32}
def fdA (m : Nat) : Nat → Prop := fun b => b = m + 11
def fdF : Nat → Prop := fun k => k = 10 ∨ k = 15
theorem op_feed (hl : l.stackTraces = false) (j : JJ E bs x sc Ls xs (n + 1) h) {a1 a2 a3 a4 a5 : Int32} (H : ∀ a h1, AN l D E bs x sc Ls xs n (d + 60) n_X9_feed [.int a1, .int a2, .int a3, .int a4, .int a5] 0 (fun b => b = .int a) h1 → Q (.inl (some (.int a))) h1) : j_Met l D bs E (d + 60) n_X8_feed [.ref x, .int a1, .int a2, .int a3, .int a4, .int a5] h Q := by
  obtain ⟨V, M, U, uc, Sn, w, b, cap, g1, g2, g3, k0, hw, r⟩ := j
  have k := k0.1
  obtain ⟨r', rr⟩ := RM_less r
  have hB := rm_bd rr
  obtain ⟨np, ns, c, hc, hN, hcp, i1, i2, i3, e11, x0, x2, x3, x4⟩ := kl_N k.1
  have px := PS_x g1.1
  have q := PS_q g1.1 hB
  obtain ⟨t1, t2, t3, t4, t5, t6, t7, t8⟩ := kl_st i1
  have ru := k.1.2
  refine sp_X8_feed hl g1.1 hB (fun g => H _ _ (an_look g1 g2 g3 k0 hw r' (fun h2 Q r2 o2 hQ => sp_X9_feed hl r2.1 r2.2.2.2.1 (fun _ => hQ _ rfl) (fun g' => absurd g' (by omega))))) (fun g h1 p1 f1 ec ek' => ?_)
  obtain ⟨c1, r1, o1⟩ := st_cls g1 g2 g3 f1 p1 (bd_eq hB ec ek')
  refine H _ _ (an_step c1 r1 o1 hw (RM_same r ec ek') (fun h2 Q r2 o2 hQ => sp_X9_feed hl r2.1 r2.2.2.2.1 (fun g' => ?_) (fun _ h3 mb ht h10 fm0 => ?_)))
  · exact absurd g' (by omega)
  · have fm : FM (fdA (x + 51)) (x + 51) fdF h2 h3 := fm0
    exact hQ _ h3 _ _ M U uc Sn rfl h10 fm (fun a z => by unfold fdA at z; omega) ⟨mb, HU_FM r2.2.1 fm (by unfold fdA; omega) (by unfold fdF; omega) (by unfold fdA; omega) (by unfold fdA; omega), HS_FM r2.2.2.1 fm (by unfold fdA; omega) (by unfold fdF; omega) (by unfold fdA; omega) (by unfold fdA; omega), ht, HF_FM r2.2.2.2.2.1 fm (by unfold fdA; omega) (by unfold fdA; omega) (by unfold fdF; omega), HCn_fm r2.2.2.2.2.2 fm (by unfold fdA; omega)⟩ ⟨kl_B k, k0.2⟩
theorem op_undo (hl : l.stackTraces = false) (j : JJ E bs x sc Ls xs (n + 1) h) (H : ∀ a h1, AN l D E bs x sc Ls xs n (d + 60) n_X9_undo [] 0 (fun b => b = .int a) h1 → Q (.inl (some (.int a))) h1) : j_Met l D bs E (d + 60) n_X8_undo [.ref x] h Q := by
  obtain ⟨V, M, U, uc, Sn, w, b, cap, g1, g2, g3, k0, hw, r⟩ := j
  have k := k0.1
  obtain ⟨r', rr⟩ := RM_less r
  have hB := rm_bd rr
  obtain ⟨np, ns, c, hc, hN, hcp, i1, i2, i3, e11, x0, x2, x3, x4⟩ := kl_N k.1
  have px := PS_x g1.1
  have q := PS_q g1.1 hB
  obtain ⟨t1, t2, t3, t4, t5, t6, t7, t8⟩ := kl_st i1
  have ru := k.1.2
  have kc := k.2.1.1
  cases uc with
  | zero =>
    exact sp_X8_undo hl g1.1 hB (nf := 0) (np := 0) (ns := 0) (fun g => absurd g (by omega)) (fun _ => H _ _ (an_look g1 g2 g3 k0 hw r' (fun h2 Q r2 o2 hQ => sp_X9_undo hl r2.1 r2.2.1 (fun _ => hQ _ rfl) (fun m e => absurd e (by omega))))) (fun g => absurd g (by omega))
  | succ u =>
    obtain ⟨np', ns', hb, hN', k'⟩ := kl_undo k rfl
    refine sp_X8_undo hl g1.1 hB (fun _ => ⟨hb, hN'⟩) (fun e => absurd e (by omega)) (fun _ h1 p1 f1 ec ek' => ?_)
    obtain ⟨c1, r1, o1⟩ := st_cls g1 g2 g3 f1 p1 (bd_eq hB ec ek')
    refine H _ _ (an_step c1 r1 o1 hw (RM_same r ec ek') (fun h2 Q r2 o2 hQ => sp_X9_undo hl r2.1 r2.2.1 (fun e => absurd e (by omega)) (fun m em h3 mc => ?_)))
    obtain ⟨mb, hu, h10, fm⟩ := mc
    have eu : m = u := by omega
    subst eu
    exact hQ _ h3 _ _ (U m) U m Sn (by rw [kc]; rfl) h10 fm (fun a z => by unfold cA at z; omega) ⟨mb, hu, HS_FM r2.2.2.1 fm (by unfold cA; omega) (by unfold cF; omega) (by unfold cA; omega) (by unfold cA; omega), HT_FM r2.2.2.2.1 fm (by unfold cA; omega) (by unfold cA; omega) (by unfold cF; omega) (by unfold cF; omega), HF_FM r2.2.2.2.2.1 fm (by unfold cA; omega) (by unfold cA; omega) (by unfold cF; omega), HCn_fm r2.2.2.2.2.2 fm (by unfold cA; omega)⟩ ⟨k', k0.2.2.1 m (by omega), fun i hi => k0.2.2.1 i (by omega), k0.2.2.2⟩
def sF2 : Nat → Prop := fun k => k = 10 ∨ k = 11
theorem op_saveSnapshot (hl : l.stackTraces = false) (j : JJ E bs x sc Ls xs (n + 1) h) (H : ∀ h1, j_bd E h1 → j_Met l D bs E (d + 60) n_X9_saveSnapshot [.ref (x + 51)] h1 (fun o h3 => o = .inl none ∧ JJ E bs x sc Ls xs n h3) → Q (.inl none) h1) : j_Met l D bs E (d + 60) n_X8_saveSnapshot [.ref x] h Q := by
  obtain ⟨V, M, U, uc, Sn, w, b, cap, g1, g2, g3, k0, hw, r⟩ := j
  have k := k0.1
  obtain ⟨r', rr⟩ := RM_less r
  have hB := rm_bd rr
  obtain ⟨np, ns, c, hc, hN, hcp, i1, i2, i3, e11, x0, x2, x3, x4⟩ := kl_N k.1
  have px := PS_x g1.1
  have q := PS_q g1.1 hB
  obtain ⟨t1, t2, t3, t4, t5, t6, t7, t8⟩ := kl_st i1
  have ru := k.1.2
  refine sp_X8_saveSnapshot hl g1.1 hB hN (fun h2 p1 f1 ec ek' => ?_)
  obtain ⟨c2, r2, o2⟩ := st_cls g1 g2 g3 f1 p1 (bd_eq hB ec ek')
  refine H _ (bd_eq hB ec ek') (sp_X9_saveSnapshot hl r2.1 (fun h3 mb hs h10 fm0 => ?_))
  have fm : FM (sA (x + 51)) (x + 51) sF2 h2 h3 := fm0
  obtain ⟨c3, o3, e7, e8, ec3, ek3⟩ := st_ref c2 o2 fm (fun a z => by unfold sA at z; omega)
  exact ⟨rfl, _, M, U, uc, some M, w, b, cap, c3, ⟨mb, HU_FM r2.2.1 fm (by unfold sA; omega) (by unfold sF2; omega) (by unfold sA; omega) (by unfold sA; omega), hs, HT_FM r2.2.2.2.1 fm (by unfold sA; omega) (by unfold sA; omega) (by unfold sF2; omega) (by unfold sF2; omega), HF_FM r2.2.2.2.2.1 fm (by unfold sA; omega) (by unfold sA; omega) (by unfold sF2; omega), HCn_fm r2.2.2.2.2.2 fm (by unfold sA; omega)⟩, o3, ⟨kl_save k hN, k0.2.1, k0.2.2.1, fun K e => Option.some.inj e ▸ k0.2.1⟩, hw, RM_same r (ec3.trans ec) (ek3.trans ek')⟩
theorem op_restoreSnapshot (hl : l.stackTraces = false) (j : JJ E bs x sc Ls xs (n + 1) h) (H : ∀ a h1, AN l D E bs x sc Ls xs n (d + 60) n_X9_restoreSnapshot [] 0 (fun b => b = .int a) h1 → Q (.inl (some (.int a))) h1) : j_Met l D bs E (d + 60) n_X8_restoreSnapshot [.ref x] h Q := by
  obtain ⟨V, M, U, uc, Sn, w, b, cap, g1, g2, g3, k0, hw, r⟩ := j
  have k := k0.1
  obtain ⟨r', rr⟩ := RM_less r
  have hB := rm_bd rr
  obtain ⟨np, ns, c, hc, hN, hcp, i1, i2, i3, e11, x0, x2, x3, x4⟩ := kl_N k.1
  have px := PS_x g1.1
  have q := PS_q g1.1 hB
  obtain ⟨t1, t2, t3, t4, t5, t6, t7, t8⟩ := kl_st i1
  have ru := k.1.2
  have kh := k.2.2.2.1
  cases Sn with
  | none =>
    have e0 : vHs V = 0 := kh
    exact sp_X8_restoreSnapshot hl g1.1 hB (nf := 0) (np := 0) (ns := 0) (fun g => absurd e0 g) (fun _ => H _ _ (an_look g1 g2 g3 k0 hw r' (fun h2 Q r2 o2 hQ => sp_X9_restoreSnapshot hl (U := U) r2.1 r2.2.2.1 (fun _ => hQ _ rfl) (fun K e => by cases e)))) (fun g => absurd e0 g)
  | some K =>
    have e1 : vHs V = 1 := kh
    obtain ⟨np', ns', hN', k'⟩ := kl_rest k rfl
    refine sp_X8_restoreSnapshot hl g1.1 hB (fun _ => hN') (fun e => absurd (e1.symm.trans e) (by decide)) (fun _ h1 p1 f1 ec ek' => ?_)
    obtain ⟨c1, r1, o1⟩ := st_cls g1 g2 g3 f1 p1 (bd_eq hB ec ek')
    refine H _ _ (an_step c1 r1 o1 hw (RM_same r ec ek') (fun h2 Q r2 o2 hQ => sp_X9_restoreSnapshot hl (U := U) r2.1 r2.2.2.1 (fun e => by cases e) (fun K' eK h3 mc => ?_)))
    obtain ⟨mb, hu, h10, fm⟩ := mc
    have eu : K = K' := Option.some.inj eK
    subst eu
    exact hQ _ h3 _ _ K U 0 (some K) rfl h10 fm (fun a z => by unfold cA at z; omega) ⟨mb, hu, HS_FM r2.2.2.1 fm (by unfold cA; omega) (by unfold cF; omega) (by unfold cA; omega) (by unfold cA; omega), HT_FM r2.2.2.2.1 fm (by unfold cA; omega) (by unfold cA; omega) (by unfold cF; omega) (by unfold cF; omega), HF_FM r2.2.2.2.2.1 fm (by unfold cA; omega) (by unfold cA; omega) (by unfold cF; omega), HCn_fm r2.2.2.2.2.2 fm (by unfold cA; omega)⟩ ⟨k', k0.2.2.2 K rfl, fun i hi => absurd hi (by omega), k0.2.2.2⟩
theorem rIn_ex {v : Int32} {lo hi : Nat} (hh : hi + 1 < 2 ^ 30) (h1 : lo < 2 ^ 30) (g : rIn v (nI lo) (nI hi) = true) : ∃ z, lo ≤ z ∧ z ≤ hi ∧ v = nI z := by
  simp only [rIn, Bool.and_eq_true, Bool.not_eq_true', decide_eq_false_iff_not] at g
  obtain ⟨ga, gb⟩ := g
  have e1 : nI (hi + 1) - 1 = nI hi := nI_dec (by omega) (by omega)
  have gc : ¬ v < 0 := fun z => ga (by
    have z1 := Int32.lt_iff_toInt_lt.mp z
    have z0 : (0 : Int32).toInt = 0 := by decide
    have z2 : ¬ nI lo < 0 := nI_pos (by omega)
    have z3 : ¬ (nI lo).toInt < (0 : Int32).toInt := fun y => z2 (Int32.lt_iff_toInt_lt.mpr y)
    exact Int32.lt_iff_toInt_lt.mpr (by omega))
  obtain ⟨p, hp, e⟩ := (rIn_inx (n := hi + 1) (by omega)).mp (rIn_t (lo := 0) gc (by rw [e1]; exact gb))
  refine ⟨p, ?_, by omega, e⟩
  rcases Nat.lt_or_ge p lo with y | y
  · rw [e] at ga
    exact absurd (nI_lt y (by omega)) ga
  · exact y
theorem leA_RM {h' : j_H} {ad ad' : Nat → Option Nat} {cap : Nat} (r : RM E h ad cap (n + 1)) (z : leA h ad h' ad') : RM E h' ad' cap n := ⟨by have := r.1; have := z.1; omega, by have := r.2; have := z.2; omega⟩
theorem RM_A {ad : Nat → Option Nat} {cap : Nat} (r : RM E h ad cap (n + 1)) : rmA E h ad := ⟨by have := r.1; omega, by have := r.2; omega⟩
theorem leA_bd' {h' : j_H} {ad ad' : Nat → Option Nat} {cap : Nat} (r : RM E h ad cap (n + 1)) (z : leA h ad h' ad') : j_bd E h' := leA_bd (RM_A r) z
theorem add_sub_w (a y : Int32) : a + (y - a) = y := by rw [Int32.add_comm, Int32.sub_add_cancel]
theorem op_setWeight (hl : l.stackTraces = false) (j : JJ E bs x sc Ls xs (n + 1) h) {v y : Int32} (H0 : ∀ a h1, AN l D E bs x sc Ls xs n (d + 60) n_X9_setWeight [.int v, .int y] 0 (fun b => b = .int a) h1 → Q (.inl (some (.int a))) h1) (H1 : ∀ h1, AN l D E bs x sc Ls xs n (d + 60) n_X9_setWeight [.int v, .int y] 1 (fun b => ∃ z, b = .int z) h1 → Q (.inr 0) h1) (H2 : ∀ h1, AN l D E bs x sc Ls xs n (d + 60) n_X9_setWeight [.int v, .int y] 2 (fun b => ∃ z, b = .int z) h1 → Q (.inr 1) h1) : j_Met l D bs E (d + 60) n_X8_setWeight [.ref x, .int v, .int y] h Q := by
  obtain ⟨V, M, U, uc, Sn, w, b, cap, g1, g2, g3, k0, hw, r⟩ := j
  have k := k0.1
  obtain ⟨r', rr⟩ := RM_less r
  have hB := rm_bd rr
  obtain ⟨np, ns, c, hc, hN, hcp, i1, i2, i3, e11, x0, x2, x3, x4⟩ := kl_N k.1
  have px := PS_x g1.1
  have q := PS_q g1.1 hB
  obtain ⟨t1, t2, t3, t4, t5, t6, t7, t8⟩ := kl_st i1
  have ru := k.1.2
  have b1 := hN.1
  refine sp_X8_setWeight hl g1.1 hN (RM_A r)
    (fun g z hz => H1 _ ((fun y1 => an_look y1.1 y1.2.1 y1.2.2 k0 hw (RM_thr r) (fun h2 Q r2 o2 hQ => sp_X9_setWeight hl r2.1 r2.2.1 hN.1 x0 (fun _ => hQ _ ⟨_, rfl⟩) (fun gi _ => absurd gi g) (fun f hf ef _ => absurd ⟨f, hf, ef⟩ g))) (st_thr g1 g2 g3 hz rr)))
    (fun ga gb z hz => H2 _ ((fun y1 => an_look y1.1 y1.2.1 y1.2.2 k0 hw (RM_thr r) (fun h2 Q r2 o2 hQ => sp_X9_setWeight hl r2.1 r2.2.1 hN.1 x0 (fun g => absurd ga g) (fun _ _ => hQ _ ⟨_, rfl⟩) (fun f hf ef gy => absurd gy gb))) (st_thr g1 g2 g3 hz rr)))
    (fun i hi ei gy h1 e Z p1 f1 la => ?_)
  obtain ⟨yw, y1, y2, ey⟩ := rIn_ex (lo := 1) (hi := 16) (by omega) (by omega) gy
  obtain ⟨c1, r1, o1⟩ := st_cls g1 g2 g3 f1 p1 (leA_bd' r la)
  refine H0 _ _ (an_step c1 r1 o1 hw (leA_RM r la) (fun h2 Q r2 o2 hQ => sp_X9_setWeight hl r2.1 r2.2.1 hN.1 x0 (fun g => absurd ⟨i, hi, ei⟩ g) (fun _ g => absurd gy g) (fun f hf ef _ h3 mc => ?_)))
  obtain ⟨mb, hu, h10, fm⟩ := mc
  have eu : f = i := (nI_eq (by omega) (by omega)).mp (ef.symm.trans ei)
  subst eu
  rw [add_sub_w] at mb
  have eF : lF (vC V).1 f 0 = rF M f 0 := by
    obtain ⟨qq, sf, hst, hz⟩ := i1
    exact hst.2.2.1 f 0 hf (by omega)
  refine hQ _ h3 _ _ _ _ _ Sn (by rw [eF]) h10 fm (fun a z => by unfold cA at z; omega) ⟨mb, hu, HS_FM r2.2.2.1 fm (by unfold cA; omega) (by unfold cF; omega) (by unfold cA; omega) (by unfold cA; omega), HT_FM r2.2.2.2.1 fm (by unfold cA; omega) (by unfold cA; omega) (by unfold cF; omega) (by unfold cF; omega), HF_FM r2.2.2.2.2.1 fm (by unfold cA; omega) (by unfold cA; omega) (by unfold cF; omega), HCn_fm r2.2.2.2.2.2 fm (by unfold cA; omega)⟩ ?_
  rw [ey]
  exact ⟨kl_C (kl_keep k hN e Z) (kl_weight k.1 hf y1 y2), kU5_keep k0.2 k.2.1.2.2 (k5_F k0.2.1)⟩
set_option maxRecDepth 8000 in
theorem RM_q {ad : Nat → Option Nat} {cap : Nat} (r : RM E h ad cap (n + 1)) : j_c h + 203 ≤ E.2.1 ∧ j_k h + 406 ≤ E.2.2 := by
  unfold RM at r
  obtain ⟨r1, r2⟩ := r
  generalize j_k h = a at *
  generalize 3944 * nnF ad 10 = b at *
  generalize 34 * sb1 cap = c at *
  generalize E.2.2 = e at *
  exact ⟨by omega, by omega⟩
theorem RM_q2 {h' : j_H} {ad : Nat → Option Nat} {cap : Nat} (r : RM E h ad cap (n + 1)) (e1 : j_c h' ≤ j_c h + 202) (e2 : j_k h' ≤ j_k h + 404) : RM E h' ad cap n ∧ j_bd E h' := ⟨⟨by have := r.1; omega, by have := r.2; omega⟩, ⟨by have := r.1; omega, by have := r.2; omega⟩⟩
/-- any ints are some reference's -/
def rgF (g : Nat → Int32) : Rf := (fun k => g k, fun r k => g (9 + 14 * r + k), fun r k => g (93 + 100 * r + k), fun r k => g (693 + 7 * r + k), fun r k => g (777 + 9 * r + k), fun r k => g (1677 + 5 * r + k), fun r k => g (3177 + 7 * r + k), fun _ => 0, fun _ => 0)
theorem rg_any (g : Nat → Int32) : RG g (rgF g) := ⟨fun _ _ => rfl, fun _ _ _ _ => rfl, fun _ _ _ _ => rfl, fun _ _ _ _ => rfl, fun _ _ _ _ => rfl, fun _ _ _ _ => rfl, fun _ _ _ _ => rfl⟩
theorem op_query (hl : l.stackTraces = false) (j : JJ E bs x sc Ls xs (n + 1) h) {v : Int32} (H0 : ∀ a h1, AN l D E bs x sc Ls xs n (d + 60) n_X9_query [.int v] 0 (fun b => b = .int a) h1 → Q (.inl (some (.int a))) h1) (H1 : ∀ h1, AN l D E bs x sc Ls xs n (d + 60) n_X9_query [.int v] 1 (fun b => ∃ z, b = .int z) h1 → Q (.inr 1) h1) : j_Met l D bs E (d + 60) n_X8_query [.ref x, .int v] h Q := by
  obtain ⟨V, M, U, uc, Sn, w, b, cap, g1, g2, g3, k0, hw, r⟩ := j
  have k := k0.1
  obtain ⟨r', rr⟩ := RM_less r
  have hB := rm_bd rr
  obtain ⟨np, ns, c, hc, hN, hcp, i1, i2, i3, e11, x0, x2, x3, x4⟩ := kl_N k.1
  have px := PS_x g1.1
  have q := PS_q g1.1 hB
  obtain ⟨t1, t2, t3, t4, t5, t6, t7, t8⟩ := kl_st i1
  have ru := k.1.2
  have hbx := g3.2.2.1
  obtain ⟨ra, rb⟩ := RM_q r
  refine sp_X8_query hl (js_all hl) g1.1 g1.2.1 g3.1 hbx hN ra rb
    (fun g z hz => H1 _ ((fun y1 => an_look y1.1 y1.2.1 y1.2.2 k0 hw (RM_thr r) (fun h2 Q r2 o2 hQ => sp_X9_query hl (js_all hl) r2.1 o2.1 (show bs ≤ x + 51 by have := o2.2.2.1; omega) r2.2.2.2.1 ⟨rgF (j_I h2 (x + 51 + 2)), rg_any _⟩ r2.2.2.2.2.2 hN.2.1 x2 (L := (vC V).1) (fun i kk hi hk => t3 i kk hi hk) (fun _ => hQ _ ⟨_, rfl⟩) (fun m h1 h2 e _ => absurd ⟨m, by omega, e⟩ g) (fun m h1 h2 e _ => absurd ⟨m, by omega, e⟩ g))) (st_thr g1 g2 g3 hz rr)))
    (fun m hm em h1 p1 f1 ec ek' => ?_)
  have hm2 : m ≤ vSz V ∧ m ≤ 200 := by omega
  have hs8 : vSz V ≤ 800 := g2.2.2.2.1.2.1.2
  obtain ⟨rm1, bd1⟩ := RM_q2 r ec ek'
  obtain ⟨c1, r1, o1⟩ := st_cls g1 g2 g3 f1 p1 bd1
  refine H0 _ _ (an_step c1 r1 o1 hw rm1 (fun h2 Q r2 o2 hQ => sp_X9_query hl (js_all hl) r2.1 o2.1 (show bs ≤ x + 51 by have := o2.2.2.1; omega) r2.2.2.2.1 ⟨rgF (j_I h2 (x + 51 + 2)), rg_any _⟩ r2.2.2.2.2.2 hN.2.1 x2 (L := (vC V).1) (fun i kk hi hk => t3 i kk hi hk) (fun g => absurd ⟨m, by omega, em⟩ g) (fun m' hm' h200 em' h5 h3 mb ht h10 fm => ?_) (fun m' hm' h200 em' h5 h3 mb ht h10 fm => ?_)))
  · have eu : m' = m := (nI_eq (by omega) (by omega)).mp (em'.symm.trans em)
    subst eu
    refine hQ _ h3 _ _ M U uc Sn (by rw [kq_a5 h5]) h10 fm (fun a z => by unfold qA2 at z; omega) ?_ ⟨kl_B k, k0.2⟩
    have ht' : HT h3 (x + 51) (vB V) 0 (tkA (cqE (vB V) m' (vC V).1 np)) := by rw [kq_E]; exact ht
    exact ⟨mb, HU_FM r2.2.1 fm (by unfold qA2; omega) (by unfold qF4; omega) (by unfold qA2; omega) (by unfold qA2; omega), HS_FM r2.2.2.1 fm (by unfold qA2; omega) (by unfold qF4; omega) (by unfold qA2; omega) (by unfold qA2; omega), ht', HF_FM r2.2.2.2.2.1 fm (by unfold qA2; omega) (by unfold qA2; omega) (by unfold qF4; omega), HCn_fm r2.2.2.2.2.2 fm (by unfold qA2; omega)⟩
  · have eu : m' = m := (nI_eq (by omega) (by omega)).mp (em'.symm.trans em)
    subst eu
    obtain ⟨a1, a2⟩ := kq_a0 h5
    refine hQ _ h3 _ _ M U uc Sn (by rw [a1]) h10 fm (fun a z => by unfold qA2 at z; omega) ?_ ⟨kl_B k, k0.2⟩
    have ht' : HT h3 (x + 51) (vB V) 0 (tkA (cqE (vB V) m' (vC V).1 np)) := by rw [kq_E, a2]; exact ht
    exact ⟨mb, HU_FM r2.2.1 fm (by unfold qA2; omega) (by unfold qF4; omega) (by unfold qA2; omega) (by unfold qA2; omega), HS_FM r2.2.2.1 fm (by unfold qA2; omega) (by unfold qF4; omega) (by unfold qA2; omega) (by unfold qA2; omega), ht', HF_FM r2.2.2.2.2.1 fm (by unfold qA2; omega) (by unfold qA2; omega) (by unfold qF4; omega), HCn_fm r2.2.2.2.2.2 fm (by unfold qA2; omega)⟩
end OpC
