/-! ===== the law's calls: load, arrive, run, format ===== -/
section OpD
variable {l : Launch} {D : va_G} {bs : Nat} {E : j_E} {h : j_H} {d : Nat} {Q : j_O → j_H → Prop} {x sc Ls n : Nat} {xs : Nat → Int32}
theorem op_load (hl : l.stackTraces = false) (j : JJ E bs x sc Ls xs (n + 1) h) {v : Int32} (H0 : ∀ a h1, AN l D E bs x sc Ls xs n (d + 60) n_X9_load [.int v] 0 (fun b => b = .int a) h1 → Q (.inl (some (.int a))) h1) (H1 : ∀ h1, AN l D E bs x sc Ls xs n (d + 60) n_X9_load [.int v] 1 (fun b => ∃ z, b = .int z) h1 → Q (.inr 1) h1) : j_Met l D bs E (d + 60) n_X8_load [.ref x, .int v] h Q := by
  obtain ⟨V, M, U, uc, Sn, w, b, cap, g1, g2, g3, k0, hw, r⟩ := j
  have k := k0.1
  obtain ⟨r', rr⟩ := RM_less r
  have hB := rm_bd rr
  obtain ⟨np, ns, c, hc, hN, hcp, i1, i2, i3, e11, x0, x2, x3, x4⟩ := kl_N k.1
  have px := PS_x g1.1
  have q := PS_q g1.1 hB
  obtain ⟨t1, t2, t3, t4, t5, t6, t7, t8⟩ := kl_st i1
  have ru := k.1.2
  have hbx := g3.2.2.1
  have hs8 : vSz V ≤ 800 := g2.2.2.2.1.2.1.2
  obtain ⟨z1, z2, z3, z4⟩ := ks_reset (vZ V)
  have kr : ∀ m, kTc (sRead (vB V) m 800 (tOpen (vB V) m 0) (sReset (vZ V))).1 ∧ kSo (sRead (vB V) m 800 (tOpen (vB V) m 0) (sReset (vZ V))).2 ∧ (tkK (sRead (vB V) m 800 (tOpen (vB V) m 0) (sReset (vZ V))).1 ≠ 5 → kSu (sRead (vB V) m 800 (tOpen (vB V) m 0) (sReset (vZ V))).2) := fun m => ks_read 800 _ _ (kt_open _ _ _) z1 (fun _ => z2) (by omega) (by omega)
  have kn : ∀ m, sN (sRead (vB V) m 800 (tOpen (vB V) m 0) (sReset (vZ V))).2 ≤ 6 ∧ sM (sRead (vB V) m 800 (tOpen (vB V) m 0) (sReset (vZ V))).2 ≤ 12 := fun m => sRead_N (by omega) (by omega)
  refine sp_X8_load hl (js_all hl) g1.1 g3.1 hbx rr
    (fun g z hz => H1 _ ((fun y1 => an_look y1.1 y1.2.1 y1.2.2 k0 hw (RM_thr r) (fun h2 Q r2 o2 hQ => sp_X9_load hl (U := U) (js_all hl) r2.1 o2.1 (show bs ≤ x + 51 by have := o2.2.2.1; omega) r2.2.2.2.1 (vZ V) (fun _ => hQ _ ⟨_, rfl⟩) (fun m h1 e _ => absurd ⟨m, by omega, e⟩ g) (fun m h1 e _ => absurd ⟨m, by omega, e⟩ g))) (st_thr g1 g2 g3 hz rr)))
    (fun m hm em yy ey gC h1 p1 f1 ec ek' => ?_) (fun m hm em yy ey gC h1 p1 f1 ec ek' => ?_)
  · obtain ⟨c1, r1, o1⟩ := st_cls g1 g2 g3 f1 p1 (bd_eq hB ec ek')
    have g5 : tkK yy.1 = 5 := Decidable.byContradiction (fun z => gC (by rw [ey] at z ⊢; exact ((kr m).1.1 z).1))
    refine H0 _ _ (an_step c1 r1 o1 hw (RM_same r ec ek') (fun h2 Q r2 o2 hQ => sp_X9_load hl (U := U) (js_all hl) r2.1 o2.1 (show bs ≤ x + 51 by have := o2.2.2.1; omega) r2.2.2.2.1 (vZ V) (fun g => absurd ⟨m, by omega, em⟩ g) (fun m' hm' em' h5 h3 mb ht h10 fm => ?_) (fun m' hm' em' h5 => ?_)))
    · have eu : m' = m := (nI_eq (by omega) (by omega)).mp (em'.symm.trans em)
      subst eu
      refine hQ _ h3 _ _ M U uc Sn (by rw [ey]) h10 fm (fun a z => by unfold pA2 at z; omega) ?_ ⟨kl_Z k, k0.2⟩
      have ht' : HT h3 (x + 51) (vB V) 0 (tkA yy.1) := by rw [ey]; exact ht
      exact ⟨mb, HU_FM r2.2.1 fm (by unfold pA2; omega) (by unfold pF3; omega) (by unfold pA2; omega) (by unfold pA2; omega), HS_FM r2.2.2.1 fm (by unfold pA2; omega) (by unfold pF3; omega) (by unfold pA2; omega) (by unfold pA2; omega), ht', HF_FM r2.2.2.2.2.1 fm (by unfold pA2; omega) (by unfold pA2; omega) (by unfold pF3; omega), HCn_fm r2.2.2.2.2.2 fm (by unfold pA2; omega)⟩
    · have eu : m' = m := (nI_eq (by omega) (by omega)).mp (em'.symm.trans em)
      subst eu
      exact absurd (by rw [← ey]; exact g5) h5
  · obtain ⟨c1, r1, o1⟩ := st_cls g1 g2 g3 f1 p1 (bd_eq hB ec ek')
    have g5 : tkK yy.1 ≠ 5 := fun z => (by rw [ey] at z gC; exact (kr m).1.2 z gC)
    refine H0 _ _ (an_step c1 r1 o1 hw (RM_same r ec ek') (fun h2 Q r2 o2 hQ => sp_X9_load hl (U := U) (js_all hl) r2.1 o2.1 (show bs ≤ x + 51 by have := o2.2.2.1; omega) r2.2.2.2.1 (vZ V) (fun g => absurd ⟨m, by omega, em⟩ g) (fun m' hm' em' h5 => ?_) (fun m' hm' em' h5 h3 M' mb hld hu hs ht h10 fm => ?_)))
    · have eu : m' = m := (nI_eq (by omega) (by omega)).mp (em'.symm.trans em)
      subst eu
      exact absurd (by rw [← ey] at h5; exact h5) g5
    · have eu : m' = m := (nI_eq (by omega) (by omega)).mp (em'.symm.trans em)
      subst eu
      obtain ⟨a1, a2, a3⟩ := kr m'
      obtain ⟨a4, a5⟩ := kn m'
      rw [← ey] at h5 hld ⊢
      rw [← ey] at a1 a2 a3 a4 a5
      have kl := kl_load (L := (vC V).1) (R := (vC V).2.2.2) a2 (a3 h5) a4 a5 hld
      obtain ⟨np', ns', c', hc', hN', -⟩ := kl_N kl
      refine hQ _ h3 _ _ M' U 0 none (by rw [hN'.2.2.2.2.1]) h10 fm (fun a z => by unfold qA2 at z; omega) ?_ ⟨⟨kl, ⟨rfl, k.2.1.2.1, by omega⟩, fun jj hj => absurd hj (by omega), rfl, fun K e => by cases e⟩, k5_load hld, fun i hi => absurd hi (by omega), fun K e => by cases e⟩
      have ht' : HT h3 (x + 51) (vB V) 0 (tkA yy.1) := by rw [(a1.1 h5).2]; exact ht
      exact ⟨mb, hu, hs, ht', HF_FM r2.2.2.2.2.1 fm (by unfold qA2; omega) (by unfold qA2; omega) (by unfold qF2; omega), HCn_fm r2.2.2.2.2.2 fm (by unfold qA2; omega)⟩
theorem kc_ls_ix : ∀ (q : List Nat), (∀ y ∈ q, y < 100) → ix 100 (kc_ls q)
  | [], _ => Or.inl rfl
  | [p], h => Or.inr ⟨p, h p (by simp), rfl⟩
  | _ :: p :: r, h => kc_ls_ix (p :: r) (fun y hy => h y (List.mem_cons_of_mem _ hy))
theorem op_arrive (hl : l.stackTraces = false) (j : JJ E bs x sc Ls xs (n + 1) h) {a1 a2 a3 sz : Int32} (H0 : ∀ a h1, AN l D E bs x sc Ls xs n (d + 60) n_X9_arrive [.int a1, .int a2, .int a3, .int sz] 0 (fun b => b = .int a) h1 → Q (.inl (some (.int a))) h1) (H1 : ∀ h1, AN l D E bs x sc Ls xs n (d + 60) n_X9_arrive [.int a1, .int a2, .int a3, .int sz] 1 (fun b => ∃ z, b = .int z) h1 → Q (.inr 1) h1) : j_Met l D bs E (d + 60) n_X8_arrive [.ref x, .int a1, .int a2, .int a3, .int sz] h Q := by
  obtain ⟨V, M, U, uc, Sn, w, b, cap, g1, g2, g3, k0, hw, r⟩ := j
  have k := k0.1
  obtain ⟨r', rr⟩ := RM_less r
  have hB := rm_bd rr
  obtain ⟨np, ns, c, hc, hN, hcp, i1, i2, i3, e11, x0, x2, x3, x4⟩ := kl_N k.1
  have px := PS_x g1.1
  have q := PS_q g1.1 hB
  obtain ⟨t1, t2, t3, t4, t5, t6, t7, t8⟩ := kl_st i1
  have ru := k.1.2
  have b1 := hN.1
  have b2 := hN.2.1
  obtain ⟨eF, oF⟩ := ka_for ru a1 a2 a3 (sM (vS V)) 0 (by omega)
  have hz' : ∀ f, f < sN (vS V) → ix 100 (lF (vC V).1 f 18) := fun f hf => by
    obtain ⟨qq, sf, hst, hzz⟩ := i1
    rw [(hst.2.2.2.2.2.2.2.1 f hf).2.1.2.1]
    exact kc_ls_ix _ (fun y hy => kc_in hst hf hy)
  have eF1 : ∀ f, f < sN (vS V) → lF (vC V).1 f 1 = rF M f 1 := fun f hf => by
    obtain ⟨qq, sf, hst, hzz⟩ := i1
    exact hst.2.2.1 f 1 hf (by omega)
  have ok : rArrOk M (sN (vS V)) (sM (vS V)) np ns := ⟨hN.1, x0, ru.1.2, ru.2.2.1, hN.2.1, x2, hN.2.2.1, x3, t6, fun f hf => ⟨t7 f hf, (ka_bytes hcp.1 hf).2⟩, fun a b c => (ka_for ru a b c (sM (vS V)) 0 (by omega)).2⟩
  have nf1 : ∀ f, f < sN (vS V) → ¬ nI f = -1 := fun f hf => nI_ne1 (by omega)
  refine sp_X8_arrive hl g1.1 hN (RM_A r) (fun g => by
      rcases oF with z | z
      · rw [eF] at g; exact absurd z g
      · rw [eF]; exact z) hz'
    (fun g z hz => H1 _ ((fun y1 => an_look y1.1 y1.2.1 y1.2.2 k0 hw (RM_thr r) (fun h2 Q r2 o2 hQ => sp_X9_arrive hl r2.1 r2.2.1 ok (fun _ => hQ _ ⟨_, rfl⟩) (fun ga gb _ => absurd ⟨ga, gb⟩ g) (fun ga gb _ _ => absurd ⟨ga, gb⟩ g) (fun ga gb f _ _ _ _ => absurd ⟨ga, gb⟩ g) (fun ga gb f _ _ _ _ h' _ => absurd ⟨ga, gb⟩ g))) (st_thr g1 g2 g3 hz rr)))
    (fun g e2 => H0 _ _ (an_look g1 g2 g3 k0 hw r' (fun h2 Q r2 o2 hQ => sp_X9_arrive hl r2.1 r2.2.1 ok (fun g' => absurd g g') (fun _ _ _ => hQ _ rfl) (fun _ _ ne _ => absurd (eF.symm.trans e2) ne) (fun _ _ f hf e3 _ _ => absurd (e3.symm.trans (eF.symm.trans e2)) (nf1 f hf)) (fun _ _ f hf e3 _ _ h' _ => absurd (e3.symm.trans (eF.symm.trans e2)) (nf1 f hf)))))
    (fun g e2 g3' => H0 _ _ (an_look g1 g2 g3 k0 hw r' (fun h2 Q r2 o2 hQ => sp_X9_arrive hl r2.1 r2.2.1 ok (fun g' => absurd g g') (fun _ _ e3 => absurd (eF.trans e3) e2) (fun _ _ _ _ => hQ _ rfl) (fun _ _ f hf e3 hnp _ => absurd hnp g3') (fun _ _ f hf e3 hnp _ h' _ => absurd hnp g3'))))
    (fun g f hf ef hnp lt => H0 _ _ (an_look g1 g2 g3 k0 hw r' (fun h2 Q r2 o2 hQ => sp_X9_arrive hl r2.1 r2.2.1 ok (fun g' => absurd g g') (fun _ _ e3 => absurd ((eF.symm.trans ef).symm.trans e3) (nf1 f hf)) (fun _ _ _ e3 => absurd e3 (by omega)) (fun _ _ f' hf' e3 _ _ => hQ _ rfl) (fun _ _ f' hf' e3 _ nlt h' _ => absurd lt (by rw [(nI_eq (by omega) (by omega)).mp (e3.symm.trans (eF.symm.trans ef)), ← eF1 f hf, ← (ka_bytes hcp.1 hf).1] at nlt; exact nlt)))))
    (fun g f hf ef hnp nlt h1 e Z p1 f1 la => ?_)
  obtain ⟨zz, q1, q2, ez⟩ := rIn_ex (lo := 1) (hi := 1500) (by omega) (by omega) g.2
  obtain ⟨c1, r1, o1⟩ := st_cls g1 g2 g3 f1 p1 (leA_bd' r la)
  have ef' : rFor M a1 a2 a3 (sM (vS V)) 0 = nI f := eF.symm.trans ef
  refine H0 _ _ (an_step c1 r1 o1 hw (leA_RM r la) (fun h2 Q r2 o2 hQ => sp_X9_arrive hl r2.1 r2.2.1 ok (fun g' => absurd g g') (fun _ _ e3 => absurd (ef'.symm.trans e3) (nf1 f hf)) (fun _ _ _ e3 => absurd e3 (by omega)) (fun _ _ f' hf' e3 _ lt => ?_) (fun _ _ f' hf' e3 _ _ h3 mc => ?_)))
  · have eu : f' = f := (nI_eq (by omega) (by omega)).mp (e3.symm.trans ef')
    subst eu
    rw [← eF1 f' hf', ← (ka_bytes hcp.1 hf').1] at lt
    exact absurd lt nlt
  · obtain ⟨mb, hu, h10, fm⟩ := mc
    have eu : f' = f := (nI_eq (by omega) (by omega)).mp (e3.symm.trans ef')
    subst eu
    refine hQ _ h3 _ _ _ _ _ Sn rfl h10 fm (fun a z => by unfold cA at z; omega) ⟨mb, hu, HS_FM r2.2.2.1 fm (by unfold cA; omega) (by unfold cF; omega) (by unfold cA; omega) (by unfold cA; omega), HT_FM r2.2.2.2.1 fm (by unfold cA; omega) (by unfold cA; omega) (by unfold cF; omega) (by unfold cF; omega), HF_FM r2.2.2.2.2.1 fm (by unfold cA; omega) (by unfold cA; omega) (by unfold cF; omega), HCn_fm r2.2.2.2.2.2 fm (by unfold cA; omega)⟩ ?_
    rw [ez]
    exact ⟨kl_C (kl_keep k hN e Z) (kl_arr k.1 hN hnp hf q1 q2 a1 a2 a3), kU5_keep k0.2 k.2.1.2.2 (k5_R k0.2.1 (R5_tr R5_forgive R5_arr) x4 (by omega))⟩
theorem op_run (hl : l.stackTraces = false) (j : JJ E bs x sc Ls xs (n + 1) h) {v : Int32} (H0 : ∀ a h1, AN l D E bs x sc Ls xs n (d + 60) n_X9_run [.int v] 0 (fun b => b = .int a) h1 → Q (.inl (some (.int a))) h1) (H1 : ∀ h1, AN l D E bs x sc Ls xs n (d + 60) n_X9_run [.int v] 1 (fun b => ∃ z, b = .int z) h1 → Q (.inr 1) h1) : j_Met l D bs E (d + 60) n_X8_run [.ref x, .int v] h Q := by
  obtain ⟨V, M, U, uc, Sn, w, b, cap, g1, g2, g3, k0, hw, r⟩ := j
  have k := k0.1
  obtain ⟨r', rr⟩ := RM_less r
  have hB := rm_bd rr
  obtain ⟨np, ns, c, hc, hN, hcp, i1, i2, i3, e11, x0, x2, x3, x4⟩ := kl_N k.1
  have px := PS_x g1.1
  have q := PS_q g1.1 hB
  obtain ⟨t1, t2, t3, t4, t5, t6, t7, t8⟩ := kl_st i1
  have ru := k.1.2
  have b1 := hN.1
  have b2 := hN.2.1
  have tR : ∀ m M', (∃ c L, kFu (sN (vS V)) np c L M' ∧ c + m < 2 ^ 28) → ∀ m', m = m' + 1 → rTickOk (sN (vS V)) M' ∧ ∃ c L, kFu (sN (vS V)) np c L (rTick (sN (vS V)) M') ∧ c + m' < 2 ^ 28 := fun m M' ⟨c, L, f, g⟩ m' e => by
    obtain ⟨y1, y2, y3⟩ := kc_fuT f (by omega)
    exact ⟨y2, c + 1, _, y1, by omega⟩
  have tX : ∀ m M', (∃ c L, kFu (sN (vS V)) np c L M' ∧ c + m < 2 ^ 28) → rX M' 2 = nI np := fun m M' ⟨c, L, ⟨ns', ⟨qq, sf, hst, _⟩, _⟩, g⟩ => hst.2.1.2.2.1.2
  have tC : ∀ m (C : Lk4), (∃ c d M', kFu (sN (vS V)) np c C.1 M' ∧ kRp (sN (vS V)) c d C.2 (rW M') ∧ kWb (sN (vS V)) (rW M') ∧ c + (m + 1) < 2 ^ 28) → rnOk (sN (vS V)) C ∧ (∃ c d M', kFu (sN (vS V)) np c (lTick (sN (vS V)) C.1) M' ∧ kRp (sN (vS V)) c d C.2 (rW M') ∧ kWb (sN (vS V)) (rW M') ∧ c + m < 2 ^ 28) ∧ ∃ c d M', kFu (sN (vS V)) np c (cRec (sN (vS V)) (lTick (sN (vS V)) C.1, C.2)).1 M' ∧ kRp (sN (vS V)) c d (cRec (sN (vS V)) (lTick (sN (vS V)) C.1, C.2)).2 (rW M') ∧ kWb (sN (vS V)) (rW M') ∧ c + m < 2 ^ 28 := fun m C ⟨c, d, M', f, rp, wb, hc⟩ => by
    have ok := (kc_fuT f (by omega)).2.2
    obtain ⟨ns', j1, j2, j3⟩ := f
    obtain ⟨ns2, y1, y2, y3, -, w1, w2, w3⟩ := kc_tick j1 j2 j3 (by omega)
    have hF : kFu (sN (vS V)) np (c + 1) (lTick (sN (vS V)) C.1) (rTick (sN (vS V)) M') := ⟨ns2, y1, y2, y3⟩
    have hW := kr_wb wb hF w1 w2
    obtain ⟨t', ht', -, hor, -⟩ := kr_nx rp
    obtain ⟨qq, sf, hst, -⟩ := y1
    exact ⟨⟨ok, b1, hst.2.1.1.1, rp.1, t', ht', hor⟩, ⟨c + 1, 0, _, hF, kr_skip rp, hW, by omega⟩, c + 1, _, _, hF, (kr_rec (L := lTick (sN (vS V)) C.1) rp b1 w1 w2 w3).1, hW, by omega⟩
  refine sp_X8_run hl g1.1 hN (RM_A r) (T := fun m C => ∃ c d M', kFu (sN (vS V)) np c C.1 M' ∧ kRp (sN (vS V)) c d C.2 (rW M') ∧ kWb (sN (vS V)) (rW M') ∧ c + m < 2 ^ 28) (fun m hm _ => ⟨c, _, M, hcp.1, hcp.2.1.2, hcp.2.2, by omega⟩) (fun m C z => tC m C z)
    (fun g z hz => H1 _ ((fun y1 => an_look y1.1 y1.2.1 y1.2.2 k0 hw (RM_thr r) (fun h2 Q r2 o2 hQ => sp_X9_run hl r2.1 r2.2.1 (nf := sN (vS V)) (T := fun m M' => ∃ c L, kFu (sN (vS V)) np c L M' ∧ c + m < 2 ^ 28) hN.2.1 (fun m hm => ⟨c, _, hcp.1, by omega⟩) tX (fun m M' z => tR _ _ z m rfl) (fun _ => hQ _ ⟨_, rfl⟩) (fun k' hk e _ => absurd (rx_501.mpr ⟨k', hk, e⟩) g) (fun k' hk e _ h' _ => absurd (rx_501.mpr ⟨k', hk, e⟩) g))) (st_thr g1 g2 g3 hz rr)))
    (fun g lt => H0 _ _ (an_look g1 g2 g3 k0 hw r' (fun h2 Q r2 o2 hQ => sp_X9_run hl r2.1 r2.2.1 (nf := sN (vS V)) (T := fun m M' => ∃ c L, kFu (sN (vS V)) np c L M' ∧ c + m < 2 ^ 28) hN.2.1 (fun m hm => ⟨c, _, hcp.1, by omega⟩) tX (fun m M' z => tR _ _ z m rfl) (fun g' => absurd (rx_501.mp g) g') (fun k' hk e _ => hQ _ rfl) (fun k' hk e nlt h' _ => absurd lt (by rw [e11, ← x4, e]; exact nlt)))))
    (fun kk hk ekk nlt h1 e Z p1 f1 la => ?_)
  obtain ⟨c1, r1, o1⟩ := st_cls g1 g2 g3 f1 p1 (leA_bd' r la)
  refine H0 _ _ (an_step c1 r1 o1 hw (leA_RM r la) (fun h2 Q r2 o2 hQ => sp_X9_run hl r2.1 r2.2.1 (nf := sN (vS V)) (T := fun m M' => ∃ c L, kFu (sN (vS V)) np c L M' ∧ c + m < 2 ^ 28) hN.2.1 (fun m hm => ⟨c, _, hcp.1, by omega⟩) tX (fun m M' z => tR _ _ z m rfl) (fun g => absurd ⟨kk, by omega, ekk⟩ g) (fun k' hk' e' lt => ?_) (fun k' hk' e' _ h3 mc => ?_)))
  · exact absurd (by rw [e11, ← x4, e']; exact lt) nlt
  · obtain ⟨mb, hu, h10, fm⟩ := mc
    have eu : k' = kk := (nI_eq (by omega) (by omega)).mp (e'.symm.trans ekk)
    subst eu
    rw [e'] at nlt
    have rs := (kc_runs hcp k' (by omega)).1
    refine hQ _ h3 _ _ _ _ _ Sn (by rw [ka_deliv rs.1, ka_deliv hcp.1]) h10 fm (fun a z => by unfold cA at z; omega) ⟨mb, hu, HS_FM r2.2.2.1 fm (by unfold cA; omega) (by unfold cF; omega) (by unfold cA; omega) (by unfold cA; omega), HT_FM r2.2.2.2.1 fm (by unfold cA; omega) (by unfold cA; omega) (by unfold cF; omega) (by unfold cF; omega), HF_FM r2.2.2.2.2.1 fm (by unfold cA; omega) (by unfold cA; omega) (by unfold cF; omega), HCn_fm r2.2.2.2.2.2 fm (by unfold cA; omega)⟩ ?_
    exact ⟨kl_C (kl_keep k hN e Z) (kl_run k.1 (by omega) nlt), kU5_keep k0.2 k.2.1.2.2 (k5_ticks k' c M k0.2.1 x4 (by omega))⟩
theorem dec_128 : ∀ (k v : Nat), ∀ c ∈ decF k v, c < 128
  | 0, v => fun c hc => by
    have e : c = 48 + v % 10 := by simpa [decF] using hc
    omega
  | k + 1, v => fun c hc => by
    rcases List.mem_append.mp (show c ∈ (if v ≤ 9 then [] else decF k (v / 10)) ++ [48 + v % 10] from hc) with g | g
    · by_cases e : v ≤ 9
      · rw [if_pos e] at g; cases g
      · rw [if_neg e] at g; exact dec_128 k (v / 10) c g
    · have e : c = 48 + v % 10 := by simpa using g
      omega
theorem wd_128 : (∀ c ∈ wd " f", c < 128) ∧ (∀ c ∈ wd "queued", c < 128) ∧ (∀ c ∈ wd "flying", c < 128) ∧ (∀ c ∈ wd "dropped", c < 128) ∧ ∀ c ∈ wd "at ", c < 128 := by decide
theorem txt_128 (L : Lnk) (p : Nat) : ∀ c ∈ cTxt L p, c < 128 := by
  obtain ⟨w1, w2, w3, w4, w5⟩ := wd_128
  intro c hc
  unfold cTxt at hc
  simp only [List.mem_append, List.mem_cons, List.not_mem_nil, or_false] at hc
  rcases hc with ((((((g | g) | g) | g) | g) | g) | g) | g
  · omega
  · exact dec_128 _ _ c g
  · exact w1 c g
  · exact dec_128 _ _ c g
  · omega
  · exact dec_128 _ _ c g
  · omega
  · unfold cTxS at g
    split at g
    · exact w2 c g
    · split at g
      · exact w3 c g
      · split at g
        · exact w4 c g
        · rcases List.mem_append.mp g with g | g
          · exact w5 c g
          · exact dec_128 _ _ c g
theorem txt_get (L : Lnk) (p i : Nat) (hi : i < (cTxt L p).length) : (cTxt L p).getD i 0 < 128 := by
  rw [List.getD_eq_getElem?_getD, List.getElem?_eq_getElem hi]
  exact txt_128 L p _ (List.getElem_mem hi)
def fmF : Nat → Prop := fun k => k = 10 ∨ k = 13
theorem op_format (hl : l.stackTraces = false) (j : JJ E bs x sc Ls xs (n + 1) h) {v : Int32} (H0 : ∀ a h1, AN l D E bs x sc Ls xs n (d + 60) n_X9_format [.int v] 0 (fun b => b = .int a) h1 → Q (.inl (some (.int a))) h1) (H1 : ∀ h1, AN l D E bs x sc Ls xs n (d + 60) n_X9_format [.int v] 1 (fun b => ∃ z, b = .int z) h1 → Q (.inr 0) h1) : j_Met l D bs E (d + 60) n_X8_format [.ref x, .int v] h Q := by
  obtain ⟨V, M, U, uc, Sn, w, b, cap, g1, g2, g3, k0, hw, r⟩ := j
  have k := k0.1
  obtain ⟨r', rr⟩ := RM_less r
  have hB := rm_bd rr
  obtain ⟨np, ns, c, hc, hN, hcp, i1, i2, i3, e11, x0, x2, x3, x4⟩ := kl_N k.1
  have px := PS_x g1.1
  have q := PS_q g1.1 hB
  obtain ⟨t1, t2, t3, t4, t5, t6, t7, t8⟩ := kl_st i1
  have ru := k.1.2
  have b1 := hN.1
  have b2 := hN.2.1
  have hbx := g3.2.2.1
  have hzz := (PS_z g1.1).2
  have gb := g1.2.2.2
  have bsh := g1.2.2.1.1.2.2.2.1
  have sx : SX E h (x + 49) b (j_c h + sb1 cap) (j_k h + 34 * sb1 cap) w h := BB_SX g1.2.2.1 (by have := r.1; omega) (by have := r.2; omega)
  have hA : ∀ a, sbA (x + 49) b a → x ≤ a ∧ a ≠ x + 67 ∧ a ≠ x + 68 ∧ ¬ (x + 51 ≤ a ∧ a < x + 67) := fun a z => by unfold sbA at z; omega
  have fP : ∀ h1, FG (sbA (x + 49) b) h h1 → PS h1 x (x + 69) V ∧ CO E bs x sc Ls xs h1 := fun h1 f => ⟨PS_bld (cap := cap) g1.1 f (gb.imp id (fun z => ⟨z, bsh⟩)), CO_fg g3 f (fun a z => (hA a z).1) (f.2 _ (by omega) (fun z => (hA _ z).2.1 rfl)).1 (f.2 _ (by omega) (fun z => (hA _ z).2.2.1 rfl)).1⟩
  have hpr : ∀ p, p < np → (∃ f, f < 100 ∧ rP M p 0 = nI f) ∧ (∃ z, z < 100000 ∧ rP M p 1 = nI z) ∧ (rP M p 3 = 2 → ∃ c, c < 10000000 ∧ rP M p 5 = nI c) := fun p hp => by
    obtain ⟨⟨f, hf, e1⟩, ⟨z, za, zb, e2⟩, _⟩ := t8 p hp
    exact ⟨⟨f, by omega, e1⟩, ⟨z, by omega, e2⟩, k0.2.1 p⟩
  have hpl : ∀ p, p < np → (∃ f, f < 100 ∧ lP (vC V).1 p 0 = nI f) ∧ (∃ z, z < 100000 ∧ lP (vC V).1 p 1 = nI z) ∧ (∃ c, c < 10000000 ∧ (¬ lP (vC V).1 p 3 = 0 → ¬ lP (vC V).1 p 3 = 1 → ¬ lP (vC V).1 p 3 = 3 → lP (vC V).1 p 5 = nI c)) := fun p hp => by
    obtain ⟨q0, q1, q2⟩ := hpr p hp
    rw [t3 p 0 hp (by omega), t3 p 1 hp (by omega), t3 p 3 hp (by omega), t3 p 5 hp (by omega)]
    refine ⟨q0, q1, ?_⟩
    rcases (t8 p hp).2.2 with z | z | z | z
    · exact ⟨0, by omega, fun n0 => absurd z n0⟩
    · exact ⟨0, by omega, fun _ n1 => absurd z n1⟩
    · obtain ⟨cc, hcc, ecc⟩ := q2 z
      exact ⟨cc, hcc, fun _ _ _ => ecc⟩
    · exact ⟨0, by omega, fun _ _ n3 => absurd z n3⟩
  have tx : ∀ p, p < np → cTxt (vC V).1 p = rTxt M p := fun p hp => kf_txt (t3 p 0 hp (by omega)) (t3 p 1 hp (by omega)) (t3 p 3 hp (by omega)) (t3 p 5 hp (by omega)) (t8 p hp).2.2
  refine sp_X8_format hl (fun h1 f => ⟨(fP h1 f).1, (fP h1 f).2.1, (fP h1 f).2.2.1.1⟩) rr sx hN.2.1 hN.2.2.2.2.2.1 hpl
    (fun g z hz => H1 _ ((fun y1 => an_look y1.1 y1.2.1 y1.2.2 k0 hw (RM_thr r) (fun h2 Q r2 o2 hQ => sp_X9_format hl (js_all hl) r2.1 r2.2.2.2.2.1 o2.1 (show bs ≤ x + 51 by have := o2.2.2.1; omega) hN.2.1 x2 hpr (fun _ => hQ _ ⟨_, rfl⟩) (fun p hp e => absurd ⟨p, hp, e⟩ g))) (st_thr g1 g2 g3 hz rr)))
    (fun p hp ep h1 s1 => ?_)
  obtain ⟨b', cap', bb', eb', ec', ek', f1⟩ := SX_BB s1
  have cl : (∀ i, i < (cTxt (vC V).1 p).length → (cTxt (vC V).1 p).getD i 0 < 128) ∧ (cTxt (vC V).1 p).length ≤ 34 := ⟨txt_get _ _, by have := bb'.1.2.2.2.2.2.1; have := bb'.1.2.2.2.2.2.2.1; omega⟩
  obtain ⟨p1, o1⟩ := fP h1 f1
  have hz1 := f1.1
  have c1 : CH x V (cTxt (vC V).1 p) b' cap' h1 := ⟨p1, rdr_FG g1.2.1 f1 (fun z => by unfold sbA at z; omega) (by omega), bb', by omega⟩
  have bd1 : j_bd E h1 := SX_bd s1
  have r1 : RH E (x + 51) M U uc Sn (vB V) (vSz V) (tkA (vTk V)) w h1 := RH_fg g2 f1 (by omega) (fun a z => (hA a z).2.2.2) bd1
  refine H0 _ _ (an_step c1 r1 o1 cl (show RM E h1 (vAd V) cap' n from ⟨by have := r.1; omega, by have := r.2; omega⟩) (fun h2 Q r2 o2 hQ => sp_X9_format hl (js_all hl) r2.1 r2.2.2.2.2.1 o2.1 (show bs ≤ x + 51 by have := o2.2.2.1; omega) hN.2.1 x2 hpr (fun g => absurd ⟨p, hp, ep⟩ g) (fun p' hp' ep' h3 mb hf h10 fm0 => ?_)))
  have eu : p' = p := (nI_eq (by omega) (by omega)).mp (ep'.symm.trans ep)
  subst eu
  have fm : FM (fA (x + 51)) (x + 51) fmF h2 h3 := fm0
  rw [← tx p' hp'] at hf
  exact hQ _ h3 _ _ M U uc Sn (by rw [tx p' hp']) h10 fm (fun a z => by unfold fA at z; omega) ⟨mb, HU_FM r2.2.1 fm (by unfold fA; omega) (by unfold fmF; omega) (by unfold fA; omega) (by unfold fA; omega), HS_FM r2.2.2.1 fm (by unfold fA; omega) (by unfold fmF; omega) (by unfold fA; omega) (by unfold fA; omega), HT_FM r2.2.2.2.1 fm (by unfold fA; omega) (by unfold fA; omega) (by unfold fmF; omega) (by unfold fmF; omega), hf, HCn_fm r2.2.2.2.2.2 fm (by unfold fA; omega)⟩ k0
end OpD
