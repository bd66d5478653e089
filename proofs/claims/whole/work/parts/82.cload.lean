/-! ===== the class: feed, load ===== -/
section CaL
variable {l : Launch} {D : va_G} {bs : Nat} {E : j_E} {h h' h'' : j_H} {d : Nat} {Q : j_O → j_H → Prop} {x zb : Nat} {V : Ps}
theorem FG_FA {A : Nat → Prop} (f : FA A h h') : FG A h h' := by
  obtain ⟨f1, f2, f3, f4, f5, f6, f7, f8⟩ := f
  exact ⟨by rw [f4]; exact Nat.le_refl _, fun b _ z => ⟨by rw [f1], fun k => by rw [f2], fun k => by rw [f3], fun k => f7 b k z, fun k => f8 b k z⟩⟩
def psB (V : Ps) (B : Nat → Int32) (sz len : Nat) (tk : Tk) : Ps := (((vU V, vW V, vCt V, vLt V, sz, len), (vC V, vT V, vN V), (vS V, vZ V), (vAd V, vA V), (B, tk), vHs V) : Ps)
def psZ (V : Ps) (B : Nat → Int32) (sz len : Nat) (tk : Tk) (Z : Sup) : Ps := (((vU V, vW V, vCt V, vLt V, sz, len), (vC V, vT V, vN V), (vS V, Z), (vAd V, vA V), (B, tk), vHs V) : Ps)
def psW (V : Ps) : Ps := (((vW V, vU V, vCt V, vLt V, vSz V, vLen V), (vC V, vT V, vN V), (vZ V, vS V), (vAd V, vA V), (vB V, vTk V), vHs V) : Ps)
theorem PS_tx (p : PS h x zb V) {B : Nat → Int32} {sz len : Nat} {tk : Tk} (f : FG (fun c => x + 1 ≤ c ∧ c < x + 1 + 2) h h') (t : TX h' (x + 1) B sz len tk) : PS h' x zb (psB V B sz len tk) := by
  obtain ⟨q1, q2⟩ := PS_z p
  have qu := PS_u p
  have z := f.1
  have g : ∀ c, c < j_z h → ¬ (x + 1 ≤ c ∧ c < x + 1 + 2) → sm h h' c := f.2
  have e1 : px h' x (vU V) (vW V) := px_sm (PS_x p) (g x (by omega) (by omega))
  have e2 : j_I h' x 9 = vHs V := ((g x (by omega) (by omega)).2.2.2.1 9).trans (PS_9 p)
  have eC : LkAt h' (x + 8) (vC V) := LkAt_sm (PS_C p) (fun c c1 c2 => g c (by omega) (by omega))
  have eT : LkAt h' (x + 24) (vT V) := LkAt_sm (PS_T p) (fun c c1 c2 => g c (by omega) (by omega))
  have eN : LkAt h' (x + 35) (vN V) := LkAt_sm (PS_N p) (fun c c1 c2 => g c (by omega) (by omega))
  have eS : SK h' (vU V) (vS V) := SK_sm (PS_S p) (fun c c1 c2 => g c (by omega) (by omega))
  have eZ : SK h' (vW V) (vZ V) := SK_sm (PS_W p) (fun c c1 c2 => g c (by omega) (by omega))
  have eH : HI h' (x + 46) zb (vCt V) (vLt V) (vAd V) (vA V) := HI_sm (PS_H p) z (g _ (by omega) (by omega)) (g _ (by omega) (by omega)) (fun c c1 c2 _ => g c c2 (by omega))
  exact ⟨e1, e2, eC, eT, eN, eS, eZ, eH, t, qu, q1⟩
theorem PS_ts (p : PS h x zb V) {B : Nat → Int32} {sz len : Nat} {tk : Tk} {Z : Sup} (f : FG (pA (x + 1) (vW V)) h h') (t : TX h' (x + 1) B sz len tk) (y : SK h' (vW V) Z) : PS h' x zb (psZ V B sz len tk Z) := by
  obtain ⟨q1, q2⟩ := PS_z p
  have qu := PS_u p
  have z := f.1
  have g : ∀ c, c < j_z h → ¬ (c = x + 1 ∨ (vW V ≤ c ∧ c < vW V + 5)) → sm h h' c := f.2
  have e1 : px h' x (vU V) (vW V) := px_sm (PS_x p) (g x (by omega) (by omega))
  have e2 : j_I h' x 9 = vHs V := ((g x (by omega) (by omega)).2.2.2.1 9).trans (PS_9 p)
  have eC : LkAt h' (x + 8) (vC V) := LkAt_sm (PS_C p) (fun c c1 c2 => g c (by omega) (by omega))
  have eT : LkAt h' (x + 24) (vT V) := LkAt_sm (PS_T p) (fun c c1 c2 => g c (by omega) (by omega))
  have eN : LkAt h' (x + 35) (vN V) := LkAt_sm (PS_N p) (fun c c1 c2 => g c (by omega) (by omega))
  have eS : SK h' (vU V) (vS V) := SK_sm (PS_S p) (fun c c1 c2 => g c (by omega) (by omega))
  have eH : HI h' (x + 46) zb (vCt V) (vLt V) (vAd V) (vA V) := HI_sm (PS_H p) z (g _ (by omega) (by omega)) (g _ (by omega) (by omega)) (fun c c1 c2 _ => g c c2 (by omega))
  exact ⟨e1, e2, eC, eT, eN, eS, y, eH, t, qu, q1⟩
theorem PS_sw (p : PS h x zb V)  : PS (j_setR (j_setR h x 7 (some (vW V))) x 8 (some (vU V))) x zb (psW V) := by
  obtain ⟨q1, q2⟩ := PS_z p
  have qu := PS_u p
  have f : FG (fun c => c = x) h (j_setR (j_setR h x 7 (some (vW V))) x 8 (some (vU V))) := FG_sR (FG_sR FG_rf rfl) rfl
  have z := f.1
  have g : ∀ c, c < j_z h → ¬ (c = x) → sm h (j_setR (j_setR h x 7 (some (vW V))) x 8 (some (vU V))) c := f.2
  have eC : LkAt (j_setR (j_setR h x 7 (some (vW V))) x 8 (some (vU V))) (x + 8) (vC V) := LkAt_sm (PS_C p) (fun c c1 c2 => g c (by omega) (by omega))
  have eT : LkAt (j_setR (j_setR h x 7 (some (vW V))) x 8 (some (vU V))) (x + 24) (vT V) := LkAt_sm (PS_T p) (fun c c1 c2 => g c (by omega) (by omega))
  have eN : LkAt (j_setR (j_setR h x 7 (some (vW V))) x 8 (some (vU V))) (x + 35) (vN V) := LkAt_sm (PS_N p) (fun c c1 c2 => g c (by omega) (by omega))
  have eS : SK (j_setR (j_setR h x 7 (some (vW V))) x 8 (some (vU V))) (vU V) (vS V) := SK_sm (PS_S p) (fun c c1 c2 => g c (by omega) (by omega))
  have eZ : SK (j_setR (j_setR h x 7 (some (vW V))) x 8 (some (vU V))) (vW V) (vZ V) := SK_sm (PS_W p) (fun c c1 c2 => g c (by omega) (by omega))
  have eH : HI (j_setR (j_setR h x 7 (some (vW V))) x 8 (some (vU V))) (x + 46) zb (vCt V) (vLt V) (vAd V) (vA V) := HI_sm (PS_H p) z (g _ (by omega) (by omega)) (g _ (by omega) (by omega)) (fun c c1 c2 _ => g c c2 (by omega))
  have eB : TX (j_setR (j_setR h x 7 (some (vW V))) x 8 (some (vU V))) (x + 1) (vB V) (vSz V) (vLen V) (vTk V) := TX_sm (PS_B p) (g _ (by omega) (by omega)) (g _ (by omega) (by omega))
  obtain ⟨p1, p2, p3, p4, p5, p6, p7, p8, p9, p10⟩ := PS_x p
  have nn : ∀ k, k < 7 → j_R (j_setR (j_setR h x 7 (some (vW V))) x 8 (some (vU V))) x k = j_R h x k := fun k hk => by rw [jh_R, if_neg (by omega), jh_R, if_neg (by omega)]
  have e1 : px (j_setR (j_setR h x 7 (some (vW V))) x 8 (some (vU V))) x (vW V) (vU V) := ⟨p1, (nn 0 (by omega)).trans p2, (nn 1 (by omega)).trans p3, (nn 2 (by omega)).trans p4, (nn 3 (by omega)).trans p5, (nn 4 (by omega)).trans p6, (nn 5 (by omega)).trans p7, (nn 6 (by omega)).trans p8, by rw [jh_R, if_neg (by omega), jh_R, if_pos ⟨rfl, rfl⟩], by rw [jh_R, if_pos ⟨rfl, rfl⟩]⟩
  have e2 : j_I (j_setR (j_setR h x 7 (some (vW V))) x 8 (some (vU V))) x 9 = vHs V := p.2.1
  exact ⟨e1, e2, eC, eT, eN, eZ, eS, eH, eB, qu.symm.imp And.symm And.symm, q1⟩
def tFeed (B : Nat → Int32) (sz : Nat) (a b c e f : Int32) : Nat → Int32 := tApp (tApp (tApp (tApp (tApp B sz a) (sz + 4) b) (sz + 8) c) (sz + 12) e) (sz + 16) f
theorem ps_app {g0 : j_H} (hl : l.stackTraces = false) (p : PS h x zb V) (hB : j_bd E h) (hz : vSz V + 4 ≤ 800) {w : Int32} (H : ∀ h', PS h' x zb (psB V (tApp (vB V) (vSz V) w) (vSz V + 4) (vLen V) (vTk V)) → FG (psA g0 x zb) h h' → j_c h' = j_c h → j_k h' = j_k h → j_bd E h' → Q (.inl none) h') : j_Met l D bs E (d + 1) n_X7_append [.ref (x + 1), .int w] h Q := by
  refine sp_X7_append hl (PS_B p) hB hz (fun h2 t2 f2 => ?_)
  obtain ⟨z1, z2, z3⟩ := Fr_z f2
  exact H h2 (PS_tx p (FG_Fr f2) t2) (FG_mono (FG_Fr f2) (fun c _ g => Or.inl (by omega))) z2 z3 (Fr_bd f2 hB)
set_option maxRecDepth 8000 in
theorem sp_X8_feed (hl : l.stackTraces = false) (p : PS h x zb V) (hB : j_bd E h) {a b c e f : Int32}
    (H1 : ¬ vSz V + 20 ≤ 800 → Q (.inl (some (.int (-1)))) h)
    (H0 : vSz V + 20 ≤ 800 → ∀ h', PS h' x zb (psB V (tFeed (vB V) (vSz V) a b c e f) (vSz V + 20) (vLen V) (vTk V)) → FG (psA h x zb) h h' → j_c h' = j_c h → j_k h' = j_k h → Q (.inl (some (.int (nI (vSz V + 20))))) h') : j_Met l D bs E (d + 2) n_X8_feed [.ref x, .int a, .int b, .int c, .int e, .int f] h Q := by
  have hz := TX_z (PS_B p)
  have e20 : nI (vSz V) + 20 = nI (vSz V + 20) := nI_add (vSz V) 20
  refine j_meth hl rfl g_X8_feed (Nat.le_of_ble_eq_true rfl) (fun _ => ⟨_, _, rfl, (px_s (PS_x p))⟩) hB.1 hB.2 (fun G hG => ?_)
  refine b_X8_feed_0 hG ?_
  dsimp only [q_X8_feed_0, j_wp, j_opB, j_opA, j_nth, j_i1, j_i2, j_l1, j_l2, j_li, j_f1, j_f2, j_d1, j_d2, j_r1, j_ai, j_aii, j_ail, j_aid, j_air, j_st1, j_st2, j_stu, j_kl, j_cond, j_args, j_out, j_few, j_cw, j_nat, j_pad, j_exp, Nat.reduceAdd]
  simp only [px_s (PS_x p), px_0 (PS_x p), TX_sh (PS_B p), TX_1 (PS_B p), e20, j_ref, j_ari, j_arb, j_arr, j_len, j_nar, j_oi, j_ol, j_of, j_od, j_or, j_ov, true_and, and_true]
  by_cases g : ¬ vSz V + 20 ≤ 800
  · rw [if_pos (show (800 : Int32) < nI (vSz V + 20) from nI_lt (a := 800) (by omega) (by omega))]
    exact H1 g
  have g : vSz V + 20 ≤ 800 := Decidable.not_not.mp g
  rw [if_neg (show ¬ (800 : Int32) < nI (vSz V + 20) from nI_nlt (a := 800) (by omega) (by omega))]
  refine b_X8_feed_18 hG ?_
  dsimp only [q_X8_feed_18, j_wp, j_opB, j_opA, j_nth, j_i1, j_i2, j_l1, j_l2, j_li, j_f1, j_f2, j_d1, j_d2, j_r1, j_ai, j_aii, j_ail, j_aid, j_air, j_st1, j_st2, j_stu, j_kl, j_cond, j_args, j_out, j_few, j_cw, j_nat, j_pad, j_exp, Nat.reduceAdd]
  simp only [px_s (PS_x p), px_0 (PS_x p), j_ref, j_ari, j_arb, j_arr, j_len, j_nar, j_oi, j_ol, j_of, j_od, j_or, j_ov, true_and, and_true]
  refine ps_app (g0 := h) hl p hB (by omega) (fun h1 p1 f1 c1 k1 b1 => ?_)
  have x1 : px h1 x (vU V) (vW V) := p1.1
  simp only [px_s x1, px_0 x1, j_ref, j_ari, j_arb, j_arr, j_len, j_nar, j_oi, j_ol, j_of, j_od, j_or, j_ov, true_and, and_true]
  refine ps_app (g0 := h) hl p1 b1 (show vSz V + 4 + 4 ≤ 800 by omega) (fun h2 p2 f2 c2 k2 b2 => ?_)
  have x2 : px h2 x (vU V) (vW V) := p2.1
  simp only [px_s x2, px_0 x2, j_ref, j_ari, j_arb, j_arr, j_len, j_nar, j_oi, j_ol, j_of, j_od, j_or, j_ov, true_and, and_true]
  refine ps_app (g0 := h) hl p2 b2 (show vSz V + 4 + 4 + 4 ≤ 800 by omega) (fun h3 p3 f3 c3 k3 b3 => ?_)
  have x3 : px h3 x (vU V) (vW V) := p3.1
  simp only [px_s x3, px_0 x3, j_ref, j_ari, j_arb, j_arr, j_len, j_nar, j_oi, j_ol, j_of, j_od, j_or, j_ov, true_and, and_true]
  refine ps_app (g0 := h) hl p3 b3 (show vSz V + 4 + 4 + 4 + 4 ≤ 800 by omega) (fun h4 p4 f4 c4 k4 b4 => ?_)
  have x4 : px h4 x (vU V) (vW V) := p4.1
  simp only [px_s x4, px_0 x4, j_ref, j_ari, j_arb, j_arr, j_len, j_nar, j_oi, j_ol, j_of, j_od, j_or, j_ov, true_and, and_true]
  refine ps_app (g0 := h) hl p4 b4 (show vSz V + 4 + 4 + 4 + 4 + 4 ≤ 800 by omega) (fun h5 p5 f5 c5 k5 b5 => ?_)
  have x5 : px h5 x (vU V) (vW V) := p5.1
  have t5 : TX h5 (x + 1) (tFeed (vB V) (vSz V) a b c e f) (vSz V + 20) (vLen V) (vTk V) := p5.2.2.2.2.2.2.2.2.1
  simp only [px_s x5, px_0 x5, TX_sh t5, TX_1 t5, j_ref, j_ari, j_arb, j_arr, j_len, j_nar, j_oi, j_ol, j_of, j_od, j_or, j_ov, true_and, and_true]
  exact H0 g h5 p5 (FG_tr (FG_tr (FG_tr (FG_tr f1 f2) f3) f4) f5) (by omega) (by omega)
set_option maxRecDepth 8000 in
theorem sp_X8_load (hl : l.stackTraces = false) (hJ : JS l D bs E) (p : PS h x zb V) (hK : KS E bs h) (hbs : bs ≤ x) (r : rm E h) {v : Int32}
    (H1 : ¬ inx v (vSz V + 1) → ∀ z, j_z h ≤ z → Q (.inr 1) (j_thr h z))
    (H2 : ∀ n, n ≤ vSz V → v = nI n → ∀ y, y = sRead (vB V) n 800 (tOpen (vB V) n 0) (sReset (vZ V)) → ¬ tkC y.1 = 0 → ∀ h', PS h' x zb (psZ V (vB V) 0 n y.1 y.2) → FG (psA h x zb) h h' → j_c h' = j_c h → j_k h' = j_k h → Q (.inl (some (.int (-10 - tkC y.1)))) h')
    (H0 : ∀ n, n ≤ vSz V → v = nI n → ∀ y, y = sRead (vB V) n 800 (tOpen (vB V) n 0) (sReset (vZ V)) → tkC y.1 = 0 → ∀ h', PS h' x zb (psI (psH (psC (psW (psZ V (vB V) 0 n y.1 y.2)) (lBegin y.2 (vC V).1, 0, -1, (vC V).2.2.2)) 0 (vLt V) (vAd V) (vA V)) 0) → FG (psA h x zb) h h' → j_c h' = j_c h → j_k h' = j_k h → Q (.inl (some (.int (lX (lBegin y.2 (vC V).1) 5)))) h') : j_Met l D bs E (d + 9) n_X8_load [.ref x, .int v] h Q := by
  have hB := rm_bd r
  have hz := TX_z (PS_B p)
  have qu := PS_u p
  have qz := PS_z p
  refine j_meth hl rfl g_X8_load (Nat.le_of_ble_eq_true rfl) (fun _ => ⟨_, _, rfl, (px_s (PS_x p))⟩) hB.1 hB.2 (fun G hG => ?_)
  refine b_X8_load_0 hG ?_
  dsimp only [q_X8_load_0, j_wp, j_opB, j_opA, j_nth, j_i1, j_i2, j_l1, j_l2, j_li, j_f1, j_f2, j_d1, j_d2, j_r1, j_ai, j_aii, j_ail, j_aid, j_air, j_st1, j_st2, j_stu, j_kl, j_cond, j_args, j_out, j_few, j_cw, j_nat, j_pad, j_exp, Nat.reduceAdd]
  simp only [px_s (PS_x p), px_0 (PS_x p), TX_sh (PS_B p), TX_1 (PS_B p), j_ref, j_ari, j_arb, j_arr, j_len, j_nar, j_oi, j_ol, j_of, j_od, j_or, j_ov, true_and, and_true]
  have es : nI (vSz V) = nI (vSz V + 1) - 1 := (nI_pred _).symm
  refine sp_X8_requireRange hl r (fun g z hz => ?_) (fun g => ?_)
  · simp only [j_ref, j_ari, j_arb, j_arr, j_len, j_nar, j_oi, j_ol, j_of, j_od, j_or, j_ov, true_and, and_true]
    rw [es] at g
    exact H1 (fun y => g ((rIn_inx (by omega)).mpr y)) z hz
  rw [es] at g
  obtain ⟨n, hn, en⟩ := (rIn_inx (by omega)).mp g
  subst en
  simp only [px_s (PS_x p), px_0 (PS_x p), j_ref, j_ari, j_arb, j_arr, j_len, j_nar, j_oi, j_ol, j_of, j_od, j_or, j_ov, true_and, and_true]
  refine sp_X7_open hl (PS_B p) hB (show n ≤ 800 by omega) (fun h1 t1 f1 => ?_)
  obtain ⟨z1, z2, z3⟩ := Fr_z f1
  have p1 := PS_tx p (FG_mono (FG_Fr f1) (fun c _ g => ⟨g.1, by have := g.2; omega⟩)) t1
  have x1 : px h1 x (vU V) (vW V) := p1.1
  have y1 : SK h1 (vW V) (vZ V) := p1.2.2.2.2.2.2.1
  have hB1 := Fr_bd f1 hB
  have a1 : FG (psA h x zb) h h1 := FG_mono (FG_Fr f1) (fun c _ g => Or.inl (by omega))
  simp only [px_s x1, px_0 x1, px_8 x1, j_ref, j_ari, j_arb, j_arr, j_len, j_nar, j_oi, j_ol, j_of, j_od, j_or, j_ov, true_and, and_true]
  have s1 : PT E bs h1 (x + 1) (vW V) (vB V) (vSz V) n (tOpen (vB V) n 0) (vZ V) h1 := ⟨t1, y1, FA_rf, hB1, KS_FA hK (FA_Fr (A := fun b => b = x + 1) f1 (fun b g1 g2 => by omega)) (fun b e => by omega), tOpen_ok, by omega, by omega, by omega⟩
  refine sp_X5_readFrom hl hJ s1 (fun y ey h2 s2 => ?_)
  have p2 := PS_ts p1 (Z := y.2) (FG_FA s2.2.2.1) s2.1 s2.2.1
  obtain ⟨_, _, _, w1, w2, w3, _, _⟩ := s2.2.2.1
  have hB2 := s2.2.2.2.1
  have x2 : px h2 x (vU V) (vW V) := p2.1
  have a2 : FG (psA h x zb) h h2 := FG_tr a1 (FG_mono (FG_FA s2.2.2.1) (fun c _ g => Or.inl (by
    rcases g with g | g
    · omega
    · omega)))
  simp only [px_s x2, px_0 x2, j_ref, j_ari, j_arb, j_arr, j_len, j_nar, j_oi, j_ol, j_of, j_od, j_or, j_ov, true_and, and_true]
  refine sp_X7_empty hl s2.1 hB2 (fun h3 t3 f3 => ?_)
  obtain ⟨v1, v2, v3⟩ := Fr_z f3
  have p3 : PS h3 x zb (psZ V (vB V) 0 n y.1 y.2) := PS_tx p2 (FG_mono (FG_Fr f3) (fun c _ g => ⟨g.1, by have := g.2; omega⟩)) t3
  have hB3 := Fr_bd f3 hB2
  have x3 : px h3 x (vU V) (vW V) := p3.1
  have a3 : FG (psA h x zb) h h3 := FG_tr a2 (FG_mono (FG_Fr f3) (fun c _ g => Or.inl (by omega)))
  simp only [px_s x3, px_0 x3, TX_sh t3, TX_6 t3, j_ref, j_ari, j_arb, j_arr, j_len, j_nar, j_oi, j_ol, j_of, j_od, j_or, j_ov, true_and, and_true]
  by_cases g3 : ¬ tkC y.1 = 0
  · rw [if_neg g3]
    exact H2 n (by omega) rfl y ey g3 h3 p3 a3 (by omega) (by omega)
  have g3 : tkC y.1 = 0 := Decidable.not_not.mp g3
  rw [if_pos g3]
  refine b_X8_load_59 hG ?_
  dsimp only [q_X8_load_59, j_wp, j_opB, j_opA, j_nth, j_i1, j_i2, j_l1, j_l2, j_li, j_f1, j_f2, j_d1, j_d2, j_r1, j_ai, j_aii, j_ail, j_aid, j_air, j_st1, j_st2, j_stu, j_kl, j_cond, j_args, j_out, j_few, j_cw, j_nat, j_pad, j_exp, Nat.reduceAdd]
  have x3' : j_sh (j_setR h3 x 7 (some (vW V))) x = some (.inr 10) := x3.1
  have p4 : PS (j_setR (j_setR h3 x 7 (some (vW V))) x 8 (some (vU V))) x zb (psW (psZ V (vB V) 0 n y.1 y.2)) := PS_sw p3
  have a4 : FG (psA h x zb) h (j_setR (j_setR h3 x 7 (some (vW V))) x 8 (some (vU V))) := FG_sR (FG_sR a3 (Or.inl (by omega))) (Or.inl (by omega))
  have c4 : j_c (j_setR (j_setR h3 x 7 (some (vW V))) x 8 (some (vU V))) = j_c h3 := rfl
  have k4 : j_k (j_setR (j_setR h3 x 7 (some (vW V))) x 8 (some (vU V))) = j_k h3 := rfl
  have hB4 : j_bd E (j_setR (j_setR h3 x 7 (some (vW V))) x 8 (some (vU V))) := hB3
  simp only [px_s x3, px_7 x3, px_8 x3, x3', j_ref, j_ari, j_arb, j_arr, j_len, j_nar, j_oi, j_ol, j_of, j_od, j_or, j_ov, true_and, and_true]
  generalize j_setR (j_setR h3 x 7 (some (vW V))) x 8 (some (vU V)) = h4 at p4 a4 c4 k4 hB4 ⊢
  have x4 : px h4 x (vW V) (vU V) := p4.1
  simp only [px_s x4, px_7 x4, px_2 x4, j_ref, j_ari, j_arb, j_arr, j_len, j_nar, j_oi, j_ol, j_of, j_od, j_or, j_ov, true_and, and_true]
  have r4 : LR E h4 (x + 8) (vC V).1 (vC V).2.1 (vC V).2.2.1 (vC V).2.2.2 h4 := ⟨p4.2.2.1.1, p4.2.2.1.2, Fr_rf, hB4⟩
  have y4 : SK h4 (vW V) y.2 := p4.2.2.2.2.2.1
  refine sp_X1_begin hl r4 y4 (by omega) (fun h5 r5 => ?_)
  have p5 := PS_lr p4 r5
  obtain ⟨u1, u2, u3⟩ := Fr_z r5.2.2.1
  have x5 : px h5 x (vW V) (vU V) := p5.1
  have i5 : HI h5 (x + 46) zb (vCt V) (vLt V) (vAd V) (vA V) := p5.2.2.2.2.2.2.2.1
  have a5 : FG (psA h x zb) h h5 := FG_tr a4 (FG_mono (FG_Fr r5.2.2.1) (fun c _ g => Or.inl (by omega)))
  simp only [px_s x5, px_5 x5, j_ref, j_ari, j_arb, j_arr, j_len, j_nar, j_oi, j_ol, j_of, j_od, j_or, j_ov, true_and, and_true]
  refine sp_X0_forget hl i5 r5.2.2.2 (fun i6 => ?_)
  have f6 : FG (hsA h5 (x + 46) zb) h5 (j_setI h5 (x + 46) 1 0) := FG_sI FG_rf (Or.inl rfl)
  have p6 := PS_i9 (v := 0) (PS_hi p5 f6 i6)
  have a6 : FG (psA h x zb) h (j_setI (j_setI h5 (x + 46) 1 0) x 9 0) := FG_sI (FG_sI a5 (Or.inl (by omega))) (Or.inl (by omega))
  have c6 : j_c (j_setI (j_setI h5 (x + 46) 1 0) x 9 0) = j_c h5 := rfl
  have k6 : j_k (j_setI (j_setI h5 (x + 46) 1 0) x 9 0) = j_k h5 := rfl
  have x6' : j_sh (j_setI h5 (x + 46) 1 0) x = some (.inr 10) := x5.1
  simp only [x6', j_ref, j_ari, j_arb, j_arr, j_len, j_nar, j_oi, j_ol, j_of, j_od, j_or, j_ov, true_and, and_true]
  refine ⟨by simp, ?_⟩
  have q6 : LQ E (j_setI (j_setI h5 (x + 46) 1 0) x 9 0) (x + 8) (lBegin y.2 (vC V).1) (j_setI (j_setI h5 (x + 46) 1 0) x 9 0) := ⟨p6.2.2.1.1, Fr_rf, r5.2.2.2⟩
  have x6 : px (j_setI (j_setI h5 (x + 46) 1 0) x 9 0) x (vW V) (vU V) := p6.1
  simp only [px_s x6, px_2 x6, LQ_x5 q6, LQ_sh q6, LQ_R0 q6, LQ_R1 q6, LQ_R2 q6, LQ_R3 q6, LQ_R4 q6, j_ref, j_ari, j_arb, j_arr, j_len, j_nar, j_oi, j_ol, j_of, j_od, j_or, j_ov, true_and, and_true]
  exact H0 n (by omega) rfl y ey g3 _ p6 a6 (by omega) (by omega)
end CaL
