/-! ===== the class: history, undo, snapshots ===== -/
section CaU
variable {l : Launch} {D : va_G} {bs : Nat} {E : j_E} {h h' h'' : j_H} {d : Nat} {Q : j_O → j_H → Prop}
section Gb
variable {y zb ct lt : Nat} {ad : Nat → Option Nat} {C : Nat → Lk4}
def prv (lt : Nat) : Nat := if 0 < lt then lt - 1 else 9
theorem prv_lt {lt : Nat} (h : lt < 10) : prv lt < 10 := by unfold prv; split <;> omega
theorem nI_dec {n : Nat} (h : 0 < n) (h2 : n < 2 ^ 30) : nI n - 1 = nI (n - 1) := by
  have e : nI n = nI (n - 1) + 1 := by rw [nI_1]; congr 1; omega
  rw [e]
  exact Int32.add_sub_cancel _ _
set_option maxRecDepth 8000 in
theorem sp_X0_giveBack (hl : l.stackTraces = false) (i : HI h y zb ct lt ad C) {a b nf np ns : Nat} {Z : Lk4} (hc : 0 < ct) (hb : ad lt = some b) (k1 : LkAt h a Z) (hN : LkN (C lt) nf np ns) (ha : a + 11 ≤ y) (hB : j_bd E h)
    (H : ∀ h', HI h' y zb (ct - 1) (prv lt) ad C → LkAt h' a (lkCp Z (C lt) nf np ns) → FG (fun c => c = y ∨ (a ≤ c ∧ c < a + 11)) h h' → j_c h' = j_c h → j_k h' = j_k h → Q (.inl none) h') : j_Met l D bs E (d + 4) n_X0_giveBack [.ref y, .ref a] h Q := by
  have hlt := i.2.2.1.2
  have hct := i.2.1.2
  have hzb := i.2.2.2.1
  refine j_meth hl rfl g_X0_giveBack (Nat.le_of_ble_eq_true rfl) (fun _ => ⟨_, _, rfl, (HI_s i)⟩) hB.1 hB.2 (fun G hG => ?_)
  obtain ⟨a1, a2⟩ := i.2.2.2.2 lt hlt
  obtain ⟨b1, b2, b3⟩ := a2 b hb
  rw [hb] at a1
  refine b_X0_giveBack_0 hG ?_
  dsimp only [q_X0_giveBack_0, j_wp, j_opB, j_opA, j_nth, j_i1, j_i2, j_l1, j_l2, j_li, j_f1, j_f2, j_d1, j_d2, j_r1, j_ai, j_aii, j_ail, j_aid, j_air, j_st1, j_st2, j_stu, j_kl, j_cond, j_args, j_out, j_few, j_cw, j_nat, j_pad, j_exp, Nat.reduceAdd]
  simp only [HI_s i, HI_0 i, HI_a i, HI_2 i, j_ref, j_ari, j_arb, j_arr, j_len, j_nar, j_oi, j_ol, j_of, j_od, j_or, j_ov, true_and, and_true]
  rw [if_neg (nI_pos (by omega)), if_pos (nI_lt hlt (by omega))]
  refine ⟨vp_in_nI hlt (by omega), ?_⟩
  rw [nI_clamp (by omega), a1]
  simp only [j_ref, j_ari, j_arb, j_arr, j_len, j_nar, j_oi, j_ol, j_of, j_od, j_or, j_ov, true_and, and_true]
  refine ⟨vp_in_nI hlt (by omega), ?_⟩
  try rw [nI_clamp (by omega), a1]
  refine cp_lk hl hB k1 b2 (by omega) hN (fun h2 k2 f2 => ?_)
  simp only [j_ref, j_ari, j_arb, j_arr, j_len, j_nar, j_oi, j_ol, j_of, j_od, j_or, j_ov, true_and, and_true]
  obtain ⟨z1, z2, z3⟩ := Fr_z f2
  have fg := FG_Fr f2
  have i2 : HI h2 y zb ct lt ad C := HI_sm i (by omega) (fg.2 y (by omega) (by omega)) (fg.2 (y + 1) (by omega) (by omega)) (fun c g1 g2 _ => fg.2 c g2 (by omega))
  have en : G 63 [.ref y, .ref a] [.int (nI (prv lt)), .ref y] h2 := by
    have i3 := HI_i2 i2 (prv_lt hlt)
    have i4 := HI_i1 i3 (n := ct - 1) (by omega)
    refine b_X0_giveBack_63 hG ?_
    dsimp only [q_X0_giveBack_63, j_wp, j_opB, j_opA, j_nth, j_i1, j_i2, j_l1, j_l2, j_li, j_f1, j_f2, j_d1, j_d2, j_r1, j_ai, j_aii, j_ail, j_aid, j_air, j_st1, j_st2, j_stu, j_kl, j_cond, j_args, j_out, j_few, j_cw, j_nat, j_pad, j_exp, Nat.reduceAdd]
    simp only [HI_s i2, HI_s i3, HI_1 i3, nI_dec hc (show ct < 2 ^ 30 by omega), j_ref, j_ari, j_arb, j_arr, j_len, j_nar, j_oi, j_ol, j_of, j_od, j_or, j_ov, true_and, and_true]
    rw [if_neg (nI_pos (by omega))]
    have ff : FG (fun c => c = y ∨ (a ≤ c ∧ c < a + 11)) h (j_setI (j_setI h2 y 2 (nI (prv lt))) y 1 (nI (ct - 1))) := FG_sI (FG_sI (FG_mono fg (fun c _ g => Or.inr g)) (Or.inl rfl)) (Or.inl rfl)
    have fs : FG (fun c => c = y) h2 (j_setI (j_setI h2 y 2 (nI (prv lt))) y 1 (nI (ct - 1))) := FG_sI (FG_sI FG_rf rfl) rfl
    exact H _ i4 (LkAt_sm k2 (fun c g1 g2 => fs.2 c (by omega) (by omega))) ff z2 z3
  refine b_X0_giveBack_44 hG ?_
  dsimp only [q_X0_giveBack_44, j_wp, j_opB, j_opA, j_nth, j_i1, j_i2, j_l1, j_l2, j_li, j_f1, j_f2, j_d1, j_d2, j_r1, j_ai, j_aii, j_ail, j_aid, j_air, j_st1, j_st2, j_stu, j_kl, j_cond, j_args, j_out, j_few, j_cw, j_nat, j_pad, j_exp, Nat.reduceAdd]
  simp only [HI_s i2, HI_2 i2, j_ref, j_ari, j_arb, j_arr, j_len, j_nar, j_oi, j_ol, j_of, j_od, j_or, j_ov, true_and, and_true]
  by_cases g : 0 < lt
  · rw [if_pos (show (0 : Int32) < nI lt from nI_lt (a := 0) g (by omega)), nI_dec g (by omega), show lt - 1 = prv lt by unfold prv; rw [if_pos g]]
    exact en
  · have e0 : lt = 0 := by omega
    rw [if_neg (by rw [e0]; decide)]
    refine b_X0_giveBack_61 hG ?_
    dsimp only [q_X0_giveBack_61, j_wp, j_opB, j_opA, j_nth, j_i1, j_i2, j_l1, j_l2, j_li, j_f1, j_f2, j_d1, j_d2, j_r1, j_ai, j_aii, j_ail, j_aid, j_air, j_st1, j_st2, j_stu, j_kl, j_cond, j_args, j_out, j_few, j_cw, j_nat, j_pad, j_exp, Nat.reduceAdd]
    have e9 : (9 : Int32) = nI (prv lt) := by rw [e0]; rfl
    rw [e9]
    exact en
end Gb
/-- what the class's object holds: the setup at u, the spare one at w -/
abbrev Ps : Type := (Nat × Nat × Nat × Nat × Nat × Nat) × (Lk4 × Lk4 × Lk4) × (Sup × Sup) × ((Nat → Option Nat) × (Nat → Lk4)) × ((Nat → Int32) × Tk) × Int32
abbrev vU (V : Ps) : Nat := V.1.1
abbrev vW (V : Ps) : Nat := V.1.2.1
abbrev vCt (V : Ps) : Nat := V.1.2.2.1
abbrev vLt (V : Ps) : Nat := V.1.2.2.2.1
abbrev vSz (V : Ps) : Nat := V.1.2.2.2.2.1
abbrev vLen (V : Ps) : Nat := V.1.2.2.2.2.2
abbrev vC (V : Ps) : Lk4 := V.2.1.1
abbrev vT (V : Ps) : Lk4 := V.2.1.2.1
abbrev vN (V : Ps) : Lk4 := V.2.1.2.2
abbrev vS (V : Ps) : Sup := V.2.2.1.1
abbrev vZ (V : Ps) : Sup := V.2.2.1.2
abbrev vAd (V : Ps) : Nat → Option Nat := V.2.2.2.1.1
abbrev vA (V : Ps) : Nat → Lk4 := V.2.2.2.1.2
abbrev vB (V : Ps) : Nat → Int32 := V.2.2.2.2.1.1
abbrev vTk (V : Ps) : Tk := V.2.2.2.2.1.2
abbrev vHs (V : Ps) : Int32 := V.2.2.2.2.2
def psC (V : Ps) (C' : Lk4) : Ps := (((vU V, vW V, vCt V, vLt V, vSz V, vLen V), (C', vT V, vN V), (vS V, vZ V), (vAd V, vA V), (vB V, vTk V), vHs V) : Ps)
def psT (V : Ps) (C' : Lk4) : Ps := (((vU V, vW V, vCt V, vLt V, vSz V, vLen V), (vC V, C', vN V), (vS V, vZ V), (vAd V, vA V), (vB V, vTk V), vHs V) : Ps)
def psN (V : Ps) (C' : Lk4) : Ps := (((vU V, vW V, vCt V, vLt V, vSz V, vLen V), (vC V, vT V, C'), (vS V, vZ V), (vAd V, vA V), (vB V, vTk V), vHs V) : Ps)
def psH (V : Ps) (ct lt : Nat) (ad : Nat → Option Nat) (A : Nat → Lk4) : Ps := (((vU V, vW V, ct, lt, vSz V, vLen V), (vC V, vT V, vN V), (vS V, vZ V), (ad, A), (vB V, vTk V), vHs V) : Ps)
def psI (V : Ps) (v : Int32) : Ps := (((vU V, vW V, vCt V, vLt V, vSz V, vLen V), (vC V, vT V, vN V), (vS V, vZ V), (vAd V, vA V), (vB V, vTk V), v) : Ps)
def PS (h : j_H) (x zb : Nat) (V : Ps) : Prop := px h x (vU V) (vW V) ∧ j_I h x 9 = (vHs V) ∧ LkAt h (x + 8) (vC V) ∧ LkAt h (x + 24) (vT V) ∧ LkAt h (x + 35) (vN V) ∧ SK h (vU V) (vS V) ∧ SK h (vW V) (vZ V) ∧ HI h (x + 46) zb (vCt V) (vLt V) (vAd V) (vA V) ∧ TX h (x + 1) (vB V) (vSz V) (vLen V) (vTk V) ∧ ((vU V) = x + 3 ∧ (vW V) = x + 19 ∨ (vU V) = x + 19 ∧ (vW V) = x + 3) ∧ x + 51 ≤ zb
section Pf
variable {x zb : Nat} {V : Ps}
theorem PS_x (p : PS h x zb V) : px h x (vU V) (vW V) := p.1
theorem PS_9 (p : PS h x zb V) : j_I h x 9 = (vHs V) := p.2.1
theorem PS_C (p : PS h x zb V) : LkAt h (x + 8) (vC V) := p.2.2.1
theorem PS_T (p : PS h x zb V) : LkAt h (x + 24) (vT V) := p.2.2.2.1
theorem PS_N (p : PS h x zb V) : LkAt h (x + 35) (vN V) := p.2.2.2.2.1
theorem PS_S (p : PS h x zb V) : SK h (vU V) (vS V) := p.2.2.2.2.2.1
theorem PS_W (p : PS h x zb V) : SK h (vW V) (vZ V) := p.2.2.2.2.2.2.1
theorem PS_H (p : PS h x zb V) : HI h (x + 46) zb (vCt V) (vLt V) (vAd V) (vA V) := p.2.2.2.2.2.2.2.1
theorem PS_B (p : PS h x zb V) : TX h (x + 1) (vB V) (vSz V) (vLen V) (vTk V) := p.2.2.2.2.2.2.2.2.1
theorem PS_u (p : PS h x zb V) : (vU V) = x + 3 ∧ (vW V) = x + 19 ∨ (vU V) = x + 19 ∧ (vW V) = x + 3 := p.2.2.2.2.2.2.2.2.2.1
theorem PS_z (p : PS h x zb V) : x + 51 ≤ zb ∧ zb ≤ j_z h := ⟨p.2.2.2.2.2.2.2.2.2.2, (PS_H p).2.2.2.1.2⟩
theorem PS_ln (p : PS h x zb V) {C' : Lk4} (f : FG (fun c => x + 8 ≤ c ∧ c < x + 19) h h') (k : LkAt h' (x + 8) C') : PS h' x zb (psC V C') := by
  obtain ⟨q1, q2⟩ := PS_z p
  have qu := PS_u p
  have z := f.1
  have g : ∀ c, c < j_z h → ¬ (x + 8 ≤ c ∧ c < x + 19) → sm h h' c := f.2
  have e1 : px h' x (vU V) (vW V) := px_sm (PS_x p) (g x (by omega) (by omega))
  have e2 : j_I h' x 9 = vHs V := ((g x (by omega) (by omega)).2.2.2.1 9).trans (PS_9 p)
  have eT : LkAt h' (x + 24) (vT V) := LkAt_sm (PS_T p) (fun c c1 c2 => g c (by omega) (by omega))
  have eN : LkAt h' (x + 35) (vN V) := LkAt_sm (PS_N p) (fun c c1 c2 => g c (by omega) (by omega))
  have eS : SK h' (vU V) (vS V) := SK_sm (PS_S p) (fun c c1 c2 => g c (by omega) (by omega))
  have eZ : SK h' (vW V) (vZ V) := SK_sm (PS_W p) (fun c c1 c2 => g c (by omega) (by omega))
  have eH : HI h' (x + 46) zb (vCt V) (vLt V) (vAd V) (vA V) := HI_sm (PS_H p) z (g _ (by omega) (by omega)) (g _ (by omega) (by omega)) (fun c c1 c2 _ => g c c2 (by omega))
  have eB : TX h' (x + 1) (vB V) (vSz V) (vLen V) (vTk V) := TX_sm (PS_B p) (g _ (by omega) (by omega)) (g _ (by omega) (by omega))
  exact ⟨e1, e2, k, eT, eN, eS, eZ, eH, eB, qu, q1⟩
theorem PS_tr (p : PS h x zb V) {C' : Lk4} (f : FG (fun c => x + 24 ≤ c ∧ c < x + 35) h h') (k : LkAt h' (x + 24) C') : PS h' x zb (psT V C') := by
  obtain ⟨q1, q2⟩ := PS_z p
  have qu := PS_u p
  have z := f.1
  have g : ∀ c, c < j_z h → ¬ (x + 24 ≤ c ∧ c < x + 35) → sm h h' c := f.2
  have e1 : px h' x (vU V) (vW V) := px_sm (PS_x p) (g x (by omega) (by omega))
  have e2 : j_I h' x 9 = vHs V := ((g x (by omega) (by omega)).2.2.2.1 9).trans (PS_9 p)
  have eC : LkAt h' (x + 8) (vC V) := LkAt_sm (PS_C p) (fun c c1 c2 => g c (by omega) (by omega))
  have eN : LkAt h' (x + 35) (vN V) := LkAt_sm (PS_N p) (fun c c1 c2 => g c (by omega) (by omega))
  have eS : SK h' (vU V) (vS V) := SK_sm (PS_S p) (fun c c1 c2 => g c (by omega) (by omega))
  have eZ : SK h' (vW V) (vZ V) := SK_sm (PS_W p) (fun c c1 c2 => g c (by omega) (by omega))
  have eH : HI h' (x + 46) zb (vCt V) (vLt V) (vAd V) (vA V) := HI_sm (PS_H p) z (g _ (by omega) (by omega)) (g _ (by omega) (by omega)) (fun c c1 c2 _ => g c c2 (by omega))
  have eB : TX h' (x + 1) (vB V) (vSz V) (vLen V) (vTk V) := TX_sm (PS_B p) (g _ (by omega) (by omega)) (g _ (by omega) (by omega))
  exact ⟨e1, e2, eC, k, eN, eS, eZ, eH, eB, qu, q1⟩
theorem PS_sn (p : PS h x zb V) {C' : Lk4} (f : FG (fun c => x + 35 ≤ c ∧ c < x + 46) h h') (k : LkAt h' (x + 35) C') : PS h' x zb (psN V C') := by
  obtain ⟨q1, q2⟩ := PS_z p
  have qu := PS_u p
  have z := f.1
  have g : ∀ c, c < j_z h → ¬ (x + 35 ≤ c ∧ c < x + 46) → sm h h' c := f.2
  have e1 : px h' x (vU V) (vW V) := px_sm (PS_x p) (g x (by omega) (by omega))
  have e2 : j_I h' x 9 = vHs V := ((g x (by omega) (by omega)).2.2.2.1 9).trans (PS_9 p)
  have eC : LkAt h' (x + 8) (vC V) := LkAt_sm (PS_C p) (fun c c1 c2 => g c (by omega) (by omega))
  have eT : LkAt h' (x + 24) (vT V) := LkAt_sm (PS_T p) (fun c c1 c2 => g c (by omega) (by omega))
  have eS : SK h' (vU V) (vS V) := SK_sm (PS_S p) (fun c c1 c2 => g c (by omega) (by omega))
  have eZ : SK h' (vW V) (vZ V) := SK_sm (PS_W p) (fun c c1 c2 => g c (by omega) (by omega))
  have eH : HI h' (x + 46) zb (vCt V) (vLt V) (vAd V) (vA V) := HI_sm (PS_H p) z (g _ (by omega) (by omega)) (g _ (by omega) (by omega)) (fun c c1 c2 _ => g c c2 (by omega))
  have eB : TX h' (x + 1) (vB V) (vSz V) (vLen V) (vTk V) := TX_sm (PS_B p) (g _ (by omega) (by omega)) (g _ (by omega) (by omega))
  exact ⟨e1, e2, eC, eT, k, eS, eZ, eH, eB, qu, q1⟩
theorem PS_hi (p : PS h x zb V) {ct lt : Nat} {ad : Nat → Option Nat} {A : Nat → Lk4} {g0 : j_H} (f : FG (hsA g0 (x + 46) zb) h h') (k : HI h' (x + 46) zb ct lt ad A) : PS h' x zb (psH V ct lt ad A) := by
  obtain ⟨q1, q2⟩ := PS_z p
  have qu := PS_u p
  have z := f.1
  have g : ∀ c, c < j_z h → ¬ (c = x + 46 ∨ c = x + 46 + 1 ∨ zb ≤ c) → sm h h' c := fun c c1 c2 => f.2 c c1 (fun z => c2 (z.imp_right (fun y => y.imp_right And.left)))
  have e1 : px h' x (vU V) (vW V) := px_sm (PS_x p) (g x (by omega) (by omega))
  have e2 : j_I h' x 9 = vHs V := ((g x (by omega) (by omega)).2.2.2.1 9).trans (PS_9 p)
  have eC : LkAt h' (x + 8) (vC V) := LkAt_sm (PS_C p) (fun c c1 c2 => g c (by omega) (by omega))
  have eT : LkAt h' (x + 24) (vT V) := LkAt_sm (PS_T p) (fun c c1 c2 => g c (by omega) (by omega))
  have eN : LkAt h' (x + 35) (vN V) := LkAt_sm (PS_N p) (fun c c1 c2 => g c (by omega) (by omega))
  have eS : SK h' (vU V) (vS V) := SK_sm (PS_S p) (fun c c1 c2 => g c (by omega) (by omega))
  have eZ : SK h' (vW V) (vZ V) := SK_sm (PS_W p) (fun c c1 c2 => g c (by omega) (by omega))
  have eB : TX h' (x + 1) (vB V) (vSz V) (vLen V) (vTk V) := TX_sm (PS_B p) (g _ (by omega) (by omega)) (g _ (by omega) (by omega))
  exact ⟨e1, e2, eC, eT, eN, eS, eZ, k, eB, qu, q1⟩
theorem PS_bk (p : PS h x zb V) {C' : Lk4} {ct lt : Nat} {ad : Nat → Option Nat} {A : Nat → Lk4} (f : FG (fun c => c = x + 46 ∨ (x + 8 ≤ c ∧ c < x + 8 + 11)) h h') (k : LkAt h' (x + 8) C') (i : HI h' (x + 46) zb ct lt ad A) : PS h' x zb (psH (psC V C') ct lt ad A) := by
  obtain ⟨q1, q2⟩ := PS_z p
  have qu := PS_u p
  have z := f.1
  have g : ∀ c, c < j_z h → ¬ (c = x + 46 ∨ (x + 8 ≤ c ∧ c < x + 8 + 11)) → sm h h' c := f.2
  have e1 : px h' x (vU V) (vW V) := px_sm (PS_x p) (g x (by omega) (by omega))
  have e2 : j_I h' x 9 = vHs V := ((g x (by omega) (by omega)).2.2.2.1 9).trans (PS_9 p)
  have eT : LkAt h' (x + 24) (vT V) := LkAt_sm (PS_T p) (fun c c1 c2 => g c (by omega) (by omega))
  have eN : LkAt h' (x + 35) (vN V) := LkAt_sm (PS_N p) (fun c c1 c2 => g c (by omega) (by omega))
  have eS : SK h' (vU V) (vS V) := SK_sm (PS_S p) (fun c c1 c2 => g c (by omega) (by omega))
  have eZ : SK h' (vW V) (vZ V) := SK_sm (PS_W p) (fun c c1 c2 => g c (by omega) (by omega))
  have eB : TX h' (x + 1) (vB V) (vSz V) (vLen V) (vTk V) := TX_sm (PS_B p) (g _ (by omega) (by omega)) (g _ (by omega) (by omega))
  exact ⟨e1, e2, k, eT, eN, eS, eZ, i, eB, qu, q1⟩
theorem PS_i9 (p : PS h x zb V) {v : Int32} : PS (j_setI h x 9 v) x zb (psI V v) := by
  obtain ⟨q1, q2⟩ := PS_z p
  have qu := PS_u p
  have f : FG (fun c => c = x) h (j_setI h x 9 v) := FG_sI FG_rf rfl
  have z := f.1
  have g : ∀ c, c < j_z h → ¬ (c = x) → sm h (j_setI h x 9 v) c := f.2
  have eC : LkAt (j_setI h x 9 v) (x + 8) (vC V) := LkAt_sm (PS_C p) (fun c c1 c2 => g c (by omega) (by omega))
  have eT : LkAt (j_setI h x 9 v) (x + 24) (vT V) := LkAt_sm (PS_T p) (fun c c1 c2 => g c (by omega) (by omega))
  have eN : LkAt (j_setI h x 9 v) (x + 35) (vN V) := LkAt_sm (PS_N p) (fun c c1 c2 => g c (by omega) (by omega))
  have eS : SK (j_setI h x 9 v) (vU V) (vS V) := SK_sm (PS_S p) (fun c c1 c2 => g c (by omega) (by omega))
  have eZ : SK (j_setI h x 9 v) (vW V) (vZ V) := SK_sm (PS_W p) (fun c c1 c2 => g c (by omega) (by omega))
  have eH : HI (j_setI h x 9 v) (x + 46) zb (vCt V) (vLt V) (vAd V) (vA V) := HI_sm (PS_H p) z (g _ (by omega) (by omega)) (g _ (by omega) (by omega)) (fun c c1 c2 _ => g c c2 (by omega))
  have eB : TX (j_setI h x 9 v) (x + 1) (vB V) (vSz V) (vLen V) (vTk V) := TX_sm (PS_B p) (g _ (by omega) (by omega)) (g _ (by omega) (by omega))
  have e1 : px (j_setI h x 9 v) x (vU V) (vW V) := p.1
  have e2 : j_I (j_setI h x 9 v) x 9 = v := jh_Is _ _ _ _
  exact ⟨e1, e2, eC, eT, eN, eS, eZ, eH, eB, qu, q1⟩
end Pf
/-- the cells of the class's object: its parts, and what it makes later -/
def psA (g : j_H) (x zb : Nat) : Nat → Prop := fun c => (x ≤ c ∧ c < x + 48) ∨ (zb ≤ c ∧ ∀ n, j_sh g c ≠ some (.inl (3, n)))
section Pm
variable {x zb : Nat} {V : Ps}
theorem PS_q (p : PS h x zb V) (hB : j_bd E h) : LQ E h (x + 8) (vC V).1 h := ⟨(PS_C p).1, Fr_rf, hB⟩
theorem PS_r (p : PS h x zb V) (hB : j_bd E h) : LR E h (x + 8) (vC V).1 (vC V).2.1 (vC V).2.2.1 (vC V).2.2.2 h := ⟨(PS_C p).1, (PS_C p).2, Fr_rf, hB⟩
theorem PS_lq {L' : Lnk} (p : PS h x zb V) (q : LQ E h (x + 8) L' h') : PS h' x zb (psC V (L', (vC V).2)) := PS_ln p (FG_mono (FG_Fr q.2.1) (fun c _ g => ⟨g.1, by have := g.2; omega⟩)) ⟨q.1, RK_Fr (PS_C p).2 q.2.1⟩
theorem PS_lr {L' : Lnk} {kp : Nat} {lt : Int32} {R : Nat → Nat → Int32} (p : PS h x zb V) (q : LR E h (x + 8) L' kp lt R h') : PS h' x zb (psC V (L', kp, lt, R)) := PS_ln p (FG_mono (FG_Fr q.2.2.1) (fun c _ g => ⟨g.1, by have := g.2; omega⟩)) ⟨q.1, q.2.1⟩
theorem sp_X8_undoCount (hl : l.stackTraces = false) (p : PS h x zb V) (hB : j_bd E h) (H : Q (.inl (some (.int (nI (vCt V))))) h) : j_Met l D bs E (d + 1) n_X8_undoCount [.ref x] h Q := by
  refine j_meth hl rfl g_X8_undoCount (Nat.le_of_ble_eq_true rfl) (fun _ => ⟨_, _, rfl, (px_s (PS_x p))⟩) hB.1 hB.2 (fun G hG => ?_)
  refine b_X8_undoCount_0 hG ?_
  dsimp only [q_X8_undoCount_0, j_wp, j_opB, j_opA, j_nth, j_i1, j_i2, j_l1, j_l2, j_li, j_f1, j_f2, j_d1, j_d2, j_r1, j_ai, j_aii, j_ail, j_aid, j_air, j_st1, j_st2, j_stu, j_kl, j_cond, j_args, j_out, j_few, j_cw, j_nat, j_pad, j_exp, Nat.reduceAdd]
  simp only [px_s (PS_x p), px_5 (PS_x p), HI_s (PS_H p), HI_1 (PS_H p), j_ref, j_ari, j_arb, j_arr, j_len, j_nar, j_oi, j_ol, j_of, j_od, j_or, j_ov, true_and, and_true]
  exact H
theorem sp_X8_undo (hl : l.stackTraces = false) (p : PS h x zb V) (hB : j_bd E h) {nf np ns : Nat} (hb : 0 < vCt V → (∃ b, vAd V (vLt V) = some b) ∧ LkN (vA V (vLt V)) nf np ns)
    (H0 : vCt V = 0 → Q (.inl (some (.int (-1)))) h)
    (H1 : 0 < vCt V → ∀ h', PS h' x zb (psH (psC V (lkCp (vC V) (vA V (vLt V)) nf np ns)) (vCt V - 1) (prv (vLt V)) (vAd V) (vA V)) → FG (psA h x zb) h h' → j_c h' = j_c h → j_k h' = j_k h → Q (.inl (some (.int (nI (vCt V - 1))))) h') : j_Met l D bs E (d + 5) n_X8_undo [.ref x] h Q := by
  have hct := (PS_H p).2.1.2
  have hz := PS_z p
  refine j_meth hl rfl g_X8_undo (Nat.le_of_ble_eq_true rfl) (fun _ => ⟨_, _, rfl, (px_s (PS_x p))⟩) hB.1 hB.2 (fun G hG => ?_)
  refine b_X8_undo_0 hG ?_
  dsimp only [q_X8_undo_0, j_wp, j_opB, j_opA, j_nth, j_i1, j_i2, j_l1, j_l2, j_li, j_f1, j_f2, j_d1, j_d2, j_r1, j_ai, j_aii, j_ail, j_aid, j_air, j_st1, j_st2, j_stu, j_kl, j_cond, j_args, j_out, j_few, j_cw, j_nat, j_pad, j_exp, Nat.reduceAdd]
  simp only [px_s (PS_x p), px_5 (PS_x p), HI_s (PS_H p), HI_1 (PS_H p), j_ref, j_ari, j_arb, j_arr, j_len, j_nar, j_oi, j_ol, j_of, j_od, j_or, j_ov, true_and, and_true]
  by_cases g : 0 < vCt V
  · rw [if_pos (show (0 : Int32) < nI (vCt V) from nI_lt (a := 0) g (by omega))]
    refine b_X8_undo_12 hG ?_
    dsimp only [q_X8_undo_12, j_wp, j_opB, j_opA, j_nth, j_i1, j_i2, j_l1, j_l2, j_li, j_f1, j_f2, j_d1, j_d2, j_r1, j_ai, j_aii, j_ail, j_aid, j_air, j_st1, j_st2, j_stu, j_kl, j_cond, j_args, j_out, j_few, j_cw, j_nat, j_pad, j_exp, Nat.reduceAdd]
    simp only [px_s (PS_x p), px_5 (PS_x p), px_2 (PS_x p), j_ref, j_ari, j_arb, j_arr, j_len, j_nar, j_oi, j_ol, j_of, j_od, j_or, j_ov, true_and, and_true]
    obtain ⟨⟨b, hb1⟩, hN⟩ := hb g
    refine sp_X0_giveBack hl (PS_H p) g hb1 (PS_C p) hN (by omega) hB (fun h2 i2 k2 f2 c2 s2 => ?_)
    have p2 := PS_bk p f2 k2 i2
    have x2 : px h2 x (vU V) (vW V) := p2.1
    simp only [px_s x2, px_5 x2, HI_s i2, HI_1 i2, j_ref, j_ari, j_arb, j_arr, j_len, j_nar, j_oi, j_ol, j_of, j_od, j_or, j_ov, true_and, and_true]
    exact H1 g h2 p2 (FG_mono f2 (fun c _ g => Or.inl (by omega))) c2 s2
  · have e : vCt V = 0 := by omega
    rw [if_neg (by rw [e]; decide)]
    exact H0 e
theorem sp_X8_saveSnapshot (hl : l.stackTraces = false) (p : PS h x zb V) (hB : j_bd E h) {nf np ns : Nat} (hN : LkN (vC V) nf np ns)
    (H : ∀ h', PS h' x zb (psI (psN V (lkCp (vN V) (vC V) nf np ns)) 1) → FG (psA h x zb) h h' → j_c h' = j_c h → j_k h' = j_k h → Q (.inl none) h') : j_Met l D bs E (d + 4) n_X8_saveSnapshot [.ref x] h Q := by
  refine j_meth hl rfl g_X8_saveSnapshot (Nat.le_of_ble_eq_true rfl) (fun _ => ⟨_, _, rfl, (px_s (PS_x p))⟩) hB.1 hB.2 (fun G hG => ?_)
  refine b_X8_saveSnapshot_0 hG ?_
  dsimp only [q_X8_saveSnapshot_0, j_wp, j_opB, j_opA, j_nth, j_i1, j_i2, j_l1, j_l2, j_li, j_f1, j_f2, j_d1, j_d2, j_r1, j_ai, j_aii, j_ail, j_aid, j_air, j_st1, j_st2, j_stu, j_kl, j_cond, j_args, j_out, j_few, j_cw, j_nat, j_pad, j_exp, Nat.reduceAdd]
  simp only [px_s (PS_x p), px_4 (PS_x p), px_2 (PS_x p), j_ref, j_ari, j_arb, j_arr, j_len, j_nar, j_oi, j_ol, j_of, j_od, j_or, j_ov, true_and, and_true]
  refine cp_lk hl hB (PS_N p) (PS_C p) (by omega) hN (fun h2 k2 f2 => ?_)
  obtain ⟨z1, z2, z3⟩ := Fr_z f2
  have p2 := PS_sn p (FG_mono (FG_Fr f2) (fun c _ g => ⟨g.1, by have := g.2; omega⟩)) k2
  have x2 : px h2 x (vU V) (vW V) := p2.1
  simp only [px_s x2, j_ref, j_ari, j_arb, j_arr, j_len, j_nar, j_oi, j_ol, j_of, j_od, j_or, j_ov, true_and, and_true]
  refine ⟨by simp, ?_⟩
  exact H _ (PS_i9 p2) (FG_sI (FG_mono (FG_Fr f2) (fun c _ g => Or.inl (by omega))) (Or.inl (by omega))) z2 z3
theorem sp_X8_restoreSnapshot (hl : l.stackTraces = false) (p : PS h x zb V) (hB : j_bd E h) {nf np ns : Nat} (hN : ¬ vHs V = 0 → LkN (vN V) nf np ns)
    (H0 : vHs V = 0 → Q (.inl (some (.int 0))) h)
    (H1 : ¬ vHs V = 0 → ∀ h', PS h' x zb (psH (psC V (lkCp (vC V) (vN V) nf np ns)) 0 (vLt V) (vAd V) (vA V)) → FG (psA h x zb) h h' → j_c h' = j_c h → j_k h' = j_k h → Q (.inl (some (.int 1))) h') : j_Met l D bs E (d + 4) n_X8_restoreSnapshot [.ref x] h Q := by
  have hz := PS_z p
  refine j_meth hl rfl g_X8_restoreSnapshot (Nat.le_of_ble_eq_true rfl) (fun _ => ⟨_, _, rfl, (px_s (PS_x p))⟩) hB.1 hB.2 (fun G hG => ?_)
  refine b_X8_restoreSnapshot_0 hG ?_
  dsimp only [q_X8_restoreSnapshot_0, j_wp, j_opB, j_opA, j_nth, j_i1, j_i2, j_l1, j_l2, j_li, j_f1, j_f2, j_d1, j_d2, j_r1, j_ai, j_aii, j_ail, j_aid, j_air, j_st1, j_st2, j_stu, j_kl, j_cond, j_args, j_out, j_few, j_cw, j_nat, j_pad, j_exp, Nat.reduceAdd]
  simp only [px_s (PS_x p), PS_9 p, j_ref, j_ari, j_arb, j_arr, j_len, j_nar, j_oi, j_ol, j_of, j_od, j_or, j_ov, true_and, and_true]
  by_cases g : vHs V = 0
  · rw [if_pos g]
    exact ⟨by simp, H0 g⟩
  · rw [if_neg g]
    refine b_X8_restoreSnapshot_9 hG ?_
    dsimp only [q_X8_restoreSnapshot_9, j_wp, j_opB, j_opA, j_nth, j_i1, j_i2, j_l1, j_l2, j_li, j_f1, j_f2, j_d1, j_d2, j_r1, j_ai, j_aii, j_ail, j_aid, j_air, j_st1, j_st2, j_stu, j_kl, j_cond, j_args, j_out, j_few, j_cw, j_nat, j_pad, j_exp, Nat.reduceAdd]
    simp only [px_s (PS_x p), px_4 (PS_x p), px_2 (PS_x p), j_ref, j_ari, j_arb, j_arr, j_len, j_nar, j_oi, j_ol, j_of, j_od, j_or, j_ov, true_and, and_true]
    refine cp_lk hl hB (PS_C p) (PS_N p) (by omega) (hN g) (fun h2 k2 f2 => ?_)
    obtain ⟨z1, z2, z3⟩ := Fr_z f2
    have p2 := PS_ln p (FG_mono (FG_Fr f2) (fun c _ g => ⟨g.1, by have := g.2; omega⟩)) k2
    have x2 : px h2 x (vU V) (vW V) := p2.1
    simp only [px_s x2, px_5 x2, j_ref, j_ari, j_arb, j_arr, j_len, j_nar, j_oi, j_ol, j_of, j_od, j_or, j_ov, true_and, and_true]
    refine sp_X0_forget hl (PS_H p2) (Fr_bd f2 hB) (fun i3 => ?_)
    simp only [j_ref, j_ari, j_arb, j_arr, j_len, j_nar, j_oi, j_ol, j_of, j_od, j_or, j_ov, true_and, and_true]
    have f3 : FG (hsA h2 (x + 46) zb) h2 (j_setI h2 (x + 46) 1 0) := FG_sI FG_rf (Or.inl rfl)
    refine ⟨by simp, ?_⟩
    exact H1 g _ (PS_hi p2 f3 i3) (FG_tr (FG_mono (FG_Fr f2) (fun c _ g => Or.inl (by omega))) (FG_sI FG_rf (Or.inl (by omega)))) z2 z3
end Pm
end CaU
