/-! ===== sets of packets, frames with new cells ===== -/
section PS1
variable {l : Launch} {D : va_G} {bs : Nat} {E : j_E} {h : j_H} {d : Nat} {Q : j_O → j_H → Prop} {q : Nat}
/-- of the cells below z only numbers in A have changed -/
def FQ (A : Nat → Prop) (z : Nat) (h h' : j_H) : Prop := z ≤ j_z h' ∧ ∀ b, b < z → j_sh h' b = j_sh h b ∧ (∀ k, j_R h' b k = j_R h b k) ∧ (∀ k, j_D h' b k = j_D h b k) ∧ (¬ A b → (∀ k, j_I h' b k = j_I h b k) ∧ ∀ k, j_L h' b k = j_L h b k)
theorem FQ_rf {A : Nat → Prop} {z : Nat} (hz : z ≤ j_z h) : FQ A z h h := ⟨hz, fun b _ => ⟨rfl, fun _ => rfl, fun _ => rfl, fun _ => ⟨fun _ => rfl, fun _ => rfl⟩⟩⟩
theorem FQ_tr {A : Nat → Prop} {z z' : Nat} {h' h'' : j_H} (h1 : FQ A z h h') (h2 : FQ A z' h' h'') (hz : z ≤ z') : FQ A z h h'' := by
  refine ⟨Nat.le_trans hz h2.1, fun b hb => ?_⟩
  obtain ⟨a1, a2, a3, a4⟩ := h1.2 b hb
  obtain ⟨b1, b2, b3, b4⟩ := h2.2 b (by omega)
  exact ⟨b1.trans a1, fun k => (b2 k).trans (a2 k), fun k => (b3 k).trans (a3 k), fun z => ⟨fun k => ((b4 z).1 k).trans ((a4 z).1 k), fun k => ((b4 z).2 k).trans ((a4 z).2 k)⟩⟩
theorem FQ_Fr {A : Nat → Prop} {lo hi z : Nat} {h' : j_H} (hF : Fr lo hi h h') (hA : ∀ b, lo ≤ b → b < hi → A b) (hz : z ≤ j_z h) : FQ A z h h' := by
  obtain ⟨f1, f2, f3, f4, f5, f6, f7, f8⟩ := hF
  refine ⟨by rw [f4]; exact hz, fun b _ => ⟨by rw [f1], fun k => by rw [f2], fun k => by rw [f3], fun y => ?_⟩⟩
  have g : b < lo ∨ hi ≤ b := (Nat.lt_or_ge b lo).imp id (fun g => Nat.le_of_not_lt (fun g2 => y (hA b g g2)))
  exact ⟨fun k => f7 b k g, fun k => f8 b k g⟩
theorem FQ_FA {A : Nat → Prop} {z : Nat} {h' : j_H} (hF : FA A h h') (hz : z ≤ j_z h) : FQ A z h h' := by
  obtain ⟨f1, f2, f3, f4, f5, f6, f7, f8⟩ := hF
  exact ⟨by rw [f4]; exact hz, fun b _ => ⟨by rw [f1], fun k => by rw [f2], fun k => by rw [f3], fun y => ⟨fun k => f7 b k y, fun k => f8 b k y⟩⟩⟩
theorem FQ_new {A : Nat → Prop} {z : Nat} {h' : j_H} {s : j_S} {n : Nat} (h1 : FQ A z h h') : FQ A z h (j_new h' s n) := by
  refine ⟨Nat.le_trans h1.1 (Nat.le_succ _), fun b hb => ?_⟩
  obtain ⟨a1, a2, a3, a4⟩ := h1.2 b hb
  have ne : b ≠ j_z h' := by have := h1.1; omega
  refine ⟨?_, fun k => ?_, fun k => ?_, fun y => ⟨fun k => ?_, fun k => ?_⟩⟩
  · show (if b = j_z h' then some s else j_sh h' b) = _
    rw [if_neg ne]; exact a1
  · show (if b = j_z h' then none else j_R h' b k) = _
    rw [if_neg ne]; exact a2 k
  · show (if b = j_z h' then 0 else j_D h' b k) = _
    rw [if_neg ne]; exact a3 k
  · show (if b = j_z h' then 0 else j_I h' b k) = _
    rw [if_neg ne]; exact (a4 y).1 k
  · show (if b = j_z h' then 0 else j_L h' b k) = _
    rw [if_neg ne]; exact (a4 y).2 k
theorem FQ_setL {A : Nat → Prop} {z : Nat} {h' : j_H} {k : Nat} {v : Int64} (h1 : FQ A z h h') (hq : z ≤ q) : FQ A z h (j_setL h' q k v) := by
  refine ⟨h1.1, fun b hb => ?_⟩
  obtain ⟨a1, a2, a3, a4⟩ := h1.2 b hb
  exact ⟨a1, a2, a3, fun y => ⟨(a4 y).1, fun j => by rw [jh_Ln (by omega)]; exact (a4 y).2 j⟩⟩
theorem FQ_mono {A A' : Nat → Prop} {z : Nat} {h' : j_H} (h1 : FQ A z h h') (hA : ∀ b, A b → A' b) : FQ A' z h h' :=
  ⟨h1.1, fun b hb => ⟨(h1.2 b hb).1, (h1.2 b hb).2.1, (h1.2 b hb).2.2.1, fun y => (h1.2 b hb).2.2.2 (fun w => y (hA b w))⟩⟩
theorem TB_FQ {A : Nat → Prop} {z : Nat} {h' : j_H} {t c w n : Nat} (hT : TB h t c w n) (hF : FQ A z h h') (h1 : ¬ A t) (h2 : t < z) (h3 : c < z) : TB h' t c w n := by
  obtain ⟨t1, t2, t3, t4, t5⟩ := hT
  exact ⟨by rw [(hF.2 t h2).1]; exact t1, by rw [((hF.2 t h2).2.2.2 h1).1]; exact t2, by rw [(hF.2 t h2).2.1]; exact t3, by rw [(hF.2 c h3).1]; exact t4, t5⟩
theorem LK_FQ {A : Nat → Prop} {z b : Nat} {h' : j_H} {K : Lnk} (hL : LK h b K) (hF : FQ A z h h') (hA : ∀ c, b ≤ c → c < b + 11 → ¬ A c) (hz : b + 11 ≤ z) : LK h' b K := by
  obtain ⟨⟨l1, l2, l3, l4, l5, l6, l7, l8, l9, l10, l11, l12, l13⟩, h1, h2, h3, h4, h5⟩ := hL
  have g : ∀ c, b ≤ c → c < b + 11 → j_sh h' c = j_sh h c ∧ (∀ k, j_R h' c k = j_R h c k) ∧ (∀ k, j_I h' c k = j_I h c k) ∧ ∀ k, j_L h' c k = j_L h c k := fun c c1 c2 => by
    have := hF.2 c (by omega)
    exact ⟨this.1, this.2.1, this.2.2.2 (hA c c1 c2)⟩
  have g0 := g b (by omega) (by omega)
  have g8 := g (b + 8) (by omega) (by omega)
  refine ⟨⟨by rw [g0.1]; exact l1, by rw [g0.2.1]; exact l2, by rw [g0.2.1]; exact l3, by rw [g0.2.1]; exact l4, by rw [g0.2.1]; exact l5, by rw [g0.2.1]; exact l6, TB_FQ l7 hF (hA _ (by omega) (by omega)) (by omega) (by omega), by rw [(g (b + 3) (by omega) (by omega)).1]; exact l8, TB_FQ l9 hF (hA _ (by omega) (by omega)) (by omega) (by omega), TB_FQ l10 hF (hA _ (by omega) (by omega)) (by omega) (by omega), by rw [g8.1]; exact l11, by rw [g8.2.1]; exact l12, TB_FQ l13 hF (hA _ (by omega) (by omega)) (by omega) (by omega)⟩, ?_, ?_, ?_, ?_, ?_⟩
  · intro k g1 g2; rw [g0.2.2.1]; exact h1 k g1 g2
  · intro r k g1 g2; rw [(g (b + 2) (by omega) (by omega)).2.2.1]; exact h2 r k g1 g2
  · intro r k g1 g2; rw [(g (b + 5) (by omega) (by omega)).2.2.1]; exact h3 r k g1 g2
  · intro r k g1 g2; rw [(g (b + 7) (by omega) (by omega)).2.2.1]; exact h4 r k g1 g2
  · intro k g1; rw [(g (b + 3) (by omega) (by omega)).2.2.2]; exact h5 k g1
theorem RK_FQ {A : Nat → Prop} {z b kp : Nat} {lt : Int32} {R : Nat → Nat → Int32} {h' : j_H} (hR : RK h b kp lt R) (hF : FQ A z h h') (hA : ∀ c, b ≤ c → c < b + 11 → ¬ A c) (hz : b + 11 ≤ z) : RK h' b kp lt R := by
  obtain ⟨r1, r2, r3⟩ := hR
  have g8 := (hF.2 (b + 8) (by omega)).2.2.2 (hA _ (by omega) (by omega))
  have g10 := (hF.2 (b + 10) (by omega)).2.2.2 (hA _ (by omega) (by omega))
  exact ⟨by rw [g8.1]; exact r1, by rw [g8.1]; exact r2, fun r k g1 g2 => by rw [g10.1]; exact r3 r k g1 g2⟩
theorem TX_FQ {A : Nat → Prop} {z x : Nat} {h' : j_H} {B : Nat → Int32} {sz len : Nat} {p : Tk} (t : TX h x B sz len p) (hF : FQ A z h h') (hA : ¬ A x) (hA1 : ¬ A (x + 1)) (hz : x + 2 ≤ z) : TX h' x B sz len p := by
  obtain ⟨t1, t2, t3, t4, t5, t6, t7, t8, t9, t10, t11, t12, t13⟩ := t
  have g0 := hF.2 x (by omega)
  have g1 := hF.2 (x + 1) (by omega)
  refine ⟨by rw [g0.1]; exact t1, by rw [g0.2.1]; exact t2, by rw [g1.1]; exact t3, fun i hi => by rw [(g1.2.2.2 hA1).1]; exact t4 i hi, ?_, t6, ?_, t8, ?_, ?_, ?_, ?_, ?_⟩
  all_goals (rw [(g0.2.2.2 hA).1]; assumption)
theorem SK_FQ {A : Nat → Prop} {z u : Nat} {h' : j_H} {S : Sup} (s : SK h u S) (hF : FQ A z h h') (hA : ∀ b, u ≤ b → b < u + 5 → ¬ A b) (hz : u + 5 ≤ z) : SK h' u S := by
  obtain ⟨s1, s2, s3, s4, s5, s6, s7, s8, s9, s10, s11, s12⟩ := s
  have g : ∀ c, u ≤ c → c < u + 5 → (∀ k, j_I h' c k = j_I h c k) := fun c c1 c2 => ((hF.2 c (by omega)).2.2.2 (hA c c1 c2)).1
  have g0 := hF.2 u (by omega)
  refine ⟨by rw [g0.1]; exact s1, by rw [g0.2.1]; exact s2, by rw [g0.2.1]; exact s3, TB_FQ s4 hF (hA _ (by omega) (by omega)) (by omega) (by omega), TB_FQ s5 hF (hA _ (by omega) (by omega)) (by omega) (by omega), ?_, s7, ?_, s9, fun j g1 g2 => ?_, fun r' j g1 g2 => ?_, fun r' j g1 g2 => ?_⟩
  · rw [g u (by omega) (by omega)]; exact s6
  · rw [g u (by omega) (by omega)]; exact s8
  · rw [g u (by omega) (by omega)]; exact s10 j g1 g2
  · rw [g (u + 2) (by omega) (by omega)]; exact s11 r' j g1 g2
  · rw [g (u + 4) (by omega) (by omega)]; exact s12 r' j g1 g2
theorem KS_FQ {A : Nat → Prop} {z : Nat} {h' : j_H} (k : KS E bs h) (hF : FQ A z h h') (hA : ∀ b, A b → bs ≤ b) (hz : bs ≤ z) : KS E bs h' := by
  intro i y hy hi
  obtain ⟨k1, ⟨k2, k3, k4, k5, b, k6, k7, k8⟩, k9⟩ := k i y hy hi
  have hb := k9 b k6
  have n1 : ¬ A (E.1 i) := fun y => by have := hA _ y; omega
  have n2 : ¬ A b := fun y => by have := hA _ y; omega
  have g1 := hF.2 (E.1 i) (by omega)
  have g2 := hF.2 b (by omega)
  exact ⟨k1, ⟨by rw [g1.1]; exact k2, by rw [(g1.2.2.2 n1).1]; exact k3, k4, k5, b, by rw [g1.2.1]; exact k6, by rw [g2.1]; exact k7, fun j hj => by rw [(g2.2.2.2 n2).1]; exact k8 j hj⟩, fun b' hb' => k9 b' (by rw [g1.2.1] at hb'; exact hb')⟩
/-- is the packet i in the set of these two words -/
def pH (lo hi : Int64) (i : Nat) : Bool := if i < 64 then bH lo i else bH hi (i - 64)
def PSt (h : j_H) (q : Nat) (P : Nat → Bool) : Prop := j_sh h q = some (.inr 4) ∧ ∀ i, i < 100 → pH (j_L h q 0) (j_L h q 1) i = P i
variable {P P' : Nat → Bool}
theorem PSt_FQ {A : Nat → Prop} {z : Nat} {h' : j_H} (s : PSt h q P) (hF : FQ A z h h') (hA : ¬ A q) (hz : q < z) : PSt h' q P := by
  have g := hF.2 q hz
  exact ⟨by rw [g.1]; exact s.1, fun i hi => by rw [(g.2.2.2 hA).2, (g.2.2.2 hA).2]; exact s.2 i hi⟩
theorem sp_X2_init (hl : l.stackTraces = false) (s : j_sh h q = some (.inr 4)) (hB : j_bd E h) (H : Q (.inl none) (j_setL (j_setL h q 0 0) q 1 0)) : j_Met l D bs E (d + 1) n_X2_init [.ref q] h Q := by
  refine j_meth hl rfl g_X2_init (Nat.le_of_ble_eq_true rfl) (fun _ => ⟨_, _, rfl, s⟩) hB.1 hB.2 (fun G hG => ?_)
  refine b_X2_init_0 hG ?_
  dsimp only [q_X2_init_0, j_wp, j_opB, j_opA, j_nth, j_i1, j_i2, j_l1, j_l2, j_li, j_f1, j_f2, j_d1, j_d2, j_r1, j_ai, j_aii, j_ail, j_aid, j_air, j_st1, j_st2, j_stu, j_kl, j_cond, j_args, j_out, j_few, j_cw, j_nat, j_pad, j_exp, Nat.reduceAdd]
  simp only [jh_shL, s, j_ref, j_ari, j_arb, j_arr, j_len, j_nar, j_oi, j_ol, j_of, j_od, j_or, j_ov, true_and, and_true]
  exact H
theorem PSt_new (s : j_sh h q = some (.inr 4)) : PSt (j_setL (j_setL h q 0 0) q 1 0) q (fun _ => false) := by
  refine ⟨s, fun i hi => ?_⟩
  have e0 : j_L (j_setL (j_setL h q 0 0) q 1 0) q 0 = 0 := by rw [jh_Ln (by omega), jh_Ls]
  rw [e0, jh_Ls]
  unfold pH
  split <;> exact bH_0 _
theorem sp_X2_put (hl : l.stackTraces = false) (s : PSt h q P) (hB : j_bd E h) {i : Nat} (hi : i < 100) (H : ∀ h', PSt h' q (fun j => P j || decide (j = i)) → (∃ k v, h' = j_setL h q k v) → Q (.inl none) h') : j_Met l D bs E (d + 1) n_X2_put [.ref q, .int (nI i)] h Q := by
  refine j_meth hl rfl g_X2_put (Nat.le_of_ble_eq_true rfl) (fun _ => ⟨_, _, rfl, s.1⟩) hB.1 hB.2 (fun G hG => ?_)
  refine b_X2_put_0 hG ?_
  dsimp only [q_X2_put_0, j_wp, j_opB, j_opA, j_nth, j_i1, j_i2, j_l1, j_l2, j_li, j_f1, j_f2, j_d1, j_d2, j_r1, j_ai, j_aii, j_ail, j_aid, j_air, j_st1, j_st2, j_stu, j_kl, j_cond, j_args, j_out, j_few, j_cw, j_nat, j_pad, j_exp, Nat.reduceAdd]
  simp only [s.1, j_ref, j_ari, j_arb, j_arr, j_len, j_nar, j_oi, j_ol, j_of, j_od, j_or, j_ov, true_and, and_true]
  by_cases g : i < 64
  · rw [if_pos (show nI i < 64 from nI_lt (b := 64) g (by omega))]
    refine b_X2_put_36 hG ?_
    dsimp only [q_X2_put_36, j_wp, j_opB, j_opA, j_nth, j_i1, j_i2, j_l1, j_l2, j_li, j_f1, j_f2, j_d1, j_d2, j_r1, j_ai, j_aii, j_ail, j_aid, j_air, j_st1, j_st2, j_stu, j_kl, j_cond, j_args, j_out, j_few, j_cw, j_nat, j_pad, j_exp, Nat.reduceAdd]
    refine H _ ⟨s.1, fun j hj => ?_⟩ ⟨_, _, rfl⟩
    rw [jh_Ls, jh_Ln (by omega)]
    dsimp only
    rw [← s.2 j hj]
    unfold pH
    by_cases g2 : j < 64
    · rw [if_pos g2, if_pos g2, bH_or, bH_one g]
    · rw [if_neg g2, if_neg g2, decide_eq_false (by omega), Bool.or_false]
  · rw [if_neg (show ¬ nI i < 64 from nI_nlt (b := 64) (by omega) (by omega))]
    refine b_X2_put_21 hG ?_
    dsimp only [q_X2_put_21, j_wp, j_opB, j_opA, j_nth, j_i1, j_i2, j_l1, j_l2, j_li, j_f1, j_f2, j_d1, j_d2, j_r1, j_ai, j_aii, j_ail, j_aid, j_air, j_st1, j_st2, j_stu, j_kl, j_cond, j_args, j_out, j_few, j_cw, j_nat, j_pad, j_exp, Nat.reduceAdd]
    simp only [s.1, j_ref, j_ari, j_arb, j_arr, j_len, j_nar, j_oi, j_ol, j_of, j_od, j_or, j_ov, true_and, and_true]
    have e : nI i - 64 = nI (i - 64) := pk_sub (a := i) (b := 64) (by omega)
    rw [e]
    refine b_X2_put_36 hG ?_
    dsimp only [q_X2_put_36, j_wp, j_opB, j_opA, j_nth, j_i1, j_i2, j_l1, j_l2, j_li, j_f1, j_f2, j_d1, j_d2, j_r1, j_ai, j_aii, j_ail, j_aid, j_air, j_st1, j_st2, j_stu, j_kl, j_cond, j_args, j_out, j_few, j_cw, j_nat, j_pad, j_exp, Nat.reduceAdd]
    refine H _ ⟨s.1, fun j hj => ?_⟩ ⟨_, _, rfl⟩
    rw [jh_Ls, jh_Ln (by omega)]
    dsimp only
    rw [← s.2 j hj]
    unfold pH
    by_cases g2 : j < 64
    · rw [if_pos g2, if_pos g2, decide_eq_false (by omega), Bool.or_false]
    · rw [if_neg g2, if_neg g2, bH_or, bH_one (by omega)]
      have : decide (j - 64 = i - 64) = decide (j = i) := decide_eq_decide.mpr (by omega)
      rw [this]
theorem lg_eq {a b : Int64} : lg_cmp a b = 0 ↔ a = b := by
  unfold lg_cmp
  constructor
  · intro z
    split at z
    · exact absurd z (by decide)
    · split at z
      · assumption
      · exact absurd z (by decide)
  · intro z
    subst z
    rw [if_neg (fun y => by have := Int64.lt_iff_toInt_lt.mp y; omega), if_pos rfl]
theorem sp_X2_has (hl : l.stackTraces = false) (s : PSt h q P) (hB : j_bd E h) {i : Nat} (hi : i < 100) (H : Q (.inl (some (.int (if P i = true then 1 else 0)))) h) : j_Met l D bs E (d + 1) n_X2_has [.ref q, .int (nI i)] h Q := by
  rw [← s.2 i hi] at H
  unfold pH at H
  refine j_meth hl rfl g_X2_has (Nat.le_of_ble_eq_true rfl) (fun _ => ⟨_, _, rfl, s.1⟩) hB.1 hB.2 (fun G hG => ?_)
  have fin : ∀ (v : Int64) (y2 y3 : Value) (b : Bool), decide (v &&& 1 = 1) = b → Q (.inl (some (.int (if b = true then 1 else 0)))) h → G 24 [.ref q, .int (nI i), y2, y3] [.long v] h := by
    intro v y2 y3 b e H
    subst e
    refine b_X2_has_24 hG ?_
    dsimp only [q_X2_has_24, j_wp, j_opB, j_opA, j_nth, j_i1, j_i2, j_l1, j_l2, j_li, j_f1, j_f2, j_d1, j_d2, j_r1, j_ai, j_aii, j_ail, j_aid, j_air, j_st1, j_st2, j_stu, j_kl, j_cond, j_args, j_out, j_few, j_cw, j_nat, j_pad, j_exp, Nat.reduceAdd]
    by_cases g : v &&& 1 = 1
    · rw [if_pos (lg_eq.mpr g)]
      rw [decide_eq_true g, if_pos rfl] at H
      refine b_X2_has_38 hG ?_
      dsimp only [q_X2_has_38, j_wp, j_opB, j_opA, j_nth, j_i1, j_i2, j_l1, j_l2, j_li, j_f1, j_f2, j_d1, j_d2, j_r1, j_ai, j_aii, j_ail, j_aid, j_air, j_st1, j_st2, j_stu, j_kl, j_cond, j_args, j_out, j_few, j_cw, j_nat, j_pad, j_exp, Nat.reduceAdd]
      exact ⟨Or.inr rfl, H⟩
    · rw [if_neg (fun z => g (lg_eq.mp z))]
      rw [decide_eq_false g, if_neg (by decide)] at H
      refine b_X2_has_37 hG ?_
      dsimp only [q_X2_has_37, j_wp, j_opB, j_opA, j_nth, j_i1, j_i2, j_l1, j_l2, j_li, j_f1, j_f2, j_d1, j_d2, j_r1, j_ai, j_aii, j_ail, j_aid, j_air, j_st1, j_st2, j_stu, j_kl, j_cond, j_args, j_out, j_few, j_cw, j_nat, j_pad, j_exp, Nat.reduceAdd]
      refine b_X2_has_38 hG ?_
      dsimp only [q_X2_has_38, j_wp, j_opB, j_opA, j_nth, j_i1, j_i2, j_l1, j_l2, j_li, j_f1, j_f2, j_d1, j_d2, j_r1, j_ai, j_aii, j_ail, j_aid, j_air, j_st1, j_st2, j_stu, j_kl, j_cond, j_args, j_out, j_few, j_cw, j_nat, j_pad, j_exp, Nat.reduceAdd]
      exact ⟨Or.inl rfl, H⟩
  refine b_X2_has_0 hG ?_
  dsimp only [q_X2_has_0, j_wp, j_opB, j_opA, j_nth, j_i1, j_i2, j_l1, j_l2, j_li, j_f1, j_f2, j_d1, j_d2, j_r1, j_ai, j_aii, j_ail, j_aid, j_air, j_st1, j_st2, j_stu, j_kl, j_cond, j_args, j_out, j_few, j_cw, j_nat, j_pad, j_exp, Nat.reduceAdd]
  simp only [s.1, j_ref, j_ari, j_arb, j_arr, j_len, j_nar, j_oi, j_ol, j_of, j_od, j_or, j_ov, true_and, and_true]
  by_cases g : i < 64
  · rw [if_pos (show nI i < 64 from nI_lt (b := 64) g (by omega))]
    rw [if_pos g] at H
    exact fin _ _ _ _ (bH_get _ g) H
  · rw [if_neg (show ¬ nI i < 64 from nI_nlt (b := 64) (by omega) (by omega))]
    rw [if_neg g] at H
    refine b_X2_has_15 hG ?_
    dsimp only [q_X2_has_15, j_wp, j_opB, j_opA, j_nth, j_i1, j_i2, j_l1, j_l2, j_li, j_f1, j_f2, j_d1, j_d2, j_r1, j_ai, j_aii, j_ail, j_aid, j_air, j_st1, j_st2, j_stu, j_kl, j_cond, j_args, j_out, j_few, j_cw, j_nat, j_pad, j_exp, Nat.reduceAdd]
    simp only [s.1, j_ref, j_ari, j_arb, j_arr, j_len, j_nar, j_oi, j_ol, j_of, j_od, j_or, j_ov, true_and, and_true]
    have e : nI i - 64 = nI (i - 64) := pk_sub (a := i) (b := 64) (by omega)
    rw [e]
    exact fin _ _ _ _ (bH_get _ (by omega)) H
theorem sp_X2_addAll (hl : l.stackTraces = false) {q' : Nat} (s : PSt h q P) (s' : PSt h q' P') (hne : q ≠ q') (hB : j_bd E h) (H : ∀ h', PSt h' q (fun j => P j || P' j) → (∃ v w, h' = j_setL (j_setL h q 0 v) q 1 w) → Q (.inl none) h') : j_Met l D bs E (d + 1) n_X2_addAll [.ref q, .ref q'] h Q := by
  refine j_meth hl rfl g_X2_addAll (Nat.le_of_ble_eq_true rfl) (fun _ => ⟨_, _, rfl, s.1⟩) hB.1 hB.2 (fun G hG => ?_)
  refine b_X2_addAll_0 hG ?_
  dsimp only [q_X2_addAll_0, j_wp, j_opB, j_opA, j_nth, j_i1, j_i2, j_l1, j_l2, j_li, j_f1, j_f2, j_d1, j_d2, j_r1, j_ai, j_aii, j_ail, j_aid, j_air, j_st1, j_st2, j_stu, j_kl, j_cond, j_args, j_out, j_few, j_cw, j_nat, j_pad, j_exp, Nat.reduceAdd]
  simp only [jh_shL, s.1, s'.1, j_ref, j_ari, j_arb, j_arr, j_len, j_nar, j_oi, j_ol, j_of, j_od, j_or, j_ov, true_and, and_true]
  refine H _ ⟨s.1, fun j hj => ?_⟩ ⟨_, _, rfl⟩
  have e0 : j_L (j_setL h q 0 (j_L h q 0 ||| j_L h q' 0)) q 1 = j_L h q 1 := jh_Ln (by omega)
  have e1 : j_L (j_setL h q 0 (j_L h q 0 ||| j_L h q' 0)) q' 1 = j_L h q' 1 := jh_Ln (by omega)
  rw [jh_Ls, jh_Ln (by omega), jh_Ls, e0, e1]
  dsimp only
  rw [← s.2 j hj, ← s'.2 j hj]
  unfold pH
  split <;> exact bH_or _ _ _
theorem sp_X2_keepAll (hl : l.stackTraces = false) {q' : Nat} (s : PSt h q P) (s' : PSt h q' P') (hne : q ≠ q') (hB : j_bd E h) (H : ∀ h', PSt h' q (fun j => P j && P' j) → (∃ v w, h' = j_setL (j_setL h q 0 v) q 1 w) → Q (.inl none) h') : j_Met l D bs E (d + 1) n_X2_keepAll [.ref q, .ref q'] h Q := by
  refine j_meth hl rfl g_X2_keepAll (Nat.le_of_ble_eq_true rfl) (fun _ => ⟨_, _, rfl, s.1⟩) hB.1 hB.2 (fun G hG => ?_)
  refine b_X2_keepAll_0 hG ?_
  dsimp only [q_X2_keepAll_0, j_wp, j_opB, j_opA, j_nth, j_i1, j_i2, j_l1, j_l2, j_li, j_f1, j_f2, j_d1, j_d2, j_r1, j_ai, j_aii, j_ail, j_aid, j_air, j_st1, j_st2, j_stu, j_kl, j_cond, j_args, j_out, j_few, j_cw, j_nat, j_pad, j_exp, Nat.reduceAdd]
  simp only [jh_shL, s.1, s'.1, j_ref, j_ari, j_arb, j_arr, j_len, j_nar, j_oi, j_ol, j_of, j_od, j_or, j_ov, true_and, and_true]
  refine H _ ⟨s.1, fun j hj => ?_⟩ ⟨_, _, rfl⟩
  have e0 : j_L (j_setL h q 0 (j_L h q 0 &&& j_L h q' 0)) q 1 = j_L h q 1 := jh_Ln (by omega)
  have e1 : j_L (j_setL h q 0 (j_L h q 0 &&& j_L h q' 0)) q' 1 = j_L h q' 1 := jh_Ln (by omega)
  rw [jh_Ls, jh_Ln (by omega), jh_Ls, e0, e1]
  dsimp only
  rw [← s.2 j hj, ← s'.2 j hj]
  unfold pH
  split <;> exact bH_and _ _ _
theorem sp_X2_invert (hl : l.stackTraces = false) (s : PSt h q P) (hB : j_bd E h) (H : ∀ h', PSt h' q (fun j => !P j) → (∃ v w, h' = j_setL (j_setL h q 0 v) q 1 w) → Q (.inl none) h') : j_Met l D bs E (d + 1) n_X2_invert [.ref q] h Q := by
  refine j_meth hl rfl g_X2_invert (Nat.le_of_ble_eq_true rfl) (fun _ => ⟨_, _, rfl, s.1⟩) hB.1 hB.2 (fun G hG => ?_)
  refine b_X2_invert_0 hG ?_
  dsimp only [q_X2_invert_0, j_wp, j_opB, j_opA, j_nth, j_i1, j_i2, j_l1, j_l2, j_li, j_f1, j_f2, j_d1, j_d2, j_r1, j_ai, j_aii, j_ail, j_aid, j_air, j_st1, j_st2, j_stu, j_kl, j_cond, j_args, j_out, j_few, j_cw, j_nat, j_pad, j_exp, Nat.reduceAdd]
  simp only [jh_shL, s.1, j_ref, j_ari, j_arb, j_arr, j_len, j_nar, j_oi, j_ol, j_of, j_od, j_or, j_ov, true_and, and_true]
  refine H _ ⟨s.1, fun j hj => ?_⟩ ⟨_, _, rfl⟩
  have e0 : j_L (j_setL h q 0 (j_L h q 0 ^^^ -1)) q 1 = j_L h q 1 := jh_Ln (by omega)
  rw [jh_Ls, jh_Ln (by omega), jh_Ls, e0]
  dsimp only
  rw [← s.2 j hj]
  unfold pH
  split
  · exact bH_not _ (by omega)
  · exact bH_not _ (by omega)
/-- how many of k packets from i on are in the set -/
def pCount (P : Nat → Bool) : Nat → Nat → Nat → Nat
  | 0, _, c => c
  | k + 1, i, c => pCount P k (i + 1) (if P i = true then c + 1 else c)
theorem sp_X2_countBelow (hl : l.stackTraces = false) (s : PSt h q P) (hB : j_bd E h) {n : Nat} (hn : n ≤ 100) (H : Q (.inl (some (.int (nI (pCount P n 0 0))))) h) : j_Met l D bs E (d + 2) n_X2_countBelow [.ref q, .int (nI n)] h Q := by
  refine j_meth hl rfl g_X2_countBelow (Nat.le_of_ble_eq_true rfl) (fun _ => ⟨_, _, rfl, s.1⟩) hB.1 hB.2 (fun G hG => ?_)
  have loop : ∀ (k i c : Nat), i + k = n → Q (.inl (some (.int (nI (pCount P k i c))))) h → G 4 [.ref q, .int (nI n), .int (nI c), .int (nI i)] [] h := by
    intro k
    induction k with
    | zero =>
      intro i c hi H
      refine b_X2_countBelow_4 hG ?_
      dsimp only [q_X2_countBelow_4, j_wp, j_opB, j_opA, j_nth, j_i1, j_i2, j_l1, j_l2, j_li, j_f1, j_f2, j_d1, j_d2, j_r1, j_ai, j_aii, j_ail, j_aid, j_air, j_st1, j_st2, j_stu, j_kl, j_cond, j_args, j_out, j_few, j_cw, j_nat, j_pad, j_exp, Nat.reduceAdd]
      rw [if_neg (nI_nlt (by omega) (by omega))]
      refine b_X2_countBelow_26 hG ?_
      dsimp only [q_X2_countBelow_26, j_wp, j_opB, j_opA, j_nth, j_i1, j_i2, j_l1, j_l2, j_li, j_f1, j_f2, j_d1, j_d2, j_r1, j_ai, j_aii, j_ail, j_aid, j_air, j_st1, j_st2, j_stu, j_kl, j_cond, j_args, j_out, j_few, j_cw, j_nat, j_pad, j_exp, Nat.reduceAdd]
      exact ⟨trivial, H⟩
    | succ k ih =>
      intro i c hi H
      unfold pCount at H
      refine b_X2_countBelow_4 hG ?_
      dsimp only [q_X2_countBelow_4, j_wp, j_opB, j_opA, j_nth, j_i1, j_i2, j_l1, j_l2, j_li, j_f1, j_f2, j_d1, j_d2, j_r1, j_ai, j_aii, j_ail, j_aid, j_air, j_st1, j_st2, j_stu, j_kl, j_cond, j_args, j_out, j_few, j_cw, j_nat, j_pad, j_exp, Nat.reduceAdd]
      rw [if_pos (nI_lt (by omega) (by omega))]
      refine sp_X2_has hl s hB (i := i) (by omega) ?_
      simp only [j_ref, j_ari, j_arb, j_arr, j_len, j_nar, j_oi, j_ol, j_of, j_od, j_or, j_ov, true_and, and_true]
      by_cases g : P i = true
      · simp only [g, if_true] at H ⊢
        rw [if_neg (by decide)]
        refine b_X2_countBelow_20 hG ?_
        dsimp only [q_X2_countBelow_20, j_wp, j_opB, j_opA, j_nth, j_i1, j_i2, j_l1, j_l2, j_li, j_f1, j_f2, j_d1, j_d2, j_r1, j_ai, j_aii, j_ail, j_aid, j_air, j_st1, j_st2, j_stu, j_kl, j_cond, j_args, j_out, j_few, j_cw, j_nat, j_pad, j_exp, Nat.reduceAdd]
        rw [nI_1, nI_1]
        exact ih (i + 1) (c + 1) (by omega) H
      · simp only [g, if_false, Bool.false_eq_true, if_true] at H ⊢
        refine b_X2_countBelow_20 hG ?_
        dsimp only [q_X2_countBelow_20, j_wp, j_opB, j_opA, j_nth, j_i1, j_i2, j_l1, j_l2, j_li, j_f1, j_f2, j_d1, j_d2, j_r1, j_ai, j_aii, j_ail, j_aid, j_air, j_st1, j_st2, j_stu, j_kl, j_cond, j_args, j_out, j_few, j_cw, j_nat, j_pad, j_exp, Nat.reduceAdd]
        rw [nI_1]
        exact ih (i + 1) c (by omega) H
  refine b_X2_countBelow_0 hG ?_
  dsimp only [q_X2_countBelow_0, j_wp, j_opB, j_opA, j_nth, j_i1, j_i2, j_l1, j_l2, j_li, j_f1, j_f2, j_d1, j_d2, j_r1, j_ai, j_aii, j_ail, j_aid, j_air, j_st1, j_st2, j_stu, j_kl, j_cond, j_args, j_out, j_few, j_cw, j_nat, j_pad, j_exp, Nat.reduceAdd]
  exact loop n 0 0 (by omega) H
def pFirst (P : Nat → Bool) : Nat → Nat → Int32
  | 0, _ => -1
  | k + 1, i => if P i = true then nI i else pFirst P k (i + 1)
theorem sp_X2_firstBelow (hl : l.stackTraces = false) (s : PSt h q P) (hB : j_bd E h) {n : Nat} (hn : n ≤ 100) (H : Q (.inl (some (.int (pFirst P n 0)))) h) : j_Met l D bs E (d + 2) n_X2_firstBelow [.ref q, .int (nI n)] h Q := by
  refine j_meth hl rfl g_X2_firstBelow (Nat.le_of_ble_eq_true rfl) (fun _ => ⟨_, _, rfl, s.1⟩) hB.1 hB.2 (fun G hG => ?_)
  have loop : ∀ (k i : Nat), i + k = n → Q (.inl (some (.int (pFirst P k i)))) h → G 2 [.ref q, .int (nI n), .int (nI i)] [] h := by
    intro k
    induction k with
    | zero =>
      intro i hi H
      refine b_X2_firstBelow_2 hG ?_
      dsimp only [q_X2_firstBelow_2, j_wp, j_opB, j_opA, j_nth, j_i1, j_i2, j_l1, j_l2, j_li, j_f1, j_f2, j_d1, j_d2, j_r1, j_ai, j_aii, j_ail, j_aid, j_air, j_st1, j_st2, j_stu, j_kl, j_cond, j_args, j_out, j_few, j_cw, j_nat, j_pad, j_exp, Nat.reduceAdd]
      rw [if_neg (nI_nlt (by omega) (by omega))]
      refine b_X2_firstBelow_23 hG ?_
      dsimp only [q_X2_firstBelow_23, j_wp, j_opB, j_opA, j_nth, j_i1, j_i2, j_l1, j_l2, j_li, j_f1, j_f2, j_d1, j_d2, j_r1, j_ai, j_aii, j_ail, j_aid, j_air, j_st1, j_st2, j_stu, j_kl, j_cond, j_args, j_out, j_few, j_cw, j_nat, j_pad, j_exp, Nat.reduceAdd]
      exact ⟨trivial, H⟩
    | succ k ih =>
      intro i hi H
      unfold pFirst at H
      refine b_X2_firstBelow_2 hG ?_
      dsimp only [q_X2_firstBelow_2, j_wp, j_opB, j_opA, j_nth, j_i1, j_i2, j_l1, j_l2, j_li, j_f1, j_f2, j_d1, j_d2, j_r1, j_ai, j_aii, j_ail, j_aid, j_air, j_st1, j_st2, j_stu, j_kl, j_cond, j_args, j_out, j_few, j_cw, j_nat, j_pad, j_exp, Nat.reduceAdd]
      rw [if_pos (nI_lt (by omega) (by omega))]
      refine sp_X2_has hl s hB (i := i) (by omega) ?_
      simp only [j_ref, j_ari, j_arb, j_arr, j_len, j_nar, j_oi, j_ol, j_of, j_od, j_or, j_ov, true_and, and_true]
      by_cases g : P i = true
      · simp only [g, if_true] at H ⊢
        rw [if_neg (by decide)]
        exact H
      · simp only [g, if_false, Bool.false_eq_true, if_true] at H ⊢
        refine b_X2_firstBelow_17 hG ?_
        dsimp only [q_X2_firstBelow_17, j_wp, j_opB, j_opA, j_nth, j_i1, j_i2, j_l1, j_l2, j_li, j_f1, j_f2, j_d1, j_d2, j_r1, j_ai, j_aii, j_ail, j_aid, j_air, j_st1, j_st2, j_stu, j_kl, j_cond, j_args, j_out, j_few, j_cw, j_nat, j_pad, j_exp, Nat.reduceAdd]
        rw [nI_1]
        exact ih (i + 1) (by omega) H
  refine b_X2_firstBelow_0 hG ?_
  dsimp only [q_X2_firstBelow_0, j_wp, j_opB, j_opA, j_nth, j_i1, j_i2, j_l1, j_l2, j_li, j_f1, j_f2, j_d1, j_d2, j_r1, j_ai, j_aii, j_ail, j_aid, j_air, j_st1, j_st2, j_stu, j_kl, j_cond, j_args, j_out, j_few, j_cw, j_nat, j_pad, j_exp, Nat.reduceAdd]
  exact loop n 0 (by omega) H
end PS1
