/-! ===== Link: copying, beginning ===== -/
section Cpy
variable {l : Launch} {D : va_G} {bs : Nat} {E : j_E} {h0 h : j_H} {a b : Nat} {L K : Lnk} {d : Nat} {Q : j_O → j_H → Prop} {kp : Nat} {lt : Int32} {R : Nat → Nat → Int32}
theorem TB_away {h h' : j_H} {lo hi t c w n : Nat} (hT : TB h t c w n) (hF : Fr lo hi h h') (h1 : t < lo ∨ hi ≤ t) : TB h' t c w n := by
  obtain ⟨t1, t2, t3, t4, t5⟩ := hT
  obtain ⟨f1, f2, f3, f4, f5, f6, f7, f8⟩ := hF
  exact ⟨by rw [f1]; exact t1, by rw [f7 _ _ h1]; exact t2, by rw [f2]; exact t3, by rw [f1]; exact t4, t5⟩
theorem LK_away {h h' : j_H} {lo hi : Nat} (hL : LK h b K) (hF : Fr lo hi h h') (hd : b + 11 ≤ lo ∨ hi ≤ b) : LK h' b K := by
  obtain ⟨⟨l1, l2, l3, l4, l5, l6, l7, l8, l9, l10, l11, l12, l13⟩, h1, h2, h3, h4, h5⟩ := hL
  have f := hF
  obtain ⟨f1, f2, f3, f4, f5, f6, f7, f8⟩ := hF
  refine ⟨⟨by rw [f1]; exact l1, by rw [f2]; exact l2, by rw [f2]; exact l3, by rw [f2]; exact l4, by rw [f2]; exact l5, by rw [f2]; exact l6, TB_away l7 f (by omega), by rw [f1]; exact l8, TB_away l9 f (by omega), TB_away l10 f (by omega), by rw [f1]; exact l11, by rw [f2]; exact l12, TB_away l13 f (by omega)⟩, ?_, ?_, ?_, ?_, ?_⟩
  · intro k g1 g2; rw [f7 _ _ (by omega)]; exact h1 k g1 g2
  · intro r k g1 g2; rw [f7 _ _ (by omega)]; exact h2 r k g1 g2
  · intro r k g1 g2; rw [f7 _ _ (by omega)]; exact h3 r k g1 g2
  · intro r k g1 g2; rw [f7 _ _ (by omega)]; exact h4 r k g1 g2
  · intro k g1; rw [f8 _ _ (by omega)]; exact h5 k g1
theorem RK_away {h h' : j_H} {lo hi : Nat} (hR : RK h b kp lt R) (hF : Fr lo hi h h') (hd : b + 11 ≤ lo ∨ hi ≤ b) : RK h' b kp lt R := by
  obtain ⟨r1, r2, r3⟩ := hR
  obtain ⟨f1, f2, f3, f4, f5, f6, f7, f8⟩ := hF
  exact ⟨by rw [f7 _ _ (by omega)]; exact r1, by rw [f7 _ _ (by omega)]; exact r2, fun r k g1 g2 => by rw [f7 _ _ (by omega)]; exact r3 r k g1 g2⟩
theorem LR_mono {h0' : j_H} (s : LR E h0 a L kp lt R h) (hF : Fr a (a + 11) h0' h0) : LR E h0' a L kp lt R h := ⟨s.1, s.2.1, Fr_tr hF s.2.2.1, s.2.2.2⟩
theorem Fr_row {lo hi : Nat} {h h' : j_H} {c : Nat} {g : Nat → Int32} (hF : Fr lo hi h h') (h1 : lo ≤ c) (h2 : c < hi) : Fr lo hi h (j_rowI h' c g) := by
  obtain ⟨f1, f2, f3, f4, f5, f6, f7, f8⟩ := hF
  refine ⟨f1, f2, f3, f4, f5, f6, fun b k z => ?_, f8⟩
  show (if b = c then g k else j_I h' b k) = _
  rw [if_neg (by omega)]
  exact f7 b k z
theorem jh_row (h : j_H) (c b j : Nat) (g : Nat → Int32) : j_I (j_rowI h c g) b j = if b = c then g j else j_I h b j := rfl
theorem TB_row {h : j_H} {t c w n b : Nat} {g : Nat → Int32} (hT : TB h t c w n) (hb : b ≠ t) : TB (j_rowI h b g) t c w n := by
  obtain ⟨t1, t2, t3, t4, t5⟩ := hT
  exact ⟨t1, by rw [jh_row, if_neg (fun z => hb z.symm)]; exact t2, t3, t4, t5⟩
theorem lk_row {h : j_H} {a b : Nat} {g : Nat → Int32} (hL : lk h a) (h1 : b ≠ a + 1) (h2 : b ≠ a + 4) (h3 : b ≠ a + 6) (h4 : b ≠ a + 9) : lk (j_rowI h b g) a := by
  obtain ⟨l1, l2, l3, l4, l5, l6, l7, l8, l9, l10, l11, l12, l13⟩ := hL
  exact ⟨l1, l2, l3, l4, l5, l6, TB_row l7 h1, l8, TB_row l9 h2, TB_row l10 h3, l11, l12, TB_row l13 h4⟩
/-- tables as they are behind copying n rows -/
def cpR (n : Nat) (F G : Nat → Nat → Int32) : Nat → Nat → Int32 := fun r k => if r < n then F r k else G r k
theorem va_cpy0 {f g : Nat → Int32} {n i : Nat} : va_cpy f g 0 0 n i = if i < n then f i else g i := by
  unfold va_cpy
  by_cases e : i < n
  · rw [if_pos (by omega), if_pos e]
    congr 1
    omega
  · rw [if_neg (by omega), if_neg e]
theorem mulw {r k w n : Nat} (hk : k < w) : r * w + k < n * w ↔ r < n := by
  constructor
  · intro h
    refine Nat.lt_of_not_le (fun z => ?_)
    have := Nat.mul_le_mul_right w z
    omega
  · intro h
    have := Nat.mul_le_mul_right w (show r + 1 ≤ n from h)
    rw [Nat.succ_mul] at this
    omega
theorem cp_val {f g : Nat → Int32} {F G : Nat → Nat → Int32} {w m n r k : Nat} (hf : ∀ r k, r < m → k < w → f (r * w + k) = F r k) (hg : ∀ r k, r < m → k < w → g (r * w + k) = G r k) (hr : r < m) (hk : k < w) : va_cpy f g 0 0 (n * w) (r * w + k) = cpR n F G r k := by
  rw [va_cpy0]
  unfold cpR
  by_cases e : r < n
  · rw [if_pos ((mulw hk).mpr e), if_pos e]; exact hf r k hr hk
  · rw [if_neg (fun z => e ((mulw hk).mp z)), if_neg e]; exact hg r k hr hk
def lcF (L : Lnk) (n : Nat) (F : Nat → Nat → Int32) : Lnk := (L.1, cpR n F L.2.1, L.2.2)
def lcP (L : Lnk) (n : Nat) (F : Nat → Nat → Int32) : Lnk := (L.1, L.2.1, cpR n F L.2.2.1, L.2.2.2)
def lcS (L : Lnk) (n : Nat) (F : Nat → Nat → Int32) : Lnk := (L.1, L.2.1, L.2.2.1, cpR n F L.2.2.2.1, L.2.2.2.2)

theorem LQ_cF (s : LQ E h0 a L h) (hb : LK h b K) (n : Nat) : LQ E h0 a (lcF L n (lF K)) (j_rowI h (a + 2) (va_cpy (j_I h (b + 2)) (j_I h (a + 2)) 0 0 (n * 19))) := by
  obtain ⟨⟨h0, h1, h2, h3, h4, h5⟩, s2, s3⟩ := s
  refine ⟨⟨lk_row h0 (by omega) (by omega) (by omega) (by omega), fun j g1 g2 => ?_, fun r j g1 g2 => ?_, fun r j g1 g2 => ?_, fun r j g1 g2 => ?_, h5⟩, Fr_row s2 (by omega) (by omega), s3⟩
  · rw [jh_row, if_neg (by omega)]; exact h1 j g1 g2
  · rw [jh_row, if_pos rfl]; exact cp_val (m := 6) hb.2.2.1 h2 g1 g2
  · rw [jh_row, if_neg (by omega)]; exact h3 r j g1 g2
  · rw [jh_row, if_neg (by omega)]; exact h4 r j g1 g2
theorem LQ_cP (s : LQ E h0 a L h) (hb : LK h b K) (n : Nat) : LQ E h0 a (lcP L n (lP K)) (j_rowI h (a + 5) (va_cpy (j_I h (b + 5)) (j_I h (a + 5)) 0 0 (n * 11))) := by
  obtain ⟨⟨h0, h1, h2, h3, h4, h5⟩, s2, s3⟩ := s
  refine ⟨⟨lk_row h0 (by omega) (by omega) (by omega) (by omega), fun j g1 g2 => ?_, fun r j g1 g2 => ?_, fun r j g1 g2 => ?_, fun r j g1 g2 => ?_, h5⟩, Fr_row s2 (by omega) (by omega), s3⟩
  · rw [jh_row, if_neg (by omega)]; exact h1 j g1 g2
  · rw [jh_row, if_neg (by omega)]; exact h2 r j g1 g2
  · rw [jh_row, if_pos rfl]; exact cp_val (m := 100) hb.2.2.2.1 h3 g1 g2
  · rw [jh_row, if_neg (by omega)]; exact h4 r j g1 g2
theorem LQ_cS (s : LQ E h0 a L h) (hb : LK h b K) (n : Nat) : LQ E h0 a (lcS L n (lS K)) (j_rowI h (a + 7) (va_cpy (j_I h (b + 7)) (j_I h (a + 7)) 0 0 (n * 6))) := by
  obtain ⟨⟨h0, h1, h2, h3, h4, h5⟩, s2, s3⟩ := s
  refine ⟨⟨lk_row h0 (by omega) (by omega) (by omega) (by omega), fun j g1 g2 => ?_, fun r j g1 g2 => ?_, fun r j g1 g2 => ?_, fun r j g1 g2 => ?_, h5⟩, Fr_row s2 (by omega) (by omega), s3⟩
  · rw [jh_row, if_neg (by omega)]; exact h1 j g1 g2
  · rw [jh_row, if_neg (by omega)]; exact h2 r j g1 g2
  · rw [jh_row, if_neg (by omega)]; exact h3 r j g1 g2
  · rw [jh_row, if_pos rfl]; exact cp_val (m := 300) hb.2.2.2.2.1 h4 g1 g2
theorem LB_sh (k : LK h b K) : j_sh h b = some (.inr 3) := k.1.1
theorem LB_R0 (k : LK h b K) : j_R h b 0 = some (b + 1) := k.1.2.1
theorem LB_R2 (k : LK h b K) : j_R h b 2 = some (b + 4) := k.1.2.2.2.1
theorem LB_R3 (k : LK h b K) : j_R h b 3 = some (b + 6) := k.1.2.2.2.2.1
theorem LB_R4 (k : LK h b K) : j_R h b 4 = some (b + 8) := k.1.2.2.2.2.2.1
theorem LB_tF (k : LK h b K) : TB h (b + 1) (b + 2) 19 114 := k.1.2.2.2.2.2.2.1
theorem LB_tP (k : LK h b K) : TB h (b + 4) (b + 5) 11 1100 := k.1.2.2.2.2.2.2.2.2.1
theorem LB_tS (k : LK h b K) : TB h (b + 6) (b + 7) 6 1800 := k.1.2.2.2.2.2.2.2.2.2.1
theorem LB_x (k : LK h b K) (i : Nat) (h1 : 5 ≤ i) (h2 : i < 17) : j_I h b i = lX K i := k.2.1 i h1 h2
def lCpX (L K : Lnk) : Lnk := lsX (lsX (lsX (lsX (lsX (lsX (lsX (lsX (lsX (lsX (lsX (lsX (L) 5 (lX K 5)) 6 (lX K 6)) 7 (lX K 7)) 8 (lX K 8)) 9 (lX K 9)) 10 (lX K 10)) 11 (lX K 11)) 12 (lX K 12)) 13 (lX K 13)) 14 (lX K 14)) 15 (lX K 15)) 16 (lX K 16)
theorem lCpX_x (L K : Lnk) (k : Nat) (h1 : 5 ≤ k) (h2 : k < 17) : lX (lCpX L K) k = lX K k := by
  match k, h1, h2 with
  | 5, _, _ => simp [lCpX, lX_s]
  | 6, _, _ => simp [lCpX, lX_s]
  | 7, _, _ => simp [lCpX, lX_s]
  | 8, _, _ => simp [lCpX, lX_s]
  | 9, _, _ => simp [lCpX, lX_s]
  | 10, _, _ => simp [lCpX, lX_s]
  | 11, _, _ => simp [lCpX, lX_s]
  | 12, _, _ => simp [lCpX, lX_s]
  | 13, _, _ => simp [lCpX, lX_s]
  | 14, _, _ => simp [lCpX, lX_s]
  | 15, _, _ => simp [lCpX, lX_s]
  | 16, _, _ => simp [lCpX, lX_s]
  | 0, h, _ | 1, h, _ | 2, h, _ | 3, h, _ | 4, h, _ => omega
  | k + 17, _, h => omega
def lCpV (K : Lnk) : Nat → Nat → Lnk → Lnk
  | 0, _, L => L
  | k + 1, f, L => lCpV K k (f + 1) (lsV L f (lV K f))
/-- the link L behind taking over K's traffic -/
def lCopy (L K : Lnk) (nf np ns : Nat) : Lnk := lCpV K nf 0 (lcS (lcP (lcF (lCpX L K) nf (lF K)) np (lP K)) ns (lS K))
set_option maxRecDepth 16000 in
theorem sp_X1_copyTraffic (hl : l.stackTraces = false) (s0 : LQ E h0 a L h) (k0 : LK h b K) (hd : b + 11 ≤ a ∨ a + 11 ≤ b) {nf np ns : Nat} (hnf : nf ≤ 6) (hnp : np ≤ 100) (hns : ns ≤ 300) (hx5 : lX K 5 = nI nf) (hx9 : lX K 9 = nI np) (hx10 : lX K 10 = nI ns) (H : ∀ h', LQ E h0 a (lCopy L K nf np ns) h' → Q (.inl none) h') : j_Met l D bs E (d + 2) n_X1_copyTraffic [.ref a, .ref b] h Q := by
  have hB := s0.2.2
  have kb : ∀ {h' : j_H} {L' : Lnk}, LQ E h a L' h' → LK h' b K := fun q => LK_away k0 q.2.1 (by omega)
  have up : ∀ {h' : j_H} {L' : Lnk}, LQ E h a L' h' → LQ E h0 a L' h' := fun q => ⟨q.1, Fr_tr s0.2.1 q.2.1, q.2.2⟩
  have s : LQ E h a L h := ⟨s0.1, Fr_rf, s0.2.2⟩
  have loop : ∀ {G : j_G}, j_clo (j_Met l D bs E (d + 1)) E Q m_X1_copyTraffic G → ∀ (k f : Nat) (L1 : Lnk) (h1 : j_H), f + k = nf → lX L1 5 = nI nf → LQ E h a L1 h1 → (∀ h', LQ E h0 a (lCpV K k f L1) h' → Q (.inl none) h') → G 143 [.ref a, .ref b, .int (nI f)] [] h1 := by
    intro G hG k
    induction k with
    | zero =>
      intro f L1 h1 hf hx s1 H
      refine b_X1_copyTraffic_143 hG ?_
      dsimp only [q_X1_copyTraffic_143, j_wp, j_opB, j_opA, j_nth, j_i1, j_i2, j_l1, j_l2, j_li, j_f1, j_f2, j_d1, j_d2, j_r1, j_ai, j_aii, j_ail, j_aid, j_air, j_st1, j_st2, j_stu, j_kl, j_cond, j_args, j_out, j_few, j_cw, j_nat, j_pad, j_exp, Nat.reduceAdd]
      simp only [LQ_sh s1, LQ_R0 s1, LQ_R1 s1, LQ_R2 s1, LQ_R3 s1, LQ_R4 s1, j_ref, j_ari, j_arb, j_arr, j_len, j_nar, j_oi, j_ol, j_of, j_od, j_or, j_ov, true_and, and_true, LQ_x5 s1, hx]
      rw [if_neg (nI_nlt (by omega) (by omega))]
      refine b_X1_copyTraffic_167 hG ?_
      dsimp only [q_X1_copyTraffic_167, j_wp, j_opB, j_opA, j_nth, j_i1, j_i2, j_l1, j_l2, j_li, j_f1, j_f2, j_d1, j_d2, j_r1, j_ai, j_aii, j_ail, j_aid, j_air, j_st1, j_st2, j_stu, j_kl, j_cond, j_args, j_out, j_few, j_cw, j_nat, j_pad, j_exp, Nat.reduceAdd]
      exact H h1 (up s1)
    | succ k ih =>
      intro f L1 h1 hf hx s1 H
      refine b_X1_copyTraffic_143 hG ?_
      dsimp only [q_X1_copyTraffic_143, j_wp, j_opB, j_opA, j_nth, j_i1, j_i2, j_l1, j_l2, j_li, j_f1, j_f2, j_d1, j_d2, j_r1, j_ai, j_aii, j_ail, j_aid, j_air, j_st1, j_st2, j_stu, j_kl, j_cond, j_args, j_out, j_few, j_cw, j_nat, j_pad, j_exp, Nat.reduceAdd]
      simp only [LQ_sh s1, LQ_R0 s1, LQ_R1 s1, LQ_R2 s1, LQ_R3 s1, LQ_R4 s1, j_ref, j_ari, j_arb, j_arr, j_len, j_nar, j_oi, j_ol, j_of, j_od, j_or, j_ov, true_and, and_true, LQ_x5 s1, hx]
      rw [if_pos (nI_lt (by omega) (by omega))]
      refine sp_X1_virtualOf hl s1.2.2 (kb s1) (f := f) (by omega) ?_
      simp only [j_ref, j_ari, j_arb, j_arr, j_len, j_nar, j_oi, j_ol, j_of, j_od, j_or, j_ov, true_and, and_true]
      refine lz_put hl s1 (f := f) (by omega) (fun h2 s2 => ?_)
      simp only [j_ref, j_ari, j_arb, j_arr, j_len, j_nar, j_oi, j_ol, j_of, j_od, j_or, j_ov, true_and, and_true]
      rw [nI_1]
      exact ih (f + 1) (lsV L1 f (lV K f)) h2 (by omega) hx s2 H
  refine j_meth hl rfl g_X1_copyTraffic (Nat.le_of_ble_eq_true rfl) (fun _ => ⟨_, _, rfl, (LQ_sh s)⟩) hB.1 hB.2 (fun G hG => ?_)
  refine b_X1_copyTraffic_0 hG ?_
  dsimp only [q_X1_copyTraffic_0, j_wp, j_opB, j_opA, j_nth, j_i1, j_i2, j_l1, j_l2, j_li, j_f1, j_f2, j_d1, j_d2, j_r1, j_ai, j_aii, j_ail, j_aid, j_air, j_st1, j_st2, j_stu, j_kl, j_cond, j_args, j_out, j_few, j_cw, j_nat, j_pad, j_exp, Nat.reduceAdd]
  simp only [LQ_sh s, LQ_R0 s, LQ_R1 s, LQ_R2 s, LQ_R3 s, LQ_R4 s, j_ref, j_ari, j_arb, j_arr, j_len, j_nar, j_oi, j_ol, j_of, j_od, j_or, j_ov, true_and, and_true, LB_sh (kb s), LB_x (kb s) 5 (by omega) (by omega)]
  have s5 := LQ_X s 5 (lX K 5)
  simp only [LQ_sh s5, LQ_R0 s5, LQ_R1 s5, LQ_R2 s5, LQ_R3 s5, LQ_R4 s5, j_ref, j_ari, j_arb, j_arr, j_len, j_nar, j_oi, j_ol, j_of, j_od, j_or, j_ov, true_and, and_true, LB_sh (kb s5), LB_x (kb s5) 6 (by omega) (by omega)]
  have s6 := LQ_X s5 6 (lX K 6)
  simp only [LQ_sh s6, LQ_R0 s6, LQ_R1 s6, LQ_R2 s6, LQ_R3 s6, LQ_R4 s6, j_ref, j_ari, j_arb, j_arr, j_len, j_nar, j_oi, j_ol, j_of, j_od, j_or, j_ov, true_and, and_true, LB_sh (kb s6), LB_x (kb s6) 7 (by omega) (by omega)]
  have s7 := LQ_X s6 7 (lX K 7)
  simp only [LQ_sh s7, LQ_R0 s7, LQ_R1 s7, LQ_R2 s7, LQ_R3 s7, LQ_R4 s7, j_ref, j_ari, j_arb, j_arr, j_len, j_nar, j_oi, j_ol, j_of, j_od, j_or, j_ov, true_and, and_true, LB_sh (kb s7), LB_x (kb s7) 8 (by omega) (by omega)]
  have s8 := LQ_X s7 8 (lX K 8)
  simp only [LQ_sh s8, LQ_R0 s8, LQ_R1 s8, LQ_R2 s8, LQ_R3 s8, LQ_R4 s8, j_ref, j_ari, j_arb, j_arr, j_len, j_nar, j_oi, j_ol, j_of, j_od, j_or, j_ov, true_and, and_true, LB_sh (kb s8), LB_x (kb s8) 9 (by omega) (by omega)]
  have s9 := LQ_X s8 9 (lX K 9)
  simp only [LQ_sh s9, LQ_R0 s9, LQ_R1 s9, LQ_R2 s9, LQ_R3 s9, LQ_R4 s9, j_ref, j_ari, j_arb, j_arr, j_len, j_nar, j_oi, j_ol, j_of, j_od, j_or, j_ov, true_and, and_true, LB_sh (kb s9), LB_x (kb s9) 10 (by omega) (by omega)]
  have s10 := LQ_X s9 10 (lX K 10)
  simp only [LQ_sh s10, LQ_R0 s10, LQ_R1 s10, LQ_R2 s10, LQ_R3 s10, LQ_R4 s10, j_ref, j_ari, j_arb, j_arr, j_len, j_nar, j_oi, j_ol, j_of, j_od, j_or, j_ov, true_and, and_true, LB_sh (kb s10), LB_x (kb s10) 11 (by omega) (by omega)]
  have s11 := LQ_X s10 11 (lX K 11)
  simp only [LQ_sh s11, LQ_R0 s11, LQ_R1 s11, LQ_R2 s11, LQ_R3 s11, LQ_R4 s11, j_ref, j_ari, j_arb, j_arr, j_len, j_nar, j_oi, j_ol, j_of, j_od, j_or, j_ov, true_and, and_true, LB_sh (kb s11), LB_x (kb s11) 12 (by omega) (by omega)]
  have s12 := LQ_X s11 12 (lX K 12)
  simp only [LQ_sh s12, LQ_R0 s12, LQ_R1 s12, LQ_R2 s12, LQ_R3 s12, LQ_R4 s12, j_ref, j_ari, j_arb, j_arr, j_len, j_nar, j_oi, j_ol, j_of, j_od, j_or, j_ov, true_and, and_true, LB_sh (kb s12), LB_x (kb s12) 13 (by omega) (by omega)]
  have s13 := LQ_X s12 13 (lX K 13)
  simp only [LQ_sh s13, LQ_R0 s13, LQ_R1 s13, LQ_R2 s13, LQ_R3 s13, LQ_R4 s13, j_ref, j_ari, j_arb, j_arr, j_len, j_nar, j_oi, j_ol, j_of, j_od, j_or, j_ov, true_and, and_true, LB_sh (kb s13), LB_x (kb s13) 14 (by omega) (by omega)]
  have s14 := LQ_X s13 14 (lX K 14)
  simp only [LQ_sh s14, LQ_R0 s14, LQ_R1 s14, LQ_R2 s14, LQ_R3 s14, LQ_R4 s14, j_ref, j_ari, j_arb, j_arr, j_len, j_nar, j_oi, j_ol, j_of, j_od, j_or, j_ov, true_and, and_true, LB_sh (kb s14), LB_x (kb s14) 15 (by omega) (by omega)]
  have s15 := LQ_X s14 15 (lX K 15)
  simp only [LQ_sh s15, LQ_R0 s15, LQ_R1 s15, LQ_R2 s15, LQ_R3 s15, LQ_R4 s15, j_ref, j_ari, j_arb, j_arr, j_len, j_nar, j_oi, j_ol, j_of, j_od, j_or, j_ov, true_and, and_true, LB_sh (kb s15), LB_x (kb s15) 16 (by omega) (by omega)]
  have s16 := LQ_X s15 16 (lX K 16)
  have y5 : lX (lCpX L K) 5 = nI nf := by rw [lCpX_x _ _ 5 (by omega) (by omega)]; exact hx5
  have y9 : lX (lCpX L K) 9 = nI np := by rw [lCpX_x _ _ 9 (by omega) (by omega)]; exact hx9
  have y10 : lX (lCpX L K) 10 = nI ns := by rw [lCpX_x _ _ 10 (by omega) (by omega)]; exact hx10
  have t : LQ E h a (lCpX L K) _ := s16
  clear s5 s6 s7 s8 s9 s10 s11 s12 s13 s14 s15 s16
  simp only [LQ_sh t, LQ_R0 t, LQ_R1 t, LQ_R2 t, LQ_R3 t, LQ_R4 t, j_ref, j_ari, j_arb, j_arr, j_len, j_nar, j_oi, j_ol, j_of, j_od, j_or, j_ov, true_and, and_true, LB_sh (kb t), LB_R0 (kb t), LQ_x5 t, y5]
  refine sp_X6_copyRows hl t.2.2 (LQ_tF t) (LB_tF (kb t)) (by omega) (r := nf) (by omega) ?_
  have t1 := LQ_cF t (kb t) nf
  simp only [LQ_sh t1, LQ_R0 t1, LQ_R1 t1, LQ_R2 t1, LQ_R3 t1, LQ_R4 t1, j_ref, j_ari, j_arb, j_arr, j_len, j_nar, j_oi, j_ol, j_of, j_od, j_or, j_ov, true_and, and_true, LB_sh (kb t1), LB_R2 (kb t1), LQ_x9 t1, show lX (lcF (lCpX L K) nf (lF K)) 9 = nI np from y9]
  refine sp_X6_copyRows hl t1.2.2 (LQ_tP t1) (LB_tP (kb t1)) (by omega) (r := np) (by omega) ?_
  have t2 := LQ_cP t1 (kb t1) np
  simp only [LQ_sh t2, LQ_R0 t2, LQ_R1 t2, LQ_R2 t2, LQ_R3 t2, LQ_R4 t2, j_ref, j_ari, j_arb, j_arr, j_len, j_nar, j_oi, j_ol, j_of, j_od, j_or, j_ov, true_and, and_true, LB_sh (kb t2), LB_R3 (kb t2), LQ_x10 t2, show lX (lcP (lcF (lCpX L K) nf (lF K)) np (lP K)) 10 = nI ns from y10]
  refine sp_X6_copyRows hl t2.2.2 (LQ_tS t2) (LB_tS (kb t2)) (by omega) (r := ns) (by omega) ?_
  have t3 := LQ_cS t2 (kb t2) ns
  simp only [LQ_sh t3, LQ_R0 t3, LQ_R1 t3, LQ_R2 t3, LQ_R3 t3, LQ_R4 t3, j_ref, j_ari, j_arb, j_arr, j_len, j_nar, j_oi, j_ol, j_of, j_od, j_or, j_ov, true_and, and_true]
  exact loop hG nf 0 (lcS (lcP (lcF (lCpX L K) nf (lF K)) np (lP K)) ns (lS K)) _ (by omega) y5 t3 H
variable {kp' : Nat} {lt' : Int32} {R' : Nat → Nat → Int32}
theorem LR_row (s : LR E h0 a L kp lt R h) {F : Nat → Nat → Int32} (n : Nat) (hF : ∀ r k, r < 128 → k < 7 → j_I h (b + 10) (r * 7 + k) = F r k) : LR E h0 a L kp lt (cpR n F R) (j_rowI h (a + 10) (va_cpy (j_I h (b + 10)) (j_I h (a + 10)) 0 0 (n * 7))) := by
  obtain ⟨⟨h0, h1, h2, h3, h4, h5⟩, ⟨r1, r2, r3⟩, s3, s4⟩ := s
  refine ⟨⟨lk_row h0 (by omega) (by omega) (by omega) (by omega), fun j g1 g2 => ?_, fun r j g1 g2 => ?_, fun r j g1 g2 => ?_, fun r j g1 g2 => ?_, h5⟩, ⟨?_, ?_, fun r j g1 g2 => ?_⟩, Fr_row s3 (by omega) (by omega), s4⟩
  · rw [jh_row, if_neg (by omega)]; exact h1 j g1 g2
  · rw [jh_row, if_neg (by omega)]; exact h2 r j g1 g2
  · rw [jh_row, if_neg (by omega)]; exact h3 r j g1 g2
  · rw [jh_row, if_neg (by omega)]; exact h4 r j g1 g2
  · rw [jh_row, if_neg (by omega)]; exact r1
  · rw [jh_row, if_neg (by omega)]; exact r2
  · rw [jh_row, if_pos rfl]; exact cp_val (m := 128) hF r3 g1 g2
theorem sp_X4_copyFrom (hl : l.stackTraces = false) (s : LR E h a L kp lt R h) (k0 : LK h b K) (r0 : RK h b kp' lt' R') (hd : b + 11 ≤ a ∨ a + 11 ≤ b) (hk : kp' ≤ 128) (H : ∀ h', LR E h a L kp' lt' (cpR kp' R' R) h' → Q (.inl none) h') : j_Met l D bs E (d + 2) n_X4_copyFrom [.ref (a + 8), .ref (b + 8)] h Q := by
  have hB := s.2.2.2
  have kb : ∀ {h' : j_H} {L' : Lnk} {x : Nat} {y : Int32} {z : Nat → Nat → Int32}, LR E h a L' x y z h' → LR E h' b K kp' lt' R' h' := fun q => ⟨LK_away k0 q.2.2.1 (by omega), RK_away r0 q.2.2.1 (by omega), Fr_rf, q.2.2.2⟩
  refine j_meth hl rfl g_X4_copyFrom (Nat.le_of_ble_eq_true rfl) (fun _ => ⟨_, _, rfl, (LR_s8 s)⟩) hB.1 hB.2 (fun G hG => ?_)
  refine b_X4_copyFrom_0 hG ?_
  dsimp only [q_X4_copyFrom_0, j_wp, j_opB, j_opA, j_nth, j_i1, j_i2, j_l1, j_l2, j_li, j_f1, j_f2, j_d1, j_d2, j_r1, j_ai, j_aii, j_ail, j_aid, j_air, j_st1, j_st2, j_stu, j_kl, j_cond, j_args, j_out, j_few, j_cw, j_nat, j_pad, j_exp, Nat.reduceAdd]
  simp only [LR_s8 s, LR_s8 (kb s), LR_kp (kb s), j_ref, j_ari, j_arb, j_arr, j_len, j_nar, j_oi, j_ol, j_of, j_od, j_or, j_ov, true_and, and_true]
  have s1 := LR_setK s kp'
  simp only [LR_s8 s1, LR_s8 (kb s1), LR_lt (kb s1), j_ref, j_ari, j_arb, j_arr, j_len, j_nar, j_oi, j_ol, j_of, j_od, j_or, j_ov, true_and, and_true]
  have s2 := LR_setT s1 lt'
  simp only [LR_s8 s2, LR_r8 s2, LR_s8 (kb s2), LR_r8 (kb s2), LR_kp s2, j_ref, j_ari, j_arb, j_arr, j_len, j_nar, j_oi, j_ol, j_of, j_od, j_or, j_ov, true_and, and_true]
  refine sp_X6_copyRows hl s2.2.2.2 (LR_t9 s2) (LR_t9 (kb s2)) (by omega) (r := kp') (by omega) ?_
  simp only [j_ref, j_ari, j_arb, j_arr, j_len, j_nar, j_oi, j_ol, j_of, j_od, j_or, j_ov, true_and, and_true]
  exact H _ (LR_row s2 kp' (kb s2).2.1.2.2)
theorem sp_X1_copyFrom (hl : l.stackTraces = false) (s : LR E h a L kp lt R h) (k0 : LK h b K) (r0 : RK h b kp' lt' R') (hd : b + 11 ≤ a ∨ a + 11 ≤ b) {nf np ns : Nat} (hnf : nf ≤ 6) (hnp : np ≤ 100) (hns : ns ≤ 300) (hk : kp' ≤ 128) (hx5 : lX K 5 = nI nf) (hx9 : lX K 9 = nI np) (hx10 : lX K 10 = nI ns) (H : ∀ h', LR E h a (lCopy L K nf np ns) kp' lt' (cpR kp' R' R) h' → Q (.inl none) h') : j_Met l D bs E (d + 3) n_X1_copyFrom [.ref a, .ref b] h Q := by
  have hB := s.2.2.2
  have q := LR_q s
  refine j_meth hl rfl g_X1_copyFrom (Nat.le_of_ble_eq_true rfl) (fun _ => ⟨_, _, rfl, (LQ_sh q)⟩) hB.1 hB.2 (fun G hG => ?_)
  refine b_X1_copyFrom_0 hG ?_
  dsimp only [q_X1_copyFrom_0, j_wp, j_opB, j_opA, j_nth, j_i1, j_i2, j_l1, j_l2, j_li, j_f1, j_f2, j_d1, j_d2, j_r1, j_ai, j_aii, j_ail, j_aid, j_air, j_st1, j_st2, j_stu, j_kl, j_cond, j_args, j_out, j_few, j_cw, j_nat, j_pad, j_exp, Nat.reduceAdd]
  refine sp_X1_copyTraffic hl q k0 hd hnf hnp hns hx5 hx9 hx10 (fun h1 q1 => ?_)
  have s1 := LR_of s q1
  have k1 := LK_away k0 q1.2.1 (by omega)
  have r1 := RK_away r0 q1.2.1 (by omega)
  simp only [LQ_sh q1, LQ_R0 q1, LQ_R1 q1, LQ_R2 q1, LQ_R3 q1, LQ_R4 q1, j_ref, j_ari, j_arb, j_arr, j_len, j_nar, j_oi, j_ol, j_of, j_od, j_or, j_ov, true_and, and_true, LB_sh k1, LB_R4 k1]
  refine sp_X4_copyFrom hl (⟨s1.1, s1.2.1, Fr_rf, s1.2.2.2⟩ : LR E h1 a _ _ _ _ h1) k1 r1 hd hk (fun h2 s2 => ?_)
  simp only [j_ref, j_ari, j_arb, j_arr, j_len, j_nar, j_oi, j_ol, j_of, j_od, j_or, j_ov, true_and, and_true]
  exact H h2 (LR_mono s2 s1.2.2.1)
end Cpy
