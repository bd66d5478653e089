/-! ===== frames by cells; the class's history ===== -/
/-- the cell b is as it was -/
def sm (h h' : j_H) (b : Nat) : Prop := j_sh h' b = j_sh h b ∧ (∀ k, j_R h' b k = j_R h b k) ∧ (∀ k, j_D h' b k = j_D h b k) ∧ (∀ k, j_I h' b k = j_I h b k) ∧ ∀ k, j_L h' b k = j_L h b k
/-- of the cells that there were, those outside A are as they were -/
def FG (A : Nat → Prop) (h h' : j_H) : Prop := j_z h ≤ j_z h' ∧ ∀ b, b < j_z h → ¬ A b → sm h h' b
section Hst
variable {l : Launch} {D : va_G} {bs : Nat} {E : j_E} {h h' h'' : j_H} {A A' : Nat → Prop} {d : Nat} {Q : j_O → j_H → Prop}
theorem sm_rf {b : Nat} : sm h h b := ⟨rfl, fun _ => rfl, fun _ => rfl, fun _ => rfl, fun _ => rfl⟩
theorem sm_tr {b : Nat} (h1 : sm h h' b) (h2 : sm h' h'' b) : sm h h'' b := ⟨h2.1.trans h1.1, fun k => (h2.2.1 k).trans (h1.2.1 k), fun k => (h2.2.2.1 k).trans (h1.2.2.1 k), fun k => (h2.2.2.2.1 k).trans (h1.2.2.2.1 k), fun k => (h2.2.2.2.2 k).trans (h1.2.2.2.2 k)⟩
theorem FG_rf : FG A h h := ⟨Nat.le_refl _, fun _ _ _ => sm_rf⟩
theorem FG_tr (h1 : FG A h h') (h2 : FG A h' h'') : FG A h h'' := ⟨Nat.le_trans h1.1 h2.1, fun b hb z => sm_tr (h1.2 b hb z) (h2.2 b (Nat.lt_of_lt_of_le hb h1.1) z)⟩
theorem FG_mono (h1 : FG A h h') (hA : ∀ b, b < j_z h → A b → A' b) : FG A' h h' := ⟨h1.1, fun b hb z => h1.2 b hb (fun y => z (hA b hb y))⟩
theorem FG_Fr {lo hi : Nat} (f : Fr lo hi h h') : FG (fun b => lo ≤ b ∧ b < hi) h h' := by
  obtain ⟨f1, f2, f3, f4, f5, f6, f7, f8⟩ := f
  exact ⟨by rw [f4]; exact Nat.le_refl _, fun b _ z => ⟨by rw [f1], fun k => by rw [f2], fun k => by rw [f3], fun k => f7 b k (by omega), fun k => f8 b k (by omega)⟩⟩
theorem FG_FQ {z : Nat} (f : FQ nF z h h') (hz : j_z h ≤ j_z h') : FG (fun b => z ≤ b) h h' := ⟨hz, fun b _ y => by
  obtain ⟨a1, a2, a3, a4⟩ := f.2 b (by omega)
  exact ⟨a1, a2, a3, (a4 id).1, (a4 id).2⟩⟩
theorem FG_sI {q k : Nat} {v : Int32} (f : FG A h h') (hq : A q) : FG A h (j_setI h' q k v) := ⟨f.1, fun b hb z => by
  obtain ⟨a1, a2, a3, a4, a5⟩ := f.2 b hb z
  exact ⟨a1, a2, a3, fun j => by rw [jh_In (fun w => z (by rw [w.1]; exact hq))]; exact a4 j, a5⟩⟩
theorem FG_sR {q k : Nat} {v : Option Nat} (f : FG A h h') (hq : A q) : FG A h (j_setR h' q k v) := ⟨f.1, fun b hb z => by
  obtain ⟨a1, a2, a3, a4, a5⟩ := f.2 b hb z
  exact ⟨a1, fun j => by rw [jh_R, if_neg (fun w => z (by rw [w.1]; exact hq))]; exact a2 j, a3, a4, a5⟩⟩
theorem TB_sm {t c w n : Nat} (hT : TB h t c w n) (h1 : sm h h' t) (h2 : sm h h' c) : TB h' t c w n := by
  obtain ⟨t1, t2, t3, t4, t5⟩ := hT
  exact ⟨by rw [h1.1]; exact t1, by rw [h1.2.2.2.1]; exact t2, by rw [h1.2.1]; exact t3, by rw [h2.1]; exact t4, t5⟩
theorem LK_sm {b : Nat} {K : Lnk} (hL : LK h b K) (g : ∀ c, b ≤ c → c < b + 11 → sm h h' c) : LK h' b K := by
  obtain ⟨⟨l1, l2, l3, l4, l5, l6, l7, l8, l9, l10, l11, l12, l13⟩, h1, h2, h3, h4, h5⟩ := hL
  have g0 := g b (by omega) (by omega)
  have g8 := g (b + 8) (by omega) (by omega)
  refine ⟨⟨by rw [g0.1]; exact l1, by rw [g0.2.1]; exact l2, by rw [g0.2.1]; exact l3, by rw [g0.2.1]; exact l4, by rw [g0.2.1]; exact l5, by rw [g0.2.1]; exact l6, TB_sm l7 (g _ (by omega) (by omega)) (g _ (by omega) (by omega)), by rw [(g (b + 3) (by omega) (by omega)).1]; exact l8, TB_sm l9 (g _ (by omega) (by omega)) (g _ (by omega) (by omega)), TB_sm l10 (g _ (by omega) (by omega)) (g _ (by omega) (by omega)), by rw [g8.1]; exact l11, by rw [g8.2.1]; exact l12, TB_sm l13 (g _ (by omega) (by omega)) (g _ (by omega) (by omega))⟩, ?_, ?_, ?_, ?_, ?_⟩
  · intro k g1 g2; rw [g0.2.2.2.1]; exact h1 k g1 g2
  · intro r k g1 g2; rw [(g (b + 2) (by omega) (by omega)).2.2.2.1]; exact h2 r k g1 g2
  · intro r k g1 g2; rw [(g (b + 5) (by omega) (by omega)).2.2.2.1]; exact h3 r k g1 g2
  · intro r k g1 g2; rw [(g (b + 7) (by omega) (by omega)).2.2.2.1]; exact h4 r k g1 g2
  · intro k g1; rw [(g (b + 3) (by omega) (by omega)).2.2.2.2]; exact h5 k g1
theorem RK_sm {b kp : Nat} {lt : Int32} {R : Nat → Nat → Int32} (hR : RK h b kp lt R) (g : ∀ c, b ≤ c → c < b + 11 → sm h h' c) : RK h' b kp lt R := by
  obtain ⟨r1, r2, r3⟩ := hR
  have g8 := g (b + 8) (by omega) (by omega)
  have g10 := g (b + 10) (by omega) (by omega)
  exact ⟨by rw [g8.2.2.2.1]; exact r1, by rw [g8.2.2.2.1]; exact r2, fun r k g1 g2 => by rw [g10.2.2.2.1]; exact r3 r k g1 g2⟩
theorem SK_sm {u : Nat} {S : Sup} (s : SK h u S) (g : ∀ c, u ≤ c → c < u + 5 → sm h h' c) : SK h' u S := by
  obtain ⟨s1, s2, s3, s4, s5, s6, s7, s8, s9, s10, s11, s12⟩ := s
  have g0 := g u (by omega) (by omega)
  refine ⟨by rw [g0.1]; exact s1, by rw [g0.2.1]; exact s2, by rw [g0.2.1]; exact s3, TB_sm s4 (g _ (by omega) (by omega)) (g _ (by omega) (by omega)), TB_sm s5 (g _ (by omega) (by omega)) (g _ (by omega) (by omega)), by rw [g0.2.2.2.1]; exact s6, s7, by rw [g0.2.2.2.1]; exact s8, s9, fun j g1 g2 => by rw [g0.2.2.2.1]; exact s10 j g1 g2, fun r' j g1 g2 => ?_, fun r' j g1 g2 => ?_⟩
  · rw [(g (u + 2) (by omega) (by omega)).2.2.2.1]; exact s11 r' j g1 g2
  · rw [(g (u + 4) (by omega) (by omega)).2.2.2.1]; exact s12 r' j g1 g2
theorem TX_sm {x : Nat} {B : Nat → Int32} {sz len : Nat} {p : Tk} (t : TX h x B sz len p) (g0 : sm h h' x) (g1 : sm h h' (x + 1)) : TX h' x B sz len p := by
  obtain ⟨t1, t2, t3, t4, t5, t6, t7, t8, t9, t10, t11, t12, t13⟩ := t
  refine ⟨by rw [g0.1]; exact t1, by rw [g0.2.1]; exact t2, by rw [g1.1]; exact t3, fun i hi => by rw [g1.2.2.2.1]; exact t4 i hi, ?_, t6, ?_, t8, ?_, ?_, ?_, ?_, ?_⟩
  all_goals (rw [g0.2.2.2.1]; assumption)
theorem px_sm {x u w : Nat} (p : px h x u w) (g : sm h h' x) : px h' x u w := by
  obtain ⟨p1, p2, p3, p4, p5, p6, p7, p8, p9, p10⟩ := p
  exact ⟨by rw [g.1]; exact p1, by rw [g.2.1]; exact p2, by rw [g.2.1]; exact p3, by rw [g.2.1]; exact p4, by rw [g.2.1]; exact p5, by rw [g.2.1]; exact p6, by rw [g.2.1]; exact p7, by rw [g.2.1]; exact p8, by rw [g.2.1]; exact p9, by rw [g.2.1]; exact p10⟩
/-- what a link holds, its records too -/
abbrev Lk4 : Type := Lnk × Nat × Int32 × (Nat → Nat → Int32)
def LkAt (h : j_H) (b : Nat) (C : Lk4) : Prop := LK h b C.1 ∧ RK h b C.2.1 C.2.2.1 C.2.2.2
theorem LkAt_sm {b : Nat} {C : Lk4} (k : LkAt h b C) (g : ∀ c, b ≤ c → c < b + 11 → sm h h' c) : LkAt h' b C := ⟨LK_sm k.1 g, RK_sm k.2 g⟩
/-- numbers of a link that copying needs -/
def LkN (C : Lk4) (nf np ns : Nat) : Prop := nf ≤ 6 ∧ np ≤ 100 ∧ ns ≤ 300 ∧ C.2.1 ≤ 128 ∧ lX C.1 5 = nI nf ∧ lX C.1 9 = nI np ∧ lX C.1 10 = nI ns
/-- a link as it is behind copying C over Z -/
def lkCp (Z C : Lk4) (nf np ns : Nat) : Lk4 := (lCopy Z.1 C.1 nf np ns, C.2.1, C.2.2.1, cpR C.2.1 C.2.2.2 Z.2.2.2)
/-- the history at y: count, latest, the places' addresses (from zb on) and what they hold -/
def HI (h : j_H) (y zb ct lt : Nat) (ad : Nat → Option Nat) (C : Nat → Lk4) : Prop := (j_sh h y = some (.inr 2) ∧ j_R h y 0 = some (y + 1) ∧ j_sh h (y + 1) = some (.inl (4, 10))) ∧ (j_I h y 1 = nI ct ∧ ct ≤ 10) ∧ (j_I h y 2 = nI lt ∧ lt < 10) ∧ (y + 2 ≤ zb ∧ zb ≤ j_z h) ∧ ∀ i, i < 10 → j_R h (y + 1) i = ad i ∧ ∀ b, ad i = some b → (zb ≤ b ∧ b + 11 ≤ j_z h) ∧ LkAt h b (C i) ∧ ∀ j b', j < 10 → j ≠ i → ad j = some b' → (b + 11 ≤ b' ∨ b' + 11 ≤ b)
theorem HI_sm {y zb ct lt : Nat} {ad : Nat → Option Nat} {C : Nat → Lk4} (i : HI h y zb ct lt ad C) (hz : j_z h ≤ j_z h') (g0 : sm h h' y) (g1 : sm h h' (y + 1)) (g : ∀ c, zb ≤ c → c < j_z h → (∃ i b, i < 10 ∧ ad i = some b ∧ b ≤ c ∧ c < b + 11) → sm h h' c) : HI h' y zb ct lt ad C := by
  obtain ⟨⟨i1, i2, i3⟩, ⟨i4, i5⟩, ⟨i6, i7⟩, ⟨i8, i9⟩, i10⟩ := i
  refine ⟨⟨by rw [g0.1]; exact i1, by rw [g0.2.1]; exact i2, by rw [g1.1]; exact i3⟩, ⟨by rw [g0.2.2.2.1]; exact i4, i5⟩, ⟨by rw [g0.2.2.2.1]; exact i6, i7⟩, ⟨i8, by omega⟩, fun i hi => ?_⟩
  obtain ⟨a1, a2⟩ := i10 i hi
  refine ⟨by rw [g1.2.1]; exact a1, fun b hb => ?_⟩
  obtain ⟨b1, b2, b3⟩ := a2 b hb
  exact ⟨⟨b1.1, by omega⟩, LkAt_sm b2 (fun c c1 c2 => g c (by omega) (by omega) ⟨i, b, hi, hb, c1, c2⟩), b3⟩
variable {y zb ct lt : Nat} {ad : Nat → Option Nat} {C : Nat → Lk4}
theorem HI_s (i : HI h y zb ct lt ad C) : j_sh h y = some (.inr 2) := i.1.1
theorem HI_0 (i : HI h y zb ct lt ad C) : j_R h y 0 = some (y + 1) := i.1.2.1
theorem HI_a (i : HI h y zb ct lt ad C) : j_sh h (y + 1) = some (.inl (4, 10)) := i.1.2.2
theorem HI_1 (i : HI h y zb ct lt ad C) : j_I h y 1 = nI ct := i.2.1.1
theorem HI_2 (i : HI h y zb ct lt ad C) : j_I h y 2 = nI lt := i.2.2.1.1
theorem HI_i1 (i : HI h y zb ct lt ad C) {n : Nat} (hn : n ≤ 10) : HI (j_setI h y 1 (nI n)) y zb n lt ad C := by
  have f : FG (fun b => b = y) h (j_setI h y 1 (nI n)) := FG_sI FG_rf rfl
  obtain ⟨⟨i1, i2, i3⟩, ⟨i4, i5⟩, ⟨i6, i7⟩, ⟨i8, i9⟩, i10⟩ := i
  refine ⟨⟨i1, i2, i3⟩, ⟨jh_Is _ _ _ _, hn⟩, ⟨by rw [jh_In (by omega)]; exact i6, i7⟩, ⟨i8, i9⟩, fun i hi => ⟨(i10 i hi).1, fun b hb => ?_⟩⟩
  obtain ⟨b1, b2, b3⟩ := (i10 i hi).2 b hb
  exact ⟨b1, LkAt_sm b2 (fun c c1 c2 => f.2 c (by omega) (by omega)), b3⟩
theorem HI_i2 (i : HI h y zb ct lt ad C) {n : Nat} (hn : n < 10) : HI (j_setI h y 2 (nI n)) y zb ct n ad C := by
  have f : FG (fun b => b = y) h (j_setI h y 2 (nI n)) := FG_sI FG_rf rfl
  obtain ⟨⟨i1, i2, i3⟩, ⟨i4, i5⟩, ⟨i6, i7⟩, ⟨i8, i9⟩, i10⟩ := i
  refine ⟨⟨i1, i2, i3⟩, ⟨by rw [jh_In (by omega)]; exact i4, i5⟩, ⟨jh_Is _ _ _ _, hn⟩, ⟨i8, i9⟩, fun i hi => ⟨(i10 i hi).1, fun b hb => ?_⟩⟩
  obtain ⟨b1, b2, b3⟩ := (i10 i hi).2 b hb
  exact ⟨b1, LkAt_sm b2 (fun c c1 c2 => f.2 c (by omega) (by omega)), b3⟩
theorem sp_X0_forget (hl : l.stackTraces = false) (i : HI h y zb ct lt ad C) (hB : j_bd E h) (H : HI (j_setI h y 1 0) y zb 0 lt ad C → Q (.inl none) (j_setI h y 1 0)) : j_Met l D bs E (d + 1) n_X0_forget [.ref y] h Q := by
  refine j_meth hl rfl g_X0_forget (Nat.le_of_ble_eq_true rfl) (fun _ => ⟨_, _, rfl, (HI_s i)⟩) hB.1 hB.2 (fun G hG => ?_)
  refine b_X0_forget_0 hG ?_
  dsimp only [q_X0_forget_0, j_wp, j_opB, j_opA, j_nth, j_i1, j_i2, j_l1, j_l2, j_li, j_f1, j_f2, j_d1, j_d2, j_r1, j_ai, j_aii, j_ail, j_aid, j_air, j_st1, j_st2, j_stu, j_kl, j_cond, j_args, j_out, j_few, j_cw, j_nat, j_pad, j_exp, Nat.reduceAdd]
  simp only [HI_s i, j_ref, j_ari, j_arb, j_arr, j_len, j_nar, j_oi, j_ol, j_of, j_od, j_or, j_ov, true_and, and_true]
  exact H (HI_i1 i (n := 0) (by omega))
/-- copying one link over another -/
theorem cp_lk (hl : l.stackTraces = false) {a b nf np ns : Nat} {Z C1 : Lk4} (hB : j_bd E h) (k : LkAt h b Z) (k1 : LkAt h a C1) (hd : a + 11 ≤ b ∨ b + 11 ≤ a) (hN : LkN C1 nf np ns) (H : ∀ h', LkAt h' b (lkCp Z C1 nf np ns) → Fr b (b + 11) h h' → Q (.inl none) h') : j_Met l D bs E (d + 3) n_X1_copyFrom [.ref b, .ref a] h Q := by
  obtain ⟨n1, n2, n3, n4, n5, n6, n7⟩ := hN
  exact sp_X1_copyFrom hl ⟨k.1, k.2, Fr_rf, hB⟩ k1.1 k1.2 hd n1 n2 n3 n4 n5 n6 n7 (fun h' q => H h' ⟨q.1, q.2.1⟩ q.2.2.1)
def nxt (lt : Nat) : Nat := if lt + 1 < 10 then lt + 1 else 0
theorem nxt_lt (lt : Nat) : nxt lt < 10 := by unfold nxt; split <;> omega
def LkOf (h : j_H) (b : Nat) : Lnk := (fun k => j_I h b k, fun r k => j_I h (b + 2) (r * 19 + k), fun r k => j_I h (b + 5) (r * 11 + k), fun r k => j_I h (b + 7) (r * 6 + k), fun k => j_L h (b + 3) k)
theorem LkOf_at {b : Nat} (k : lk h b) (h1 : j_I h (b + 8) 1 = 0) (h2 : j_I h (b + 8) 2 = 0) : LkAt h b (LkOf h b, 0, 0, fun r k => j_I h (b + 10) (r * 7 + k)) := ⟨⟨k, fun _ _ _ => rfl, fun _ _ _ _ => rfl, fun _ _ _ _ => rfl, fun _ _ _ _ => rfl, fun _ _ => rfl⟩, h1, h2, fun _ _ _ _ => rfl⟩
/-- the places that hold no link -/
def nnF (ad : Nat → Option Nat) : Nat → Nat
  | 0 => 0
  | n + 1 => nnF ad n + (if ad n = none then 1 else 0)
theorem nnF_no {ad : Nat → Option Nat} {i b : Nat} : ∀ n, n ≤ i → nnF (fun j => if j = i then some b else ad j) n = nnF ad n
  | 0, _ => rfl
  | n + 1, g => by
    unfold nnF
    rw [nnF_no n (by omega)]
    rw [if_neg (show ¬ n = i by omega)]
theorem nnF_none {ad : Nat → Option Nat} {i b : Nat} (e : ad i = none) : ∀ n, i < n → nnF (fun j => if j = i then some b else ad j) n + 1 = nnF ad n
  | 0, g => absurd g (Nat.not_lt_zero _)
  | n + 1, g => by
    unfold nnF
    by_cases z : n = i
    · subst z
      rw [nnF_no n (Nat.le_refl _), if_pos rfl, if_pos e, if_neg (by simp)]
    · rw [if_neg z]
      have := nnF_none (b := b) e n (by omega)
      omega
theorem nnF_le {ad : Nat → Option Nat} {i b : Nat} : ∀ n, nnF (fun j => if j = i then some b else ad j) n ≤ nnF ad n
  | 0 => Nat.le_refl _
  | n + 1 => by
    unfold nnF
    have := nnF_le (ad := ad) (i := i) (b := b) n
    by_cases z : n = i
    · rw [if_pos z, if_neg (by simp)]
      omega
    · rw [if_neg z]
      omega
/-- no cell of a link is a byte array -/
theorem LkAt_nb {b c : Nat} {C : Lk4} (k : LkAt h b C) (g1 : b ≤ c) (g2 : c < b + 11) (n : Nat) : j_sh h c ≠ some (.inl (3, n)) := by
  obtain ⟨⟨⟨l1, -, -, -, -, -, l7, l8, l9, l10, l11, -, l13⟩, -⟩, -⟩ := k
  intro e
  have hc : c = b ∨ c = b + 1 ∨ c = b + 2 ∨ c = b + 3 ∨ c = b + 4 ∨ c = b + 5 ∨ c = b + 6 ∨ c = b + 7 ∨ c = b + 8 ∨ c = b + 9 ∨ c = b + 10 := by omega
  rcases hc with q | q | q | q | q | q | q | q | q | q | q <;> rw [q] at e
  · rw [l1] at e; cases e
  · rw [l7.1] at e; cases e
  · rw [l7.2.2.2.1] at e; cases e
  · rw [l8] at e; cases e
  · rw [l9.1] at e; cases e
  · rw [l9.2.2.2.1] at e; cases e
  · rw [l10.1] at e; cases e
  · rw [l10.2.2.2.1] at e; cases e
  · rw [l11] at e; cases e
  · rw [l13.1] at e; cases e
  · rw [l13.2.2.2.1] at e; cases e
theorem FG_trs (f : FG A h h') (g : FG A' h' h'') (k : ∀ c, c < j_z h → sm h h' c → A' c → A c) : FG A h h'' := ⟨Nat.le_trans f.1 g.1, fun b hb z => sm_tr (f.2 b hb z) (g.2 b (Nat.lt_of_lt_of_le hb f.1) (fun w => z (k b hb (f.2 b hb z) w)))⟩
/-- what keeping may change: the history and, from zb on, what is no byte array -/
def hsA (g : j_H) (y zb : Nat) : Nat → Prop := fun c => c = y ∨ c = y + 1 ∨ (zb ≤ c ∧ ∀ n, j_sh g c ≠ some (.inl (3, n)))
set_option maxRecDepth 8000 in
theorem sp_X0_keep (hl : l.stackTraces = false) (i : HI h y zb ct lt ad C) {a nf np ns : Nat} {C1 : Lk4} (k1 : LkAt h a C1) (hN : LkN C1 nf np ns) (ha : a + 11 ≤ y) (hc1 : j_c h + 11 * nnF ad 10 ≤ E.2.1) (hc2 : j_k h + 3944 * nnF ad 10 ≤ E.2.2)
    (H : ∀ h' b Z, HI h' y zb (min (ct + 1) 10) (nxt lt) (fun j => if j = nxt lt then some b else ad j) (fun j => if j = nxt lt then lkCp Z C1 nf np ns else C j) → FG (hsA h y zb) h h' → j_c h' + 11 * nnF (fun j => if j = nxt lt then some b else ad j) 10 ≤ j_c h + 11 * nnF ad 10 → j_k h' + 3944 * nnF (fun j => if j = nxt lt then some b else ad j) 10 ≤ j_k h + 3944 * nnF ad 10 → Q (.inl none) h') : j_Met l D bs E (d + 4) n_X0_keep [.ref y, .ref a] h Q := by
  have hB : j_bd E h := ⟨by omega, by omega⟩
  have hlt := i.2.2.1.2
  have hct := i.2.1.2
  have hzb := i.2.2.2.1
  have hn := nxt_lt lt
  refine j_meth hl rfl g_X0_keep (Nat.le_of_ble_eq_true rfl) (fun _ => ⟨_, _, rfl, (HI_s i)⟩) hB.1 hB.2 (fun G hG => ?_)
  -- the end: the place holds a link
  have fin : ∀ (b : Nat) (Z : Lk4) (h2 : j_H), HI h2 y zb (min (ct + 1) 10) (nxt lt) (fun j => if j = nxt lt then some b else ad j) (fun j => if j = nxt lt then Z else C j) → LkAt h2 a C1 → FG (hsA h y zb) h h2 → j_c h2 + 11 * nnF (fun j => if j = nxt lt then some b else ad j) 10 ≤ j_c h + 11 * nnF ad 10 → j_k h2 + 3944 * nnF (fun j => if j = nxt lt then some b else ad j) 10 ≤ j_k h + 3944 * nnF ad 10 → G 87 [.ref y, .ref a] [] h2 := by
    intro b Z h2 i2 k2 f2 e1 e2
    have hB2 : j_bd E h2 := ⟨by omega, by omega⟩
    obtain ⟨a1, a2⟩ := i2.2.2.2.2 (nxt lt) hn
    have ab : j_R h2 (y + 1) (nxt lt) = some b := by rw [a1]; exact if_pos rfl
    obtain ⟨b1, b2, b3⟩ := a2 b (if_pos rfl)
    have b2' : LkAt h2 b Z := by have z := b2; dsimp only at z; rw [if_pos rfl] at z; exact z
    refine b_X0_keep_87 hG ?_
    dsimp only [q_X0_keep_87, j_wp, j_opB, j_opA, j_nth, j_i1, j_i2, j_l1, j_l2, j_li, j_f1, j_f2, j_d1, j_d2, j_r1, j_ai, j_aii, j_ail, j_aid, j_air, j_st1, j_st2, j_stu, j_kl, j_cond, j_args, j_out, j_few, j_cw, j_nat, j_pad, j_exp, Nat.reduceAdd]
    simp only [HI_s i2, HI_0 i2, HI_a i2, HI_2 i2, j_ref, j_ari, j_arb, j_arr, j_len, j_nar, j_oi, j_ol, j_of, j_od, j_or, j_ov, true_and, and_true]
    refine ⟨vp_in_nI hn (by omega), ?_⟩
    rw [nI_clamp (by omega), ab]
    refine cp_lk hl hB2 b2' k2 (by omega) hN (fun h3 k3 f3 => ?_)
    simp only [j_ref, j_ari, j_arb, j_arr, j_len, j_nar, j_oi, j_ol, j_of, j_od, j_or, j_ov, true_and, and_true]
    refine b_X0_keep_100 hG ?_
    dsimp only [q_X0_keep_100, j_wp, j_opB, j_opA, j_nth, j_i1, j_i2, j_l1, j_l2, j_li, j_f1, j_f2, j_d1, j_d2, j_r1, j_ai, j_aii, j_ail, j_aid, j_air, j_st1, j_st2, j_stu, j_kl, j_cond, j_args, j_out, j_few, j_cw, j_nat, j_pad, j_exp, Nat.reduceAdd]
    obtain ⟨z1, z2, z3⟩ := Fr_z f3
    have fg := FG_Fr f3
    refine H h3 b Z ?_ (FG_trs f2 fg (fun c _ e g => Or.inr (Or.inr ⟨by omega, fun n => by rw [← e.1]; exact LkAt_nb b2' g.1 g.2 n⟩))) (by omega) (by omega)
    obtain ⟨⟨i1, i2', i3⟩, ⟨i4, i5⟩, ⟨i6, i7⟩, ⟨i8, i9⟩, i10⟩ := i2
    have gy := fg.2 y (by omega) (by omega)
    have gy1 := fg.2 (y + 1) (by omega) (by omega)
    refine ⟨⟨by rw [gy.1]; exact i1, by rw [gy.2.1]; exact i2', by rw [gy1.1]; exact i3⟩, ⟨by rw [gy.2.2.2.1]; exact i4, i5⟩, ⟨by rw [gy.2.2.2.1]; exact i6, i7⟩, ⟨i8, by omega⟩, fun j hj => ?_⟩
    obtain ⟨c1, c2⟩ := i10 j hj
    refine ⟨by rw [gy1.2.1]; exact c1, fun b' hb' => ?_⟩
    obtain ⟨d1, d2, d3⟩ := c2 b' hb'
    refine ⟨⟨d1.1, by omega⟩, ?_, d3⟩
    by_cases ej : j = nxt lt
    · have eb : b' = b := by
        have := hb'
        dsimp only at this
        rw [if_pos ej] at this
        exact (Option.some.inj this).symm
      show LkAt h3 b' (if j = nxt lt then lkCp Z C1 nf np ns else C j)
      rw [if_pos ej, eb]
      exact k3
    · have hb2 : ad j = some b' := by
        have := hb'
        dsimp only at this
        rw [if_neg ej] at this
        exact this
      have sep := b3 j b' hj ej (by dsimp only; rw [if_neg ej]; exact hb2)
      dsimp only at d2
      show LkAt h3 b' (if j = nxt lt then lkCp Z C1 nf np ns else C j)
      rw [if_neg ej] at d2 ⊢
      exact LkAt_sm d2 (fun c g1 g2 => fg.2 c (by omega) (by omega))
  -- behind the new number of the latest
  have mid : G 22 [.ref y, .ref a] [.int (nI (nxt lt)), .ref y] h := by
    have i1 := HI_i2 i hn
    have em : (if 10 < nI ct + 1 then (10 : Int32) else nI ct + 1) = nI (min (ct + 1) 10) := by
      rw [nI_1]
      by_cases g : 10 < ct + 1
      · rw [if_pos (show (10 : Int32) < nI (ct + 1) from nI_lt (a := 10) g (by omega)), show min (ct + 1) 10 = 10 by omega]
        rfl
      · rw [if_neg (show ¬ (10 : Int32) < nI (ct + 1) from nI_nlt (a := 10) (by omega) (by omega)), show min (ct + 1) 10 = ct + 1 by omega]
    have i2 := HI_i1 i1 (n := min (ct + 1) 10) (by omega)
    have f2 : FG (hsA h y zb) h (j_setI (j_setI h y 2 (nI (nxt lt))) y 1 (nI (min (ct + 1) 10))) := FG_sI (FG_sI FG_rf (Or.inl rfl)) (Or.inl rfl)
    have k2 : LkAt (j_setI (j_setI h y 2 (nI (nxt lt))) y 1 (nI (min (ct + 1) 10))) a C1 := LkAt_sm k1 (fun c g1 g2 => f2.2 c (by omega) (fun z => by rcases z with z | z | ⟨z, _⟩ <;> omega))
    have e1 : j_c (j_setI (j_setI h y 2 (nI (nxt lt))) y 1 (nI (min (ct + 1) 10))) = j_c h := rfl
    have e2 : j_k (j_setI (j_setI h y 2 (nI (nxt lt))) y 1 (nI (min (ct + 1) 10))) = j_k h := rfl
    have e3 : j_z (j_setI (j_setI h y 2 (nI (nxt lt))) y 1 (nI (min (ct + 1) 10))) = j_z h := rfl
    refine b_X0_keep_22 hG ?_
    dsimp only [q_X0_keep_22, j_wp, j_opB, j_opA, j_nth, j_i1, j_i2, j_l1, j_l2, j_li, j_f1, j_f2, j_d1, j_d2, j_r1, j_ai, j_aii, j_ail, j_aid, j_air, j_st1, j_st2, j_stu, j_kl, j_cond, j_args, j_out, j_few, j_cw, j_nat, j_pad, j_exp, Nat.reduceAdd]
    simp only [HI_s i, HI_s i1, HI_1 i1, em, j_ref, j_ari, j_arb, j_arr, j_len, j_nar, j_oi, j_ol, j_of, j_od, j_or, j_ov, true_and, and_true]
    generalize j_setI (j_setI h y 2 (nI (nxt lt))) y 1 (nI (min (ct + 1) 10)) = h2 at *
    simp only [HI_s i2, HI_0 i2, HI_a i2, HI_2 i2, j_ref, j_ari, j_arb, j_arr, j_len, j_nar, j_oi, j_ol, j_of, j_od, j_or, j_ov, true_and, and_true]
    rw [if_neg (nI_pos (by omega)), if_pos (nI_lt hn (by omega))]
    refine ⟨vp_in_nI hn (by omega), ?_⟩
    rw [nI_clamp (by omega)]
    obtain ⟨a1, a2⟩ := i2.2.2.2.2 (nxt lt) hn
    rw [a1]
    cases had : ad (nxt lt) with
    | some b =>
      dsimp only
      have hle := nnF_le (ad := ad) (i := nxt lt) (b := b) 10
      refine fin b (C (nxt lt)) h2 ?_ k2 f2 (by omega) (by omega)
      have ea : (fun j => if j = nxt lt then some b else ad j) = ad := by
        funext j
        by_cases e : j = nxt lt
        · rw [if_pos e, e, had]
        · rw [if_neg e]
      have eC : (fun j => if j = nxt lt then C (nxt lt) else C j) = C := by
        funext j
        by_cases e : j = nxt lt
        · rw [if_pos e, e]
        · rw [if_neg e]
      rw [ea, eC]
      exact i2
    | none =>
      dsimp only
      have hne := nnF_none (b := j_z h2) had 10 hn
      refine ⟨by omega, by omega, ?_⟩
      have hz2 : zb ≤ j_z h2 := i2.2.2.2.1.2
      have gn : j_sh (j_new h2 (.inr 3) 17) (j_z h2) = some (.inr 3) := by rw [nw_sh, if_pos rfl]
      have zn : j_z h2 + 1 = j_z (j_new h2 (.inr 3) 17) := rfl
      have cn : j_c (j_new h2 (.inr 3) 17) = j_c h2 + 1 := rfl
      have kn : j_k (j_new h2 (.inr 3) 17) = j_k h2 + 17 := rfl
      refine sp_X1_init hl gn zn (by omega) (by omega) (fun h3 l3 x1 x2 f3 z3 c3 k3 => ?_)
      have fn : FQ nF (j_z h2) h2 h3 := FQ_tr (FQ_new (FQ_rf (Nat.le_refl _))) f3 (Nat.le_refl _)
      have fg : FG (fun c => j_z h2 ≤ c) h2 h3 := FG_FQ fn (by omega)
      have i3 : HI h3 y zb (min (ct + 1) 10) (nxt lt) ad C := HI_sm i2 (by omega) (fg.2 y (by omega) (by omega)) (fg.2 (y + 1) (by omega) (by omega)) (fun c g1 g2 _ => fg.2 c g2 (by omega))
      have lks : j_sh h3 (j_z h2) = some (.inr 3) := l3.1
      simp only [HI_a i3, lks, j_ref, j_ari, j_arb, j_arr, j_len, j_nar, j_oi, j_ol, j_of, j_od, j_or, j_ov, true_and, and_true]
      refine ⟨vp_in_nI hn (by omega), ?_⟩
      have fg4 : FG (hsA h y zb) h (j_setR h3 (y + 1) (nxt lt) (some (j_z h2))) := FG_sR (FG_trs f2 fg (fun c c1 _ g => absurd g (by omega))) (Or.inr (Or.inl rfl))
      have k4 : LkAt (j_setR h3 (y + 1) (nxt lt) (some (j_z h2))) a C1 := LkAt_sm k1 (fun c g1 g2 => fg4.2 c (by omega) (fun z => by rcases z with z | z | ⟨z, _⟩ <;> omega))
      refine fin (j_z h2) (LkOf h3 (j_z h2), 0, 0, fun r k => j_I h3 (j_z h2 + 10) (r * 7 + k)) _ ?_ k4 fg4 (by show j_c h3 + _ ≤ _; omega) (by show j_k h3 + _ ≤ _; omega)
      obtain ⟨⟨p1, p2, p3⟩, ⟨p4, p5⟩, ⟨p6, p7⟩, ⟨p8, p9⟩, p10⟩ := i3
      have fs : FG (fun c => c = y + 1) h3 (j_setR h3 (y + 1) (nxt lt) (some (j_z h2))) := FG_sR FG_rf rfl
      refine ⟨⟨p1, by rw [jh_R, if_neg (by omega)]; exact p2, p3⟩, ⟨p4, p5⟩, ⟨p6, p7⟩, ⟨p8, p9⟩, fun j hj => ?_⟩
      by_cases ej : j = nxt lt
      · refine ⟨by rw [jh_R, if_pos ⟨rfl, ej⟩]; exact (if_pos ej).symm, fun b hb => ?_⟩
        dsimp only at hb
        rw [if_pos ej] at hb
        have eb : b = j_z h2 := (Option.some.inj hb).symm
        subst eb
        refine ⟨⟨hz2, by show j_z h2 + 11 ≤ j_z h3; omega⟩, ?_, fun j' b' hj' hne hb' => ?_⟩
        · dsimp only
          rw [if_pos ej]
          exact LkAt_sm (LkOf_at l3 x1 x2) (fun c g1 g2 => fs.2 c (by omega) (by omega))
        · dsimp only at hb'
          rw [if_neg (by omega)] at hb'
          have := ((i2.2.2.2.2 j' hj').2 b' hb').1
          omega
      · obtain ⟨c1, c2⟩ := p10 j hj
        refine ⟨by rw [jh_R, if_neg (fun z => ej z.2)]; exact c1.trans (if_neg ej).symm, fun b hb => ?_⟩
        dsimp only at hb
        rw [if_neg ej] at hb
        obtain ⟨d1, d2, d3⟩ := c2 b hb
        have d1' := ((i2.2.2.2.2 j hj).2 b hb).1
        refine ⟨d1, ?_, fun j' b' hj' hne hb' => ?_⟩
        · dsimp only
          rw [if_neg ej]
          exact LkAt_sm d2 (fun c g1 g2 => fs.2 c (by omega) (by omega))
        · dsimp only at hb'
          by_cases ej' : j' = nxt lt
          · rw [if_pos ej'] at hb'
            have eb : b' = j_z h2 := (Option.some.inj hb').symm
            omega
          · rw [if_neg ej'] at hb'
            exact d3 j' b' hj' hne hb'
  unfold nxt at mid
  refine b_X0_keep_0 hG ?_
  dsimp only [q_X0_keep_0, j_wp, j_opB, j_opA, j_nth, j_i1, j_i2, j_l1, j_l2, j_li, j_f1, j_f2, j_d1, j_d2, j_r1, j_ai, j_aii, j_ail, j_aid, j_air, j_st1, j_st2, j_stu, j_kl, j_cond, j_args, j_out, j_few, j_cw, j_nat, j_pad, j_exp, Nat.reduceAdd]
  simp only [HI_s i, HI_2 i, nI_1, j_ref, j_ari, j_arb, j_arr, j_len, j_nar, j_oi, j_ol, j_of, j_od, j_or, j_ov, true_and, and_true]
  by_cases g : lt + 1 < 10
  · rw [if_pos g] at mid
    rw [if_pos (show nI (lt + 1) < (10 : Int32) from nI_lt (b := 10) g (by omega))]
    exact mid
  · rw [if_neg g] at mid
    rw [if_neg (show ¬ nI (lt + 1) < (10 : Int32) from nI_nlt (b := 10) (by omega) (by omega))]
    refine b_X0_keep_21 hG ?_
    dsimp only [q_X0_keep_21, j_wp, j_opB, j_opA, j_nth, j_i1, j_i2, j_l1, j_l2, j_li, j_f1, j_f2, j_d1, j_d2, j_r1, j_ai, j_aii, j_ail, j_aid, j_air, j_st1, j_st2, j_stu, j_kl, j_cond, j_args, j_out, j_few, j_cw, j_nat, j_pad, j_exp, Nat.reduceAdd]
    exact mid
end Hst
