/-! ===== class and reference held together: copies, a text's setup ===== -/
section KCo
variable {nf np ns c : Nat} {L L' K Z : Lnk} {M : Rf}
theorem kc_cong (h : kI nf np ns c L M) (x : ∀ k, 5 ≤ k → k < 17 → lX L' k = lX L k) (ef : ∀ g k, g < nf → lF L' g k = lF L g k) (ep : ∀ y k, y < np → lP L' y k = lP L y k) (es : ∀ n k, n < ns → lS L' n k = lS L n k) (ev : ∀ g, g < nf → lV L' g = lV L g) : kI nf np ns c L' M ∧ (kO nf ns L M → kO nf ns L' M) ∧ (kD ns c L M → kD ns c L' M) := by
  refine ⟨?_, fun ho g hg => by rw [ef g 16 hg]; exact ho g hg, fun hd => ?_⟩
  · obtain ⟨q, sf, ⟨g0, ⟨a1, a2, a3, a4, a5, a6⟩, gF, gV, gP, gS, gT, gQ, gN, gL⟩, hz⟩ := h
    refine ⟨q, sf, ⟨g0, ⟨?_, ?_, ?_, ?_, ?_, ?_⟩, fun g k hg hk => ?_, fun g hg => ?_, fun y k hy hk => ?_, fun n hn => ?_, gT, fun g hg => ?_, ⟨?_, ?_, fun g hg => ?_⟩, fun y hy => ?_⟩, hz⟩
    · rw [x 5 (by omega) (by omega)]; exact a1
    · rw [x 6 (by omega) (by omega), x 7 (by omega) (by omega), x 8 (by omega) (by omega)]; exact a2
    · rw [x 9 (by omega) (by omega)]; exact a3
    · rw [x 10 (by omega) (by omega)]; exact a4
    · rw [x 11 (by omega) (by omega)]; exact a5
    · rw [x 12 (by omega) (by omega)]; exact a6
    · rw [ef g _ hg]; exact gF g k hg hk
    · rw [ev g hg]; exact gV g hg
    · rw [ep y k hy]; exact gP y k hy hk
    · exact ⟨fun k hk => by rw [es n k hn]; exact (gS n hn).1 k hk, by rw [es n 5 hn]; exact (gS n hn).2⟩
    · have y := gQ g hg
      refine ⟨y.1, ⟨by rw [ef g 17 hg]; exact y.2.1.1, by rw [ef g 18 hg]; exact y.2.1.2.1, kc_ch_cg (P := lP L) (fun w hw => ?_) y.2.1.2.2⟩, y.2.2⟩
      exact ep w 9 ((y.2.2.2 w).mp hw).1
    · rw [x 13 (by omega) (by omega)]; exact gN.1
    · rw [x 14 (by omega) (by omega)]; exact gN.2.1
    · have y := gN.2.2 g hg
      refine ⟨?_, by rw [ef g 14 hg]; exact y.2.1, y.2.2⟩
      rw [ef g 8 hg, kc_by_cg (P := lP L) (fun w hw => ep w 1 (((gQ g hg).2.2.2 w).mp hw).1)]
      exact y.1
    · rw [ep y 10 hy]; exact gL y hy
  · obtain ⟨dl, tm, fo, y1, y2, y3, y4, y5, y6, y7⟩ := hd
    exact ⟨dl, tm, fo, y1, y2, y3, y4, by rw [x 15 (by omega) (by omega)]; exact y5, y6, fun m hm => by rw [x 16 (by omega) (by omega)]; exact y7 m hm⟩
theorem kc_cpV (K : Lnk) : ∀ (k f : Nat) (L : Lnk), lX (lCpV K k f L) = lX L ∧ lF (lCpV K k f L) = lF L ∧ lP (lCpV K k f L) = lP L ∧ lS (lCpV K k f L) = lS L ∧ ∀ g, lV (lCpV K k f L) g = if f ≤ g ∧ g < f + k then lV K g else lV L g := by
  intro k
  induction k with
  | zero => intro f L; exact ⟨rfl, rfl, rfl, rfl, fun g => by rw [if_neg (by omega)]; rfl⟩
  | succ k ih =>
    intro f L
    obtain ⟨a1, a2, a3, a4, a5⟩ := ih (f + 1) (lsV L f (lV K f))
    refine ⟨a1, a2, a3, a4, fun g => ?_⟩
    show lV (lCpV K k (f + 1) (lsV L f (lV K f))) g = _
    rw [a5 g]
    by_cases e : f + 1 ≤ g ∧ g < f + 1 + k
    · rw [if_pos e, if_pos (by omega)]
    · rw [if_neg e]
      show up1 (lV L) f (lV K f) g = _
      by_cases e2 : g = f
      · rw [e2, u1_s, if_pos (by omega)]
      · rw [u1_n e2, if_neg (by omega)]
theorem kc_lCopy (Z K : Lnk) (nf np ns : Nat) : (∀ k, 5 ≤ k → k < 17 → lX (lCopy Z K nf np ns) k = lX K k) ∧ (∀ g k, g < nf → lF (lCopy Z K nf np ns) g k = lF K g k) ∧ (∀ y k, y < np → lP (lCopy Z K nf np ns) y k = lP K y k) ∧ (∀ n k, n < ns → lS (lCopy Z K nf np ns) n k = lS K n k) ∧ ∀ g, g < nf → lV (lCopy Z K nf np ns) g = lV K g := by
  unfold lCopy
  obtain ⟨a1, a2, a3, a4, a5⟩ := kc_cpV K nf 0 (lcS (lcP (lcF (lCpX Z K) nf (lF K)) np (lP K)) ns (lS K))
  refine ⟨fun k h1 h2 => ?_, fun g k hg => ?_, fun y k hy => ?_, fun n k hn => ?_, fun g hg => ?_⟩
  · rw [a1]
    exact lCpX_x Z K k h1 h2
  · rw [a2]
    show cpR nf (lF K) _ g k = _
    exact if_pos hg
  · rw [a3]
    show cpR np (lP K) _ y k = _
    exact if_pos hy
  · rw [a4]
    show cpR ns (lS K) _ n k = _
    exact if_pos hn
  · rw [a5, if_pos (by omega)]
theorem kc_fuC (h : kFu nf np c K M) {ns : Nat} (hn : lX K 10 = nI ns) (hns : ns ≤ 300) (Z : Lnk) : kFu nf np c (lCopy Z K nf np ns) M := by
  obtain ⟨n, h1, h2, h3⟩ := h
  have e : n = ns := by
    obtain ⟨q, sf, hst, _⟩ := h1
    have hb := hst.1
    exact (nI_eq (by omega) (by omega)).mp (hst.2.1.2.2.2.1.1.symm.trans hn)
  subst e
  obtain ⟨a1, a2, a3, a4, a5⟩ := kc_lCopy Z K nf np n
  obtain ⟨b1, b2, b3⟩ := kc_cong h1 a1 a2 a3 a4 a5
  exact ⟨n, b1, b2 h2, b3 h3⟩
/-! a text's setup -/
def kTc (p : Tk) : Prop := (tkK p ≠ 5 → tkC p = 0 ∧ tkA p = -1) ∧ (tkK p = 5 → tkC p ≠ 0)
variable {B : Nat → Int32} {len : Nat} {p : Tk} {S : Sup}
theorem kt_at (B : Nat → Int32) (len i : Nat) : kAt B len i ≠ 5 := by
  unfold kAt kcl
  split
  · split
    · omega
    · split
      · omega
      · split <;> omega
  · omega
theorem kt_next (h : kTc p) : kTc (tNext B len p) := by
  unfold tNext
  split
  · exact h
  · rename_i g
    exact ⟨fun _ => h.1 g, fun z => absurd z (kt_at _ _ _)⟩
theorem kt_fail (h : kTc p) {v : Int32} (hv : v ≠ 0) : kTc (tFail p v) := by
  unfold tFail
  split
  · exact h
  · exact ⟨fun z => absurd rfl z, fun _ => hv⟩
theorem kt_take (h : kTc p) {lo hi : Int32} : kTc (tTake B len p lo hi).2 := by
  unfold tTake
  split
  · split
    · exact kt_fail h (by decide)
    · exact kt_next h
  · exact kt_fail h (by decide)
theorem kt_sign (h : kTc p) {v : Nat} : kTc (tSign B len p v) := by
  unfold tSign
  refine kt_next ?_
  split
  · exact h
  · exact kt_fail h (by decide)
theorem kt_word (h : kTc p) {w : List Nat} : kTc (tWord B len p w) := by
  unfold tWord
  refine kt_next ?_
  split
  · exact h
  · exact kt_fail h (by decide)
theorem kt_end (h : kTc p) : kTc (tEnd p) := by
  unfold tEnd
  split
  · exact h
  · exact kt_fail h (by decide)
theorem kt_open (B : Nat → Int32) (n s : Nat) : kTc (tOpen B n s) := kt_next ⟨fun _ => ⟨rfl, rfl⟩, fun z => absurd (show (1 : Nat) = 5 from z) (by omega)⟩
theorem kt_in {lo hi : Nat} (h1 : lo ≤ hi) (h2 : hi < 2 ^ 31) : ∃ v, lo ≤ v ∧ v ≤ hi ∧ (tTake B len p (nI lo) (nI hi)).1 = nI v := by
  unfold tTake
  split
  · split
    · exact ⟨lo, Nat.le_refl _, h1, rfl⟩
    · rename_i g
      have n0 : ¬ tNum B p < 0 := fun z => g (Or.inl (by
        have := nI_toInt (n := lo) (by omega)
        rw [Int32.lt_iff_toInt_lt] at z ⊢
        rw [this]
        have z0 : (0 : Int32).toInt = 0 := rfl
        omega))
      obtain ⟨v, v1, v2⟩ := nI_of n0
      refine ⟨v, ?_, ?_, v2⟩
      · rcases Nat.lt_or_ge v lo with z | z
        · exact absurd (Or.inl (by rw [v2]; exact nI_lt z (by omega))) g
        · exact z
      · rcases Nat.lt_or_ge hi v with z | z
        · exact absurd (Or.inr (by rw [v2]; exact nI_lt z (by omega))) g
        · exact z
  · exact ⟨lo, Nat.le_refl _, h1, rfl⟩
/-- a flow's numbers are in range -/
def kFo (r : Nat → Int32) : Prop := (∃ w, 1 ≤ w ∧ w ≤ 16 ∧ r 0 = nI w) ∧ ∃ z, z ≤ 200 ∧ r 6 = nI z
def kSo (S : Sup) : Prop := (∃ d, 1 ≤ d ∧ d ≤ 50 ∧ sX S 5 = nI d) ∧ (∃ t, 1 ≤ t ∧ t ≤ 200 ∧ sX S 6 = nI t) ∧ ∀ f, f < sN S → kFo (sF S f)
def kSu (S : Sup) : Prop := ∀ r, r < sM S → ∃ f, f < sN S ∧ sR S r 6 = nI f
/-- nothing but the row of flow sN has changed -/
def kSr (S S' : Sup) : Prop := sN S' = sN S ∧ sM S' = sM S ∧ sX S' = sX S ∧ sR S' = sR S ∧ ∀ f, f ≠ sN S → sF S' f = sF S f
theorem ks_rf : kSr S S := ⟨rfl, rfl, rfl, rfl, fun _ _ => rfl⟩
theorem ks_F {S' : Sup} (h : kSr S S') (k : Nat) (v : Int32) : kSr S (ssF S' (sN S) k v) := by
  obtain ⟨a, b, d, e, f⟩ := h
  refine ⟨a, b, d, e, fun g hg => ?_⟩
  rw [← f g hg]
  funext j
  show j_up (sF S') (sN S) k v g j = _
  rw [ju_n (fun z => hg z.1)]
theorem ks_fo {S' : Sup} (h : kFo (sF S' (sN S))) {k : Nat} (h0 : k ≠ 0) (h6 : k ≠ 6) (v : Int32) : kFo (sF (ssF S' (sN S) k v) (sN S)) := by
  refine ⟨?_, ?_⟩
  · show ∃ w, 1 ≤ w ∧ w ≤ 16 ∧ j_up (sF S') (sN S) k v (sN S) 0 = nI w
    rw [ju_n (by omega)]; exact h.1
  · show ∃ w, w ≤ 200 ∧ j_up (sF S') (sN S) k v (sN S) 6 = nI w
    rw [ju_n (by omega)]; exact h.2
theorem ks_option (ht : kTc p) {S0 : Sup} (hr : kSr S0 S) (hf : kFo (sF S (sN S0))) : kTc (sOption B len p S).1 ∧ kSr S0 (sOption B len p S).2 ∧ kFo (sF (sOption B len p S).2 (sN S0)) := by
  have eN : sN S = sN S0 := hr.1
  unfold sOption
  rw [eN]
  split
  · exact ⟨kt_take (kt_next ht), ks_F hr _ _, ks_fo hf (by omega) (by omega) _⟩
  · split
    · exact ⟨kt_take (kt_next ht), ks_F hr _ _, ks_fo hf (by omega) (by omega) _⟩
    · split
      · exact ⟨kt_take (kt_next ht), ks_F hr _ _, ks_fo hf (by omega) (by omega) _⟩
      · split
        · dsimp only
          refine ⟨kt_take (kt_take (kt_next ht)), ks_F (ks_F hr _ _) _ _, ?_⟩
          have h5 := ks_fo (S := S0) hf (k := 5) (by omega) (by omega) (tTake B len (tNext B len p) 2 99).1
          obtain ⟨v, v1, v2, v3⟩ := kt_in (B := B) (len := len) (p := (tTake B len (tNext B len p) 2 99).2) (lo := 1) (hi := 200) (by omega) (by omega)
          refine ⟨?_, v, v2, ?_⟩
          · show ∃ w, 1 ≤ w ∧ w ≤ 16 ∧ j_up (sF (ssF S (sN S0) 5 _)) (sN S0) 6 _ (sN S0) 0 = nI w
            rw [ju_n (by omega)]; exact h5.1
          · show j_up (sF (ssF S (sN S0) 5 _)) (sN S0) 6 _ (sN S0) 6 = _
            rw [ju_s]; exact v3
        · exact ⟨kt_fail ht (by decide), hr, hf⟩
theorem ks_options {S0 : Sup} : ∀ (k : Nat) (p : Tk) (S : Sup), kTc p → kSr S0 S → kFo (sF S (sN S0)) → kTc (sOptions B len k p S).1 ∧ kSr S0 (sOptions B len k p S).2 ∧ kFo (sF (sOptions B len k p S).2 (sN S0)) := by
  intro k
  induction k with
  | zero => intro p S h1 h2 h3; exact ⟨h1, h2, h3⟩
  | succ k ih =>
    intro p S h1 h2 h3
    unfold sOptions
    split
    · obtain ⟨a1, a2, a3⟩ := ks_option (B := B) (len := len) h1 h2 h3
      exact ih _ _ a1 a2 a3
    · exact ⟨h1, h2, h3⟩
theorem ks_flow (ht : kTc p) (hS : kSo S) (hU : kSu S) : kTc (sFlow B len p S).1 ∧ kSo (sFlow B len p S).2 ∧ kSu (sFlow B len p S).2 := by
  unfold sFlow
  split
  · dsimp only
    have h0 : kTc (sFlow0 B len p S).1 ∧ kSr S (sFlow0 B len p S).2 ∧ kFo (sF (sFlow0 B len p S).2 (sN S)) := by
      unfold sFlow0
      dsimp only
      refine ⟨kt_take (kt_take (kt_next ht)), ks_F (ks_F (ks_F (ks_F (ks_F (ks_F (ks_F ks_rf _ _) _ _) _ _) _ _) _ _) _ _) _ _, ?_⟩
      obtain ⟨v, v1, v2, v3⟩ := kt_in (B := B) (len := len) (p := tNext B len p) (lo := 1) (hi := 16) (by omega) (by omega)
      refine ⟨⟨v, v1, v2, ?_⟩, 0, by omega, ?_⟩
      · show j_up (j_up (j_up (j_up (j_up (j_up (j_up (sF S) (sN S) 0 _) (sN S) 1 _) (sN S) 2 _) (sN S) 3 _) (sN S) 4 _) (sN S) 5 _) (sN S) 6 _ (sN S) 0 = _
        rw [ju_n (by omega), ju_n (by omega), ju_n (by omega), ju_n (by omega), ju_n (by omega), ju_n (by omega), ju_s]; exact v3
      · show j_up (j_up (j_up (j_up (j_up (j_up (j_up (sF S) (sN S) 0 _) (sN S) 1 _) (sN S) 2 _) (sN S) 3 _) (sN S) 4 _) (sN S) 5 _) (sN S) 6 _ (sN S) 6 = _
        rw [ju_s]; rfl
    obtain ⟨a1, a2, a3⟩ := h0
    obtain ⟨b1, ⟨b2, b3, b4, b5, b6⟩, b7⟩ := ks_options (B := B) (len := len) (S0 := S) 800 _ _ a1 a2 a3
    generalize sOptions B len 800 (sFlow0 B len p S).1 (sFlow0 B len p S).2 = y at b1 b2 b3 b4 b5 b6 b7 ⊢
    refine ⟨kt_sign b1, ⟨?_, ?_, fun f hf => ?_⟩, fun r hr => ?_⟩
    · show ∃ d, 1 ≤ d ∧ d ≤ 50 ∧ sX y.2 5 = nI d
      rw [b4]; exact hS.1
    · show ∃ d, 1 ≤ d ∧ d ≤ 200 ∧ sX y.2 6 = nI d
      rw [b4]; exact hS.2.1
    · have hf' : f < sN y.2 + 1 := hf
      show kFo (sF y.2 f)
      by_cases e : f = sN S
      · rw [e]; exact b7
      · rw [b6 f e]; exact hS.2.2 f (by omega)
    · have hr' : r < sM y.2 := hr
      obtain ⟨f, f1, f2⟩ := hU r (by omega)
      refine ⟨f, ?_, ?_⟩
      · show f < sN y.2 + 1
        omega
      · show sR y.2 r 6 = _
        rw [b5]; exact f2
  · exact ⟨kt_fail ht (by decide), hS, hU⟩
def kSq (S S' : Sup) : Prop := sN S' = sN S ∧ sM S' = sM S ∧ sX S' = sX S ∧ sF S' = sF S ∧ ∀ r, r ≠ sM S → sR S' r = sR S r
theorem kq_R {S' : Sup} (h : kSq S S') (k : Nat) (v : Int32) : kSq S (ssR S' (sM S) k v) := by
  obtain ⟨a, b, d, e, f⟩ := h
  refine ⟨a, b, d, e, fun g hg => ?_⟩
  rw [← f g hg]
  funext j
  show j_up (sR S') (sM S) k v g j = _
  rw [ju_n (fun z => hg z.1)]
theorem kq_cond (ht : kTc p) {S0 : Sup} (hr : kSq S0 S) : kTc (sCond B len p S).1 ∧ kSq S0 (sCond B len p S).2 := by
  have eM : sM S = sM S0 := hr.2.1
  unfold sCond
  dsimp only
  rw [eM]
  refine ⟨kt_take (kt_take (kt_next ?_)), kq_R (kq_R hr _ _) _ _⟩
  split
  · exact ht
  · split
    · exact ht
    · split
      · exact ht
      · exact kt_fail ht (by decide)
theorem kq_conds {S0 : Sup} : ∀ (k : Nat) (p : Tk) (S : Sup), kTc p → kSq S0 S → kTc (sConds B len k p S).1 ∧ kSq S0 (sConds B len k p S).2 := by
  intro k
  induction k with
  | zero => intro p S h1 h2; exact ⟨h1, h2⟩
  | succ k ih =>
    intro p S h1 h2
    unfold sConds
    split
    · split
      · exact ⟨h1, h2⟩
      · obtain ⟨a1, a2⟩ := kq_cond (B := B) (len := len) h1 h2
        exact ih _ _ a1 a2
    · exact ⟨h1, h2⟩
theorem kt_takeN {n : Nat} (hn : n ≤ 6) (h : tkK (tTake B len p 0 (nI n - 1)).2 ≠ 5) : ∃ f, f < n ∧ (tTake B len p 0 (nI n - 1)).1 = nI f := by
  unfold tTake at h ⊢
  split
  · rename_i g3
    rw [if_pos g3] at h
    split
    · rename_i g
      rw [if_pos g] at h
      exact absurd (tFail_5 _ _) h
    · rename_i g
      have n0 : ¬ tNum B p < 0 := fun z => g (Or.inl z)
      obtain ⟨v, v1, v2⟩ := nI_of n0
      refine ⟨v, ?_, v2⟩
      have h2 : ¬ nI n - 1 < nI v := fun z => g (Or.inr (by rw [v2]; exact z))
      rw [Int32.lt_iff_toInt_lt, show (1 : Int32) = nI 1 from rfl, pk_sub_toInt (by omega) (by omega), nI_toInt v1] at h2
      omega
  · rename_i g3
    rw [if_neg g3] at h
    exact absurd (tFail_5 _ _) h
theorem ks_rule (ht : kTc p) (hS : kSo S) (hU : kSu S) (hN : sN S ≤ 6) : kTc (sRule B len p S).1 ∧ kSo (sRule B len p S).2 ∧ (tkK (sRule B len p S).1 ≠ 5 → kSu (sRule B len p S).2) := by
  unfold sRule
  split
  · dsimp only
    have h0 : kSq S (sRule0 S) := by
      unfold sRule0
      exact kq_R (kq_R (kq_R (kq_R (kq_R (kq_R ⟨rfl, rfl, rfl, rfl, fun _ _ => rfl⟩ _ _) _ _) _ _) _ _) _ _) _ _
    obtain ⟨b1, b2, b3, b4, b5, b6⟩ := kq_conds (B := B) (len := len) (S0 := S) 800 (tNext B len p) (sRule0 S) (kt_next ht) h0
    generalize sConds B len 800 (tNext B len p) (sRule0 S) = y at b1 b2 b3 b4 b5 b6 ⊢
    refine ⟨kt_sign (kt_take (kt_word b1)), ⟨?_, ?_, fun f hf => ?_⟩, fun hk r hr => ?_⟩
    · show ∃ d, 1 ≤ d ∧ d ≤ 50 ∧ sX y.2 5 = nI d
      rw [b4]; exact hS.1
    · show ∃ d, 1 ≤ d ∧ d ≤ 200 ∧ sX y.2 6 = nI d
      rw [b4]; exact hS.2.1
    · have hf' : f < sN y.2 := hf
      show kFo (sF y.2 f)
      rw [b5]; exact hS.2.2 f (by omega)
    · have hr' : r < sM y.2 + 1 := hr
      have hk2 : tkK (tTake B len (tWord B len y.1 (wd "to")) 0 (nI (sN y.2) - 1)).2 ≠ 5 := fun z => hk (by rw [tSign_5 z]; exact z)
      obtain ⟨f, f1, f2⟩ := kt_takeN (by omega) hk2
      by_cases e : r = sM y.2
      · refine ⟨f, f1, ?_⟩
        show j_up (sR y.2) (sM y.2) 6 _ r 6 = _
        rw [e, ju_s]; exact f2
      · obtain ⟨f', f1', f2'⟩ := hU r (by omega)
        refine ⟨f', ?_, ?_⟩
        · show f' < sN y.2
          omega
        · show j_up (sR y.2) (sM y.2) 6 _ r 6 = _
          rw [ju_n (by omega), b6 r (by omega)]; exact f2'
  · exact ⟨kt_fail ht (by decide), hS, fun _ => hU⟩
theorem ks_clause (ht : kTc p) (hS : kSo S) (hU : kSu S) (hN : sN S ≤ 6) : kTc (sClause B len p S).1 ∧ kSo (sClause B len p S).2 ∧ (tkK (sClause B len p S).1 ≠ 5 → kSu (sClause B len p S).2) := by
  unfold sClause
  split
  · obtain ⟨a, b, d⟩ := ks_flow (B := B) (len := len) ht hS hU
    exact ⟨a, b, fun _ => d⟩
  · split
    · exact ks_rule ht hS hU hN
    · split
      · refine ⟨kt_sign (kt_take (kt_next ht)), ⟨?_, ?_, hS.2.2⟩, fun _ => hU⟩
        · show ∃ d, 1 ≤ d ∧ d ≤ 50 ∧ up1 (sX S) 4 (sSetting B len p 9000).1 5 = nI d
          rw [u1_n (by omega)]; exact hS.1
        · show ∃ d, 1 ≤ d ∧ d ≤ 200 ∧ up1 (sX S) 4 (sSetting B len p 9000).1 6 = nI d
          rw [u1_n (by omega)]; exact hS.2.1
      · split
        · refine ⟨kt_sign (kt_take (kt_next ht)), ⟨?_, ?_, hS.2.2⟩, fun _ => hU⟩
          · show ∃ d, 1 ≤ d ∧ d ≤ 50 ∧ up1 (sX S) 5 (sSetting B len p 50).1 5 = nI d
            rw [u1_s]; exact kt_in (lo := 1) (hi := 50) (by omega) (by omega)
          · show ∃ d, 1 ≤ d ∧ d ≤ 200 ∧ up1 (sX S) 5 (sSetting B len p 50).1 6 = nI d
            rw [u1_n (by omega)]; exact hS.2.1
        · split
          · refine ⟨kt_sign (kt_take (kt_next ht)), ⟨?_, ?_, hS.2.2⟩, fun _ => hU⟩
            · show ∃ d, 1 ≤ d ∧ d ≤ 50 ∧ up1 (sX S) 6 (sSetting B len p 200).1 5 = nI d
              rw [u1_n (by omega)]; exact hS.1
            · show ∃ d, 1 ≤ d ∧ d ≤ 200 ∧ up1 (sX S) 6 (sSetting B len p 200).1 6 = nI d
              rw [u1_s]; exact kt_in (lo := 1) (hi := 200) (by omega) (by omega)
          · exact ⟨kt_fail ht (by decide), hS, fun _ => hU⟩
theorem ks_read : ∀ (k : Nat) (p : Tk) (S : Sup), kTc p → kSo S → (tkK p ≠ 5 → kSu S) → sN S ≤ 6 → sM S ≤ 12 → kTc (sRead B len k p S).1 ∧ kSo (sRead B len k p S).2 ∧ (tkK (sRead B len k p S).1 ≠ 5 → kSu (sRead B len k p S).2) := by
  intro k
  induction k with
  | zero => intro p S h1 h2 h3 _ _; exact ⟨h1, h2, h3⟩
  | succ k ih =>
    intro p S h1 h2 h3 hN hM
    unfold sRead
    split
    · exact ⟨h1, h2, h3⟩
    · rename_i g
      obtain ⟨a1, a2, a3⟩ := ks_clause (B := B) (len := len) h1 h2 (h3 (fun z => g (Or.inr z))) hN
      obtain ⟨n1, n2⟩ := sClause_N (B := B) (len := len) (p := p) hN hM
      exact ih _ _ a1 a2 a3 n1 n2
theorem ks_reset (S : Sup) : kSo (sReset S) ∧ kSu (sReset S) ∧ sN (sReset S) = 0 ∧ sM (sReset S) = 0 := by
  refine ⟨⟨⟨2, by omega, by omega, rfl⟩, ⟨5, by omega, by omega, rfl⟩, fun f hf => ?_⟩, fun r hr => ?_, rfl, rfl⟩
  · exact absurd hf (by show ¬ f < 0; omega)
  · exact absurd hr (by show ¬ r < 0; omega)
end KCo
