/-! ===== class and reference held together: a load, the records, a run ===== -/
section KBe
variable {nf np c : Nat} {L : Lnk} {M : Rf} {S : Sup}
theorem kb_row (S : Sup) (f : Nat) : ∀ (k j : Nat) (L : Lnk), lX (lBegR S f k j L) = lX L ∧ lV (lBegR S f k j L) = lV L ∧ ∀ g i, lF (lBegR S f k j L) g i = if g = f ∧ j ≤ i ∧ i < j + k then (if i < 7 then sF S f i else 0) else lF L g i := by
  intro k
  induction k with
  | zero => intro j L; exact ⟨rfl, rfl, fun g i => by rw [if_neg (by omega)]; rfl⟩
  | succ k ih =>
    intro j L
    obtain ⟨a, b, d⟩ := ih (j + 1) (lsF L f j (if j < 7 then sF S f j else 0))
    refine ⟨a, b, fun g i => ?_⟩
    show lF (lBegR S f k (j + 1) (lsF L f j (if j < 7 then sF S f j else 0))) g i = _
    rw [d g i]
    by_cases e : g = f ∧ j + 1 ≤ i ∧ i < j + 1 + k
    · rw [if_pos e, if_pos (show g = f ∧ j ≤ i ∧ i < j + (k + 1) by omega)]
    · rw [if_neg e]
      show j_up (lF L) f j _ g i = _
      by_cases e2 : g = f ∧ i = j
      · rw [e2.1, e2.2, ju_s, if_pos (show f = f ∧ j ≤ j ∧ j < j + (k + 1) by omega)]
      · rw [ju_n e2, if_neg (show ¬ (g = f ∧ j ≤ i ∧ i < j + (k + 1)) by omega)]
theorem kb_flow (S : Sup) (f : Nat) (L : Lnk) : lX (lBegF S f L) = lX L ∧ (∀ g, lV (lBegF S f L) g = if g = f then 0 else lV L g) ∧ ∀ g i, lF (lBegF S f L) g i = if g = f then (if i = 17 ∨ i = 18 then -1 else if i < 19 then (if i < 7 then sF S f i else 0) else lF L g i) else lF L g i := by
  obtain ⟨a, b, d⟩ := kb_row S f 19 0 L
  unfold lBegF
  generalize lBegR S f 19 0 L = R at a b d ⊢
  refine ⟨a, fun g => ?_, fun g i => ?_⟩
  · show up1 (lV R) f 0 g = _
    rw [b]; rfl
  · show j_up (j_up (lF R) f 17 (-1)) f 18 (-1) g i = _
    by_cases e : g = f
    · subst e
      rw [if_pos rfl]
      by_cases e8 : i = 18
      · rw [e8, ju_s, if_pos (by omega)]
      · rw [ju_n (by omega)]
        by_cases e7 : i = 17
        · rw [e7, ju_s, if_pos (by omega)]
        · rw [ju_n (by omega), d, if_neg (show ¬ (i = 17 ∨ i = 18) by omega)]
          by_cases e9 : i < 19
          · rw [if_pos (show g = g ∧ 0 ≤ i ∧ i < 0 + 19 by omega), if_pos e9]
          · rw [if_neg (show ¬ (g = g ∧ 0 ≤ i ∧ i < 0 + 19) by omega), if_neg e9]
    · rw [if_neg e, ju_n (by omega), ju_n (by omega), d, if_neg (fun z => e z.1)]
theorem kb_all (S : Sup) : ∀ (k f : Nat) (L : Lnk), lX (lBegL S k f L) = lX L ∧ (∀ g, f ≤ g → g < f + k → lV (lBegL S k f L) g = 0 ∧ ∀ i, i < 19 → lF (lBegL S k f L) g i = if i = 17 ∨ i = 18 then -1 else if i < 7 then sF S g i else 0) ∧ ∀ g, ¬ (f ≤ g ∧ g < f + k) → lV (lBegL S k f L) g = lV L g ∧ ∀ i, lF (lBegL S k f L) g i = lF L g i := by
  intro k
  induction k with
  | zero => intro f L; exact ⟨rfl, fun g h1 h2 => by omega, fun g _ => ⟨rfl, fun _ => rfl⟩⟩
  | succ k ih =>
    intro f L
    obtain ⟨a1, a2, a3⟩ := ih (f + 1) (lBegF S f L)
    obtain ⟨b1, b2, b3⟩ := kb_flow S f L
    refine ⟨a1.trans b1, fun g h1 h2 => ?_, fun g hg => ?_⟩
    · by_cases e : g = f
      · subst e
        obtain ⟨d1, d2⟩ := a3 g (by omega)
        refine ⟨?_, fun i hi => ?_⟩
        · show lV (lBegL S k (g + 1) (lBegF S g L)) g = 0
          rw [d1, b2, if_pos rfl]
        · show lF (lBegL S k (g + 1) (lBegF S g L)) g i = _
          rw [d2, b3, if_pos rfl, if_pos hi]
      · exact a2 g (by omega) (by omega)
    · obtain ⟨d1, d2⟩ := a3 g (by omega)
      refine ⟨?_, fun i => ?_⟩
      · show lV (lBegL S k (f + 1) (lBegF S f L)) g = _
        rw [d1, b2, if_neg (by omega)]
      · show lF (lBegL S k (f + 1) (lBegF S f L)) g i = _
        rw [d2, b3, if_neg (by omega)]
theorem kc_begin (hS : kSo S) (hN : sN S ≤ 6) (hM : rLoaded S M) : kFu (sN S) 0 0 (lBegin S L) M := by
  obtain ⟨⟨⟨x0, x1, ⟨x2, x3, x4, x5⟩, x6, x7, x8⟩, f1, f2, u1, q1, p1, s1, w1⟩, hv, hcg⟩ := hM
  unfold lBegin
  obtain ⟨a1, a2, _⟩ := kb_all S (sN S) 0 (lBegX S L)
  generalize lBegL S (sN S) 0 (lBegX S L) = R at a1 a2
  have e5 : lX R 5 = nI (sN S) := by rw [a1]; rfl
  have e6 : lX R 6 = sX S 4 := by rw [a1]; rfl
  have e7 : lX R 7 = sX S 5 := by rw [a1]; rfl
  have e8 : lX R 8 = sX S 6 := by rw [a1]; rfl
  have e9 : lX R 9 = 0 := by rw [a1]; rfl
  have e10 : lX R 10 = 0 := by rw [a1]; rfl
  have e11 : lX R 11 = 0 := by rw [a1]; rfl
  have e12 : lX R 12 = 0 := by rw [a1]; rfl
  have e13 : lX R 13 = 0 := by rw [a1]; rfl
  have e14 : lX R 14 = 0 := by rw [a1]; rfl
  have e15 : lX R 15 = 0 := by rw [a1]; rfl
  have eF : ∀ g i, g < sN S → i < 19 → lF R g i = if i = 17 ∨ i = 18 then -1 else if i < 7 then sF S g i else 0 := fun g i hg hi => (a2 g (by omega) (by omega)).2 i hi
  have su0 : kc_su (fun f => (([] : List Nat)).length) (sN S) 0 = 0 := kc_su_0 (fun x _ _ => rfl)
  obtain ⟨⟨d, d1, d2, d3⟩, ⟨t, t1, t2, t3⟩, hfo⟩ := hS
  refine ⟨0, ⟨fun _ => [], fun _ => 0, ⟨⟨hN, by omega, by omega⟩, ⟨⟨e5, x0⟩, ⟨by rw [e6, x6], by rw [e7, x7], by rw [e8, x8]⟩, ⟨e9, x2⟩, ⟨e10, x3⟩, ⟨e11, x4⟩, by rw [e12, x5]⟩, fun f k hf hk => ?_, fun f hf => ?_, fun p k hp => absurd hp (by omega), fun n hn => absurd hn (by omega), ⟨fun p hp => absurd hp (by omega), fun n hn => absurd hn (by omega), fun f hf => ?_⟩, fun f hf => ?_, ⟨?_, e14, fun f hf => ?_⟩, fun p hp => absurd hp (by omega)⟩, fun x hx => absurd hx (by omega)⟩, fun f hf => ?_, d, t, 0, ⟨d1, d2, by rw [x7]; exact d3⟩, ⟨t1, t2, by rw [x8]; exact t3⟩, fun m hm => absurd hm (by omega), Nat.le_refl _, e15, fun m hm => absurd hm (by omega), fun m hm => absurd hm (by omega)⟩
  · have no := kc_fc_no hk
    rw [eF f _ hf no.2.2.2.2.2, if_neg (by omega)]
    by_cases g : k < 7
    · have : kc_fc k = k := by unfold kc_fc; rw [if_pos (by omega)]
      rw [this, if_pos g, f1 f k hf g]
    · have : ¬ kc_fc k < 7 := by
        unfold kc_fc
        split
        · omega
        · split <;> omega
      rw [if_neg this, f2 f k (by omega) (Or.inr (by omega))]
  · rw [(a2 f (by omega) (by omega)).1, hv]
  · obtain ⟨⟨w, y1, y2, y3⟩, z, y4, y5⟩ := hfo f hf
    exact ⟨⟨w, y1, y2, by rw [f1 f 0 hf (by omega)]; exact y3⟩, z, y4, by rw [f1 f 6 hf (by omega)]; exact y5⟩
  · refine ⟨⟨f2 f 7 (by omega) (Or.inr (by omega)), fun i v hv => by simp at hv⟩, ⟨?_, ?_, trivial⟩, List.nodup_nil, fun p => ?_⟩
    · rw [eF f 17 hf (by omega), if_pos (by omega)]; rfl
    · rw [eF f 18 hf (by omega), if_pos (by omega)]; rfl
    · exact ⟨fun z => absurd z List.not_mem_nil, fun z => absurd z.1 (by omega)⟩
  · rw [e13, su0]; rfl
  · refine ⟨?_, ?_, ?_⟩
    · rw [eF f 8 hf (by omega), if_neg (by omega), if_neg (by omega)]; rfl
    · rw [eF f 14 hf (by omega), if_neg (by omega), if_neg (by omega)]; rfl
    · rw [f2 f 9 (by omega) (Or.inr (by omega))]; rfl
  · rw [eF f 16 hf (by omega), if_neg (by omega), if_neg (by omega)]; rfl
/-! the records -/
abbrev kRd : Type := Nat × Int32 × (Nat → Nat → Int32)
/-- the latest d records are the reference's -/
def kRp (nf c d : Nat) (D : kRd) (W : Nat → Nat → Int32) : Prop := D.1 ≤ 128 ∧ (D.1 < 128 → D.2.1 + 1 = nI D.1) ∧ d ≤ D.1 ∧ d ≤ c ∧ ∃ t, t < 128 ∧ (0 < D.1 → D.2.1 = nI t) ∧ ∀ a, a < d → (∀ f, f < nf → D.2.2 (rr t a) f = W ((c - 1 - a) % 128) f) ∧ D.2.2 (rr t a) 6 = W ((c - 1 - a) % 128) 6
def kRc (nf c : Nat) (D : kRd) (W : Nat → Nat → Int32) : Prop := D.1 = min c 128 ∧ kRp nf c (min c 128) D W
def kWb (nf : Nat) (W : Nat → Nat → Int32) : Prop := ∀ r f, r < 128 → f < nf → ∃ b, b ≤ 150000 ∧ W r f = nI b
theorem kr_nx {nf d : Nat} {D : kRd} {W : Nat → Nat → Int32} (h : kRp nf c d D W) : ∃ t', t' < 128 ∧ cNx D.2.1 = t' ∧ (D.2.1 + 1 = nI t' ∨ D.2.1 + 1 = 128 ∧ t' = 0) ∧ (D.1 < 128 → t' = D.1) ∧ ∀ t, t < 128 → 0 < D.1 → D.2.1 = nI t → t' = (t + 1) % 128 := by
  obtain ⟨h1, h2, h3, _, t, t1, t2, _⟩ := h
  by_cases g : D.1 < 128
  · have e := h2 g
    have e' : D.2.1 + 1 = nI D.1 ∨ D.2.1 + 1 = 128 ∧ D.1 = 0 := Or.inl e
    refine ⟨D.1, g, cNx_e g e', e', fun _ => rfl, fun s s1 s2 s3 => ?_⟩
    rw [s3, nI_1] at e
    have := (nI_eq (by omega) (by omega)).mp e
    omega
  · have e0 := t2 (by omega)
    have e : D.2.1 + 1 = nI (t + 1) := by rw [e0, nI_1]
    by_cases g2 : t + 1 < 128
    · have e' : D.2.1 + 1 = nI (t + 1) ∨ D.2.1 + 1 = 128 ∧ t + 1 = 0 := Or.inl e
      refine ⟨t + 1, g2, cNx_e g2 e', e', fun z => absurd z g, fun s s1 s2 s3 => ?_⟩
      have := (nI_eq (a := s) (b := t) (by omega) (by omega)).mp (s3.symm.trans e0)
      omega
    · have e1 : D.2.1 + 1 = 128 := by rw [e, show t + 1 = 128 by omega]; rfl
      have e' : D.2.1 + 1 = nI 0 ∨ D.2.1 + 1 = 128 ∧ 0 = 0 := Or.inr ⟨e1, rfl⟩
      refine ⟨0, by omega, cNx_e (by omega) e', e', fun z => absurd z g, fun s s1 s2 s3 => ?_⟩
      have := (nI_eq (a := s) (b := t) (by omega) (by omega)).mp (s3.symm.trans e0)
      omega
theorem kr_lRow {L : Lnk} {r : Nat} : ∀ (k f : Nat) (W : Nat → Nat → Int32) (x j : Nat), lRow L r k f W x j = if x = r ∧ f ≤ j ∧ j < f + k then lF L j 10 else W x j := by
  intro k
  induction k with
  | zero => intro f W x j; rw [if_neg (by omega)]; rfl
  | succ k ih =>
    intro f W x j
    show lRow L r k (f + 1) (j_up W r f (lF L f 10)) x j = _
    rw [ih]
    by_cases e : x = r ∧ f + 1 ≤ j ∧ j < f + 1 + k
    · rw [if_pos e, if_pos (by omega)]
    · rw [if_neg e]
      by_cases e2 : x = r ∧ j = f
      · rw [e2.1, e2.2, ju_s, if_pos (by omega)]
      · rw [ju_n e2, if_neg (by omega)]
/-- one more record -/
theorem kr_rec {nf d : Nat} {D : kRd} {W W' : Nat → Nat → Int32} {L : Lnk} (h : kRp nf c d D W) (hnf : nf ≤ 6) (w1 : ∀ x j, x ≠ c % 128 → W' x j = W x j) (w2 : ∀ f, f < nf → W' (c % 128) f = lF L f 10) (w3 : W' (c % 128) 6 = lMask L nf 0 0) :
    kRp nf (c + 1) (min (d + 1) 128) (cRec nf (L, D)).2 W' ∧ (cRec nf (L, D)).2.1 = min (D.1 + 1) 128 := by
  obtain ⟨t', t1', e1, _, e3, e4⟩ := kr_nx h
  obtain ⟨h1, h2, h3, h4, t, t1, t2, t3⟩ := h
  have eR : ∀ x j, (cRec nf (L, D)).2.2.2 x j = if x = t' ∧ j = 6 then lMask L nf 0 0 else if x = t' ∧ j < nf then lF L j 10 else D.2.2 x j := fun x j => by
    show lRecord L nf (cNx D.2.1) D.2.2 x j = _
    rw [e1]
    unfold lRecord
    by_cases e : x = t' ∧ j = 6
    · rw [if_pos e, e.1, e.2, ju_s]
    · rw [ju_n e, if_neg e, kr_lRow]
      by_cases e2 : x = t' ∧ j < nf
      · rw [if_pos (by omega), if_pos e2]
      · rw [if_neg (by omega), if_neg e2]
  refine ⟨⟨?_, fun g => ?_, ?_, by omega, t', t1', fun _ => ?_, fun a ha => ?_⟩, rfl⟩
  · show min (D.1 + 1) 128 ≤ 128
    omega
  · have g' : min (D.1 + 1) 128 < 128 := g
    show nI (cNx D.2.1) + 1 = nI (min (D.1 + 1) 128)
    rw [e1, e3 (by omega), nI_1, show min (D.1 + 1) 128 = D.1 + 1 by omega]
  · show min (d + 1) 128 ≤ min (D.1 + 1) 128
    omega
  · show nI (cNx D.2.1) = nI t'
    rw [e1]
  · have key : ∀ f, f < nf ∨ f = 6 → (cRec nf (L, D)).2.2.2 (rr t' a) f = W' ((c + 1 - 1 - a) % 128) f := fun f hf => by
      rw [eR]
      unfold rr
      cases a with
      | zero =>
        rw [show (t' + 128 - 0) % 128 = t' by omega, show c + 1 - 1 - 0 = c by omega]
        by_cases e6 : f = 6
        · rw [if_pos ⟨rfl, e6⟩, e6, w3]
        · rw [if_neg (fun z => e6 z.2), if_pos ⟨rfl, by omega⟩, w2 f (by omega)]
      | succ a =>
        have et := e4 t t1 (by omega) (t2 (by omega))
        have er : (t' + 128 - (a + 1)) % 128 = (t + 128 - a) % 128 := by omega
        have ne : (t' + 128 - (a + 1)) % 128 ≠ t' := by omega
        rw [if_neg (fun z => ne z.1), if_neg (fun z => ne z.1), er, show c + 1 - 1 - (a + 1) = c - 1 - a by omega, w1 _ _ (by omega)]
        have z := t3 a (by omega)
        rcases hf with y | y
        · exact z.1 f y
        · rw [y]; exact z.2
    exact ⟨fun f hf => key f (Or.inl hf), key 6 (Or.inr rfl)⟩
theorem kr_skip {nf c' d : Nat} {D : kRd} {W W' : Nat → Nat → Int32} (h : kRp nf c d D W) : kRp nf c' 0 D W' := by
  obtain ⟨h1, h2, h3, h4, t, t1, t2, t3⟩ := h
  exact ⟨h1, h2, Nat.zero_le _, Nat.zero_le _, t, t1, t2, fun a ha => absurd ha (by omega)⟩
/-- a record copied -/
theorem kr_copy {nf : Nat} {D : kRd} {W Z : Nat → Nat → Int32} (h : kRc nf c D W) : kRc nf c (D.1, D.2.1, cpR D.1 D.2.2 Z) W := by
  obtain ⟨h0, h1, h2, h3, h4, t, t1, t2, t3⟩ := h
  refine ⟨h0, h1, h2, h3, h4, t, t1, t2, fun a ha => ?_⟩
  have hr : rr t a < D.1 := by
    unfold rr
    by_cases g : D.1 < 128
    · have e := h2 g
      have e2 := t2 (by omega)
      rw [e2, nI_1] at e
      have := (nI_eq (by omega) (by omega)).mp e
      omega
    · omega
  have e : ∀ f, cpR D.1 D.2.2 Z (rr t a) f = D.2.2 (rr t a) f := fun f => if_pos hr
  show (∀ f, f < nf → cpR D.1 D.2.2 Z (rr t a) f = _) ∧ cpR D.1 D.2.2 Z (rr t a) 6 = _
  simp only [e]
  exact t3 a ha
/-- delivered bytes are few -/
theorem kc_bytes (h : kFu nf np c L M) {f : Nat} (hf : f < nf) : ∃ b, b ≤ 150000 ∧ rF M f 9 = nI b ∧ lF L f 10 = nI b := by
  obtain ⟨ns, ⟨q, sf, hst, _⟩, _⟩ := h
  have hb := hst.1
  have e := (hst.2.2.2.2.2.2.2.2.1.2.2 f hf).2.2
  have hle := kc_su_le (g := fun p => if rP M p 0 = nI f ∧ sf p = 2 then tn (rP M p 1) else 0) (B := 1500) (k := np) (i := 0) (fun x _ hx => by
    split
    · obtain ⟨_, z, z1, z2, z3⟩ := hst.2.2.2.2.2.2.1.1 x (by omega)
      rw [z3, show tn (nI z) = z from nI_clamp (by omega)]; exact z2
    · omega)
  exact ⟨_, by omega, e, (hst.2.2.1 f 9 hf (by omega)).trans e⟩
/-- the link of the class and the reference's state -/
def kCp (nf np c : Nat) (C : Lk4) (M : Rf) : Prop := kFu nf np c C.1 M ∧ kRc nf c C.2 (rW M) ∧ kWb nf (rW M)
theorem kr_wb {nf : Nat} {W W' : Nat → Nat → Int32} (h : kWb nf W) (hf : kFu nf np (c + 1) L M) (w1 : ∀ x j, x ≠ c % 128 → W' x j = W x j) (w2 : ∀ f, f < nf → W' (c % 128) f = lF L f 10) : kWb nf W' := by
  intro r f hr hf'
  by_cases e : r = c % 128
  · rw [e, w2 f hf']
    obtain ⟨b, b1, _, b3⟩ := kc_bytes hf hf'
    exact ⟨b, b1, b3⟩
  · rw [w1 r f e]; exact h r f hr hf'
theorem kc_fuK (h : kFu nf np c L M) : nf ≤ 6 ∧ np ≤ 100 := by
  obtain ⟨ns, ⟨q, sf, hst, _⟩, _⟩ := h
  exact ⟨hst.1.1, hst.1.2.1⟩
theorem kc_run : ∀ (k d c : Nat) (C : Lk4) (M : Rf), kFu nf np c C.1 M → kRp nf c d C.2 (rW M) → kWb nf (rW M) → c + k < 2 ^ 29 →
    kFu nf np (c + k) (cRun nf k C).1 (rTicks nf k M) ∧ kRp nf (c + k) (if k ≤ 128 then min (d + k) 128 else 128) (cRun nf k C).2 (rW (rTicks nf k M)) ∧ kWb nf (rW (rTicks nf k M)) ∧ (k ≤ 128 → (cRun nf k C).2.1 = min (C.2.1 + k) 128) ∧ rU (rTicks nf k M) = rU M ∧ rX (rTicks nf k M) 1 = rX M 1 := by
  intro k
  induction k with
  | zero =>
    intro d c C M h1 h2 h3 _
    have hd : min (d + 0) 128 = d := by have := h2.1; have := h2.2.2.1; omega
    refine ⟨h1, ?_, h3, fun _ => ?_, rfl, rfl⟩
    · rw [if_pos (by omega), hd]; exact h2
    · show C.2.1 = _
      have := h2.1; omega
  | succ k ih =>
    intro d c C M h1 h2 h3 hc
    have hnf := (kc_fuK h1).1
    have h1' := h1
    obtain ⟨ns, i1, i2, i3⟩ := h1'
    obtain ⟨ns', a1, a2, a3, ⟨a4, a5⟩, w1, w2, w3⟩ := kc_tick i1 i2 i3 (by omega)
    have hF : kFu nf np (c + 1) (lTick nf C.1) (rTick nf M) := ⟨ns', a1, a2, a3⟩
    have hW := kr_wb h3 hF w1 w2
    show kFu nf np (c + (k + 1)) (cRun nf k (if 128 < k + 1 then (lTick nf C.1, C.2) else cRec nf (lTick nf C.1, C.2))).1 (rTicks nf k (rTick nf M)) ∧ kRp nf (c + (k + 1)) (if k + 1 ≤ 128 then min (d + (k + 1)) 128 else 128) (cRun nf k (if 128 < k + 1 then (lTick nf C.1, C.2) else cRec nf (lTick nf C.1, C.2))).2 (rW (rTicks nf k (rTick nf M))) ∧ kWb nf (rW (rTicks nf k (rTick nf M))) ∧ (k + 1 ≤ 128 → (cRun nf k (if 128 < k + 1 then (lTick nf C.1, C.2) else cRec nf (lTick nf C.1, C.2))).2.1 = min (C.2.1 + (k + 1)) 128) ∧ rU (rTicks nf k (rTick nf M)) = rU M ∧ rX (rTicks nf k (rTick nf M)) 1 = rX M 1
    by_cases g : 128 < k + 1
    · rw [if_pos g, if_neg (show ¬ k + 1 ≤ 128 by omega)]
      obtain ⟨b1, b2, b3, b4, b5, b6⟩ := ih 0 (c + 1) (lTick nf C.1, C.2) (rTick nf M) hF (kr_skip h2) hW (by omega)
      rw [show c + (k + 1) = c + 1 + k by omega]
      refine ⟨b1, ?_, b3, fun z => by omega, b5.trans a4, b6.trans a5⟩
      by_cases g2 : k ≤ 128
      · rw [if_pos g2, show min (0 + k) 128 = 128 by omega] at b2; exact b2
      · rw [if_neg g2] at b2; exact b2
    · rw [if_neg g, if_pos (show k + 1 ≤ 128 by omega)]
      obtain ⟨r1, r2⟩ := kr_rec (L := lTick nf C.1) h2 hnf w1 w2 w3
      have e1 : (cRec nf (lTick nf C.1, C.2)).1 = lTick nf C.1 := rfl
      obtain ⟨b1, b2, b3, b4, b5, b6⟩ := ih (min (d + 1) 128) (c + 1) (cRec nf (lTick nf C.1, C.2)) (rTick nf M) (by rw [e1]; exact hF) r1 hW (by omega)
      rw [if_pos (show k ≤ 128 by omega), show min (min (d + 1) 128 + k) 128 = min (d + (k + 1)) 128 by omega] at b2
      rw [show c + (k + 1) = c + 1 + k by omega]
      refine ⟨b1, b2, b3, fun _ => ?_, b5.trans a4, b6.trans a5⟩
      rw [b4 (by omega), r2]; omega
/-- a run -/
theorem kc_runs {C : Lk4} (h : kCp nf np c C M) (k : Nat) (hc : c + k < 2 ^ 29) : kCp nf np (c + k) (cRun nf k C) (rTicks nf k M) ∧ rU (rTicks nf k M) = rU M ∧ rX (rTicks nf k M) 1 = rX M 1 := by
  obtain ⟨h1, ⟨h2, h3⟩, h4⟩ := h
  obtain ⟨b1, b2, b3, b4, b5, b6⟩ := kc_run k _ c C M h1 h3 h4 hc
  refine ⟨⟨b1, ?_, b3⟩, b5, b6⟩
  by_cases g : k ≤ 128
  · rw [if_pos g, show min (min c 128 + k) 128 = min (c + k) 128 by omega] at b2
    exact ⟨by rw [b4 g, h2]; omega, b2⟩
  · rw [if_neg g, show 128 = min (c + k) 128 by omega] at b2
    refine ⟨?_, b2⟩
    have z1 := b2.1
    have z2 := b2.2.2.1
    omega
end KBe
