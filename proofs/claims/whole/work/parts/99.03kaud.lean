/-! ===== class and reference held together: audit, worst ===== -/
section KAu
theorem ki_sub {x y : Int64} (h1 : -(2 ^ 61) ≤ x.toInt ∧ x.toInt ≤ 2 ^ 61) (h2 : -(2 ^ 61) ≤ y.toInt ∧ y.toInt ≤ 2 ^ 61) : (x - y).toInt = x.toInt - y.toInt := by
  rw [Int64.toInt_sub, Int.bmod_eq_of_le (by omega) (by omega)]
theorem ki_abs {x : Int64} (h1 : -(2 ^ 62) ≤ x.toInt ∧ x.toInt ≤ 2 ^ 62) : (labs x).toInt = (x.toInt.natAbs : Int) := by
  unfold labs
  split
  · rename_i g
    rw [Int64.lt_iff_toInt_lt] at g
    have : (0 : Int64).toInt = 0 := rfl
    omega
  · rename_i g
    rw [Int64.lt_iff_toInt_lt] at g
    have : (0 : Int64).toInt = 0 := rfl
    rw [Int64.toInt_neg, Int.bmod_eq_of_le (by omega) (by omega)]
    omega
theorem ki_max (x y : Int64) : (lmax x y).toInt = max x.toInt y.toInt := by
  unfold lmax
  split
  · rename_i g
    rw [Int64.lt_iff_toInt_lt] at g; omega
  · rename_i g
    rw [Int64.lt_iff_toInt_lt] at g; omega
theorem ki_mul {b u : Nat} (hb : b ≤ 150000) (hu : u ≤ 720720) : ((nI b).toInt64 * (nI u).toInt64).toInt = (b : Int) * (u : Int) ∧ (b : Int) * (u : Int) ≤ 150000 * 720720 := by
  have h1 : b * u ≤ 150000 * 720720 := Nat.mul_le_mul hb hu
  have h2 : ((b * u : Nat) : Int) = (b : Int) * (u : Int) := Int.natCast_mul b u
  rw [nI_l (by omega), nI_l (by omega), lN_mul, pk_lT (by omega), h2]
  exact ⟨rfl, by omega⟩
/-- one bit -/
theorem kb_1 (x : Int32) : x &&& 1 = 1 ↔ x.toBitVec.getLsbD 0 = true := by
  have key : ∀ y : BitVec 32, y &&& 1#32 = 1#32 ↔ y.getLsbD 0 = true := by
    intro y
    constructor
    · intro e
      have := congrArg (fun z : BitVec 32 => z.getLsbD 0) e
      simpa using this
    · intro e
      apply BitVec.eq_of_getLsbD_eq
      intro i hi
      rw [BitVec.getLsbD_and]
      cases i with
      | zero => simp [e]
      | succ i => simp [BitVec.getLsbD_one]
  rw [← key]
  constructor
  · intro e
    have := congrArg Int32.toBitVec e
    simpa using this
  · intro e
    apply Int32.toBitVec_inj.mp
    simpa using e
theorem kb_both (b : Int32) (f g : Nat) : lBoth b f g = (rBit b f && rBit b g) := by
  unfold lBoth rBit
  have e : (b >>> (nI f &&& 31)) &&& (b >>> (nI g &&& 31)) &&& 1 = 1 ↔ ((b >>> (nI f &&& 31)) &&& 1 = 1 ∧ (b >>> (nI g &&& 31)) &&& 1 = 1) := by
    rw [kb_1, kb_1, kb_1]
    simp only [Int32.toBitVec_and, BitVec.getLsbD_and, Bool.and_eq_true]
  by_cases h1 : (b >>> (nI f &&& 31)) &&& 1 = 1 <;> by_cases h2 : (b >>> (nI g &&& 31)) &&& 1 = 1 <;> simp [e, h1, h2]
/-! the greatest difference, as a number -/
def kPr (N : Nat) (act : Nat → Bool) (i j : Nat) : Prop := i ≤ j ∧ j < N ∧ ∀ x, i ≤ x → x ≤ j → act x = true
def kMx (N : Nat) (act : Nat → Bool) (ld : Nat → Int) (w : Int) : Prop := 0 ≤ w ∧ (∀ i j, kPr N act i j → ((ld i - ld j).natAbs : Int) ≤ w) ∧ (w = 0 ∨ ∃ i j, kPr N act i j ∧ w = ((ld i - ld j).natAbs : Int))
theorem km_eq {N : Nat} {act : Nat → Bool} {ld : Nat → Int} {w w' : Int} (h : kMx N act ld w) (h' : kMx N act ld w') : w = w' := by
  have one : ∀ {a b : Int}, kMx N act ld a → kMx N act ld b → a ≤ b := by
    intro a b ha hb
    rcases ha.2.2 with z | ⟨i, j, p, e⟩
    · rw [z]; exact hb.1
    · rw [e]; exact hb.2.1 i j p
  have h1 := one h h'
  have h2 := one h' h
  omega
theorem km_cg {N : Nat} {act act' : Nat → Bool} {ld ld' : Nat → Int} {w : Int} (ha : ∀ x, x < N → act x = act' x) (hl : ∀ x, x < N → ld x = ld' x) (h : kMx N act ld w) : kMx N act' ld' w := by
  have hp : ∀ i j, kPr N act' i j → kPr N act i j := fun i j p => ⟨p.1, p.2.1, fun x a b => by rw [ha x (by have := p.2.1; omega)]; exact p.2.2 x a b⟩
  have hp' : ∀ i j, kPr N act i j → kPr N act' i j := fun i j p => ⟨p.1, p.2.1, fun x a b => by rw [← ha x (by have := p.2.1; omega)]; exact p.2.2 x a b⟩
  refine ⟨h.1, fun i j p => ?_, ?_⟩
  · have p1 := p.1
    have p2 := p.2.1
    rw [← hl i (by omega), ← hl j (by omega)]; exact h.2.1 i j (hp i j p)
  · rcases h.2.2 with z | ⟨i, j, p, e⟩
    · exact Or.inl z
    · have p1 := p.1
      have p2 := p.2.1
      exact Or.inr ⟨i, j, hp' i j p, by rw [← hl i (by omega), ← hl j (by omega)]; exact e⟩
theorem km_rev {N : Nat} {act : Nat → Bool} {ld : Nat → Int} {w : Int} (h : kMx N (fun x => act (N - 1 - x)) (fun x => ld (N - 1 - x)) w) : kMx N act ld w := by
  have hp : ∀ i j, kPr N act i j → kPr N (fun x => act (N - 1 - x)) (N - 1 - j) (N - 1 - i) := fun i j p => ⟨by have := p.1; omega, by have := p.1; have := p.2.1; omega, fun x a b => p.2.2 _ (by have := p.1; have := p.2.1; omega) (by have := p.1; have := p.2.1; omega)⟩
  have hp' : ∀ i j, kPr N (fun x => act (N - 1 - x)) i j → kPr N act (N - 1 - j) (N - 1 - i) := fun i j p => ⟨by have := p.1; omega, by have := p.1; have := p.2.1; omega, fun x a b => by
    have q1 := p.1
    have q2 := p.2.1
    have := p.2.2 (N - 1 - x) (by omega) (by omega)
    dsimp only at this
    rw [show N - 1 - (N - 1 - x) = x by omega] at this
    exact this⟩
  refine ⟨h.1, fun i j p => ?_, ?_⟩
  · have z := h.2.1 _ _ (hp i j p)
    have p1 := p.1
    have p2 := p.2.1
    dsimp only at z
    rw [show N - 1 - (N - 1 - j) = j by omega, show N - 1 - (N - 1 - i) = i by omega] at z
    omega
  · rcases h.2.2 with z | ⟨i, j, p, e⟩
    · exact Or.inl z
    · refine Or.inr ⟨_, _, hp' i j p, ?_⟩
      dsimp only at e
      omega
theorem km_0 {act : Nat → Bool} {ld : Nat → Int} : kMx 0 act ld 0 := ⟨Int.le_refl 0, fun i j p => absurd p.2.1 (by omega), Or.inl rfl⟩
/-- one more place, not active -/
theorem km_off {N : Nat} {act : Nat → Bool} {ld : Nat → Int} {w : Int} (h : kMx N act ld w) (ha : act N = false) : kMx (N + 1) act ld w := by
  refine ⟨h.1, fun i j p => ?_, ?_⟩
  · have hj : j ≠ N := fun e => by
      have := p.2.2 N (by have := p.1; omega) (by omega)
      rw [ha] at this; cases this
    exact h.2.1 i j ⟨p.1, by have := p.2.1; omega, p.2.2⟩
  · rcases h.2.2 with z | ⟨i, j, p, e⟩
    · exact Or.inl z
    · exact Or.inr ⟨i, j, ⟨p.1, by have := p.2.1; omega, p.2.2⟩, e⟩
/-- one more place, active: r is where its row begins -/
theorem km_on {N r : Nat} {act : Nat → Bool} {ld : Nat → Int} {w w' : Int} (h : kMx N act ld w) (hr : r ≤ N) (hall : ∀ x, r ≤ x → x ≤ N → act x = true) (hst : r = 0 ∨ act (r - 1) = false) (h1 : w ≤ w') (h2 : ∀ x, r ≤ x → x ≤ N → ((ld x - ld N).natAbs : Int) ≤ w') (h3 : w' = w ∨ ∃ x y, r ≤ x ∧ x ≤ N ∧ r ≤ y ∧ y ≤ N ∧ w' = ((ld x - ld y).natAbs : Int)) : kMx (N + 1) act ld w' := by
  refine ⟨by have := h.1; omega, fun i j p => ?_, ?_⟩
  · by_cases e : j = N
    · subst e
      have : r ≤ i := by
        rcases hst with z | z
        · omega
        · rcases Nat.lt_or_ge i r with y | y
          · have := p.2.2 (r - 1) (by omega) (by omega)
            rw [z] at this; cases this
          · exact y
      exact h2 i this p.1
    · have := h.2.1 i j ⟨p.1, by have := p.2.1; omega, p.2.2⟩
      omega
  · rcases h3 with z | ⟨x, y, x1, x2, y1, y2, e⟩
    · rcases h.2.2 with z2 | ⟨i, j, p, e⟩
      · exact Or.inl (by omega)
      · exact Or.inr ⟨i, j, ⟨p.1, by have := p.2.1; omega, p.2.2⟩, by omega⟩
    · rcases Nat.le_or_ge x y with z | z
      · exact Or.inr ⟨x, y, ⟨z, by omega, fun u a b => hall u (by omega) (by omega)⟩, e⟩
      · exact Or.inr ⟨y, x, ⟨z, by omega, fun u a b => hall u (by omega) (by omega)⟩, by omega⟩
/-- the class's loop -/
theorem km_great {L : Lnk} {R : Nat → Nat → Int32} {t f g N : Nat} {act : Nat → Bool} {ld : Nat → Int} (ha : ∀ x, x < N → lBoth (R (rr t x) 6) f g = act x) (hl : ∀ x, x < N → (lLead L R t f g x).toInt = ld x) (hb : ∀ x, x < N → -(2 ^ 50) ≤ ld x ∧ ld x ≤ 2 ^ 50) :
    ∀ (k i : Nat) (w lo hi : Int64) (b : Bool), i + k = N → kMx i act ld w.toInt → w.toInt ≤ 2 ^ 52 → (b = false → i = 0 ∨ act (i - 1) = false) → (b = true → ∃ r, r < i ∧ (∀ x, r ≤ x → x < i → act x = true ∧ lo.toInt ≤ ld x ∧ ld x ≤ hi.toInt) ∧ (r = 0 ∨ act (r - 1) = false) ∧ (∃ x, r ≤ x ∧ x < i ∧ lo.toInt = ld x) ∧ ∃ x, r ≤ x ∧ x < i ∧ hi.toInt = ld x) → kMx N act ld (lGreat L R t f g k i w lo hi b).toInt := by
  intro k
  induction k with
  | zero =>
    intro i w lo hi b hi' h _ _ _
    have : i = N := by omega
    rw [← this]; exact h
  | succ k ih =>
    intro i w lo hi b hi' h hw h0 h1
    have hiN : i < N := by omega
    have a1 := ha i hiN
    have l1 := hl i hiN
    have b1 := hb i hiN
    unfold lGreat
    rw [a1]
    by_cases g1 : act i = true
    · rw [if_pos g1]
      dsimp only
      -- the new ends of the row
      have key : ∃ r lo' hi', (if b = true then (if lLead L R t f g i < lo then lLead L R t f g i else lo) else lLead L R t f g i) = lo' ∧ (if b = true then (if lLead L R t f g i < hi then hi else lLead L R t f g i) else lLead L R t f g i) = hi' ∧ r ≤ i ∧ (∀ x, r ≤ x → x ≤ i → act x = true ∧ lo'.toInt ≤ ld x ∧ ld x ≤ hi'.toInt) ∧ (r = 0 ∨ act (r - 1) = false) ∧ (∃ x, r ≤ x ∧ x ≤ i ∧ lo'.toInt = ld x) ∧ ∃ x, r ≤ x ∧ x ≤ i ∧ hi'.toInt = ld x := by
        cases b with
        | false =>
          rw [if_neg (by decide), if_neg (by decide)]
          refine ⟨i, _, _, rfl, rfl, Nat.le_refl _, fun x x1 x2 => ?_, h0 rfl, ⟨i, Nat.le_refl _, Nat.le_refl _, l1⟩, i, Nat.le_refl _, Nat.le_refl _, l1⟩
          have : x = i := by omega
          rw [this]
          exact ⟨g1, by omega, by omega⟩
        | true =>
          rw [if_pos rfl, if_pos rfl]
          obtain ⟨r, r1, r2, r3, ⟨x, x1, x2, x3⟩, y, y1, y2, y3⟩ := h1 rfl
          refine ⟨r, _, _, rfl, rfl, by omega, fun u u1 u2 => ?_, r3, ?_, ?_⟩
          · by_cases e : u = i
            · subst e
              refine ⟨g1, ?_, ?_⟩
              · split
                · omega
                · rename_i z; rw [Int64.lt_iff_toInt_lt] at z; omega
              · split
                · rename_i z; rw [Int64.lt_iff_toInt_lt] at z; omega
                · omega
            · obtain ⟨v1, v2, v3⟩ := r2 u u1 (by omega)
              refine ⟨v1, ?_, ?_⟩
              · split
                · rename_i z; rw [Int64.lt_iff_toInt_lt] at z; omega
                · exact v2
              · split
                · exact v3
                · rename_i z; rw [Int64.lt_iff_toInt_lt] at z; omega
          · split
            · exact ⟨i, by omega, Nat.le_refl _, l1⟩
            · exact ⟨x, x1, by omega, x3⟩
          · split
            · exact ⟨y, y1, by omega, y3⟩
            · exact ⟨i, by omega, Nat.le_refl _, l1⟩
      obtain ⟨r, lo', hi'', e1, e2, k1, k2, k3, ⟨x, x1, x2, x3⟩, y, y1, y2, y3⟩ := key
      rw [e1, e2]
      have bx := hb x (by omega)
      have by' := hb y (by omega)
      have hxy := k2 x x1 x2
      have es : (hi'' - lo').toInt = hi''.toInt - lo'.toInt := ki_sub (by omega) (by omega)
      have ew : (if hi'' - lo' < w then w else hi'' - lo').toInt = max w.toInt (hi''.toInt - lo'.toInt) := by
        split
        · rename_i z; rw [Int64.lt_iff_toInt_lt, es] at z; omega
        · rename_i z; rw [Int64.lt_iff_toInt_lt, es] at z; omega
      refine ih (i + 1) _ lo' hi'' true (by omega) ?_ (by rw [ew]; omega) (fun z => by cases z) (fun _ => ⟨r, by omega, fun u u1 u2 => k2 u u1 (by omega), k3, ⟨x, x1, by omega, x3⟩, y, y1, by omega, y3⟩)
      rw [ew]
      refine km_on h k1 (fun u u1 u2 => (k2 u u1 u2).1) k3 (by omega) (fun u u1 u2 => ?_) ?_
      · have v := k2 u u1 u2
        have v2 := k2 i k1 (Nat.le_refl _)
        omega
      · rcases Int.le_total (hi''.toInt - lo'.toInt) w.toInt with z | z
        · exact Or.inl (by omega)
        · refine Or.inr ⟨y, x, y1, y2, x1, x2, ?_⟩
          omega
    · have g2 := Bool.eq_false_iff.mpr g1
      rw [if_neg g1]
      exact ih (i + 1) w lo hi false (by omega) (km_off h g2) hw (fun _ => Or.inr (by rw [Nat.add_sub_cancel]; exact g2)) (fun z => by cases z)
/-- the reference's inner loop -/
theorem km_in {M : Rf} {f g t N u0 : Nat} {ld : Nat → Int} (hd : ∀ x, u0 ≤ x → x ≤ t → (rDif M f g x t).toInt = ((ld x - ld t).natAbs : Int)) : ∀ (k s : Nat) (w : Int64), u0 ≤ s → s + k = t + 1 →
    w.toInt ≤ (rWIn M f g t k s w).toInt ∧ (∀ x, s ≤ x → x ≤ t → ((ld x - ld t).natAbs : Int) ≤ (rWIn M f g t k s w).toInt) ∧ ((rWIn M f g t k s w).toInt = w.toInt ∨ ∃ x, s ≤ x ∧ x ≤ t ∧ (rWIn M f g t k s w).toInt = ((ld x - ld t).natAbs : Int)) := by
  intro k
  induction k with
  | zero => intro s w _ e; exact ⟨Int.le_refl _, fun x a b => by omega, Or.inl rfl⟩
  | succ k ih =>
    intro s w hs e
    unfold rWIn
    obtain ⟨a1, a2, a3⟩ := ih (s + 1) (lmax w (rDif M f g s t)) (by omega) (by omega)
    have em : (lmax w (rDif M f g s t)).toInt = max w.toInt ((ld s - ld t).natAbs : Int) := by rw [ki_max, hd s hs (by omega)]
    rw [em] at a1 a3
    refine ⟨by omega, fun x x1 x2 => ?_, ?_⟩
    · by_cases y : x = s
      · clear a2 a3
        rw [y]; omega
      · exact a2 x (by omega) x2
    · rcases a3 with z | ⟨x, x1, x2, x3⟩
      · rcases Int.le_total ((ld s - ld t).natAbs : Int) w.toInt with y | y
        · exact Or.inl (by omega)
        · exact Or.inr ⟨s, Nat.le_refl _, by omega, by omega⟩
      · exact Or.inr ⟨x, by omega, x2, x3⟩
/-- the reference's loop; T0 the oldest tick -/
theorem km_of {M : Rf} {f g T0 N : Nat} {act : Nat → Bool} {ld : Nat → Int} (ha : ∀ x, x < N → rAct M f g (T0 + x) = act x) (hd : ∀ x y, x ≤ y → y < N → (rDif M f g (T0 + x) (T0 + y)).toInt = ((ld x - ld y).natAbs : Int)) :
    ∀ (k i r : Nat) (w : Int64), i + k = N → kMx i act ld w.toInt → r ≤ i → (∀ x, r ≤ x → x < i → act x = true) → (r = 0 ∨ act (r - 1) = false) → kMx N act ld (rWOf M f g k (T0 + i) (T0 + r) w).toInt := by
  intro k
  induction k with
  | zero =>
    intro i r w e h _ _ _
    have : i = N := by omega
    rw [← this]; exact h
  | succ k ih =>
    intro i r w e h hr hall hst
    have hiN : i < N := by omega
    unfold rWOf
    rw [ha i hiN]
    by_cases g1 : act i = true
    · rw [if_pos g1]
      have hin := km_in (M := M) (f := f) (g := g) (t := T0 + i) (N := N) (u0 := T0 + r) (ld := fun z => ld (z - T0)) (fun x x1 x2 => by
        have := hd (x - T0) i (by omega) hiN
        rw [show T0 + (x - T0) = x by omega] at this
        rw [this, show T0 + i - T0 = i by omega]) (T0 + i + 1 - (T0 + r)) (T0 + r) w (Nat.le_refl _) (by omega)
      obtain ⟨a1, a2, a3⟩ := hin
      have a2' : ∀ x, r ≤ x → x ≤ i → ((ld x - ld i).natAbs : Int) ≤ (rWIn M f g (T0 + i) (T0 + i + 1 - (T0 + r)) (T0 + r) w).toInt := fun x x1 x2 => by
        have := a2 (T0 + x) (by omega) (by omega)
        rw [show T0 + x - T0 = x by omega, show T0 + i - T0 = i by omega] at this
        exact this
      have hall2 : ∀ x, r ≤ x → x ≤ i → act x = true := fun x x1 x2 => by
        by_cases y : x = i
        · rw [y]; exact g1
        · exact hall x x1 (by omega)
      refine ih (i + 1) r _ (by omega) (km_on h hr hall2 hst a1 a2' ?_) (by omega) (fun x x1 x2 => hall2 x x1 (by omega)) hst
      rcases a3 with z | ⟨x, x1, x2, x3⟩
      · exact Or.inl z
      · refine Or.inr ⟨x - T0, i, by omega, by omega, hr, Nat.le_refl _, ?_⟩
        rw [show T0 + i - T0 = i by omega] at x3
        exact x3
    · have g2 := Bool.eq_false_iff.mpr g1
      rw [if_neg g1]
      exact ih (i + 1) (i + 1) w (by omega) (km_off h g2) (Nat.le_refl _) (fun x x1 x2 => by omega) (Or.inr (by rw [Nat.add_sub_cancel]; exact g2))
end KAu
