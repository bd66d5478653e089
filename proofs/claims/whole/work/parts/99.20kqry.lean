/-! ===== queries: class and reference read and answer alike ===== -/
section KQry
variable {B : Nat → Int32} {len n np : Nat} {p : Tk} {L : Lnk} {f : Tk → Tk × (Nat → Bool)} {P : Nat → Bool}
/-- a reader that keeps the class's fault and the token's kind together, and stays at a fault -/
def kQf (f : Tk → Tk × (Nat → Bool)) : Prop := ∀ p, kTc p → kTc (f p).1 ∧ (tkK p = 5 → tkK (f p).1 = 5)
theorem kq_f5 {v : Int32} (g : tkK p = 5) : tkK (tFail p v) = 5 := tFail_5 p v
theorem kq_val (h : kTc p) : kTc (qVal B len p).2 ∧ (tkK p = 5 → tkK (qVal B len p).2 = 5) := by
  unfold qVal
  by_cases e : tkK p = 2
  · rw [if_pos e]
    refine ⟨kt_next ?_, fun g => absurd (e.symm.trans g) (by decide)⟩
    by_cases e2 : qCol B p = -1
    · rw [if_pos e2]
      exact kt_fail h (by decide)
    · rw [if_neg e2]
      exact h
  · rw [if_neg e]
    exact ⟨kt_take h, fun g => by rw [tTake_5 g]; exact g⟩
theorem kq_cmp (h : kTc p) : kTc (qCmp B len p).2 ∧ (tkK p = 5 → tkK (qCmp B len p).2 = 5) := by
  show kTc (tNext B len (if qSgn B p = 0 then (if tIsS B p 61 = true then p else tFail p 1) else p)) ∧ (tkK p = 5 → tkK (tNext B len (if qSgn B p = 0 then (if tIsS B p 61 = true then p else tFail p 1) else p)) = 5)
  by_cases e : qSgn B p = 0
  · rw [if_pos e]
    by_cases e2 : tIsS B p 61 = true
    · rw [if_pos e2]
      exact ⟨kt_next h, fun g => by rw [tNext_5 g]; exact g⟩
    · rw [if_neg e2]
      exact ⟨kt_next (kt_fail h (by decide)), fun g => by rw [tNext_5 (tFail_5 p 1)]; exact tFail_5 p 1⟩
  · rw [if_neg e]
    exact ⟨kt_next h, fun g => by rw [tNext_5 g]; exact g⟩
theorem kq_leaf : kQf (qLeaf B len L np) := by
  intro p h
  obtain ⟨a1, a2⟩ := kq_val (B := B) (len := len) h
  obtain ⟨b1, b2⟩ := kq_cmp (B := B) (len := len) a1
  obtain ⟨c1, c2⟩ := kq_val (B := B) (len := len) b1
  exact ⟨c1, fun g => c2 (b2 (a2 g))⟩
theorem kq_and (hf : kQf f) : ∀ (k : Nat) (p : Tk) (P : Nat → Bool), kTc p → kTc (qAnd B len f k p P).1 ∧ (tkK p = 5 → tkK (qAnd B len f k p P).1 = 5) := by
  intro k
  induction k with
  | zero => exact fun p P h => ⟨h, id⟩
  | succ k ih =>
    intro p P h
    rw [qAnd]
    by_cases e : tIsW B p (wd "and") = true
    · rw [if_pos e]
      have h2 := (hf _ (kt_next (B := B) (len := len) h)).1
      exact ⟨(ih _ _ h2).1, fun g => absurd ((tIsW_2 e).symm.trans g) (by decide)⟩
    · rw [if_neg e]
      exact ⟨h, id⟩
theorem kq_conj (hf : kQf f) : kQf (qConj B len f) := by
  intro p h
  obtain ⟨a1, a2⟩ := hf p h
  obtain ⟨b1, b2⟩ := kq_and (B := B) (len := len) hf 200 (f p).1 (f p).2 a1
  exact ⟨b1, fun g => b2 (a2 g)⟩
theorem kq_or (hf : kQf f) : ∀ (k : Nat) (p : Tk) (P : Nat → Bool), kTc p → kTc (qOr B len f k p P).1 ∧ (tkK p = 5 → tkK (qOr B len f k p P).1 = 5) := by
  intro k
  induction k with
  | zero => exact fun p P h => ⟨h, id⟩
  | succ k ih =>
    intro p P h
    rw [qOr]
    by_cases e : tIsW B p (wd "or") = true
    · rw [if_pos e]
      have h2 := (kq_conj (B := B) (len := len) hf _ (kt_next (B := B) (len := len) h)).1
      exact ⟨(ih _ _ h2).1, fun g => absurd ((tIsW_2 e).symm.trans g) (by decide)⟩
    · rw [if_neg e]
      exact ⟨h, id⟩
theorem kq_test (hf : kQf f) : kQf (qTest B len f) := by
  intro p h
  obtain ⟨a1, a2⟩ := kq_conj (B := B) (len := len) hf p h
  obtain ⟨b1, b2⟩ := kq_or (B := B) (len := len) hf 200 (qConj B len f p).1 (qConj B len f p).2 a1
  exact ⟨b1, fun g => b2 (a2 g)⟩
theorem kq_fac : ∀ (k : Nat), kQf (qFac B len L np k) := by
  intro k
  induction k with
  | zero =>
    intro p h
    rw [qFac]
    by_cases e : tIsW B p (wd "not") = true ∨ tIsS B p 40 = true
    · rw [if_pos e]
      exact ⟨kt_fail h (by decide), fun _ => tFail_5 p 3⟩
    · rw [if_neg e]
      exact kq_leaf p h
  | succ k ih =>
    intro p h
    rw [qFac]
    by_cases e : tIsW B p (wd "not") = true
    · rw [if_pos e]
      exact ⟨(ih _ (kt_next h)).1, fun g => absurd ((tIsW_2 e).symm.trans g) (by decide)⟩
    · rw [if_neg e]
      by_cases e2 : tIsS B p 40 = true
      · rw [if_pos e2]
        refine ⟨kt_sign (kq_test ih _ (kt_next h)).1, fun g => ?_⟩
        rw [tIsS_5 (by omega)] at e2
        cases e2
      · rw [if_neg e2]
        exact kq_leaf p h
/-- no token is both words -/
theorem kq_mf (h1 : tIsW B p (wd "many") = true) : tIsW B p (wd "first") = false := by
  unfold tIsW at h1 ⊢
  have l1 : (wd "many").length = 4 := by decide
  have l2 : (wd "first").length = 5 := by decide
  simp only [Bool.and_eq_true, decide_eq_true_eq, l1] at h1
  rw [l2]
  simp
  intro _ g
  omega
theorem kq_T : cqT B n L np = qRead B L np n := by
  unfold cqT qRead cqP
  by_cases h1 : tIsW B (tOpen B n 0) (wd "many") = true
  · rw [if_pos h1, kq_mf h1, if_neg (by decide), if_pos h1]
  · rw [if_neg h1]
    by_cases h2 : tIsW B (tOpen B n 0) (wd "first") = true
    · rw [if_pos h2, if_pos h2]
    · rw [if_neg h2, if_neg h2, if_neg h1]
theorem kq_E : cqE B n L np = qDone B L np n := by unfold cqE qDone; rw [kq_T]
theorem kq_c : kTc (cqP B n) := by
  unfold cqP
  split
  · exact kt_open B n 0
  · split
    · exact kt_open B n 0
    · exact kt_fail (kt_open B n 0) (by decide)
theorem kq_d : kTc (qDone B L np n) := by
  rw [← kq_E]
  exact kt_end (kq_test (kq_fac 6) _ (kt_next kq_c)).1
theorem kq_n : ∀ (k i c : Nat), pCount P k i c = rQn P k i c := by
  intro k
  induction k with
  | zero => exact fun _ _ => rfl
  | succ k ih => exact fun i c => ih _ _
theorem kq_1 : ∀ (k i : Nat), pFirst P k i = rQ1 P k i := by
  intro k
  induction k with
  | zero => exact fun _ => rfl
  | succ k ih =>
    intro i
    rw [pFirst, rQ1, ih]
theorem kq_bad (h1 : ¬ tIsW B (tOpen B n 0) (wd "many") = true) (h2 : ¬ tIsW B (tOpen B n 0) (wd "first") = true) : tkK (qDone B L np n) = 5 := by
  rw [← kq_E]
  have e : cqP B n = tFail (tOpen B n 0) 1 := by unfold cqP; rw [if_neg h1, if_neg h2]
  have g : tkK (tNext B n (cqP B n)) = 5 := by rw [e, tNext_5 (tFail_5 _ _)]; exact tFail_5 _ _
  have g2 : tkK (cqT B n L np).1 = 5 := (kq_test (kq_fac 6) _ (kt_next kq_c)).2 g
  unfold cqE tEnd
  rw [if_neg (by omega)]
  exact tFail_5 _ _
/-- a fault: the class's answer is the reference's -/
theorem kq_a5 (h : tkK (qDone B L np n) = 5) : cqA B n L np = -1000000000 - tkC (qDone B L np n) := by
  unfold cqA
  rw [kq_E, if_neg (kq_d.2 h)]
theorem kq_a0 (h : tkK (qDone B L np n) ≠ 5) : cqA B n L np = (if tIsW B (tOpen B n 0) (wd "first") = true then rQ1 (qRead B L np n).2 np 0 else nI (rQn (qRead B L np n).2 np 0 0)) ∧ tkA (qDone B L np n) = -1 := by
  refine ⟨?_, (kq_d.1 h).2⟩
  unfold cqA
  rw [kq_E, if_pos (kq_d.1 h).1, kq_T]
  by_cases h1 : tIsW B (tOpen B n 0) (wd "many") = true
  · rw [if_pos h1, kq_mf h1, if_neg (by decide), kq_n]
  · rw [if_neg h1]
    by_cases h2 : tIsW B (tOpen B n 0) (wd "first") = true
    · rw [if_pos h2, kq_1]
    · exact absurd (kq_bad h1 h2) h
end KQry
