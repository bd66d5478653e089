/-! ===== floats: what the program divides is no NaN ===== -/
section KFp
/-- data of double, with a bound on the exponent -/
def f6 (m : Int) (d : Jvm.FP.Core.Datum) : Prop := ∃ s c q, d = .fin s c q ∧ c < 9007199254740992 ∧ -1074 ≤ q ∧ q ≤ m
def f3 (m : Int) (d : Jvm.FP.Core.Datum) : Prop := ∃ s c q, d = .fin s c q ∧ c < 16777216 ∧ -149 ≤ q ∧ q ≤ m
theorem f6_q : Jvm.FP.Core.b64.qmin = -1074 ∧ Jvm.FP.Core.b64.qmax = 971 ∧ Jvm.FP.Core.b64.tails = 4503599627370496 ∧ Jvm.FP.Core.b64.exps = 2048 ∧ Jvm.FP.Core.b64.p = 53 := by decide
theorem f3_q : Jvm.FP.Core.b32.qmin = -149 ∧ Jvm.FP.Core.b32.qmax = 104 ∧ Jvm.FP.Core.b32.tails = 8388608 ∧ Jvm.FP.Core.b32.exps = 256 ∧ Jvm.FP.Core.b32.p = 24 := by decide
theorem f6_settle {s : Bool} {c : Nat} {q : Int} (hq : -1074 ≤ q) : (∃ t, Jvm.FP.Core.settle Jvm.FP.Core.b64 s c q = .inf t) ∨ f6 971 (Jvm.FP.Core.settle Jvm.FP.Core.b64 s c q) := by
  obtain ⟨e1, e2, e3, e4, e5⟩ := f6_q
  unfold Jvm.FP.Core.settle Jvm.FP.Core.bound
  rw [e2, e3, e5]
  by_cases h1 : c < 2 ^ 53
  · rw [if_pos h1]
    by_cases h2 : q ≤ 971
    · rw [if_pos h2]
      exact Or.inr ⟨s, c, q, rfl, h1, hq, h2⟩
    · rw [if_neg h2]
      exact Or.inl ⟨s, rfl⟩
  · rw [if_neg h1]
    by_cases h2 : q + 1 ≤ 971
    · rw [if_pos h2]
      exact Or.inr ⟨s, _, _, rfl, by decide, by omega, h2⟩
    · rw [if_neg h2]
      exact Or.inl ⟨s, rfl⟩
theorem f3_settle {s : Bool} {c : Nat} {q : Int} (hq : -149 ≤ q) : (∃ t, Jvm.FP.Core.settle Jvm.FP.Core.b32 s c q = .inf t) ∨ f3 104 (Jvm.FP.Core.settle Jvm.FP.Core.b32 s c q) := by
  obtain ⟨e1, e2, e3, e4, e5⟩ := f3_q
  unfold Jvm.FP.Core.settle Jvm.FP.Core.bound
  rw [e2, e3, e5]
  by_cases h1 : c < 2 ^ 24
  · rw [if_pos h1]
    by_cases h2 : q ≤ 104
    · rw [if_pos h2]
      exact Or.inr ⟨s, c, q, rfl, h1, hq, h2⟩
    · rw [if_neg h2]
      exact Or.inl ⟨s, rfl⟩
  · rw [if_neg h1]
    by_cases h2 : q + 1 ≤ 104
    · rw [if_pos h2]
      exact Or.inr ⟨s, _, _, rfl, by decide, by omega, h2⟩
    · rw [if_neg h2]
      exact Or.inl ⟨s, rfl⟩
theorem f6_ratio (s : Bool) (A B : Nat) (e : Int) : (∃ t, Jvm.FP.Core.roundRatio Jvm.FP.Core.b64 s A B e = .inf t) ∨ f6 971 (Jvm.FP.Core.roundRatio Jvm.FP.Core.b64 s A B e) := by
  obtain ⟨e1, e2, e3, e4, e5⟩ := f6_q
  unfold Jvm.FP.Core.roundRatio
  by_cases h : A = 0
  · rw [if_pos h]
    exact Or.inr ⟨s, 0, _, rfl, by decide, by rw [e1]; decide, by rw [e1]; decide⟩
  · rw [if_neg h]
    unfold Jvm.FP.Core.roundAt
    refine f6_settle ?_
    unfold Jvm.FP.Core.quantum
    rw [e1]
    exact Int.le_max_left _ _
theorem f3_ratio (s : Bool) (A B : Nat) (e : Int) : (∃ t, Jvm.FP.Core.roundRatio Jvm.FP.Core.b32 s A B e = .inf t) ∨ f3 104 (Jvm.FP.Core.roundRatio Jvm.FP.Core.b32 s A B e) := by
  obtain ⟨e1, e2, e3, e4, e5⟩ := f3_q
  unfold Jvm.FP.Core.roundRatio
  by_cases h : A = 0
  · rw [if_pos h]
    exact Or.inr ⟨s, 0, _, rfl, by decide, by rw [e1]; decide, by rw [e1]; decide⟩
  · rw [if_neg h]
    unfold Jvm.FP.Core.roundAt
    refine f3_settle ?_
    unfold Jvm.FP.Core.quantum
    rw [e1]
    exact Int.le_max_left _ _
/-- the bits of a datum of double that is no NaN -/
theorem f6_bits {d : Jvm.FP.Core.Datum} (h : (∃ s, d = .inf s) ∨ f6 971 d) : Jvm.FP.Core.encode Jvm.FP.Core.b64 d < 18446744073709551616 ∧ Jvm.FP.Core.encode Jvm.FP.Core.b64 d % 9223372036854775808 ≤ 9218868437227405312 := by
  obtain ⟨e1, e2, e3, e4, e5⟩ := f6_q
  rcases h with ⟨s, rfl⟩ | ⟨s, c, q, rfl, h1, h2, h3⟩
  · unfold Jvm.FP.Core.encode Jvm.FP.Core.assemble
    rw [e3, e4]
    cases s <;> decide
  · unfold Jvm.FP.Core.encode
    dsimp only
    rw [e1, e3]
    by_cases h4 : c < 4503599627370496
    · rw [if_pos h4]
      unfold Jvm.FP.Core.assemble
      rw [e3, e4]
      cases s <;> simp only [Bool.toNat_false, Bool.toNat_true] <;> omega
    · rw [if_neg h4]
      unfold Jvm.FP.Core.assemble
      rw [e3, e4]
      generalize hk : (q - -1074).toNat + 1 = k
      have : k ≤ 2046 := by omega
      cases s <;> simp only [Bool.toNat_false, Bool.toNat_true] <;> omega
theorem f3_bits {d : Jvm.FP.Core.Datum} (h : (∃ s, d = .inf s) ∨ f3 104 d) : Jvm.FP.Core.encode Jvm.FP.Core.b32 d < 4294967296 ∧ Jvm.FP.Core.encode Jvm.FP.Core.b32 d % 2147483648 ≤ 2139095040 := by
  obtain ⟨e1, e2, e3, e4, e5⟩ := f3_q
  rcases h with ⟨s, rfl⟩ | ⟨s, c, q, rfl, h1, h2, h3⟩
  · unfold Jvm.FP.Core.encode Jvm.FP.Core.assemble
    rw [e3, e4]
    cases s <;> decide
  · unfold Jvm.FP.Core.encode
    dsimp only
    rw [e1, e3]
    by_cases h4 : c < 8388608
    · rw [if_pos h4]
      unfold Jvm.FP.Core.assemble
      rw [e3, e4]
      cases s <;> simp only [Bool.toNat_false, Bool.toNat_true] <;> omega
    · rw [if_neg h4]
      unfold Jvm.FP.Core.assemble
      rw [e3, e4]
      generalize hk : (q - -149).toNat + 1 = k
      have : k ≤ 254 := by omega
      cases s <;> simp only [Bool.toNat_false, Bool.toNat_true] <;> omega
theorem f6_vf {n : Nat} (h1 : n < 18446744073709551616) (h2 : n % 9223372036854775808 ≤ 9218868437227405312) : vf_n64 (UInt64.ofNat n) := by
  unfold vf_n64
  rw [UInt64.le_iff_toNat_le, UInt64.toNat_and, UInt64.toNat_ofNat', Nat.mod_eq_of_lt h1, show (0x7fffffffffffffff : UInt64).toNat = 2 ^ 63 - 1 from by decide, Nat.and_two_pow_sub_one_eq_mod]
  exact h2
theorem f3_vf {n : Nat} (h1 : n < 4294967296) (h2 : n % 2147483648 ≤ 2139095040) : vf_n32 (UInt32.ofNat n) := by
  unfold vf_n32
  rw [UInt32.le_iff_toNat_le, UInt32.toNat_and, UInt32.toNat_ofNat', Nat.mod_eq_of_lt h1, show (0x7fffffff : UInt32).toNat = 2 ^ 31 - 1 from by decide, Nat.and_two_pow_sub_one_eq_mod]
  exact h2
/-- a whole number as a datum -/
theorem f6_int (s : Bool) {A : Nat} (hA : A < 8589934592) : ∃ c q, Jvm.FP.Core.roundRatio Jvm.FP.Core.b64 s A 1 0 = .fin s c q ∧ c < 9007199254740992 ∧ -1074 ≤ q ∧ q ≤ 0 ∧ (A ≠ 0 → 4503599627370496 ≤ c) := by
  obtain ⟨e1, e2, e3, e4, e5⟩ := f6_q
  unfold Jvm.FP.Core.roundRatio
  by_cases h : A = 0
  · rw [if_pos h, e1]
    exact ⟨0, _, rfl, by decide, by decide, by decide, fun z => absurd h z⟩
  · rw [if_neg h]
    have l1 := Nat.log2_self_le h
    have l2 : A < 2 ^ (A.log2 + 1) := Nat.lt_log2_self
    have l3 : A.log2 < 33 := by
      rcases Nat.lt_or_ge A.log2 33 with z | z
      · exact z
      · have : 2 ^ 33 ≤ 2 ^ A.log2 := Nat.pow_le_pow_right (by decide) z
        omega
    have hl : Jvm.FP.Core.leading A 1 = (A.log2 : Int) := by
      unfold Jvm.FP.Core.leading
      have z0 : (1 : Nat).log2 = 0 := by decide
      have z : ((A.log2 : Int) - ((1 : Nat).log2 : Int)) = (A.log2 : Int) := by omega
      dsimp only
      rw [z, if_pos ?_]
      rw [Int.toNat_natCast, show (-(A.log2 : Int)).toNat = 0 by omega, Nat.one_mul, Nat.pow_zero, Nat.mul_one]
      exact l1
    have hq : Jvm.FP.Core.quantum Jvm.FP.Core.b64 A 1 0 = (A.log2 : Int) - 52 := by
      unfold Jvm.FP.Core.quantum
      rw [hl, e1, e5]
      omega
    unfold Jvm.FP.Core.roundAt
    rw [hq]
    have hu : Jvm.FP.Core.unitsNum A 0 ((A.log2 : Int) - 52) = A * 2 ^ (52 - A.log2) := by
      unfold Jvm.FP.Core.unitsNum
      rw [show (0 - ((A.log2 : Int) - 52)).toNat = 52 - A.log2 by omega]
    have hd : Jvm.FP.Core.unitsDen 1 0 ((A.log2 : Int) - 52) = 1 := by
      unfold Jvm.FP.Core.unitsDen
      rw [show ((A.log2 : Int) - 52 - 0).toNat = 0 by omega]
    have hn : Jvm.FP.Core.nearest (A * 2 ^ (52 - A.log2)) 1 = A * 2 ^ (52 - A.log2) := by
      unfold Jvm.FP.Core.nearest
      rw [Nat.mod_one, if_pos (by decide), Nat.div_one]
    rw [hu, hd, hn]
    have c1 : 2 ^ A.log2 * 2 ^ (52 - A.log2) = 4503599627370496 := by
      rw [← Nat.pow_add, show A.log2 + (52 - A.log2) = 52 by omega]
    have c2 : 2 ^ (A.log2 + 1) * 2 ^ (52 - A.log2) = 9007199254740992 := by
      rw [← Nat.pow_add, show A.log2 + 1 + (52 - A.log2) = 53 by omega]
    have c3 : 4503599627370496 ≤ A * 2 ^ (52 - A.log2) := by
      rw [← c1]
      exact Nat.mul_le_mul_right _ l1
    have c4 : A * 2 ^ (52 - A.log2) < 9007199254740992 := by
      rw [← c2]
      exact Nat.mul_lt_mul_of_pos_right l2 (Nat.two_pow_pos _)
    unfold Jvm.FP.Core.settle Jvm.FP.Core.bound
    rw [e2, e5, if_pos (show A * 2 ^ (52 - A.log2) < 2 ^ 53 from c4), if_pos (by omega)]
    exact ⟨_, _, rfl, c4, by omega, by omega, fun _ => c3⟩
end KFp
