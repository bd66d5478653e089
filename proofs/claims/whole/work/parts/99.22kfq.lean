/-! ===== floats: the quotients of the program ===== -/
section KFq
theorem f6_dec {s : Bool} {c : Nat} {q : Int} (h1 : c < 9007199254740992) (h2 : -1074 ≤ q) (h3 : q ≤ 971) : ∃ s' c' q', Jvm.FP.Core.decode Jvm.FP.Core.b64 (Jvm.FP.Core.encode Jvm.FP.Core.b64 (.fin s c q)) = .fin s' c' q' ∧ (4503599627370496 ≤ c → c' ≠ 0) := by
  obtain ⟨e1, e2, e3, e4, e5⟩ := f6_q
  unfold Jvm.FP.Core.encode
  dsimp only
  rw [e1, e3]
  by_cases h4 : c < 4503599627370496
  · rw [if_pos h4]
    have hE : Jvm.FP.Core.fieldE Jvm.FP.Core.b64 (Jvm.FP.Core.assemble Jvm.FP.Core.b64 s 0 c) = 0 := by
      unfold Jvm.FP.Core.fieldE Jvm.FP.Core.assemble
      rw [e3, e4]
      cases s <;> simp only [Bool.toNat_false, Bool.toNat_true] <;> omega
    unfold Jvm.FP.Core.decode
    rw [hE, e4, if_neg (by decide), if_pos rfl]
    exact ⟨_, _, _, rfl, fun z => by omega⟩
  · rw [if_neg h4]
    generalize hk : (q - -1074).toNat + 1 = k
    have hE : Jvm.FP.Core.fieldE Jvm.FP.Core.b64 (Jvm.FP.Core.assemble Jvm.FP.Core.b64 s k (c - 4503599627370496)) = k := by
      unfold Jvm.FP.Core.fieldE Jvm.FP.Core.assemble
      rw [e3, e4]
      cases s <;> simp only [Bool.toNat_false, Bool.toNat_true] <;> omega
    unfold Jvm.FP.Core.decode
    rw [hE, e4, if_neg (by omega), if_neg (by omega), e3]
    exact ⟨_, _, _, rfl, fun _ => by omega⟩
theorem f3_dec {s : Bool} {c : Nat} {q : Int} (h1 : c < 16777216) (h2 : -149 ≤ q) (h3 : q ≤ 104) : ∃ s' c' q', Jvm.FP.Core.decode Jvm.FP.Core.b32 (Jvm.FP.Core.encode Jvm.FP.Core.b32 (.fin s c q)) = .fin s' c' q' := by
  obtain ⟨e1, e2, e3, e4, e5⟩ := f3_q
  unfold Jvm.FP.Core.encode
  dsimp only
  rw [e1, e3]
  by_cases h4 : c < 8388608
  · rw [if_pos h4]
    have hE : Jvm.FP.Core.fieldE Jvm.FP.Core.b32 (Jvm.FP.Core.assemble Jvm.FP.Core.b32 s 0 c) = 0 := by
      unfold Jvm.FP.Core.fieldE Jvm.FP.Core.assemble
      rw [e3, e4]
      cases s <;> simp only [Bool.toNat_false, Bool.toNat_true] <;> omega
    unfold Jvm.FP.Core.decode
    rw [hE, e4, if_neg (by decide), if_pos rfl]
    exact ⟨_, _, _, rfl⟩
  · rw [if_neg h4]
    generalize hk : (q - -149).toNat + 1 = k
    have hE : Jvm.FP.Core.fieldE Jvm.FP.Core.b32 (Jvm.FP.Core.assemble Jvm.FP.Core.b32 s k (c - 8388608)) = k := by
      unfold Jvm.FP.Core.fieldE Jvm.FP.Core.assemble
      rw [e3, e4]
      cases s <;> simp only [Bool.toNat_false, Bool.toNat_true] <;> omega
    unfold Jvm.FP.Core.decode
    rw [hE, e4, if_neg (by omega), if_neg (by omega)]
    exact ⟨_, _, _, rfl⟩
theorem f_abs (i : Int32) : i.toInt.natAbs < 8589934592 := by
  have h1 := Int32.le_toInt i
  have h2 := Int32.toInt_lt i
  omega
theorem f6_i2d (i : Int32) : ∃ s c q, Jvm.FP.Core.decode Jvm.FP.Core.b64 (FP.i2d i).toNat = .fin s c q ∧ (i ≠ 0 → c ≠ 0) := by
  obtain ⟨c, q, h0, h1, h2, h3, h4⟩ := f6_int (decide (i.toInt < 0)) (f_abs i)
  have hb := f6_bits (d := Jvm.FP.Core.Datum.fin (decide (i.toInt < 0)) c q) (Or.inr ⟨_, c, q, rfl, h1, h2, by omega⟩)
  have e : (FP.i2d i).toNat = Jvm.FP.Core.encode Jvm.FP.Core.b64 (.fin (decide (i.toInt < 0)) c q) := by
    show (UInt64.ofNat (Jvm.FP.Core.encode Jvm.FP.Core.b64 (Jvm.FP.Core.roundRatio Jvm.FP.Core.b64 (decide (i.toInt < 0)) i.toInt.natAbs 1 0))).toNat = _
    rw [h0, UInt64.toNat_ofNat', Nat.mod_eq_of_lt hb.1]
  rw [e]
  obtain ⟨s', c', q', g1, g2⟩ := f6_dec (s := decide (i.toInt < 0)) h1 h2 (by omega)
  refine ⟨s', c', q', g1, fun hi => g2 (h4 (fun z => hi ?_))⟩
  have : i.toInt = 0 := by omega
  rw [← Int32.toInt_zero] at this
  exact Int32.toInt_inj.mp this
/-- share's quotient -/
theorem f6_share (a : Int32) {b : Int32} (hb : b ≠ 0) : vf_n64 (FP.ddiv (FP.i2d a) (FP.i2d b)) := by
  obtain ⟨s1, c1, q1, g1, -⟩ := f6_i2d a
  obtain ⟨s2, c2, q2, g2, g3⟩ := f6_i2d b
  show vf_n64 (UInt64.ofNat (Jvm.FP.Core.encode Jvm.FP.Core.b64 (Jvm.FP.Core.quotient Jvm.FP.Core.b64 (Jvm.FP.Core.decode Jvm.FP.Core.b64 (FP.i2d a).toNat) (Jvm.FP.Core.decode Jvm.FP.Core.b64 (FP.i2d b).toNat))))
  rw [g1, g2]
  have hb := f6_bits (f6_ratio (s1 != s2) c1 c2 (q1 - q2))
  unfold Jvm.FP.Core.quotient
  dsimp only
  rw [if_neg (g3 ‹_›)]
  exact f6_vf hb.1 hb.2
theorem f3_int (s : Bool) {A : Nat} (hA : A < 8589934592) : ∃ c q, Jvm.FP.Core.roundRatio Jvm.FP.Core.b32 s A 1 0 = .fin s c q ∧ c < 16777216 ∧ -149 ≤ q ∧ q ≤ 104 := by
  obtain ⟨e1, e2, e3, e4, e5⟩ := f3_q
  unfold Jvm.FP.Core.roundRatio
  by_cases h : A = 0
  · rw [if_pos h, e1]
    exact ⟨0, _, rfl, by decide, by decide, by decide⟩
  · rw [if_neg h]
    have l1 := Nat.log2_self_le h
    have l3 : A.log2 < 33 := by
      rcases Nat.lt_or_ge A.log2 33 with z | z
      · exact z
      · have : 2 ^ 33 ≤ 2 ^ A.log2 := Nat.pow_le_pow_right (by decide) z
        omega
    have hl : Jvm.FP.Core.leading A 1 = (A.log2 : Int) := by
      unfold Jvm.FP.Core.leading
      have z0 : (1 : Nat).log2 = 0 := by decide
      have z : ((A.log2 : Int) - ((1 : Nat).log2 : Int)) = (A.log2 : Int) := by omega
      dsimp only
      rw [z, if_pos ?_]
      rw [Int.toNat_natCast, show (-(A.log2 : Int)).toNat = 0 by omega, Nat.one_mul, Nat.pow_zero, Nat.mul_one]
      exact l1
    have hq : Jvm.FP.Core.quantum Jvm.FP.Core.b32 A 1 0 = (A.log2 : Int) - 23 := by
      unfold Jvm.FP.Core.quantum
      rw [hl, e1, e5]
      omega
    unfold Jvm.FP.Core.roundAt
    rw [hq]
    generalize Jvm.FP.Core.nearest _ _ = c
    unfold Jvm.FP.Core.settle Jvm.FP.Core.bound
    rw [e2, e3, e5]
    by_cases h1 : c < 2 ^ 24
    · rw [if_pos h1, if_pos (by omega)]
      exact ⟨c, _, rfl, h1, by omega, by omega⟩
    · rw [if_neg h1, if_pos (by omega)]
      exact ⟨_, _, rfl, by decide, by omega, by omega⟩
theorem f3_i2f (i : Int32) : ∃ s c q, Jvm.FP.Core.decode Jvm.FP.Core.b32 (FP.i2f i).toNat = .fin s c q := by
  obtain ⟨c, q, h0, h1, h2, h3⟩ := f3_int (decide (i.toInt < 0)) (f_abs i)
  have hb := f3_bits (d := Jvm.FP.Core.Datum.fin (decide (i.toInt < 0)) c q) (Or.inr ⟨_, c, q, rfl, h1, h2, h3⟩)
  have e : (FP.i2f i).toNat = Jvm.FP.Core.encode Jvm.FP.Core.b32 (.fin (decide (i.toInt < 0)) c q) := by
    show (UInt32.ofNat (Jvm.FP.Core.encode Jvm.FP.Core.b32 (Jvm.FP.Core.roundRatio Jvm.FP.Core.b32 (decide (i.toInt < 0)) i.toInt.natAbs 1 0))).toNat = _
    rw [h0, UInt32.toNat_ofNat', Nat.mod_eq_of_lt hb.1]
  rw [e]
  exact f3_dec h1 h2 h3
/-- the significand of a small count -/
def f3_c (n : Nat) : Bool := match Jvm.FP.Core.decode Jvm.FP.Core.b32 (FP.i2f (nI n)).toNat with
  | .fin _ c _ => !(c == 0)
  | _ => false
theorem f3_cs : ∀ n, n < 101 → n ≠ 0 → f3_c n = true := by decide +kernel
/-- meanDelay's quotient -/
theorem f3_mean (a : Int32) {n : Nat} (h0 : n ≠ 0) (hn : n < 101) : vf_n32 (FP.fdiv (FP.i2f a) (FP.i2f (nI n))) := by
  obtain ⟨s1, c1, q1, g1⟩ := f3_i2f a
  have g9 := f3_cs n hn h0
  unfold f3_c at g9
  show vf_n32 (UInt32.ofNat (Jvm.FP.Core.encode Jvm.FP.Core.b32 (Jvm.FP.Core.quotient Jvm.FP.Core.b32 (Jvm.FP.Core.decode Jvm.FP.Core.b32 (FP.i2f a).toNat) (Jvm.FP.Core.decode Jvm.FP.Core.b32 (FP.i2f (nI n)).toNat))))
  rw [g1]
  generalize Jvm.FP.Core.decode Jvm.FP.Core.b32 (FP.i2f (nI n)).toNat = d2 at g9 ⊢
  cases d2 with
  | nan => cases g9
  | inf s => cases g9
  | fin s2 c2 q2 =>
    have hc : c2 ≠ 0 := by simpa using g9
    have hb := f3_bits (f3_ratio (s1 != s2) c1 c2 (q1 - q2))
    unfold Jvm.FP.Core.quotient
    dsimp only
    rw [if_neg hc]
    exact f3_vf hb.1 hb.2
/-- a float that is no NaN, as a double -/
theorem f_f2d {a : UInt32} (h : vf_n32 a) : vf_n64 (FP.f2d a) := by
  obtain ⟨e1, e2, e3, e4, e5⟩ := f3_q
  have hn : a.toNat < 4294967296 := UInt32.toNat_lt a
  have h2 : a.toNat % 2147483648 ≤ 2139095040 := by
    unfold vf_n32 at h
    rw [UInt32.le_iff_toNat_le, UInt32.toNat_and, show (0x7fffffff : UInt32).toNat = 2 ^ 31 - 1 from by decide, Nat.and_two_pow_sub_one_eq_mod] at h
    exact h
  have hd : Jvm.FP.Core.decode Jvm.FP.Core.b32 a.toNat ≠ .nan := by
    unfold Jvm.FP.Core.decode
    by_cases k1 : Jvm.FP.Core.fieldE Jvm.FP.Core.b32 a.toNat = Jvm.FP.Core.b32.exps - 1
    · rw [if_pos k1]
      have k2 : Jvm.FP.Core.fieldT Jvm.FP.Core.b32 a.toNat = 0 := by
        unfold Jvm.FP.Core.fieldE at k1
        unfold Jvm.FP.Core.fieldT
        rw [e3, e4] at k1
        rw [e3]
        omega
      rw [if_pos k2]
      intro z
      cases z
    · rw [if_neg k1]
      split <;> intro z <;> cases z
  have hN : Jvm.FP.Core.fIsNaN a = false := decide_eq_false hd
  unfold FP.f2d
  rw [hN, if_neg (by decide)]
  show vf_n64 (UInt64.ofNat (Jvm.FP.Core.encode Jvm.FP.Core.b64 (Jvm.FP.Core.round Jvm.FP.Core.b64 (Jvm.FP.Core.decode Jvm.FP.Core.b32 a.toNat))))
  generalize Jvm.FP.Core.decode Jvm.FP.Core.b32 a.toNat = d at hd
  cases d with
  | nan => exact absurd rfl hd
  | inf s =>
    have hb := f6_bits (d := Jvm.FP.Core.Datum.inf s) (Or.inl ⟨s, rfl⟩)
    exact f6_vf hb.1 hb.2
  | fin s c q =>
    have hb := f6_bits (f6_ratio s c 1 q)
    exact f6_vf hb.1 hb.2
end KFq
