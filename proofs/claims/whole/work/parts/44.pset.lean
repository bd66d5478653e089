/-! ===== PacketSet: bits ===== -/
/-- the bit i -/
def bH (x : Int64) (i : Nat) : Bool := x.toBitVec.getLsbD i
theorem i64_nI {i : Nat} (h : i < 64) : (nI i).toInt64.toBitVec = BitVec.ofNat 64 i := by
  have h1 : (nI i).toInt = (i : Int) := nI_toInt (by omega)
  have h2 : (nI i).toInt64.toInt = (i : Int) := by rw [Int32.toInt_toInt64]; exact h1
  have h3 : (nI i).toInt64 = Int64.ofInt i := by
    apply Int64.toInt_inj.mp
    rw [h2, Int64.toInt_ofInt]
    have hs : (Int64.size : Int) = 18446744073709551616 := by decide
    rw [Int.bmod_eq_of_le] <;> omega
  rw [h3]
  show BitVec.ofInt 64 (i : Int) = _
  exact BitVec.ofInt_natCast 64 i
theorem and63 {i : Nat} (h : i < 64) : (BitVec.ofNat 64 i &&& 63#64) = BitVec.ofNat 64 i := by
  apply BitVec.eq_of_toNat_eq
  rw [BitVec.toNat_and, BitVec.toNat_ofNat, BitVec.toNat_ofNat, Nat.mod_eq_of_lt (by omega)]
  show i &&& 63 = i
  have : (63 : Nat) = 2 ^ 6 - 1 := by decide
  rw [this, Nat.and_two_pow_sub_one_eq_mod]
  exact Nat.mod_eq_of_lt (by omega)
theorem bH_or (x y : Int64) (i : Nat) : bH (x ||| y) i = (bH x i || bH y i) := by
  unfold bH
  rw [Int64.toBitVec_or, BitVec.getLsbD_or]
theorem bH_and (x y : Int64) (i : Nat) : bH (x &&& y) i = (bH x i && bH y i) := by
  unfold bH
  rw [Int64.toBitVec_and, BitVec.getLsbD_and]
theorem bH_not (x : Int64) {i : Nat} (h : i < 64) : bH (x ^^^ (-1)) i = !bH x i := by
  unfold bH
  rw [Int64.toBitVec_xor, BitVec.getLsbD_xor]
  have e : (-1 : Int64).toBitVec = BitVec.allOnes 64 := by decide +kernel
  rw [e, BitVec.getLsbD_allOnes, decide_eq_true h, Bool.xor_true]
theorem bH_0 (i : Nat) : bH 0 i = false := by
  unfold bH
  show (0#64).getLsbD i = false
  exact BitVec.getLsbD_zero
theorem smod64 : ∀ i : Fin 64, (BitVec.ofNat 64 i.1).smod 64 = BitVec.ofNat 64 i.1 := by decide +kernel
theorem umod64 : ∀ i : Fin 64, (BitVec.ofNat 64 i.1) % 64 = BitVec.ofNat 64 i.1 := by decide +kernel
theorem bH_one {i j : Nat} (h : i < 64) : bH ((1 : Int64) <<< ((nI i).toInt64 &&& 63)) j = decide (j = i) := by
  unfold bH
  have e1 : ((nI i).toInt64 &&& 63).toBitVec = BitVec.ofNat 64 i := by
    rw [Int64.toBitVec_and, i64_nI h]
    exact and63 h
  rw [Int64.toBitVec_shiftLeft, e1]
  have e2 : (BitVec.ofNat 64 i).smod 64 = BitVec.ofNat 64 i := smod64 ⟨i, h⟩
  rw [e2, BitVec.shiftLeft_eq', BitVec.toNat_ofNat, Nat.mod_eq_of_lt (by omega), BitVec.getLsbD_shiftLeft]
  show (decide (j < 64) && !decide (j < i) && (1#64).getLsbD (j - i)) = _
  rw [BitVec.getLsbD_one]
  by_cases e : j = i
  · subst e; simp [h]
  · simp [e]; omega
theorem bH_get (x : Int64) {i : Nat} (h : i < 64) : decide ((x.toUInt64 >>> ((nI i).toInt64.toUInt64 &&& Int64.toUInt64 63)).toInt64 &&& 1 = 1) = bH x i := by
  have e1 : ((nI i).toInt64.toUInt64 &&& Int64.toUInt64 63).toBitVec = BitVec.ofNat 64 i := by
    rw [UInt64.toBitVec_and]
    show (nI i).toInt64.toBitVec &&& 63#64 = _
    rw [i64_nI h]
    exact and63 h
  have e2 : ((x.toUInt64 >>> ((nI i).toInt64.toUInt64 &&& Int64.toUInt64 63)).toInt64 &&& 1).toBitVec = (x.toBitVec >>> i) &&& 1#64 := by
    rw [Int64.toBitVec_and]
    show (x.toUInt64 >>> ((nI i).toInt64.toUInt64 &&& Int64.toUInt64 63)).toBitVec &&& 1#64 = _
    rw [UInt64.toBitVec_shiftRight, e1]
    have e3 : (BitVec.ofNat 64 i) % 64 = BitVec.ofNat 64 i := umod64 ⟨i, h⟩
    rw [e3, BitVec.ushiftRight_eq', BitVec.toNat_ofNat, Nat.mod_eq_of_lt (by omega)]
    rfl
  have e4 : ((x.toUInt64 >>> ((nI i).toInt64.toUInt64 &&& Int64.toUInt64 63)).toInt64 &&& 1 = 1) ↔ bH x i = true := by
    rw [← Int64.toBitVec_inj, e2]
    show (x.toBitVec >>> i) &&& 1#64 = 1#64 ↔ x.toBitVec.getLsbD i = true
    constructor
    · intro z
      have := congrArg (fun b => b.getLsbD 0) z
      simp only [BitVec.getLsbD_and, BitVec.getLsbD_ushiftRight] at this
      simpa using this
    · intro z
      apply BitVec.eq_of_getLsbD_eq
      intro j hj
      rw [BitVec.getLsbD_and, BitVec.getLsbD_ushiftRight, BitVec.getLsbD_one]
      by_cases e : j = 0
      · subst e; simp [z]
      · simp [e]
  by_cases z : bH x i = true
  · rw [z, decide_eq_true (e4.mpr z)]
  · rw [Bool.eq_false_iff.mpr z, decide_eq_false (fun y => z (e4.mp y))]
