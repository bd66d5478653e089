/-! ===== class and reference held together: a transmission is sent ===== -/
section KSend
variable {nf np ns c : Nat} {q : Nat → List Nat} {sf : Nat → Nat} {L : Lnk} {M : Rf}
theorem kc_dvd {w : Nat} (h1 : 1 ≤ w) (h2 : w ≤ 16) : w ∣ 720720 := by
  have a : ∀ w : Fin 17, 1 ≤ w.1 → w.1 ∣ 720720 := by decide +kernel
  exact a ⟨w, by omega⟩ h1
theorem kc_unit {w : Nat} (h1 : 1 ≤ w) (h2 : w ≤ 16) : (if (0 : Int32) < nI w then 720720 / nI w else 0) = nI (720720 / w) := by
  rw [if_pos (show (0 : Int32) < nI w from nI_lt (a := 0) (by omega) (by omega))]
  exact pk_div (a := 720720) (d := w) (by omega) (by omega) (by omega)
/-- times the unit, or times the whole and divided by the weight -/
theorem kc_mulU (b : Int32) {w : Nat} (h1 : 1 ≤ w) (h2 : w ≤ 16) : b.toInt64 * lN (720720 / w) = b.toInt64 * 720720 / lN w := by
  have hd := kc_dvd h1 h2
  have e1 : ((720720 / w : Nat) : Int) * (w : Int) = 720720 := by
    have := Nat.div_mul_cancel hd
    rw [← Int.natCast_mul, this]; rfl
  have hk : 720720 / w ≤ 720720 := Nat.div_le_self _ _
  generalize 720720 / w = k at e1 hk
  have b1 := Int32.toInt_lt b
  have b2 := Int32.le_toInt b
  have t1 : b.toInt64.toInt = b.toInt := Int32.toInt_toInt64 b
  apply Int64.toInt_inj.mp
  rw [Int64.toInt_mul, Int64.toInt_div, Int64.toInt_mul, t1, pk_lT (by omega), pk_lT (by omega)]
  have t2 : (720720 : Int64).toInt = 720720 := rfl
  rw [t2]
  have m1 : b.toInt * (k : Int) ≤ 2 ^ 31 * 720720 ∧ -(2 ^ 31 * 720720) ≤ b.toInt * (k : Int) := by
    have k0 : (0 : Int) ≤ k := by omega
    have k1 : (k : Int) ≤ 720720 := by omega
    constructor
    · by_cases g : 0 ≤ b.toInt
      · exact Int.mul_le_mul (by omega) k1 k0 (by omega)
      · have : b.toInt * (k : Int) ≤ 0 := Int.mul_nonpos_of_nonpos_of_nonneg (by omega) k0
        omega
    · by_cases g : 0 ≤ b.toInt
      · have : 0 ≤ b.toInt * (k : Int) := Int.mul_nonneg g k0
        omega
      · have : (-b.toInt) * (k : Int) ≤ 2 ^ 31 * 720720 := Int.mul_le_mul (by omega) k1 k0 (by omega)
        rw [Int.neg_mul] at this
        omega
  have e2 : b.toInt * 720720 = b.toInt * (k : Int) * (w : Int) := by rw [Int.mul_assoc, e1]
  rw [Int.bmod_eq_of_le (n := b.toInt * 720720) (by omega) (by omega), e2, Int.mul_tdiv_cancel _ (by omega)]
theorem kc_charge {z w : Nat} (hz : z ≤ 1500) (h1 : 1 ≤ w) (h2 : w ≤ 16) : (nI z * nI (720720 / w)).toInt64 = (nI z).toInt64 * 720720 / (nI w).toInt64 := by
  have hk : 720720 / w ≤ 720720 := Nat.div_le_self _ _
  have hb : z * (720720 / w) ≤ 1500 * 720720 := Nat.mul_le_mul hz hk
  rw [nI_l (n := w) (by omega), ← kc_mulU _ h1 h2, pk_mul, nI_l (by omega), nI_l (n := z) (by omega), lN_mul]
end KSend
