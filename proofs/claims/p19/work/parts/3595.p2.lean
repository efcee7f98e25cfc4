/-! ===== powers of two, a shift by one ===== -/
theorem lshr1 {x z : Int} (e : z = (Int64.ofInt x >>> ((Int32.ofInt 1).toInt64 &&& 63)).toInt) (h0 : 0 ≤ x) (h1 : x < 9223372036854775808) : z = x / 2 := by
  have h2 : ((Int32.ofInt 1).toInt64 &&& 63 : Int64) = 1 := by decide
  rw [h2] at e
  have h3 : (Int64.ofInt x >>> (1 : Int64)).toInt = (Int64.ofInt x).toInt >>> 1 := by
    show (((Int64.ofInt x).toBitVec.sshiftRight' ((1 : Int64).toBitVec.smod 64))).toInt = _
    have h4 : ((1 : Int64).toBitVec.smod 64) = 1#64 := by decide
    rw [h4, BitVec.sshiftRight_eq', BitVec.toInt_sshiftRight]
    rfl
  have h5 : (Int64.ofInt x).toInt = x := by
    rw [Int64.toInt_ofInt_of_le (by omega) (by omega)]
  rw [h3, h5, Int.shiftRight_eq_div_pow] at e
  exact e
def p2 (i : Int) : Int := 2 ^ i.toNat
theorem p2_0 : p2 0 = 1 := rfl
theorem p2_1 {i : Int} : 1 ≤ p2 i := by
  unfold p2
  exact Int.pow_pos (by decide)
theorem p2_s {i : Int} (h : 0 ≤ i) : p2 (i + 1) = 2 * p2 i := by
  unfold p2
  rw [show (i + 1).toNat = i.toNat + 1 by omega, Int.pow_succ, Int.mul_comm]
theorem p2_le {i : Int} (h : i ≤ 8) : p2 i ≤ 256 := by
  unfold p2
  have h1 : (2 : Nat) ^ i.toNat ≤ 2 ^ 8 := Nat.pow_le_pow_right (by decide) (by omega)
  have h2 : ((2 ^ i.toNat : Nat) : Int) ≤ ((2 ^ 8 : Nat) : Int) := Int.ofNat_le.mpr h1
  rw [Int.natCast_pow] at h2
  exact h2
theorem p2_2 {i : Int} (h : i ≤ 1) (h0 : 0 ≤ i) : p2 i ≤ 2 := by
  have h3 : i = 0 ∨ i = 1 := by omega
  rcases h3 with rfl | rfl <;> decide
