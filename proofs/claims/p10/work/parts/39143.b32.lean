/-! ===== ints as words of bits ===== -/
theorem i3_n {a : Nat} (h : a < 2147483648) : (Int32.ofInt (a : Int)).toBitVec.toNat = a := by
  rw [i32_mem (by omega) (by omega), Int.toNat_natCast]
theorem i3_ti {x : Int32} {a : Nat} (h : x.toBitVec.toNat = a) (h2 : a < 2147483648) : x.toInt = (a : Int) := by
  have e : x.toInt = x.toBitVec.toInt := rfl
  rw [e, BitVec.toInt_eq_toNat_of_lt (by omega), h]
theorem i3_or {x y : Int32} {a b k : Nat} (hx : x.toBitVec.toNat = a) (hy : y.toBitVec.toNat = b * 2 ^ k) (ha : a < 2 ^ k) : (x ||| y).toBitVec.toNat = a + b * 2 ^ k := by
  rw [Int32.toBitVec_or, BitVec.toNat_or, hx, hy, Nat.or_comm, Nat.mul_comm, ← Nat.two_pow_add_eq_or_of_lt ha, Nat.add_comm]
theorem i3_shl {b k : Nat} {s : Int32} (hs : (s.toBitVec.smod 32).toNat = k) (hb : b < 2147483648) (h : b * 2 ^ k < 2 ^ 32) : (Int32.ofInt (b : Int) <<< s).toBitVec.toNat = b * 2 ^ k := by
  rw [pk_shl _ _ k hs, i3_n hb, Nat.mod_eq_of_lt h]
theorem un_and {n m k : Nat} (hn : n < 2147483648) (hm : (Int32.ofInt (m : Int)).toBitVec.toNat = 2 ^ k - 1) (hk : k ≤ 30) : (Int32.ofInt (n : Int) &&& Int32.ofInt (m : Int)).toInt = ((n % 2 ^ k : Nat) : Int) := by
  have h2 : 2 ^ k ≤ 2 ^ 30 := Nat.pow_le_pow_right (by decide) hk
  have h1 : n % 2 ^ k < 2 ^ k := Nat.mod_lt _ (Nat.two_pow_pos k)
  rw [pk_and _ k hm, i3_n hn, nI_toInt (by omega)]
theorem un_shr {n k : Nat} {s : Int32} (hn : n < 2147483648) (hs : (s.toBitVec.smod 32).toNat = k) : (Int32.ofInt (n : Int) >>> s).toInt = ((n / 2 ^ k : Nat) : Int) := by
  rw [pk_shr _ _ k hs, i3_ti (i3_n hn) hn]
  show ((n >>> k : Nat) : Int) = _
  rw [Nat.shiftRight_eq_div_pow]
