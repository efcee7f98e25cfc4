/-! ===== small facts for the walks ===== -/
theorem isS_o {s : Nat} (h : isS s) : isS (97 - s) := by unfold isS at *; omega
theorem lt1_V {v : Nat} (hv : isV v) : v < 170 := by unfold isV at hv; omega
theorem lt1_S {v : Nat} (hv : isS v) : v < 170 := by unfold isS at hv; omega
theorem lt2_V {v k : Nat} (hv : isV v) (hk : k < 40) : v + k < 170 := by unfold isV at hv; omega
theorem lt2_S {v k : Nat} (hv : isS v) (hk : k < 40) : v + k < 170 := by unfold isS at hv; omega
theorem kF_j {F : Nat → Prop} {s a k : Nat} {z lo hi : Int} {h0 h : ah_T} (hk : kF F s h0 h) (ha : ¬ F a) (hq : rg a k = (lo, hi)) (h1 : lo ≤ z) (h2 : z ≤ hi) : kF F s h0 (st_i h a k z) := kF_i hk ha hq ⟨h1, h2⟩
theorem mul_nn32 {x y z ux uy : Int} (e : z = w32 (x * y)) (hx : 0 ≤ x) (hy : 0 ≤ y) (hux : x ≤ ux) (huy : y ≤ uy) (hm : ux * uy < 2147483648) : 0 ≤ z ∧ z ≤ ux * uy ∧ z = x * y := by
  have h1 : 0 ≤ x * y := Int.mul_nonneg hx hy
  have h2 : x * y ≤ ux * uy := Int.mul_le_mul hux huy hy (by omega)
  rw [w32_id (by unfold i32; omega)] at e
  subst e
  exact ⟨h1, h2, rfl⟩
theorem mul_nn64 {x y z ux uy : Int} (e : z = w64 (x * y)) (hx : 0 ≤ x) (hy : 0 ≤ y) (hux : x ≤ ux) (huy : y ≤ uy) (hm : ux * uy < 9223372036854775808) : 0 ≤ z ∧ z ≤ ux * uy ∧ z = x * y := by
  have h1 : 0 ≤ x * y := Int.mul_nonneg hx hy
  have h2 : x * y ≤ ux * uy := Int.mul_le_mul hux huy hy (by omega)
  rw [w64_id (by unfold i64; omega)] at e
  subst e
  exact ⟨h1, h2, rfl⟩
theorem w32_to {x z : Int} (e : x = z) (hz : i32 z) : w32 x = z := by rw [e]; exact w32_id hz
theorem w64_to {x z : Int} (e : x = z) (hz : i64 z) : w64 x = z := by rw [e]; exact w64_id hz
theorem rem_nn {x y z : Int} (e : z = x.tmod y) (hx : 0 ≤ x) (hy : 1 ≤ y) : 0 ≤ z ∧ z ≤ x ∧ z < y ∧ z = x % y := by
  rw [Int.tmod_eq_emod_of_nonneg hx] at e
  subst e
  have h1 : 0 ≤ y * (x / y) := Int.mul_nonneg (by omega) (Int.ediv_nonneg hx (by omega))
  have h2 : x % y + y * (x / y) = x := Int.emod_add_mul_ediv x y
  exact ⟨Int.emod_nonneg _ (by omega), by omega, Int.emod_lt_of_pos _ (by omega), rfl⟩
theorem rem_c {x y z : Int} (e : z = x.tmod y) (hy : 0 < y) : -y < z ∧ z < y := by
  subst e
  have h1 := Int.natAbs_tmod x y
  have h2 : (x.tmod y).natAbs < y.natAbs := by rw [h1]; exact Nat.mod_lt _ (by omega)
  omega
theorem div_nn32 {x y z : Int} (e : z = w32 (x.tdiv y)) (hx : 0 ≤ x) (hy : 1 ≤ y) (hu : x < 2147483648) : 0 ≤ z ∧ z ≤ x ∧ z = x / y := by
  rw [Int.tdiv_eq_ediv_of_nonneg hx] at e
  have h1 : 0 ≤ x / y := Int.ediv_nonneg hx (by omega)
  have h2 : x / y ≤ x := Int.ediv_le_self _ hx
  rw [w32_id (by unfold i32; omega)] at e
  subst e
  exact ⟨h1, h2, rfl⟩
theorem div_nn64 {x y z : Int} (e : z = w64 (x.tdiv y)) (hx : 0 ≤ x) (hy : 1 ≤ y) (hu : x < 9223372036854775808) : 0 ≤ z ∧ z ≤ x ∧ z = x / y := by
  rw [Int.tdiv_eq_ediv_of_nonneg hx] at e
  have h1 : 0 ≤ x / y := Int.ediv_nonneg hx (by omega)
  have h2 : x / y ≤ x := Int.ediv_le_self _ hx
  rw [w64_id (by unfold i64; omega)] at e
  subst e
  exact ⟨h1, h2, rfl⟩
theorem abs_r {x z : Int} (e : z = if 0 ≤ x then x else w32 (0 - x)) (h : -2147483647 ≤ x) : 0 ≤ z ∧ (z = x ∨ z = -x) := by
  by_cases h0 : 0 ≤ x
  · rw [if_pos h0] at e; omega
  · rw [if_neg h0] at e
    by_cases h1 : x ≤ 2147483647
    · rw [w32_id (by unfold i32; omega)] at e; omega
    · omega
theorem mmin_r {x y z : Int} (e : z = if y < x then y else x) : z ≤ x ∧ z ≤ y ∧ (z = x ∨ z = y) := by
  split at e <;> omega
theorem mmax_r {x y z : Int} (e : z = if x < y then y else x) : x ≤ z ∧ y ≤ z ∧ (z = x ∨ z = y) := by
  split at e <;> omega
theorem and_r {x z m : Int} (k : Nat) (e : z = (Int32.ofInt x &&& Int32.ofInt m).toInt) (hm : (Int32.ofInt m).toBitVec.toNat = 2 ^ k - 1) (hk : k ≤ 30) (hm2 : m + 1 = ((2 ^ k : Nat) : Int)) : 0 ≤ z ∧ z ≤ m := by
  rw [pk_and _ k hm] at e
  have h1 : (Int32.ofInt x).toBitVec.toNat % 2 ^ k < 2 ^ k := Nat.mod_lt _ (Nat.two_pow_pos k)
  have h2 : 2 ^ k ≤ 2 ^ 30 := Nat.pow_le_pow_right (by decide) hk
  rw [nI_toInt (by omega)] at e
  omega
def m_JLong_compare : mr_T := (⟨"java/lang/Long", "compare", "(JJ)I"⟩, prog_17_method_42_code, 4, some .int)
theorem d_JLong_compare_0 : decode prog_17_method_42_code 0 = .ok (.lload_n 0, 1) := by decide +kernel
theorem d_JLong_compare_1 : decode prog_17_method_42_code 1 = .ok (.lload_n 2, 1) := by decide +kernel
theorem d_JLong_compare_2 : decode prog_17_method_42_code 2 = .ok (.lcmp, 1) := by decide +kernel
theorem d_JLong_compare_3 : decode prog_17_method_42_code 3 = .ok (.ifCond .ge 7, 3) := by decide +kernel
theorem d_JLong_compare_10 : decode prog_17_method_42_code 10 = .ok (.lload_n 0, 1) := by decide +kernel
theorem d_JLong_compare_11 : decode prog_17_method_42_code 11 = .ok (.lload_n 2, 1) := by decide +kernel
theorem d_JLong_compare_12 : decode prog_17_method_42_code 12 = .ok (.lcmp, 1) := by decide +kernel
theorem d_JLong_compare_13 : decode prog_17_method_42_code 13 = .ok (.ifCond .ne 7, 3) := by decide +kernel
theorem d_JLong_compare_20 : decode prog_17_method_42_code 20 = .ok (.iconst 1, 1) := by decide +kernel
theorem d_JLong_compare_21 : decode prog_17_method_42_code 21 = .ok (.ireturn, 1) := by decide +kernel
theorem d_JLong_compare_16 : decode prog_17_method_42_code 16 = .ok (.iconst 0, 1) := by decide +kernel
theorem d_JLong_compare_17 : decode prog_17_method_42_code 17 = .ok (.goto 4, 3) := by decide +kernel
theorem d_JLong_compare_6 : decode prog_17_method_42_code 6 = .ok (.iconst (-1), 1) := by decide +kernel
theorem d_JLong_compare_7 : decode prog_17_method_42_code 7 = .ok (.goto 14, 3) := by decide +kernel
def m_Voice_pitchesOf : mr_T := (⟨"PlainMusic$Voice", "pitchesOf", "(I)I"⟩, prog_12_method_12_code, 3, some .int)
theorem d_Voice_pitchesOf_0 : decode prog_12_method_12_code 0 = .ok (.aload_n 0, 1) := by decide +kernel
theorem d_Voice_pitchesOf_1 : decode prog_12_method_12_code 1 = .ok (.getfield 31, 3) := by decide +kernel
theorem d_Voice_pitchesOf_4 : decode prog_12_method_12_code 4 = .ok (.iload_n 1, 1) := by decide +kernel
theorem d_Voice_pitchesOf_5 : decode prog_12_method_12_code 5 = .ok (.iaload, 1) := by decide +kernel
theorem d_Voice_pitchesOf_6 : decode prog_12_method_12_code 6 = .ok (.istore_n 2, 1) := by decide +kernel
theorem d_Voice_pitchesOf_7 : decode prog_12_method_12_code 7 = .ok (.aload_n 0, 1) := by decide +kernel
theorem d_Voice_pitchesOf_8 : decode prog_12_method_12_code 8 = .ok (.getfield 18, 3) := by decide +kernel
theorem d_Voice_pitchesOf_11 : decode prog_12_method_12_code 11 = .ok (.iload_n 2, 1) := by decide +kernel
theorem d_Voice_pitchesOf_12 : decode prog_12_method_12_code 12 = .ok (.iconst 1, 1) := by decide +kernel
theorem d_Voice_pitchesOf_13 : decode prog_12_method_12_code 13 = .ok (.iadd, 1) := by decide +kernel
theorem d_Voice_pitchesOf_14 : decode prog_12_method_12_code 14 = .ok (.iaload, 1) := by decide +kernel
theorem d_Voice_pitchesOf_15 : decode prog_12_method_12_code 15 = .ok (.aload_n 0, 1) := by decide +kernel
theorem d_Voice_pitchesOf_16 : decode prog_12_method_12_code 16 = .ok (.getfield 18, 3) := by decide +kernel
theorem d_Voice_pitchesOf_19 : decode prog_12_method_12_code 19 = .ok (.iload_n 2, 1) := by decide +kernel
theorem d_Voice_pitchesOf_20 : decode prog_12_method_12_code 20 = .ok (.iaload, 1) := by decide +kernel
theorem d_Voice_pitchesOf_21 : decode prog_12_method_12_code 21 = .ok (.isub, 1) := by decide +kernel
theorem d_Voice_pitchesOf_22 : decode prog_12_method_12_code 22 = .ok (.ireturn, 1) := by decide +kernel
def m_Voice_isRest : mr_T := (⟨"PlainMusic$Voice", "isRest", "(I)Z"⟩, prog_12_method_13_code, 2, some .boolean)
theorem d_Voice_isRest_0 : decode prog_12_method_13_code 0 = .ok (.aload_n 0, 1) := by decide +kernel
theorem d_Voice_isRest_1 : decode prog_12_method_13_code 1 = .ok (.iload_n 1, 1) := by decide +kernel
theorem d_Voice_isRest_2 : decode prog_12_method_13_code 2 = .ok (.invokevirtual 80, 3) := by decide +kernel
theorem l_Voice_80 : ml_OK "PlainMusic$Voice" 80 ⟨"PlainMusic$Voice", "pitchesOf", "(I)I"⟩ := Or.inl (gw_in 1051 (by decide +kernel) (by decide +kernel))
theorem k_Voice_pitchesOf : mt_OK m_Voice_pitchesOf 1 1 := ⟨(gw_in 1054 (by decide +kernel) (by decide +kernel)), (gw_in 139 (by decide +kernel) (by decide +kernel)), ⟨by decide +kernel, by decide +kernel, by decide +kernel⟩, fun h => absurd h (by decide), fun _ => ⟨(gw_in 1052 (by decide +kernel) (by decide +kernel)), (gw_in 1053 (by decide +kernel) (by decide +kernel))⟩, fun h => absurd h (by decide)⟩
theorem d_Voice_isRest_5 : decode prog_12_method_13_code 5 = .ok (.ifCond .ne 7, 3) := by decide +kernel
theorem d_Voice_isRest_12 : decode prog_12_method_13_code 12 = .ok (.iconst 0, 1) := by decide +kernel
theorem d_Voice_isRest_13 : decode prog_12_method_13_code 13 = .ok (.ireturn, 1) := by decide +kernel
theorem d_Voice_isRest_8 : decode prog_12_method_13_code 8 = .ok (.iconst 1, 1) := by decide +kernel
theorem d_Voice_isRest_9 : decode prog_12_method_13_code 9 = .ok (.goto 4, 3) := by decide +kernel
def m_Voice_keyOf : mr_T := (⟨"PlainMusic$Voice", "keyOf", "(II)I"⟩, prog_12_method_14_code, 4, some .int)
theorem d_Voice_keyOf_0 : decode prog_12_method_14_code 0 = .ok (.aload_n 0, 1) := by decide +kernel
theorem d_Voice_keyOf_1 : decode prog_12_method_14_code 1 = .ok (.getfield 18, 3) := by decide +kernel
theorem d_Voice_keyOf_4 : decode prog_12_method_14_code 4 = .ok (.aload_n 0, 1) := by decide +kernel
theorem d_Voice_keyOf_5 : decode prog_12_method_14_code 5 = .ok (.getfield 31, 3) := by decide +kernel
theorem d_Voice_keyOf_8 : decode prog_12_method_14_code 8 = .ok (.iload_n 1, 1) := by decide +kernel
theorem d_Voice_keyOf_9 : decode prog_12_method_14_code 9 = .ok (.iaload, 1) := by decide +kernel
theorem d_Voice_keyOf_10 : decode prog_12_method_14_code 10 = .ok (.iaload, 1) := by decide +kernel
theorem d_Voice_keyOf_11 : decode prog_12_method_14_code 11 = .ok (.iload_n 2, 1) := by decide +kernel
theorem d_Voice_keyOf_12 : decode prog_12_method_14_code 12 = .ok (.iadd, 1) := by decide +kernel
theorem d_Voice_keyOf_13 : decode prog_12_method_14_code 13 = .ok (.istore_n 3, 1) := by decide +kernel
theorem d_Voice_keyOf_14 : decode prog_12_method_14_code 14 = .ok (.iload_n 3, 1) := by decide +kernel
theorem d_Voice_keyOf_15 : decode prog_12_method_14_code 15 = .ok (.ifCond .lt 21, 3) := by decide +kernel
theorem d_Voice_keyOf_36 : decode prog_12_method_14_code 36 = .ok (.iconst 0, 1) := by decide +kernel
theorem d_Voice_keyOf_37 : decode prog_12_method_14_code 37 = .ok (.ireturn, 1) := by decide +kernel
theorem d_Voice_keyOf_18 : decode prog_12_method_14_code 18 = .ok (.iload_n 3, 1) := by decide +kernel
theorem d_Voice_keyOf_19 : decode prog_12_method_14_code 19 = .ok (.aload_n 0, 1) := by decide +kernel
theorem d_Voice_keyOf_20 : decode prog_12_method_14_code 20 = .ok (.getfield 9, 3) := by decide +kernel
theorem d_Voice_keyOf_23 : decode prog_12_method_14_code 23 = .ok (.arraylength, 1) := by decide +kernel
theorem d_Voice_keyOf_24 : decode prog_12_method_14_code 24 = .ok (.if_icmp .ge 12, 3) := by decide +kernel
theorem d_Voice_keyOf_27 : decode prog_12_method_14_code 27 = .ok (.aload_n 0, 1) := by decide +kernel
theorem d_Voice_keyOf_28 : decode prog_12_method_14_code 28 = .ok (.getfield 9, 3) := by decide +kernel
theorem d_Voice_keyOf_31 : decode prog_12_method_14_code 31 = .ok (.iload_n 3, 1) := by decide +kernel
theorem d_Voice_keyOf_32 : decode prog_12_method_14_code 32 = .ok (.iaload, 1) := by decide +kernel
theorem d_Voice_keyOf_33 : decode prog_12_method_14_code 33 = .ok (.goto 4, 3) := by decide +kernel
def m_Voice_stepOf : mr_T := (⟨"PlainMusic$Voice", "stepOf", "(II)I"⟩, prog_12_method_15_code, 4, some .int)
theorem d_Voice_stepOf_0 : decode prog_12_method_15_code 0 = .ok (.aload_n 0, 1) := by decide +kernel
theorem d_Voice_stepOf_1 : decode prog_12_method_15_code 1 = .ok (.getfield 18, 3) := by decide +kernel
theorem d_Voice_stepOf_4 : decode prog_12_method_15_code 4 = .ok (.aload_n 0, 1) := by decide +kernel
theorem d_Voice_stepOf_5 : decode prog_12_method_15_code 5 = .ok (.getfield 31, 3) := by decide +kernel
theorem d_Voice_stepOf_8 : decode prog_12_method_15_code 8 = .ok (.iload_n 1, 1) := by decide +kernel
theorem d_Voice_stepOf_9 : decode prog_12_method_15_code 9 = .ok (.iaload, 1) := by decide +kernel
theorem d_Voice_stepOf_10 : decode prog_12_method_15_code 10 = .ok (.iaload, 1) := by decide +kernel
theorem d_Voice_stepOf_11 : decode prog_12_method_15_code 11 = .ok (.iload_n 2, 1) := by decide +kernel
theorem d_Voice_stepOf_12 : decode prog_12_method_15_code 12 = .ok (.iadd, 1) := by decide +kernel
theorem d_Voice_stepOf_13 : decode prog_12_method_15_code 13 = .ok (.istore_n 3, 1) := by decide +kernel
theorem d_Voice_stepOf_14 : decode prog_12_method_15_code 14 = .ok (.iload_n 3, 1) := by decide +kernel
theorem d_Voice_stepOf_15 : decode prog_12_method_15_code 15 = .ok (.ifCond .lt 21, 3) := by decide +kernel
theorem d_Voice_stepOf_36 : decode prog_12_method_15_code 36 = .ok (.iconst 0, 1) := by decide +kernel
theorem d_Voice_stepOf_37 : decode prog_12_method_15_code 37 = .ok (.ireturn, 1) := by decide +kernel
theorem d_Voice_stepOf_18 : decode prog_12_method_15_code 18 = .ok (.iload_n 3, 1) := by decide +kernel
theorem d_Voice_stepOf_19 : decode prog_12_method_15_code 19 = .ok (.aload_n 0, 1) := by decide +kernel
theorem d_Voice_stepOf_20 : decode prog_12_method_15_code 20 = .ok (.getfield 15, 3) := by decide +kernel
theorem d_Voice_stepOf_23 : decode prog_12_method_15_code 23 = .ok (.arraylength, 1) := by decide +kernel
theorem d_Voice_stepOf_24 : decode prog_12_method_15_code 24 = .ok (.if_icmp .ge 12, 3) := by decide +kernel
theorem d_Voice_stepOf_27 : decode prog_12_method_15_code 27 = .ok (.aload_n 0, 1) := by decide +kernel
theorem d_Voice_stepOf_28 : decode prog_12_method_15_code 28 = .ok (.getfield 15, 3) := by decide +kernel
theorem d_Voice_stepOf_31 : decode prog_12_method_15_code 31 = .ok (.iload_n 3, 1) := by decide +kernel
theorem d_Voice_stepOf_32 : decode prog_12_method_15_code 32 = .ok (.iaload, 1) := by decide +kernel
theorem d_Voice_stepOf_33 : decode prog_12_method_15_code 33 = .ok (.goto 4, 3) := by decide +kernel
def m_Voice_lowestKey : mr_T := (⟨"PlainMusic$Voice", "lowestKey", "(I)I"⟩, prog_12_method_16_code, 2, some .int)
theorem d_Voice_lowestKey_0 : decode prog_12_method_16_code 0 = .ok (.aload_n 0, 1) := by decide +kernel
theorem d_Voice_lowestKey_1 : decode prog_12_method_16_code 1 = .ok (.iload_n 1, 1) := by decide +kernel
theorem d_Voice_lowestKey_2 : decode prog_12_method_16_code 2 = .ok (.iconst 0, 1) := by decide +kernel
theorem d_Voice_lowestKey_3 : decode prog_12_method_16_code 3 = .ok (.invokevirtual 91, 3) := by decide +kernel
theorem l_Voice_91 : ml_OK "PlainMusic$Voice" 91 ⟨"PlainMusic$Voice", "keyOf", "(II)I"⟩ := Or.inl (gw_in 1121 (by decide +kernel) (by decide +kernel))
theorem k_Voice_keyOf : mt_OK m_Voice_keyOf 2 1 := ⟨(gw_in 1067 (by decide +kernel) (by decide +kernel)), (gw_in 139 (by decide +kernel) (by decide +kernel)), ⟨by decide +kernel, by decide +kernel, by decide +kernel⟩, fun h => absurd h (by decide), fun _ => ⟨(gw_in 1065 (by decide +kernel) (by decide +kernel)), (gw_in 1066 (by decide +kernel) (by decide +kernel))⟩, fun h => absurd h (by decide)⟩
theorem d_Voice_lowestKey_6 : decode prog_12_method_16_code 6 = .ok (.ireturn, 1) := by decide +kernel
def m_Voice_highestKey : mr_T := (⟨"PlainMusic$Voice", "highestKey", "(I)I"⟩, prog_12_method_17_code, 2, some .int)
theorem d_Voice_highestKey_0 : decode prog_12_method_17_code 0 = .ok (.aload_n 0, 1) := by decide +kernel
theorem d_Voice_highestKey_1 : decode prog_12_method_17_code 1 = .ok (.iload_n 1, 1) := by decide +kernel
theorem d_Voice_highestKey_2 : decode prog_12_method_17_code 2 = .ok (.aload_n 0, 1) := by decide +kernel
theorem d_Voice_highestKey_3 : decode prog_12_method_17_code 3 = .ok (.iload_n 1, 1) := by decide +kernel
theorem d_Voice_highestKey_4 : decode prog_12_method_17_code 4 = .ok (.invokevirtual 80, 3) := by decide +kernel
theorem d_Voice_highestKey_7 : decode prog_12_method_17_code 7 = .ok (.iconst 1, 1) := by decide +kernel
theorem d_Voice_highestKey_8 : decode prog_12_method_17_code 8 = .ok (.isub, 1) := by decide +kernel
theorem d_Voice_highestKey_9 : decode prog_12_method_17_code 9 = .ok (.invokevirtual 91, 3) := by decide +kernel
theorem d_Voice_highestKey_12 : decode prog_12_method_17_code 12 = .ok (.ireturn, 1) := by decide +kernel
def m_Voice_hasKey : mr_T := (⟨"PlainMusic$Voice", "hasKey", "(II)Z"⟩, prog_12_method_18_code, 4, some .boolean)
theorem d_Voice_hasKey_0 : decode prog_12_method_18_code 0 = .ok (.iconst 0, 1) := by decide +kernel
theorem d_Voice_hasKey_1 : decode prog_12_method_18_code 1 = .ok (.istore_n 3, 1) := by decide +kernel
theorem d_Voice_hasKey_2 : decode prog_12_method_18_code 2 = .ok (.iload_n 3, 1) := by decide +kernel
theorem d_Voice_hasKey_3 : decode prog_12_method_18_code 3 = .ok (.aload_n 0, 1) := by decide +kernel
theorem d_Voice_hasKey_4 : decode prog_12_method_18_code 4 = .ok (.iload_n 1, 1) := by decide +kernel
theorem d_Voice_hasKey_5 : decode prog_12_method_18_code 5 = .ok (.invokevirtual 80, 3) := by decide +kernel
theorem d_Voice_hasKey_8 : decode prog_12_method_18_code 8 = .ok (.if_icmp .ge 21, 3) := by decide +kernel
theorem d_Voice_hasKey_29 : decode prog_12_method_18_code 29 = .ok (.iconst 0, 1) := by decide +kernel
theorem d_Voice_hasKey_30 : decode prog_12_method_18_code 30 = .ok (.ireturn, 1) := by decide +kernel
theorem d_Voice_hasKey_11 : decode prog_12_method_18_code 11 = .ok (.aload_n 0, 1) := by decide +kernel
theorem d_Voice_hasKey_12 : decode prog_12_method_18_code 12 = .ok (.iload_n 1, 1) := by decide +kernel
theorem d_Voice_hasKey_13 : decode prog_12_method_18_code 13 = .ok (.iload_n 3, 1) := by decide +kernel
theorem d_Voice_hasKey_14 : decode prog_12_method_18_code 14 = .ok (.invokevirtual 91, 3) := by decide +kernel
theorem d_Voice_hasKey_17 : decode prog_12_method_18_code 17 = .ok (.iload_n 2, 1) := by decide +kernel
theorem d_Voice_hasKey_18 : decode prog_12_method_18_code 18 = .ok (.if_icmp .ne 5, 3) := by decide +kernel
theorem d_Voice_hasKey_23 : decode prog_12_method_18_code 23 = .ok (.iinc 3 1, 3) := by decide +kernel
theorem d_Voice_hasKey_26 : decode prog_12_method_18_code 26 = .ok (.goto (-24), 3) := by decide +kernel
theorem d_Voice_hasKey_21 : decode prog_12_method_18_code 21 = .ok (.iconst 1, 1) := by decide +kernel
theorem d_Voice_hasKey_22 : decode prog_12_method_18_code 22 = .ok (.ireturn, 1) := by decide +kernel
def m_Voice_numberOf : mr_T := (⟨"PlainMusic$Voice", "numberOf", "(I)I"⟩, prog_12_method_19_code, 2, some .int)
theorem d_Voice_numberOf_0 : decode prog_12_method_19_code 0 = .ok (.aload_n 0, 1) := by decide +kernel
theorem d_Voice_numberOf_1 : decode prog_12_method_19_code 1 = .ok (.getfield 21, 3) := by decide +kernel
theorem d_Voice_numberOf_4 : decode prog_12_method_19_code 4 = .ok (.aload_n 0, 1) := by decide +kernel
theorem d_Voice_numberOf_5 : decode prog_12_method_19_code 5 = .ok (.getfield 31, 3) := by decide +kernel
theorem d_Voice_numberOf_8 : decode prog_12_method_19_code 8 = .ok (.iload_n 1, 1) := by decide +kernel
theorem d_Voice_numberOf_9 : decode prog_12_method_19_code 9 = .ok (.iaload, 1) := by decide +kernel
theorem d_Voice_numberOf_10 : decode prog_12_method_19_code 10 = .ok (.iaload, 1) := by decide +kernel
theorem d_Voice_numberOf_11 : decode prog_12_method_19_code 11 = .ok (.ireturn, 1) := by decide +kernel
def m_Voice_isTied : mr_T := (⟨"PlainMusic$Voice", "isTied", "(I)Z"⟩, prog_12_method_20_code, 2, some .boolean)
theorem d_Voice_isTied_0 : decode prog_12_method_20_code 0 = .ok (.aload_n 0, 1) := by decide +kernel
theorem d_Voice_isTied_1 : decode prog_12_method_20_code 1 = .ok (.getfield 27, 3) := by decide +kernel
theorem d_Voice_isTied_4 : decode prog_12_method_20_code 4 = .ok (.aload_n 0, 1) := by decide +kernel
theorem d_Voice_isTied_5 : decode prog_12_method_20_code 5 = .ok (.getfield 31, 3) := by decide +kernel
theorem d_Voice_isTied_8 : decode prog_12_method_20_code 8 = .ok (.iload_n 1, 1) := by decide +kernel
theorem d_Voice_isTied_9 : decode prog_12_method_20_code 9 = .ok (.iaload, 1) := by decide +kernel
theorem d_Voice_isTied_10 : decode prog_12_method_20_code 10 = .ok (.baload, 1) := by decide +kernel
theorem d_Voice_isTied_11 : decode prog_12_method_20_code 11 = .ok (.ireturn, 1) := by decide +kernel
def m_Voice_isShort : mr_T := (⟨"PlainMusic$Voice", "isShort", "(I)Z"⟩, prog_12_method_21_code, 2, some .boolean)
theorem d_Voice_isShort_0 : decode prog_12_method_21_code 0 = .ok (.aload_n 0, 1) := by decide +kernel
theorem d_Voice_isShort_1 : decode prog_12_method_21_code 1 = .ok (.iload_n 1, 1) := by decide +kernel
theorem d_Voice_isShort_2 : decode prog_12_method_21_code 2 = .ok (.invokevirtual 95, 3) := by decide +kernel
theorem l_Voice_95 : ml_OK "PlainMusic$Voice" 95 ⟨"PlainMusic$Voice", "isRest", "(I)Z"⟩ := Or.inl (gw_in 1182 (by decide +kernel) (by decide +kernel))
theorem k_Voice_isRest : mt_OK m_Voice_isRest 1 1 := ⟨(gw_in 1125 (by decide +kernel) (by decide +kernel)), (gw_in 139 (by decide +kernel) (by decide +kernel)), ⟨by decide +kernel, by decide +kernel, by decide +kernel⟩, fun h => absurd h (by decide), fun _ => ⟨(gw_in 1123 (by decide +kernel) (by decide +kernel)), (gw_in 1124 (by decide +kernel) (by decide +kernel))⟩, fun h => absurd h (by decide)⟩
theorem d_Voice_isShort_5 : decode prog_12_method_21_code 5 = .ok (.ifCond .ne 17, 3) := by decide +kernel
theorem d_Voice_isShort_22 : decode prog_12_method_21_code 22 = .ok (.iconst 0, 1) := by decide +kernel
theorem d_Voice_isShort_23 : decode prog_12_method_21_code 23 = .ok (.ireturn, 1) := by decide +kernel
theorem d_Voice_isShort_8 : decode prog_12_method_21_code 8 = .ok (.aload_n 0, 1) := by decide +kernel
theorem d_Voice_isShort_9 : decode prog_12_method_21_code 9 = .ok (.iload_n 1, 1) := by decide +kernel
theorem d_Voice_isShort_10 : decode prog_12_method_21_code 10 = .ok (.invokevirtual 88, 3) := by decide +kernel
theorem l_Voice_88 : ml_OK "PlainMusic$Voice" 88 ⟨"PlainMusic$Voice", "numberOf", "(I)I"⟩ := Or.inl (gw_in 1059 (by decide +kernel) (by decide +kernel))
theorem k_Voice_numberOf : mt_OK m_Voice_numberOf 1 1 := ⟨(gw_in 1062 (by decide +kernel) (by decide +kernel)), (gw_in 139 (by decide +kernel) (by decide +kernel)), ⟨by decide +kernel, by decide +kernel, by decide +kernel⟩, fun h => absurd h (by decide), fun _ => ⟨(gw_in 1060 (by decide +kernel) (by decide +kernel)), (gw_in 1061 (by decide +kernel) (by decide +kernel))⟩, fun h => absurd h (by decide)⟩
theorem d_Voice_isShort_13 : decode prog_12_method_21_code 13 = .ok (.bipush 8, 2) := by decide +kernel
theorem d_Voice_isShort_15 : decode prog_12_method_21_code 15 = .ok (.if_icmp .lt 7, 3) := by decide +kernel
theorem d_Voice_isShort_18 : decode prog_12_method_21_code 18 = .ok (.iconst 1, 1) := by decide +kernel
theorem d_Voice_isShort_19 : decode prog_12_method_21_code 19 = .ok (.goto 4, 3) := by decide +kernel
def m_Voice_isReached : mr_T := (⟨"PlainMusic$Voice", "isReached", "(IJJ)Z"⟩, prog_12_method_23_code, 6, some .boolean)
theorem d_Voice_isReached_0 : decode prog_12_method_23_code 0 = .ok (.lload_n 2, 1) := by decide +kernel
theorem d_Voice_isReached_1 : decode prog_12_method_23_code 1 = .ok (.aload_n 0, 1) := by decide +kernel
theorem d_Voice_isReached_2 : decode prog_12_method_23_code 2 = .ok (.getfield 41, 3) := by decide +kernel
theorem d_Voice_isReached_5 : decode prog_12_method_23_code 5 = .ok (.iload_n 1, 1) := by decide +kernel
theorem d_Voice_isReached_6 : decode prog_12_method_23_code 6 = .ok (.laload, 1) := by decide +kernel
theorem d_Voice_isReached_7 : decode prog_12_method_23_code 7 = .ok (.lmul, 1) := by decide +kernel
theorem d_Voice_isReached_8 : decode prog_12_method_23_code 8 = .ok (.ldc2_w 66, 3) := by decide +kernel
theorem cst_Voice_66 : Cond.constantLong "PlainMusic$Voice" 66 (Int64.ofInt 2) ∈ gw := (gw_in 938 (by decide +kernel) (by decide +kernel))
theorem d_Voice_isReached_11 : decode prog_12_method_23_code 11 = .ok (.aload_n 0, 1) := by decide +kernel
theorem d_Voice_isReached_12 : decode prog_12_method_23_code 12 = .ok (.getfield 37, 3) := by decide +kernel
theorem d_Voice_isReached_15 : decode prog_12_method_23_code 15 = .ok (.iload_n 1, 1) := by decide +kernel
theorem d_Voice_isReached_16 : decode prog_12_method_23_code 16 = .ok (.laload, 1) := by decide +kernel
theorem d_Voice_isReached_17 : decode prog_12_method_23_code 17 = .ok (.lmul, 1) := by decide +kernel
theorem d_Voice_isReached_18 : decode prog_12_method_23_code 18 = .ok (.lload 4, 2) := by decide +kernel
theorem d_Voice_isReached_20 : decode prog_12_method_23_code 20 = .ok (.lmul, 1) := by decide +kernel
theorem d_Voice_isReached_21 : decode prog_12_method_23_code 21 = .ok (.lcmp, 1) := by decide +kernel
theorem d_Voice_isReached_22 : decode prog_12_method_23_code 22 = .ok (.ifCond .lt 7, 3) := by decide +kernel
theorem d_Voice_isReached_29 : decode prog_12_method_23_code 29 = .ok (.iconst 0, 1) := by decide +kernel
theorem d_Voice_isReached_30 : decode prog_12_method_23_code 30 = .ok (.ireturn, 1) := by decide +kernel
theorem d_Voice_isReached_25 : decode prog_12_method_23_code 25 = .ok (.iconst 1, 1) := by decide +kernel
theorem d_Voice_isReached_26 : decode prog_12_method_23_code 26 = .ok (.goto 4, 3) := by decide +kernel
def m_Voice_sinceBarTop : mr_T := (⟨"PlainMusic$Voice", "sinceBarTop", "(II)J"⟩, prog_12_method_24_code, 4, some .long)
theorem d_Voice_sinceBarTop_0 : decode prog_12_method_24_code 0 = .ok (.aload_n 0, 1) := by decide +kernel
theorem d_Voice_sinceBarTop_1 : decode prog_12_method_24_code 1 = .ok (.getfield 50, 3) := by decide +kernel
theorem d_Voice_sinceBarTop_4 : decode prog_12_method_24_code 4 = .ok (.iload_n 1, 1) := by decide +kernel
theorem d_Voice_sinceBarTop_5 : decode prog_12_method_24_code 5 = .ok (.iaload, 1) := by decide +kernel
theorem d_Voice_sinceBarTop_6 : decode prog_12_method_24_code 6 = .ok (.istore_n 3, 1) := by decide +kernel
theorem d_Voice_sinceBarTop_7 : decode prog_12_method_24_code 7 = .ok (.aload_n 0, 1) := by decide +kernel
theorem d_Voice_sinceBarTop_8 : decode prog_12_method_24_code 8 = .ok (.getfield 37, 3) := by decide +kernel
theorem d_Voice_sinceBarTop_11 : decode prog_12_method_24_code 11 = .ok (.iload_n 2, 1) := by decide +kernel
theorem d_Voice_sinceBarTop_12 : decode prog_12_method_24_code 12 = .ok (.laload, 1) := by decide +kernel
theorem d_Voice_sinceBarTop_13 : decode prog_12_method_24_code 13 = .ok (.aload_n 0, 1) := by decide +kernel
theorem d_Voice_sinceBarTop_14 : decode prog_12_method_24_code 14 = .ok (.getfield 41, 3) := by decide +kernel
theorem d_Voice_sinceBarTop_17 : decode prog_12_method_24_code 17 = .ok (.iload_n 3, 1) := by decide +kernel
theorem d_Voice_sinceBarTop_18 : decode prog_12_method_24_code 18 = .ok (.laload, 1) := by decide +kernel
theorem d_Voice_sinceBarTop_19 : decode prog_12_method_24_code 19 = .ok (.lmul, 1) := by decide +kernel
theorem d_Voice_sinceBarTop_20 : decode prog_12_method_24_code 20 = .ok (.aload_n 0, 1) := by decide +kernel
theorem d_Voice_sinceBarTop_21 : decode prog_12_method_24_code 21 = .ok (.getfield 37, 3) := by decide +kernel
theorem d_Voice_sinceBarTop_24 : decode prog_12_method_24_code 24 = .ok (.iload_n 3, 1) := by decide +kernel
theorem d_Voice_sinceBarTop_25 : decode prog_12_method_24_code 25 = .ok (.laload, 1) := by decide +kernel
theorem d_Voice_sinceBarTop_26 : decode prog_12_method_24_code 26 = .ok (.aload_n 0, 1) := by decide +kernel
theorem d_Voice_sinceBarTop_27 : decode prog_12_method_24_code 27 = .ok (.getfield 41, 3) := by decide +kernel
theorem d_Voice_sinceBarTop_30 : decode prog_12_method_24_code 30 = .ok (.iload_n 2, 1) := by decide +kernel
theorem d_Voice_sinceBarTop_31 : decode prog_12_method_24_code 31 = .ok (.laload, 1) := by decide +kernel
theorem d_Voice_sinceBarTop_32 : decode prog_12_method_24_code 32 = .ok (.lmul, 1) := by decide +kernel
theorem d_Voice_sinceBarTop_33 : decode prog_12_method_24_code 33 = .ok (.lsub, 1) := by decide +kernel
theorem d_Voice_sinceBarTop_34 : decode prog_12_method_24_code 34 = .ok (.lreturn, 1) := by decide +kernel
def m_Voice_sinceBarBottom : mr_T := (⟨"PlainMusic$Voice", "sinceBarBottom", "(II)J"⟩, prog_12_method_25_code, 3, some .long)
theorem d_Voice_sinceBarBottom_0 : decode prog_12_method_25_code 0 = .ok (.aload_n 0, 1) := by decide +kernel
theorem d_Voice_sinceBarBottom_1 : decode prog_12_method_25_code 1 = .ok (.getfield 41, 3) := by decide +kernel
theorem d_Voice_sinceBarBottom_4 : decode prog_12_method_25_code 4 = .ok (.iload_n 2, 1) := by decide +kernel
theorem d_Voice_sinceBarBottom_5 : decode prog_12_method_25_code 5 = .ok (.laload, 1) := by decide +kernel
theorem d_Voice_sinceBarBottom_6 : decode prog_12_method_25_code 6 = .ok (.aload_n 0, 1) := by decide +kernel
theorem d_Voice_sinceBarBottom_7 : decode prog_12_method_25_code 7 = .ok (.getfield 41, 3) := by decide +kernel
theorem d_Voice_sinceBarBottom_10 : decode prog_12_method_25_code 10 = .ok (.aload_n 0, 1) := by decide +kernel
theorem d_Voice_sinceBarBottom_11 : decode prog_12_method_25_code 11 = .ok (.getfield 50, 3) := by decide +kernel
theorem d_Voice_sinceBarBottom_14 : decode prog_12_method_25_code 14 = .ok (.iload_n 1, 1) := by decide +kernel
theorem d_Voice_sinceBarBottom_15 : decode prog_12_method_25_code 15 = .ok (.iaload, 1) := by decide +kernel
theorem d_Voice_sinceBarBottom_16 : decode prog_12_method_25_code 16 = .ok (.laload, 1) := by decide +kernel
theorem d_Voice_sinceBarBottom_17 : decode prog_12_method_25_code 17 = .ok (.lmul, 1) := by decide +kernel
theorem d_Voice_sinceBarBottom_18 : decode prog_12_method_25_code 18 = .ok (.lreturn, 1) := by decide +kernel
def m_Voice_compareBar : mr_T := (⟨"PlainMusic$Voice", "compareBar", "(III)I"⟩, prog_12_method_26_code, 5, some .int)
theorem d_Voice_compareBar_0 : decode prog_12_method_26_code 0 = .ok (.aload_n 0, 1) := by decide +kernel
theorem d_Voice_compareBar_1 : decode prog_12_method_26_code 1 = .ok (.getfield 50, 3) := by decide +kernel
theorem d_Voice_compareBar_4 : decode prog_12_method_26_code 4 = .ok (.iload_n 1, 1) := by decide +kernel
theorem d_Voice_compareBar_5 : decode prog_12_method_26_code 5 = .ok (.iconst 1, 1) := by decide +kernel
theorem d_Voice_compareBar_6 : decode prog_12_method_26_code 6 = .ok (.iadd, 1) := by decide +kernel
theorem d_Voice_compareBar_7 : decode prog_12_method_26_code 7 = .ok (.iaload, 1) := by decide +kernel
theorem d_Voice_compareBar_8 : decode prog_12_method_26_code 8 = .ok (.istore 4, 2) := by decide +kernel
theorem d_Voice_compareBar_10 : decode prog_12_method_26_code 10 = .ok (.aload_n 0, 1) := by decide +kernel
theorem d_Voice_compareBar_11 : decode prog_12_method_26_code 11 = .ok (.iload_n 1, 1) := by decide +kernel
theorem d_Voice_compareBar_12 : decode prog_12_method_26_code 12 = .ok (.iload 4, 2) := by decide +kernel
theorem d_Voice_compareBar_14 : decode prog_12_method_26_code 14 = .ok (.invokevirtual 115, 3) := by decide +kernel
theorem l_Voice_115 : ml_OK "PlainMusic$Voice" 115 ⟨"PlainMusic$Voice", "sinceBarTop", "(II)J"⟩ := Or.inl (gw_in 1092 (by decide +kernel) (by decide +kernel))
theorem k_Voice_sinceBarTop : mt_OK m_Voice_sinceBarTop 2 1 := ⟨(gw_in 1095 (by decide +kernel) (by decide +kernel)), (gw_in 139 (by decide +kernel) (by decide +kernel)), ⟨by decide +kernel, by decide +kernel, by decide +kernel⟩, fun h => absurd h (by decide), fun _ => ⟨(gw_in 1093 (by decide +kernel) (by decide +kernel)), (gw_in 1094 (by decide +kernel) (by decide +kernel))⟩, fun h => absurd h (by decide)⟩
theorem d_Voice_compareBar_17 : decode prog_12_method_26_code 17 = .ok (.iload_n 3, 1) := by decide +kernel
theorem d_Voice_compareBar_18 : decode prog_12_method_26_code 18 = .ok (.i2l, 1) := by decide +kernel
theorem d_Voice_compareBar_19 : decode prog_12_method_26_code 19 = .ok (.lmul, 1) := by decide +kernel
theorem d_Voice_compareBar_20 : decode prog_12_method_26_code 20 = .ok (.aload_n 0, 1) := by decide +kernel
theorem d_Voice_compareBar_21 : decode prog_12_method_26_code 21 = .ok (.iload_n 1, 1) := by decide +kernel
theorem d_Voice_compareBar_22 : decode prog_12_method_26_code 22 = .ok (.iload 4, 2) := by decide +kernel
theorem d_Voice_compareBar_24 : decode prog_12_method_26_code 24 = .ok (.invokevirtual 119, 3) := by decide +kernel
theorem l_Voice_119 : ml_OK "PlainMusic$Voice" 119 ⟨"PlainMusic$Voice", "sinceBarBottom", "(II)J"⟩ := Or.inl (gw_in 1096 (by decide +kernel) (by decide +kernel))
theorem k_Voice_sinceBarBottom : mt_OK m_Voice_sinceBarBottom 2 1 := ⟨(gw_in 1099 (by decide +kernel) (by decide +kernel)), (gw_in 139 (by decide +kernel) (by decide +kernel)), ⟨by decide +kernel, by decide +kernel, by decide +kernel⟩, fun h => absurd h (by decide), fun _ => ⟨(gw_in 1097 (by decide +kernel) (by decide +kernel)), (gw_in 1098 (by decide +kernel) (by decide +kernel))⟩, fun h => absurd h (by decide)⟩
theorem d_Voice_compareBar_27 : decode prog_12_method_26_code 27 = .ok (.iload_n 2, 1) := by decide +kernel
theorem d_Voice_compareBar_28 : decode prog_12_method_26_code 28 = .ok (.i2l, 1) := by decide +kernel
theorem d_Voice_compareBar_29 : decode prog_12_method_26_code 29 = .ok (.lmul, 1) := by decide +kernel
theorem d_Voice_compareBar_30 : decode prog_12_method_26_code 30 = .ok (.invokestatic 122, 3) := by decide +kernel
theorem l_Voice_122 : ml_OK "PlainMusic$Voice" 122 ⟨"java/lang/Long", "compare", "(JJ)I"⟩ := Or.inl (gw_in 1100 (by decide +kernel) (by decide +kernel))
theorem k_JLong_compare : mt_OK m_JLong_compare 2 0 := ⟨(gw_in 1102 (by decide +kernel) (by decide +kernel)), (gw_in 154 (by decide +kernel) (by decide +kernel)), ⟨by decide +kernel, by decide +kernel, by decide +kernel⟩, fun _ => (gw_in 1101 (by decide +kernel) (by decide +kernel)), fun h => absurd h (by decide), fun h => absurd h (by decide)⟩
theorem d_Voice_compareBar_33 : decode prog_12_method_26_code 33 = .ok (.ireturn, 1) := by decide +kernel
def m_Voice_timeOf : mr_T := (⟨"PlainMusic$Voice", "timeOf", "(II)J"⟩, prog_12_method_10_code, 3, some .long)
theorem d_Voice_timeOf_0 : decode prog_12_method_10_code 0 = .ok (.iload_n 2, 1) := by decide +kernel
theorem d_Voice_timeOf_1 : decode prog_12_method_10_code 1 = .ok (.tableswitch 48 0 2 #[27, 34, 41], 27) := by decide +kernel
theorem d_Voice_timeOf_49 : decode prog_12_method_10_code 49 = .ok (.aload_n 0, 1) := by decide +kernel
theorem d_Voice_timeOf_50 : decode prog_12_method_10_code 50 = .ok (.getfield 47, 3) := by decide +kernel
theorem d_Voice_timeOf_53 : decode prog_12_method_10_code 53 = .ok (.iload_n 1, 1) := by decide +kernel
theorem d_Voice_timeOf_54 : decode prog_12_method_10_code 54 = .ok (.laload, 1) := by decide +kernel
theorem d_Voice_timeOf_55 : decode prog_12_method_10_code 55 = .ok (.lreturn, 1) := by decide +kernel
theorem d_Voice_timeOf_28 : decode prog_12_method_10_code 28 = .ok (.aload_n 0, 1) := by decide +kernel
theorem d_Voice_timeOf_29 : decode prog_12_method_10_code 29 = .ok (.getfield 37, 3) := by decide +kernel
theorem d_Voice_timeOf_32 : decode prog_12_method_10_code 32 = .ok (.iload_n 1, 1) := by decide +kernel
theorem d_Voice_timeOf_33 : decode prog_12_method_10_code 33 = .ok (.laload, 1) := by decide +kernel
theorem d_Voice_timeOf_34 : decode prog_12_method_10_code 34 = .ok (.lreturn, 1) := by decide +kernel
theorem d_Voice_timeOf_35 : decode prog_12_method_10_code 35 = .ok (.aload_n 0, 1) := by decide +kernel
theorem d_Voice_timeOf_36 : decode prog_12_method_10_code 36 = .ok (.getfield 41, 3) := by decide +kernel
theorem d_Voice_timeOf_39 : decode prog_12_method_10_code 39 = .ok (.iload_n 1, 1) := by decide +kernel
theorem d_Voice_timeOf_40 : decode prog_12_method_10_code 40 = .ok (.laload, 1) := by decide +kernel
theorem d_Voice_timeOf_41 : decode prog_12_method_10_code 41 = .ok (.lreturn, 1) := by decide +kernel
theorem d_Voice_timeOf_42 : decode prog_12_method_10_code 42 = .ok (.aload_n 0, 1) := by decide +kernel
theorem d_Voice_timeOf_43 : decode prog_12_method_10_code 43 = .ok (.getfield 44, 3) := by decide +kernel
theorem d_Voice_timeOf_46 : decode prog_12_method_10_code 46 = .ok (.iload_n 1, 1) := by decide +kernel
theorem d_Voice_timeOf_47 : decode prog_12_method_10_code 47 = .ok (.laload, 1) := by decide +kernel
theorem d_Voice_timeOf_48 : decode prog_12_method_10_code 48 = .ok (.lreturn, 1) := by decide +kernel
def m_Voice_writingOf : mr_T := (⟨"PlainMusic$Voice", "writingOf", "(II)I"⟩, prog_12_method_11_code, 3, some .int)
theorem d_Voice_writingOf_0 : decode prog_12_method_11_code 0 = .ok (.iload_n 2, 1) := by decide +kernel
theorem d_Voice_writingOf_1 : decode prog_12_method_11_code 1 = .ok (.tableswitch 64 4 7 #[31, 37, 51, 58], 31) := by decide +kernel
theorem d_Voice_writingOf_65 : decode prog_12_method_11_code 65 = .ok (.aload_n 0, 1) := by decide +kernel
theorem d_Voice_writingOf_66 : decode prog_12_method_11_code 66 = .ok (.getfield 24, 3) := by decide +kernel
theorem d_Voice_writingOf_69 : decode prog_12_method_11_code 69 = .ok (.aload_n 0, 1) := by decide +kernel
theorem d_Voice_writingOf_70 : decode prog_12_method_11_code 70 = .ok (.getfield 31, 3) := by decide +kernel
theorem d_Voice_writingOf_73 : decode prog_12_method_11_code 73 = .ok (.iload_n 1, 1) := by decide +kernel
theorem d_Voice_writingOf_74 : decode prog_12_method_11_code 74 = .ok (.iaload, 1) := by decide +kernel
theorem d_Voice_writingOf_75 : decode prog_12_method_11_code 75 = .ok (.iaload, 1) := by decide +kernel
theorem d_Voice_writingOf_76 : decode prog_12_method_11_code 76 = .ok (.ireturn, 1) := by decide +kernel
theorem d_Voice_writingOf_32 : decode prog_12_method_11_code 32 = .ok (.aload_n 0, 1) := by decide +kernel
theorem d_Voice_writingOf_33 : decode prog_12_method_11_code 33 = .ok (.iload_n 1, 1) := by decide +kernel
theorem d_Voice_writingOf_34 : decode prog_12_method_11_code 34 = .ok (.invokevirtual 80, 3) := by decide +kernel
theorem d_Voice_writingOf_37 : decode prog_12_method_11_code 37 = .ok (.ireturn, 1) := by decide +kernel
theorem d_Voice_writingOf_38 : decode prog_12_method_11_code 38 = .ok (.aload_n 0, 1) := by decide +kernel
theorem d_Voice_writingOf_39 : decode prog_12_method_11_code 39 = .ok (.iload_n 1, 1) := by decide +kernel
theorem d_Voice_writingOf_40 : decode prog_12_method_11_code 40 = .ok (.invokevirtual 84, 3) := by decide +kernel
theorem l_Voice_84 : ml_OK "PlainMusic$Voice" 84 ⟨"PlainMusic$Voice", "isTied", "(I)Z"⟩ := Or.inl (gw_in 1055 (by decide +kernel) (by decide +kernel))
theorem k_Voice_isTied : mt_OK m_Voice_isTied 1 1 := ⟨(gw_in 1058 (by decide +kernel) (by decide +kernel)), (gw_in 139 (by decide +kernel) (by decide +kernel)), ⟨by decide +kernel, by decide +kernel, by decide +kernel⟩, fun h => absurd h (by decide), fun _ => ⟨(gw_in 1056 (by decide +kernel) (by decide +kernel)), (gw_in 1057 (by decide +kernel) (by decide +kernel))⟩, fun h => absurd h (by decide)⟩
theorem d_Voice_writingOf_43 : decode prog_12_method_11_code 43 = .ok (.ifCond .eq 7, 3) := by decide +kernel
theorem d_Voice_writingOf_50 : decode prog_12_method_11_code 50 = .ok (.iconst 0, 1) := by decide +kernel
theorem d_Voice_writingOf_51 : decode prog_12_method_11_code 51 = .ok (.ireturn, 1) := by decide +kernel
theorem d_Voice_writingOf_46 : decode prog_12_method_11_code 46 = .ok (.iconst 1, 1) := by decide +kernel
theorem d_Voice_writingOf_47 : decode prog_12_method_11_code 47 = .ok (.goto 4, 3) := by decide +kernel
theorem d_Voice_writingOf_52 : decode prog_12_method_11_code 52 = .ok (.aload_n 0, 1) := by decide +kernel
theorem d_Voice_writingOf_53 : decode prog_12_method_11_code 53 = .ok (.getfield 34, 3) := by decide +kernel
theorem d_Voice_writingOf_56 : decode prog_12_method_11_code 56 = .ok (.iload_n 1, 1) := by decide +kernel
theorem d_Voice_writingOf_57 : decode prog_12_method_11_code 57 = .ok (.iaload, 1) := by decide +kernel
theorem d_Voice_writingOf_58 : decode prog_12_method_11_code 58 = .ok (.ireturn, 1) := by decide +kernel
theorem d_Voice_writingOf_59 : decode prog_12_method_11_code 59 = .ok (.aload_n 0, 1) := by decide +kernel
theorem d_Voice_writingOf_60 : decode prog_12_method_11_code 60 = .ok (.iload_n 1, 1) := by decide +kernel
theorem d_Voice_writingOf_61 : decode prog_12_method_11_code 61 = .ok (.invokevirtual 88, 3) := by decide +kernel
theorem d_Voice_writingOf_64 : decode prog_12_method_11_code 64 = .ok (.ireturn, 1) := by decide +kernel
def m_Voice_clear : mr_T := (⟨"PlainMusic$Voice", "clear", "()V"⟩, prog_12_method_2_code, 1, none)
theorem d_Voice_clear_0 : decode prog_12_method_2_code 0 = .ok (.aload_n 0, 1) := by decide +kernel
theorem d_Voice_clear_1 : decode prog_12_method_2_code 1 = .ok (.iconst 0, 1) := by decide +kernel
theorem d_Voice_clear_2 : decode prog_12_method_2_code 2 = .ok (.putfield 53, 3) := by decide +kernel
theorem f_Voice_53 : fl_OK "PlainMusic$Voice" 53 10 2 .int false := ⟨_, rfl, by decide, (gw_in 280 (by decide +kernel) (by decide +kernel)), rfl, rfl⟩
theorem d_Voice_clear_5 : decode prog_12_method_2_code 5 = .ok (.aload_n 0, 1) := by decide +kernel
theorem d_Voice_clear_6 : decode prog_12_method_2_code 6 = .ok (.iconst 0, 1) := by decide +kernel
theorem d_Voice_clear_7 : decode prog_12_method_2_code 7 = .ok (.putfield 57, 3) := by decide +kernel
theorem f_Voice_57 : fl_OK "PlainMusic$Voice" 57 10 7 .int false := ⟨_, rfl, by decide, (gw_in 285 (by decide +kernel) (by decide +kernel)), rfl, rfl⟩
theorem d_Voice_clear_10 : decode prog_12_method_2_code 10 = .ok (.aload_n 0, 1) := by decide +kernel
theorem d_Voice_clear_11 : decode prog_12_method_2_code 11 = .ok (.getfield 18, 3) := by decide +kernel
theorem d_Voice_clear_14 : decode prog_12_method_2_code 14 = .ok (.iconst 0, 1) := by decide +kernel
theorem d_Voice_clear_15 : decode prog_12_method_2_code 15 = .ok (.iconst 0, 1) := by decide +kernel
theorem d_Voice_clear_16 : decode prog_12_method_2_code 16 = .ok (.iastore, 1) := by decide +kernel
theorem d_Voice_clear_17 : decode prog_12_method_2_code 17 = .ok (.return_, 1) := by decide +kernel
def m_Voice_addPitch : mr_T := (⟨"PlainMusic$Voice", "addPitch", "(II)V"⟩, prog_12_method_3_code, 3, none)
theorem d_Voice_addPitch_0 : decode prog_12_method_3_code 0 = .ok (.aload_n 0, 1) := by decide +kernel
theorem d_Voice_addPitch_1 : decode prog_12_method_3_code 1 = .ok (.getfield 53, 3) := by decide +kernel
theorem d_Voice_addPitch_4 : decode prog_12_method_3_code 4 = .ok (.aload_n 0, 1) := by decide +kernel
theorem d_Voice_addPitch_5 : decode prog_12_method_3_code 5 = .ok (.getfield 9, 3) := by decide +kernel
theorem d_Voice_addPitch_8 : decode prog_12_method_3_code 8 = .ok (.arraylength, 1) := by decide +kernel
theorem d_Voice_addPitch_9 : decode prog_12_method_3_code 9 = .ok (.if_icmp .ge 33, 3) := by decide +kernel
theorem d_Voice_addPitch_42 : decode prog_12_method_3_code 42 = .ok (.return_, 1) := by decide +kernel
theorem d_Voice_addPitch_12 : decode prog_12_method_3_code 12 = .ok (.aload_n 0, 1) := by decide +kernel
theorem d_Voice_addPitch_13 : decode prog_12_method_3_code 13 = .ok (.getfield 9, 3) := by decide +kernel
theorem d_Voice_addPitch_16 : decode prog_12_method_3_code 16 = .ok (.aload_n 0, 1) := by decide +kernel
theorem d_Voice_addPitch_17 : decode prog_12_method_3_code 17 = .ok (.getfield 53, 3) := by decide +kernel
theorem d_Voice_addPitch_20 : decode prog_12_method_3_code 20 = .ok (.iload_n 1, 1) := by decide +kernel
theorem d_Voice_addPitch_21 : decode prog_12_method_3_code 21 = .ok (.iastore, 1) := by decide +kernel
theorem d_Voice_addPitch_22 : decode prog_12_method_3_code 22 = .ok (.aload_n 0, 1) := by decide +kernel
theorem d_Voice_addPitch_23 : decode prog_12_method_3_code 23 = .ok (.getfield 15, 3) := by decide +kernel
theorem d_Voice_addPitch_26 : decode prog_12_method_3_code 26 = .ok (.aload_n 0, 1) := by decide +kernel
theorem d_Voice_addPitch_27 : decode prog_12_method_3_code 27 = .ok (.getfield 53, 3) := by decide +kernel
theorem d_Voice_addPitch_30 : decode prog_12_method_3_code 30 = .ok (.iload_n 2, 1) := by decide +kernel
theorem d_Voice_addPitch_31 : decode prog_12_method_3_code 31 = .ok (.iastore, 1) := by decide +kernel
theorem d_Voice_addPitch_32 : decode prog_12_method_3_code 32 = .ok (.aload_n 0, 1) := by decide +kernel
theorem d_Voice_addPitch_33 : decode prog_12_method_3_code 33 = .ok (.dup, 1) := by decide +kernel
theorem d_Voice_addPitch_34 : decode prog_12_method_3_code 34 = .ok (.getfield 53, 3) := by decide +kernel
theorem d_Voice_addPitch_37 : decode prog_12_method_3_code 37 = .ok (.iconst 1, 1) := by decide +kernel
theorem d_Voice_addPitch_38 : decode prog_12_method_3_code 38 = .ok (.iadd, 1) := by decide +kernel
theorem d_Voice_addPitch_39 : decode prog_12_method_3_code 39 = .ok (.putfield 53, 3) := by decide +kernel
def m_Voice_endSound : mr_T := (⟨"PlainMusic$Voice", "endSound", "(IIZ)I"⟩, prog_12_method_4_code, 4, some .int)
theorem d_Voice_endSound_0 : decode prog_12_method_4_code 0 = .ok (.aload_n 0, 1) := by decide +kernel
theorem d_Voice_endSound_1 : decode prog_12_method_4_code 1 = .ok (.getfield 57, 3) := by decide +kernel
theorem d_Voice_endSound_4 : decode prog_12_method_4_code 4 = .ok (.aload_n 0, 1) := by decide +kernel
theorem d_Voice_endSound_5 : decode prog_12_method_4_code 5 = .ok (.getfield 21, 3) := by decide +kernel
theorem d_Voice_endSound_8 : decode prog_12_method_4_code 8 = .ok (.arraylength, 1) := by decide +kernel
theorem d_Voice_endSound_9 : decode prog_12_method_4_code 9 = .ok (.if_icmp .lt 5, 3) := by decide +kernel
theorem d_Voice_endSound_14 : decode prog_12_method_4_code 14 = .ok (.aload_n 0, 1) := by decide +kernel
theorem d_Voice_endSound_15 : decode prog_12_method_4_code 15 = .ok (.getfield 21, 3) := by decide +kernel
theorem d_Voice_endSound_18 : decode prog_12_method_4_code 18 = .ok (.aload_n 0, 1) := by decide +kernel
theorem d_Voice_endSound_19 : decode prog_12_method_4_code 19 = .ok (.getfield 57, 3) := by decide +kernel
theorem d_Voice_endSound_22 : decode prog_12_method_4_code 22 = .ok (.iload_n 1, 1) := by decide +kernel
theorem d_Voice_endSound_23 : decode prog_12_method_4_code 23 = .ok (.iastore, 1) := by decide +kernel
theorem d_Voice_endSound_24 : decode prog_12_method_4_code 24 = .ok (.aload_n 0, 1) := by decide +kernel
theorem d_Voice_endSound_25 : decode prog_12_method_4_code 25 = .ok (.getfield 24, 3) := by decide +kernel
theorem d_Voice_endSound_28 : decode prog_12_method_4_code 28 = .ok (.aload_n 0, 1) := by decide +kernel
theorem d_Voice_endSound_29 : decode prog_12_method_4_code 29 = .ok (.getfield 57, 3) := by decide +kernel
theorem d_Voice_endSound_32 : decode prog_12_method_4_code 32 = .ok (.iload_n 2, 1) := by decide +kernel
theorem d_Voice_endSound_33 : decode prog_12_method_4_code 33 = .ok (.iastore, 1) := by decide +kernel
theorem d_Voice_endSound_34 : decode prog_12_method_4_code 34 = .ok (.aload_n 0, 1) := by decide +kernel
theorem d_Voice_endSound_35 : decode prog_12_method_4_code 35 = .ok (.getfield 27, 3) := by decide +kernel
theorem d_Voice_endSound_38 : decode prog_12_method_4_code 38 = .ok (.aload_n 0, 1) := by decide +kernel
theorem d_Voice_endSound_39 : decode prog_12_method_4_code 39 = .ok (.getfield 57, 3) := by decide +kernel
theorem d_Voice_endSound_42 : decode prog_12_method_4_code 42 = .ok (.iload_n 3, 1) := by decide +kernel
theorem d_Voice_endSound_43 : decode prog_12_method_4_code 43 = .ok (.bastore, 1) := by decide +kernel
theorem d_Voice_endSound_44 : decode prog_12_method_4_code 44 = .ok (.aload_n 0, 1) := by decide +kernel
theorem d_Voice_endSound_45 : decode prog_12_method_4_code 45 = .ok (.dup, 1) := by decide +kernel
theorem d_Voice_endSound_46 : decode prog_12_method_4_code 46 = .ok (.getfield 57, 3) := by decide +kernel
theorem d_Voice_endSound_49 : decode prog_12_method_4_code 49 = .ok (.iconst 1, 1) := by decide +kernel
theorem d_Voice_endSound_50 : decode prog_12_method_4_code 50 = .ok (.iadd, 1) := by decide +kernel
theorem d_Voice_endSound_51 : decode prog_12_method_4_code 51 = .ok (.putfield 57, 3) := by decide +kernel
theorem d_Voice_endSound_54 : decode prog_12_method_4_code 54 = .ok (.aload_n 0, 1) := by decide +kernel
theorem d_Voice_endSound_55 : decode prog_12_method_4_code 55 = .ok (.getfield 18, 3) := by decide +kernel
theorem d_Voice_endSound_58 : decode prog_12_method_4_code 58 = .ok (.aload_n 0, 1) := by decide +kernel
theorem d_Voice_endSound_59 : decode prog_12_method_4_code 59 = .ok (.getfield 57, 3) := by decide +kernel
theorem d_Voice_endSound_62 : decode prog_12_method_4_code 62 = .ok (.aload_n 0, 1) := by decide +kernel
theorem d_Voice_endSound_63 : decode prog_12_method_4_code 63 = .ok (.getfield 53, 3) := by decide +kernel
theorem d_Voice_endSound_66 : decode prog_12_method_4_code 66 = .ok (.iastore, 1) := by decide +kernel
theorem d_Voice_endSound_67 : decode prog_12_method_4_code 67 = .ok (.aload_n 0, 1) := by decide +kernel
theorem d_Voice_endSound_68 : decode prog_12_method_4_code 68 = .ok (.getfield 57, 3) := by decide +kernel
theorem d_Voice_endSound_71 : decode prog_12_method_4_code 71 = .ok (.iconst 1, 1) := by decide +kernel
theorem d_Voice_endSound_72 : decode prog_12_method_4_code 72 = .ok (.isub, 1) := by decide +kernel
theorem d_Voice_endSound_73 : decode prog_12_method_4_code 73 = .ok (.ireturn, 1) := by decide +kernel
theorem d_Voice_endSound_12 : decode prog_12_method_4_code 12 = .ok (.iconst 0, 1) := by decide +kernel
theorem d_Voice_endSound_13 : decode prog_12_method_4_code 13 = .ok (.ireturn, 1) := by decide +kernel
def m_Voice_beginWalk : mr_T := (⟨"PlainMusic$Voice", "beginWalk", "()V"⟩, prog_12_method_5_code, 1, none)
theorem d_Voice_beginWalk_0 : decode prog_12_method_5_code 0 = .ok (.aload_n 0, 1) := by decide +kernel
theorem d_Voice_beginWalk_1 : decode prog_12_method_5_code 1 = .ok (.iconst 0, 1) := by decide +kernel
theorem d_Voice_beginWalk_2 : decode prog_12_method_5_code 2 = .ok (.putfield 60, 3) := by decide +kernel
theorem f_Voice_60 : fl_OK "PlainMusic$Voice" 60 10 14 .int false := ⟨_, rfl, by decide, (gw_in 300 (by decide +kernel) (by decide +kernel)), rfl, rfl⟩
theorem d_Voice_beginWalk_5 : decode prog_12_method_5_code 5 = .ok (.aload_n 0, 1) := by decide +kernel
theorem d_Voice_beginWalk_6 : decode prog_12_method_5_code 6 = .ok (.getfield 37, 3) := by decide +kernel
theorem d_Voice_beginWalk_9 : decode prog_12_method_5_code 9 = .ok (.iconst 0, 1) := by decide +kernel
theorem d_Voice_beginWalk_10 : decode prog_12_method_5_code 10 = .ok (.lconst 0, 1) := by decide +kernel
theorem d_Voice_beginWalk_11 : decode prog_12_method_5_code 11 = .ok (.lastore, 1) := by decide +kernel
theorem d_Voice_beginWalk_12 : decode prog_12_method_5_code 12 = .ok (.aload_n 0, 1) := by decide +kernel
theorem d_Voice_beginWalk_13 : decode prog_12_method_5_code 13 = .ok (.getfield 41, 3) := by decide +kernel
theorem d_Voice_beginWalk_16 : decode prog_12_method_5_code 16 = .ok (.iconst 0, 1) := by decide +kernel
theorem d_Voice_beginWalk_17 : decode prog_12_method_5_code 17 = .ok (.lconst 1, 1) := by decide +kernel
theorem d_Voice_beginWalk_18 : decode prog_12_method_5_code 18 = .ok (.lastore, 1) := by decide +kernel
theorem d_Voice_beginWalk_19 : decode prog_12_method_5_code 19 = .ok (.aload_n 0, 1) := by decide +kernel
theorem d_Voice_beginWalk_20 : decode prog_12_method_5_code 20 = .ok (.getfield 50, 3) := by decide +kernel
theorem d_Voice_beginWalk_23 : decode prog_12_method_5_code 23 = .ok (.iconst 0, 1) := by decide +kernel
theorem d_Voice_beginWalk_24 : decode prog_12_method_5_code 24 = .ok (.iconst 0, 1) := by decide +kernel
theorem d_Voice_beginWalk_25 : decode prog_12_method_5_code 25 = .ok (.iastore, 1) := by decide +kernel
theorem d_Voice_beginWalk_26 : decode prog_12_method_5_code 26 = .ok (.aload_n 0, 1) := by decide +kernel
theorem d_Voice_beginWalk_27 : decode prog_12_method_5_code 27 = .ok (.iconst 1, 1) := by decide +kernel
theorem d_Voice_beginWalk_28 : decode prog_12_method_5_code 28 = .ok (.putfield 63, 3) := by decide +kernel
theorem f_Voice_63 : fl_OK "PlainMusic$Voice" 63 10 16 .int false := ⟨_, rfl, by decide, (gw_in 309 (by decide +kernel) (by decide +kernel)), rfl, rfl⟩
theorem d_Voice_beginWalk_31 : decode prog_12_method_5_code 31 = .ok (.return_, 1) := by decide +kernel
def m_Voice_endWalk : mr_T := (⟨"PlainMusic$Voice", "endWalk", "()V"⟩, prog_12_method_7_code, 1, none)
theorem d_Voice_endWalk_0 : decode prog_12_method_7_code 0 = .ok (.aload_n 0, 1) := by decide +kernel
theorem d_Voice_endWalk_1 : decode prog_12_method_7_code 1 = .ok (.getfield 63, 3) := by decide +kernel
theorem d_Voice_endWalk_4 : decode prog_12_method_7_code 4 = .ok (.aload_n 0, 1) := by decide +kernel
theorem d_Voice_endWalk_5 : decode prog_12_method_7_code 5 = .ok (.getfield 50, 3) := by decide +kernel
theorem d_Voice_endWalk_8 : decode prog_12_method_7_code 8 = .ok (.arraylength, 1) := by decide +kernel
theorem d_Voice_endWalk_9 : decode prog_12_method_7_code 9 = .ok (.if_icmp .ge 16, 3) := by decide +kernel
theorem d_Voice_endWalk_12 : decode prog_12_method_7_code 12 = .ok (.aload_n 0, 1) := by decide +kernel
theorem d_Voice_endWalk_13 : decode prog_12_method_7_code 13 = .ok (.getfield 50, 3) := by decide +kernel
theorem d_Voice_endWalk_16 : decode prog_12_method_7_code 16 = .ok (.aload_n 0, 1) := by decide +kernel
theorem d_Voice_endWalk_17 : decode prog_12_method_7_code 17 = .ok (.getfield 63, 3) := by decide +kernel
theorem d_Voice_endWalk_20 : decode prog_12_method_7_code 20 = .ok (.aload_n 0, 1) := by decide +kernel
theorem d_Voice_endWalk_21 : decode prog_12_method_7_code 21 = .ok (.getfield 60, 3) := by decide +kernel
theorem d_Voice_endWalk_24 : decode prog_12_method_7_code 24 = .ok (.iastore, 1) := by decide +kernel
theorem d_Voice_endWalk_25 : decode prog_12_method_7_code 25 = .ok (.return_, 1) := by decide +kernel
def m_PM_greatestDivisor : mr_T := (⟨"PlainMusic", "greatestDivisor", "(JJ)J"⟩, prog_1_method_30_code, 11, some .long)
theorem d_PM_greatestDivisor_0 : decode prog_1_method_30_code 0 = .ok (.lload_n 0, 1) := by decide +kernel
theorem d_PM_greatestDivisor_1 : decode prog_1_method_30_code 1 = .ok (.lstore 4, 2) := by decide +kernel
theorem d_PM_greatestDivisor_3 : decode prog_1_method_30_code 3 = .ok (.lload_n 2, 1) := by decide +kernel
theorem d_PM_greatestDivisor_4 : decode prog_1_method_30_code 4 = .ok (.lstore 6, 2) := by decide +kernel
theorem d_PM_greatestDivisor_6 : decode prog_1_method_30_code 6 = .ok (.iconst 0, 1) := by decide +kernel
theorem d_PM_greatestDivisor_7 : decode prog_1_method_30_code 7 = .ok (.istore 8, 2) := by decide +kernel
theorem d_PM_greatestDivisor_9 : decode prog_1_method_30_code 9 = .ok (.iload 8, 2) := by decide +kernel
theorem d_PM_greatestDivisor_11 : decode prog_1_method_30_code 11 = .ok (.sipush 200, 3) := by decide +kernel
theorem d_PM_greatestDivisor_14 : decode prog_1_method_30_code 14 = .ok (.if_icmp .ge 31, 3) := by decide +kernel
theorem d_PM_greatestDivisor_17 : decode prog_1_method_30_code 17 = .ok (.lload 6, 2) := by decide +kernel
theorem d_PM_greatestDivisor_19 : decode prog_1_method_30_code 19 = .ok (.lconst 0, 1) := by decide +kernel
theorem d_PM_greatestDivisor_20 : decode prog_1_method_30_code 20 = .ok (.lcmp, 1) := by decide +kernel
theorem d_PM_greatestDivisor_21 : decode prog_1_method_30_code 21 = .ok (.ifCond .eq 24, 3) := by decide +kernel
theorem d_PM_greatestDivisor_45 : decode prog_1_method_30_code 45 = .ok (.lload 4, 2) := by decide +kernel
theorem d_PM_greatestDivisor_47 : decode prog_1_method_30_code 47 = .ok (.lconst 1, 1) := by decide +kernel
theorem d_PM_greatestDivisor_48 : decode prog_1_method_30_code 48 = .ok (.lcmp, 1) := by decide +kernel
theorem d_PM_greatestDivisor_49 : decode prog_1_method_30_code 49 = .ok (.ifCond .ge 7, 3) := by decide +kernel
theorem d_PM_greatestDivisor_56 : decode prog_1_method_30_code 56 = .ok (.lload 4, 2) := by decide +kernel
theorem d_PM_greatestDivisor_58 : decode prog_1_method_30_code 58 = .ok (.lreturn, 1) := by decide +kernel
theorem d_PM_greatestDivisor_52 : decode prog_1_method_30_code 52 = .ok (.lconst 1, 1) := by decide +kernel
theorem d_PM_greatestDivisor_53 : decode prog_1_method_30_code 53 = .ok (.goto 5, 3) := by decide +kernel
theorem d_PM_greatestDivisor_24 : decode prog_1_method_30_code 24 = .ok (.lload 4, 2) := by decide +kernel
theorem d_PM_greatestDivisor_26 : decode prog_1_method_30_code 26 = .ok (.lload 6, 2) := by decide +kernel
theorem d_PM_greatestDivisor_28 : decode prog_1_method_30_code 28 = .ok (.lrem, 1) := by decide +kernel
theorem d_PM_greatestDivisor_29 : decode prog_1_method_30_code 29 = .ok (.lstore 9, 2) := by decide +kernel
theorem d_PM_greatestDivisor_31 : decode prog_1_method_30_code 31 = .ok (.lload 6, 2) := by decide +kernel
theorem d_PM_greatestDivisor_33 : decode prog_1_method_30_code 33 = .ok (.lstore 4, 2) := by decide +kernel
theorem d_PM_greatestDivisor_35 : decode prog_1_method_30_code 35 = .ok (.lload 9, 2) := by decide +kernel
theorem d_PM_greatestDivisor_37 : decode prog_1_method_30_code 37 = .ok (.lstore 6, 2) := by decide +kernel
theorem d_PM_greatestDivisor_39 : decode prog_1_method_30_code 39 = .ok (.iinc 8 1, 3) := by decide +kernel
theorem d_PM_greatestDivisor_42 : decode prog_1_method_30_code 42 = .ok (.goto (-33), 3) := by decide +kernel
def m_Voice_isTold : mr_T := (⟨"PlainMusic$Voice", "isTold", "(JJ)Z"⟩, prog_12_method_9_code, 4, some .boolean)
theorem d_Voice_isTold_0 : decode prog_12_method_9_code 0 = .ok (.lload_n 2, 1) := by decide +kernel
theorem d_Voice_isTold_1 : decode prog_12_method_9_code 1 = .ok (.ldc2_w 76, 3) := by decide +kernel
theorem cst_Voice_76 : Cond.constantLong "PlainMusic$Voice" 76 (Int64.ofInt 1000000) ∈ gw := (gw_in 945 (by decide +kernel) (by decide +kernel))
theorem d_Voice_isTold_4 : decode prog_12_method_9_code 4 = .ok (.lcmp, 1) := by decide +kernel
theorem d_Voice_isTold_5 : decode prog_12_method_9_code 5 = .ok (.ifCond .gt 17, 3) := by decide +kernel
theorem d_Voice_isTold_22 : decode prog_12_method_9_code 22 = .ok (.iconst 0, 1) := by decide +kernel
theorem d_Voice_isTold_23 : decode prog_12_method_9_code 23 = .ok (.ireturn, 1) := by decide +kernel
theorem d_Voice_isTold_8 : decode prog_12_method_9_code 8 = .ok (.lload_n 0, 1) := by decide +kernel
theorem d_Voice_isTold_9 : decode prog_12_method_9_code 9 = .ok (.ldc2_w 78, 3) := by decide +kernel
theorem cst_Voice_78 : Cond.constantLong "PlainMusic$Voice" 78 (Int64.ofInt 1000) ∈ gw := (gw_in 946 (by decide +kernel) (by decide +kernel))
theorem d_Voice_isTold_12 : decode prog_12_method_9_code 12 = .ok (.lload_n 2, 1) := by decide +kernel
theorem d_Voice_isTold_13 : decode prog_12_method_9_code 13 = .ok (.lmul, 1) := by decide +kernel
theorem d_Voice_isTold_14 : decode prog_12_method_9_code 14 = .ok (.lcmp, 1) := by decide +kernel
theorem d_Voice_isTold_15 : decode prog_12_method_9_code 15 = .ok (.ifCond .gt 7, 3) := by decide +kernel
theorem d_Voice_isTold_18 : decode prog_12_method_9_code 18 = .ok (.iconst 1, 1) := by decide +kernel
theorem d_Voice_isTold_19 : decode prog_12_method_9_code 19 = .ok (.goto 4, 3) := by decide +kernel
def m_Voice_addBar : mr_T := (⟨"PlainMusic$Voice", "addBar", "()V"⟩, prog_12_method_6_code, 1, none)
theorem d_Voice_addBar_0 : decode prog_12_method_6_code 0 = .ok (.aload_n 0, 1) := by decide +kernel
theorem d_Voice_addBar_1 : decode prog_12_method_6_code 1 = .ok (.getfield 63, 3) := by decide +kernel
theorem d_Voice_addBar_4 : decode prog_12_method_6_code 4 = .ok (.aload_n 0, 1) := by decide +kernel
theorem d_Voice_addBar_5 : decode prog_12_method_6_code 5 = .ok (.getfield 50, 3) := by decide +kernel
theorem d_Voice_addBar_8 : decode prog_12_method_6_code 8 = .ok (.arraylength, 1) := by decide +kernel
theorem d_Voice_addBar_9 : decode prog_12_method_6_code 9 = .ok (.if_icmp .ge 26, 3) := by decide +kernel
theorem d_Voice_addBar_12 : decode prog_12_method_6_code 12 = .ok (.aload_n 0, 1) := by decide +kernel
theorem d_Voice_addBar_13 : decode prog_12_method_6_code 13 = .ok (.getfield 50, 3) := by decide +kernel
theorem d_Voice_addBar_16 : decode prog_12_method_6_code 16 = .ok (.aload_n 0, 1) := by decide +kernel
theorem d_Voice_addBar_17 : decode prog_12_method_6_code 17 = .ok (.getfield 63, 3) := by decide +kernel
theorem d_Voice_addBar_20 : decode prog_12_method_6_code 20 = .ok (.aload_n 0, 1) := by decide +kernel
theorem d_Voice_addBar_21 : decode prog_12_method_6_code 21 = .ok (.getfield 60, 3) := by decide +kernel
theorem d_Voice_addBar_24 : decode prog_12_method_6_code 24 = .ok (.iastore, 1) := by decide +kernel
theorem d_Voice_addBar_25 : decode prog_12_method_6_code 25 = .ok (.aload_n 0, 1) := by decide +kernel
theorem d_Voice_addBar_26 : decode prog_12_method_6_code 26 = .ok (.dup, 1) := by decide +kernel
theorem d_Voice_addBar_27 : decode prog_12_method_6_code 27 = .ok (.getfield 63, 3) := by decide +kernel
theorem d_Voice_addBar_30 : decode prog_12_method_6_code 30 = .ok (.iconst 1, 1) := by decide +kernel
theorem d_Voice_addBar_31 : decode prog_12_method_6_code 31 = .ok (.iadd, 1) := by decide +kernel
theorem d_Voice_addBar_32 : decode prog_12_method_6_code 32 = .ok (.putfield 63, 3) := by decide +kernel
theorem d_Voice_addBar_35 : decode prog_12_method_6_code 35 = .ok (.return_, 1) := by decide +kernel
def m_Voice_addEvent : mr_T := (⟨"PlainMusic$Voice", "addEvent", "(IJJ)Z"⟩, prog_12_method_8_code, 19, some .boolean)
theorem d_Voice_addEvent_0 : decode prog_12_method_8_code 0 = .ok (.aload_n 0, 1) := by decide +kernel
theorem d_Voice_addEvent_1 : decode prog_12_method_8_code 1 = .ok (.getfield 60, 3) := by decide +kernel
theorem d_Voice_addEvent_4 : decode prog_12_method_8_code 4 = .ok (.sipush 300, 3) := by decide +kernel
theorem d_Voice_addEvent_7 : decode prog_12_method_8_code 7 = .ok (.if_icmp .ge 14, 3) := by decide +kernel
theorem d_Voice_addEvent_21 : decode prog_12_method_8_code 21 = .ok (.iconst 0, 1) := by decide +kernel
theorem d_Voice_addEvent_22 : decode prog_12_method_8_code 22 = .ok (.ireturn, 1) := by decide +kernel
theorem d_Voice_addEvent_10 : decode prog_12_method_8_code 10 = .ok (.iload_n 1, 1) := by decide +kernel
theorem d_Voice_addEvent_11 : decode prog_12_method_8_code 11 = .ok (.ifCond .lt 10, 3) := by decide +kernel
theorem d_Voice_addEvent_14 : decode prog_12_method_8_code 14 = .ok (.iload_n 1, 1) := by decide +kernel
theorem d_Voice_addEvent_15 : decode prog_12_method_8_code 15 = .ok (.sipush 300, 3) := by decide +kernel
theorem d_Voice_addEvent_18 : decode prog_12_method_8_code 18 = .ok (.if_icmp .lt 5, 3) := by decide +kernel
theorem d_Voice_addEvent_23 : decode prog_12_method_8_code 23 = .ok (.aload_n 0, 1) := by decide +kernel
theorem d_Voice_addEvent_24 : decode prog_12_method_8_code 24 = .ok (.getfield 24, 3) := by decide +kernel
theorem d_Voice_addEvent_27 : decode prog_12_method_8_code 27 = .ok (.iload_n 1, 1) := by decide +kernel
theorem d_Voice_addEvent_28 : decode prog_12_method_8_code 28 = .ok (.iaload, 1) := by decide +kernel
theorem d_Voice_addEvent_29 : decode prog_12_method_8_code 29 = .ok (.istore 6, 2) := by decide +kernel
theorem d_Voice_addEvent_31 : decode prog_12_method_8_code 31 = .ok (.lload_n 2, 1) := by decide +kernel
theorem d_Voice_addEvent_32 : decode prog_12_method_8_code 32 = .ok (.ldc2_w 66, 3) := by decide +kernel
theorem d_Voice_addEvent_35 : decode prog_12_method_8_code 35 = .ok (.iload 6, 2) := by decide +kernel
theorem d_Voice_addEvent_37 : decode prog_12_method_8_code 37 = .ok (.lshl, 1) := by decide +kernel
theorem d_Voice_addEvent_38 : decode prog_12_method_8_code 38 = .ok (.lconst 1, 1) := by decide +kernel
theorem d_Voice_addEvent_39 : decode prog_12_method_8_code 39 = .ok (.lsub, 1) := by decide +kernel
theorem d_Voice_addEvent_40 : decode prog_12_method_8_code 40 = .ok (.lmul, 1) := by decide +kernel
theorem d_Voice_addEvent_41 : decode prog_12_method_8_code 41 = .ok (.lstore 7, 2) := by decide +kernel
theorem d_Voice_addEvent_43 : decode prog_12_method_8_code 43 = .ok (.lload 4, 2) := by decide +kernel
theorem d_Voice_addEvent_45 : decode prog_12_method_8_code 45 = .ok (.aload_n 0, 1) := by decide +kernel
theorem d_Voice_addEvent_46 : decode prog_12_method_8_code 46 = .ok (.getfield 21, 3) := by decide +kernel
theorem d_Voice_addEvent_49 : decode prog_12_method_8_code 49 = .ok (.iload_n 1, 1) := by decide +kernel
theorem d_Voice_addEvent_50 : decode prog_12_method_8_code 50 = .ok (.iaload, 1) := by decide +kernel
theorem d_Voice_addEvent_51 : decode prog_12_method_8_code 51 = .ok (.i2l, 1) := by decide +kernel
theorem d_Voice_addEvent_52 : decode prog_12_method_8_code 52 = .ok (.lmul, 1) := by decide +kernel
theorem d_Voice_addEvent_53 : decode prog_12_method_8_code 53 = .ok (.lconst 1, 1) := by decide +kernel
theorem d_Voice_addEvent_54 : decode prog_12_method_8_code 54 = .ok (.iload 6, 2) := by decide +kernel
theorem d_Voice_addEvent_56 : decode prog_12_method_8_code 56 = .ok (.lshl, 1) := by decide +kernel
theorem d_Voice_addEvent_57 : decode prog_12_method_8_code 57 = .ok (.lmul, 1) := by decide +kernel
theorem d_Voice_addEvent_58 : decode prog_12_method_8_code 58 = .ok (.lstore 9, 2) := by decide +kernel
theorem d_Voice_addEvent_60 : decode prog_12_method_8_code 60 = .ok (.lload 7, 2) := by decide +kernel
theorem d_Voice_addEvent_62 : decode prog_12_method_8_code 62 = .ok (.lload 9, 2) := by decide +kernel
theorem d_Voice_addEvent_64 : decode prog_12_method_8_code 64 = .ok (.invokestatic 68, 3) := by decide +kernel
theorem l_Voice_68 : ml_OK "PlainMusic$Voice" 68 ⟨"PlainMusic", "greatestDivisor", "(JJ)J"⟩ := Or.inr ⟨"PlainMusic", (List.mem_of_getElem? (i := 939) (by decide +kernel))⟩
theorem k_PM_greatestDivisor : mt_OK m_PM_greatestDivisor 2 0 := ⟨(gw_in 941 (by decide +kernel) (by decide +kernel)), (gw_in 134 (by decide +kernel) (by decide +kernel)), ⟨by decide +kernel, by decide +kernel, by decide +kernel⟩, fun _ => (gw_in 940 (by decide +kernel) (by decide +kernel)), fun h => absurd h (by decide), fun h => absurd h (by decide)⟩
theorem d_Voice_addEvent_67 : decode prog_12_method_8_code 67 = .ok (.lstore 11, 2) := by decide +kernel
theorem d_Voice_addEvent_69 : decode prog_12_method_8_code 69 = .ok (.aload_n 0, 1) := by decide +kernel
theorem d_Voice_addEvent_70 : decode prog_12_method_8_code 70 = .ok (.getfield 31, 3) := by decide +kernel
theorem d_Voice_addEvent_73 : decode prog_12_method_8_code 73 = .ok (.aload_n 0, 1) := by decide +kernel
theorem d_Voice_addEvent_74 : decode prog_12_method_8_code 74 = .ok (.getfield 60, 3) := by decide +kernel
theorem d_Voice_addEvent_77 : decode prog_12_method_8_code 77 = .ok (.iload_n 1, 1) := by decide +kernel
theorem d_Voice_addEvent_78 : decode prog_12_method_8_code 78 = .ok (.iastore, 1) := by decide +kernel
theorem d_Voice_addEvent_79 : decode prog_12_method_8_code 79 = .ok (.aload_n 0, 1) := by decide +kernel
theorem d_Voice_addEvent_80 : decode prog_12_method_8_code 80 = .ok (.getfield 34, 3) := by decide +kernel
theorem d_Voice_addEvent_83 : decode prog_12_method_8_code 83 = .ok (.aload_n 0, 1) := by decide +kernel
theorem d_Voice_addEvent_84 : decode prog_12_method_8_code 84 = .ok (.getfield 60, 3) := by decide +kernel
theorem d_Voice_addEvent_87 : decode prog_12_method_8_code 87 = .ok (.aload_n 0, 1) := by decide +kernel
theorem d_Voice_addEvent_88 : decode prog_12_method_8_code 88 = .ok (.getfield 63, 3) := by decide +kernel
theorem d_Voice_addEvent_91 : decode prog_12_method_8_code 91 = .ok (.iconst 1, 1) := by decide +kernel
theorem d_Voice_addEvent_92 : decode prog_12_method_8_code 92 = .ok (.isub, 1) := by decide +kernel
theorem d_Voice_addEvent_93 : decode prog_12_method_8_code 93 = .ok (.iastore, 1) := by decide +kernel
theorem d_Voice_addEvent_94 : decode prog_12_method_8_code 94 = .ok (.aload_n 0, 1) := by decide +kernel
theorem d_Voice_addEvent_95 : decode prog_12_method_8_code 95 = .ok (.getfield 44, 3) := by decide +kernel
theorem d_Voice_addEvent_98 : decode prog_12_method_8_code 98 = .ok (.aload_n 0, 1) := by decide +kernel
theorem d_Voice_addEvent_99 : decode prog_12_method_8_code 99 = .ok (.getfield 60, 3) := by decide +kernel
theorem d_Voice_addEvent_102 : decode prog_12_method_8_code 102 = .ok (.lload 7, 2) := by decide +kernel
theorem d_Voice_addEvent_104 : decode prog_12_method_8_code 104 = .ok (.lload 11, 2) := by decide +kernel
theorem d_Voice_addEvent_106 : decode prog_12_method_8_code 106 = .ok (.ldiv, 1) := by decide +kernel
theorem d_Voice_addEvent_107 : decode prog_12_method_8_code 107 = .ok (.lastore, 1) := by decide +kernel
theorem d_Voice_addEvent_108 : decode prog_12_method_8_code 108 = .ok (.aload_n 0, 1) := by decide +kernel
theorem d_Voice_addEvent_109 : decode prog_12_method_8_code 109 = .ok (.getfield 47, 3) := by decide +kernel
theorem d_Voice_addEvent_112 : decode prog_12_method_8_code 112 = .ok (.aload_n 0, 1) := by decide +kernel
theorem d_Voice_addEvent_113 : decode prog_12_method_8_code 113 = .ok (.getfield 60, 3) := by decide +kernel
theorem d_Voice_addEvent_116 : decode prog_12_method_8_code 116 = .ok (.lload 9, 2) := by decide +kernel
theorem d_Voice_addEvent_118 : decode prog_12_method_8_code 118 = .ok (.lload 11, 2) := by decide +kernel
theorem d_Voice_addEvent_120 : decode prog_12_method_8_code 120 = .ok (.ldiv, 1) := by decide +kernel
theorem d_Voice_addEvent_121 : decode prog_12_method_8_code 121 = .ok (.lastore, 1) := by decide +kernel
theorem d_Voice_addEvent_122 : decode prog_12_method_8_code 122 = .ok (.aload_n 0, 1) := by decide +kernel
theorem d_Voice_addEvent_123 : decode prog_12_method_8_code 123 = .ok (.getfield 44, 3) := by decide +kernel
theorem d_Voice_addEvent_126 : decode prog_12_method_8_code 126 = .ok (.aload_n 0, 1) := by decide +kernel
theorem d_Voice_addEvent_127 : decode prog_12_method_8_code 127 = .ok (.getfield 60, 3) := by decide +kernel
theorem d_Voice_addEvent_130 : decode prog_12_method_8_code 130 = .ok (.laload, 1) := by decide +kernel
theorem d_Voice_addEvent_131 : decode prog_12_method_8_code 131 = .ok (.aload_n 0, 1) := by decide +kernel
theorem d_Voice_addEvent_132 : decode prog_12_method_8_code 132 = .ok (.getfield 47, 3) := by decide +kernel
theorem d_Voice_addEvent_135 : decode prog_12_method_8_code 135 = .ok (.aload_n 0, 1) := by decide +kernel
theorem d_Voice_addEvent_136 : decode prog_12_method_8_code 136 = .ok (.getfield 60, 3) := by decide +kernel
theorem d_Voice_addEvent_139 : decode prog_12_method_8_code 139 = .ok (.laload, 1) := by decide +kernel
theorem d_Voice_addEvent_140 : decode prog_12_method_8_code 140 = .ok (.invokestatic 72, 3) := by decide +kernel
theorem l_Voice_72 : ml_OK "PlainMusic$Voice" 72 ⟨"PlainMusic$Voice", "isTold", "(JJ)Z"⟩ := Or.inl (gw_in 942 (by decide +kernel) (by decide +kernel))
theorem k_Voice_isTold : mt_OK m_Voice_isTold 2 0 := ⟨(gw_in 944 (by decide +kernel) (by decide +kernel)), (gw_in 139 (by decide +kernel) (by decide +kernel)), ⟨by decide +kernel, by decide +kernel, by decide +kernel⟩, fun _ => (gw_in 943 (by decide +kernel) (by decide +kernel)), fun h => absurd h (by decide), fun h => absurd h (by decide)⟩
theorem d_Voice_addEvent_143 : decode prog_12_method_8_code 143 = .ok (.ifCond .ne 5, 3) := by decide +kernel
theorem d_Voice_addEvent_148 : decode prog_12_method_8_code 148 = .ok (.aload_n 0, 1) := by decide +kernel
theorem d_Voice_addEvent_149 : decode prog_12_method_8_code 149 = .ok (.getfield 37, 3) := by decide +kernel
theorem d_Voice_addEvent_152 : decode prog_12_method_8_code 152 = .ok (.aload_n 0, 1) := by decide +kernel
theorem d_Voice_addEvent_153 : decode prog_12_method_8_code 153 = .ok (.getfield 60, 3) := by decide +kernel
theorem d_Voice_addEvent_156 : decode prog_12_method_8_code 156 = .ok (.laload, 1) := by decide +kernel
theorem d_Voice_addEvent_157 : decode prog_12_method_8_code 157 = .ok (.aload_n 0, 1) := by decide +kernel
theorem d_Voice_addEvent_158 : decode prog_12_method_8_code 158 = .ok (.getfield 47, 3) := by decide +kernel
theorem d_Voice_addEvent_161 : decode prog_12_method_8_code 161 = .ok (.aload_n 0, 1) := by decide +kernel
theorem d_Voice_addEvent_162 : decode prog_12_method_8_code 162 = .ok (.getfield 60, 3) := by decide +kernel
theorem d_Voice_addEvent_165 : decode prog_12_method_8_code 165 = .ok (.laload, 1) := by decide +kernel
theorem d_Voice_addEvent_166 : decode prog_12_method_8_code 166 = .ok (.lmul, 1) := by decide +kernel
theorem d_Voice_addEvent_167 : decode prog_12_method_8_code 167 = .ok (.aload_n 0, 1) := by decide +kernel
theorem d_Voice_addEvent_168 : decode prog_12_method_8_code 168 = .ok (.getfield 44, 3) := by decide +kernel
theorem d_Voice_addEvent_171 : decode prog_12_method_8_code 171 = .ok (.aload_n 0, 1) := by decide +kernel
theorem d_Voice_addEvent_172 : decode prog_12_method_8_code 172 = .ok (.getfield 60, 3) := by decide +kernel
theorem d_Voice_addEvent_175 : decode prog_12_method_8_code 175 = .ok (.laload, 1) := by decide +kernel
theorem d_Voice_addEvent_176 : decode prog_12_method_8_code 176 = .ok (.aload_n 0, 1) := by decide +kernel
theorem d_Voice_addEvent_177 : decode prog_12_method_8_code 177 = .ok (.getfield 41, 3) := by decide +kernel
theorem d_Voice_addEvent_180 : decode prog_12_method_8_code 180 = .ok (.aload_n 0, 1) := by decide +kernel
theorem d_Voice_addEvent_181 : decode prog_12_method_8_code 181 = .ok (.getfield 60, 3) := by decide +kernel
theorem d_Voice_addEvent_184 : decode prog_12_method_8_code 184 = .ok (.laload, 1) := by decide +kernel
theorem d_Voice_addEvent_185 : decode prog_12_method_8_code 185 = .ok (.lmul, 1) := by decide +kernel
theorem d_Voice_addEvent_186 : decode prog_12_method_8_code 186 = .ok (.ladd, 1) := by decide +kernel
theorem d_Voice_addEvent_187 : decode prog_12_method_8_code 187 = .ok (.lstore 13, 2) := by decide +kernel
theorem d_Voice_addEvent_189 : decode prog_12_method_8_code 189 = .ok (.aload_n 0, 1) := by decide +kernel
theorem d_Voice_addEvent_190 : decode prog_12_method_8_code 190 = .ok (.getfield 41, 3) := by decide +kernel
theorem d_Voice_addEvent_193 : decode prog_12_method_8_code 193 = .ok (.aload_n 0, 1) := by decide +kernel
theorem d_Voice_addEvent_194 : decode prog_12_method_8_code 194 = .ok (.getfield 60, 3) := by decide +kernel
theorem d_Voice_addEvent_197 : decode prog_12_method_8_code 197 = .ok (.laload, 1) := by decide +kernel
theorem d_Voice_addEvent_198 : decode prog_12_method_8_code 198 = .ok (.aload_n 0, 1) := by decide +kernel
theorem d_Voice_addEvent_199 : decode prog_12_method_8_code 199 = .ok (.getfield 47, 3) := by decide +kernel
theorem d_Voice_addEvent_202 : decode prog_12_method_8_code 202 = .ok (.aload_n 0, 1) := by decide +kernel
theorem d_Voice_addEvent_203 : decode prog_12_method_8_code 203 = .ok (.getfield 60, 3) := by decide +kernel
theorem d_Voice_addEvent_206 : decode prog_12_method_8_code 206 = .ok (.laload, 1) := by decide +kernel
theorem d_Voice_addEvent_207 : decode prog_12_method_8_code 207 = .ok (.lmul, 1) := by decide +kernel
theorem d_Voice_addEvent_208 : decode prog_12_method_8_code 208 = .ok (.lstore 15, 2) := by decide +kernel
theorem d_Voice_addEvent_210 : decode prog_12_method_8_code 210 = .ok (.lload 13, 2) := by decide +kernel
theorem d_Voice_addEvent_212 : decode prog_12_method_8_code 212 = .ok (.lload 15, 2) := by decide +kernel
theorem d_Voice_addEvent_214 : decode prog_12_method_8_code 214 = .ok (.invokestatic 68, 3) := by decide +kernel
theorem d_Voice_addEvent_217 : decode prog_12_method_8_code 217 = .ok (.lstore 17, 2) := by decide +kernel
theorem d_Voice_addEvent_219 : decode prog_12_method_8_code 219 = .ok (.aload_n 0, 1) := by decide +kernel
theorem d_Voice_addEvent_220 : decode prog_12_method_8_code 220 = .ok (.dup, 1) := by decide +kernel
theorem d_Voice_addEvent_221 : decode prog_12_method_8_code 221 = .ok (.getfield 60, 3) := by decide +kernel
theorem d_Voice_addEvent_224 : decode prog_12_method_8_code 224 = .ok (.iconst 1, 1) := by decide +kernel
theorem d_Voice_addEvent_225 : decode prog_12_method_8_code 225 = .ok (.iadd, 1) := by decide +kernel
theorem d_Voice_addEvent_226 : decode prog_12_method_8_code 226 = .ok (.putfield 60, 3) := by decide +kernel
theorem d_Voice_addEvent_229 : decode prog_12_method_8_code 229 = .ok (.aload_n 0, 1) := by decide +kernel
theorem d_Voice_addEvent_230 : decode prog_12_method_8_code 230 = .ok (.getfield 37, 3) := by decide +kernel
theorem d_Voice_addEvent_233 : decode prog_12_method_8_code 233 = .ok (.aload_n 0, 1) := by decide +kernel
theorem d_Voice_addEvent_234 : decode prog_12_method_8_code 234 = .ok (.getfield 60, 3) := by decide +kernel
theorem d_Voice_addEvent_237 : decode prog_12_method_8_code 237 = .ok (.lload 13, 2) := by decide +kernel
theorem d_Voice_addEvent_239 : decode prog_12_method_8_code 239 = .ok (.lload 17, 2) := by decide +kernel
theorem d_Voice_addEvent_241 : decode prog_12_method_8_code 241 = .ok (.ldiv, 1) := by decide +kernel
theorem d_Voice_addEvent_242 : decode prog_12_method_8_code 242 = .ok (.lastore, 1) := by decide +kernel
theorem d_Voice_addEvent_243 : decode prog_12_method_8_code 243 = .ok (.aload_n 0, 1) := by decide +kernel
theorem d_Voice_addEvent_244 : decode prog_12_method_8_code 244 = .ok (.getfield 41, 3) := by decide +kernel
theorem d_Voice_addEvent_247 : decode prog_12_method_8_code 247 = .ok (.aload_n 0, 1) := by decide +kernel
theorem d_Voice_addEvent_248 : decode prog_12_method_8_code 248 = .ok (.getfield 60, 3) := by decide +kernel
theorem d_Voice_addEvent_251 : decode prog_12_method_8_code 251 = .ok (.lload 15, 2) := by decide +kernel
theorem d_Voice_addEvent_253 : decode prog_12_method_8_code 253 = .ok (.lload 17, 2) := by decide +kernel
theorem d_Voice_addEvent_255 : decode prog_12_method_8_code 255 = .ok (.ldiv, 1) := by decide +kernel
theorem d_Voice_addEvent_256 : decode prog_12_method_8_code 256 = .ok (.lastore, 1) := by decide +kernel
theorem d_Voice_addEvent_257 : decode prog_12_method_8_code 257 = .ok (.aload_n 0, 1) := by decide +kernel
theorem d_Voice_addEvent_258 : decode prog_12_method_8_code 258 = .ok (.getfield 37, 3) := by decide +kernel
theorem d_Voice_addEvent_261 : decode prog_12_method_8_code 261 = .ok (.aload_n 0, 1) := by decide +kernel
theorem d_Voice_addEvent_262 : decode prog_12_method_8_code 262 = .ok (.getfield 60, 3) := by decide +kernel
theorem d_Voice_addEvent_265 : decode prog_12_method_8_code 265 = .ok (.laload, 1) := by decide +kernel
theorem d_Voice_addEvent_266 : decode prog_12_method_8_code 266 = .ok (.aload_n 0, 1) := by decide +kernel
theorem d_Voice_addEvent_267 : decode prog_12_method_8_code 267 = .ok (.getfield 41, 3) := by decide +kernel
theorem d_Voice_addEvent_270 : decode prog_12_method_8_code 270 = .ok (.aload_n 0, 1) := by decide +kernel
theorem d_Voice_addEvent_271 : decode prog_12_method_8_code 271 = .ok (.getfield 60, 3) := by decide +kernel
theorem d_Voice_addEvent_274 : decode prog_12_method_8_code 274 = .ok (.laload, 1) := by decide +kernel
theorem d_Voice_addEvent_275 : decode prog_12_method_8_code 275 = .ok (.invokestatic 72, 3) := by decide +kernel
theorem d_Voice_addEvent_278 : decode prog_12_method_8_code 278 = .ok (.ireturn, 1) := by decide +kernel
theorem d_Voice_addEvent_146 : decode prog_12_method_8_code 146 = .ok (.iconst 0, 1) := by decide +kernel
theorem d_Voice_addEvent_147 : decode prog_12_method_8_code 147 = .ok (.ireturn, 1) := by decide +kernel
def m_Score_clear : mr_T := (⟨"PlainMusic$Score", "clear", "()V"⟩, prog_8_method_2_code, 1, none)
theorem d_Score_clear_0 : decode prog_8_method_2_code 0 = .ok (.aload_n 0, 1) := by decide +kernel
theorem d_Score_clear_1 : decode prog_8_method_2_code 1 = .ok (.iconst 0, 1) := by decide +kernel
theorem d_Score_clear_2 : decode prog_8_method_2_code 2 = .ok (.putfield 41, 3) := by decide +kernel
theorem f_Score_41 : fl_OK "PlainMusic$Score" 41 6 1 .int false := ⟨_, rfl, by decide, (gw_in 351 (by decide +kernel) (by decide +kernel)), rfl, rfl⟩
theorem d_Score_clear_5 : decode prog_8_method_2_code 5 = .ok (.aload_n 0, 1) := by decide +kernel
theorem d_Score_clear_6 : decode prog_8_method_2_code 6 = .ok (.iconst 4, 1) := by decide +kernel
theorem d_Score_clear_7 : decode prog_8_method_2_code 7 = .ok (.putfield 17, 3) := by decide +kernel
theorem d_Score_clear_10 : decode prog_8_method_2_code 10 = .ok (.aload_n 0, 1) := by decide +kernel
theorem d_Score_clear_11 : decode prog_8_method_2_code 11 = .ok (.iconst 4, 1) := by decide +kernel
theorem d_Score_clear_12 : decode prog_8_method_2_code 12 = .ok (.putfield 21, 3) := by decide +kernel
theorem d_Score_clear_15 : decode prog_8_method_2_code 15 = .ok (.aload_n 0, 1) := by decide +kernel
theorem d_Score_clear_16 : decode prog_8_method_2_code 16 = .ok (.iconst 0, 1) := by decide +kernel
theorem d_Score_clear_17 : decode prog_8_method_2_code 17 = .ok (.putfield 44, 3) := by decide +kernel
theorem f_Score_44 : fl_OK "PlainMusic$Score" 44 6 4 .boolean false := ⟨_, rfl, by decide, (gw_in 361 (by decide +kernel) (by decide +kernel)), rfl, rfl⟩
theorem d_Score_clear_20 : decode prog_8_method_2_code 20 = .ok (.aload_n 0, 1) := by decide +kernel
theorem d_Score_clear_21 : decode prog_8_method_2_code 21 = .ok (.iconst 0, 1) := by decide +kernel
theorem d_Score_clear_22 : decode prog_8_method_2_code 22 = .ok (.putfield 48, 3) := by decide +kernel
theorem f_Score_48 : fl_OK "PlainMusic$Score" 48 6 6 .int false := ⟨_, rfl, by decide, (gw_in 365 (by decide +kernel) (by decide +kernel)), rfl, rfl⟩
theorem d_Score_clear_25 : decode prog_8_method_2_code 25 = .ok (.aload_n 0, 1) := by decide +kernel
theorem d_Score_clear_26 : decode prog_8_method_2_code 26 = .ok (.iconst 0, 1) := by decide +kernel
theorem d_Score_clear_27 : decode prog_8_method_2_code 27 = .ok (.putfield 51, 3) := by decide +kernel
theorem f_Score_51 : fl_OK "PlainMusic$Score" 51 6 10 .int false := ⟨_, rfl, by decide, (gw_in 375 (by decide +kernel) (by decide +kernel)), rfl, rfl⟩
theorem d_Score_clear_30 : decode prog_8_method_2_code 30 = .ok (.aload_n 0, 1) := by decide +kernel
theorem d_Score_clear_31 : decode prog_8_method_2_code 31 = .ok (.iconst 0, 1) := by decide +kernel
theorem d_Score_clear_32 : decode prog_8_method_2_code 32 = .ok (.putfield 54, 3) := by decide +kernel
theorem f_Score_54 : fl_OK "PlainMusic$Score" 54 6 12 .int false := ⟨_, rfl, by decide, (gw_in 381 (by decide +kernel) (by decide +kernel)), rfl, rfl⟩
theorem d_Score_clear_35 : decode prog_8_method_2_code 35 = .ok (.return_, 1) := by decide +kernel
def m_Score_setTime : mr_T := (⟨"PlainMusic$Score", "setTime", "(II)V"⟩, prog_8_method_3_code, 3, none)
theorem d_Score_setTime_0 : decode prog_8_method_3_code 0 = .ok (.aload_n 0, 1) := by decide +kernel
theorem d_Score_setTime_1 : decode prog_8_method_3_code 1 = .ok (.iconst 1, 1) := by decide +kernel
theorem d_Score_setTime_2 : decode prog_8_method_3_code 2 = .ok (.putfield 44, 3) := by decide +kernel
theorem d_Score_setTime_5 : decode prog_8_method_3_code 5 = .ok (.aload_n 0, 1) := by decide +kernel
theorem d_Score_setTime_6 : decode prog_8_method_3_code 6 = .ok (.iload_n 1, 1) := by decide +kernel
theorem d_Score_setTime_7 : decode prog_8_method_3_code 7 = .ok (.putfield 17, 3) := by decide +kernel
theorem d_Score_setTime_10 : decode prog_8_method_3_code 10 = .ok (.aload_n 0, 1) := by decide +kernel
theorem d_Score_setTime_11 : decode prog_8_method_3_code 11 = .ok (.iload_n 2, 1) := by decide +kernel
theorem d_Score_setTime_12 : decode prog_8_method_3_code 12 = .ok (.putfield 21, 3) := by decide +kernel
theorem d_Score_setTime_15 : decode prog_8_method_3_code 15 = .ok (.return_, 1) := by decide +kernel
def m_Score_voiceAt : mr_T := (⟨"PlainMusic$Score", "voiceAt", "(I)LPlainMusic$Voice;"⟩, prog_8_method_5_code, 2, some (.object "PlainMusic$Voice"))
theorem d_Score_voiceAt_0 : decode prog_8_method_5_code 0 = .ok (.iload_n 1, 1) := by decide +kernel
theorem d_Score_voiceAt_1 : decode prog_8_method_5_code 1 = .ok (.ifCond .lt 29, 3) := by decide +kernel
theorem d_Score_voiceAt_30 : decode prog_8_method_5_code 30 = .ok (.aconst_null, 1) := by decide +kernel
theorem d_Score_voiceAt_31 : decode prog_8_method_5_code 31 = .ok (.areturn, 1) := by decide +kernel
theorem d_Score_voiceAt_4 : decode prog_8_method_5_code 4 = .ok (.iload_n 1, 1) := by decide +kernel
theorem d_Score_voiceAt_5 : decode prog_8_method_5_code 5 = .ok (.aload_n 0, 1) := by decide +kernel
theorem d_Score_voiceAt_6 : decode prog_8_method_5_code 6 = .ok (.getfield 41, 3) := by decide +kernel
theorem d_Score_voiceAt_9 : decode prog_8_method_5_code 9 = .ok (.if_icmp .ge 21, 3) := by decide +kernel
theorem d_Score_voiceAt_12 : decode prog_8_method_5_code 12 = .ok (.iload_n 1, 1) := by decide +kernel
theorem d_Score_voiceAt_13 : decode prog_8_method_5_code 13 = .ok (.aload_n 0, 1) := by decide +kernel
theorem d_Score_voiceAt_14 : decode prog_8_method_5_code 14 = .ok (.getfield 11, 3) := by decide +kernel
theorem d_Score_voiceAt_17 : decode prog_8_method_5_code 17 = .ok (.arraylength, 1) := by decide +kernel
theorem d_Score_voiceAt_18 : decode prog_8_method_5_code 18 = .ok (.if_icmp .ge 12, 3) := by decide +kernel
theorem d_Score_voiceAt_21 : decode prog_8_method_5_code 21 = .ok (.aload_n 0, 1) := by decide +kernel
theorem d_Score_voiceAt_22 : decode prog_8_method_5_code 22 = .ok (.getfield 11, 3) := by decide +kernel
theorem d_Score_voiceAt_25 : decode prog_8_method_5_code 25 = .ok (.iload_n 1, 1) := by decide +kernel
theorem d_Score_voiceAt_26 : decode prog_8_method_5_code 26 = .ok (.aaload, 1) := by decide +kernel
theorem d_Score_voiceAt_27 : decode prog_8_method_5_code 27 = .ok (.goto 4, 3) := by decide +kernel
def m_Score_newVoice : mr_T := (⟨"PlainMusic$Score", "newVoice", "()LPlainMusic$Voice;"⟩, prog_8_method_4_code, 2, some (.object "PlainMusic$Voice"))
theorem d_Score_newVoice_0 : decode prog_8_method_4_code 0 = .ok (.aload_n 0, 1) := by decide +kernel
theorem d_Score_newVoice_1 : decode prog_8_method_4_code 1 = .ok (.getfield 41, 3) := by decide +kernel
theorem d_Score_newVoice_4 : decode prog_8_method_4_code 4 = .ok (.aload_n 0, 1) := by decide +kernel
theorem d_Score_newVoice_5 : decode prog_8_method_4_code 5 = .ok (.getfield 11, 3) := by decide +kernel
theorem d_Score_newVoice_8 : decode prog_8_method_4_code 8 = .ok (.arraylength, 1) := by decide +kernel
theorem d_Score_newVoice_9 : decode prog_8_method_4_code 9 = .ok (.if_icmp .lt 5, 3) := by decide +kernel
theorem d_Score_newVoice_14 : decode prog_8_method_4_code 14 = .ok (.aload_n 0, 1) := by decide +kernel
theorem d_Score_newVoice_15 : decode prog_8_method_4_code 15 = .ok (.dup, 1) := by decide +kernel
theorem d_Score_newVoice_16 : decode prog_8_method_4_code 16 = .ok (.getfield 41, 3) := by decide +kernel
theorem d_Score_newVoice_19 : decode prog_8_method_4_code 19 = .ok (.iconst 1, 1) := by decide +kernel
theorem d_Score_newVoice_20 : decode prog_8_method_4_code 20 = .ok (.iadd, 1) := by decide +kernel
theorem d_Score_newVoice_21 : decode prog_8_method_4_code 21 = .ok (.putfield 41, 3) := by decide +kernel
theorem d_Score_newVoice_24 : decode prog_8_method_4_code 24 = .ok (.aload_n 0, 1) := by decide +kernel
theorem d_Score_newVoice_25 : decode prog_8_method_4_code 25 = .ok (.getfield 11, 3) := by decide +kernel
theorem d_Score_newVoice_28 : decode prog_8_method_4_code 28 = .ok (.aload_n 0, 1) := by decide +kernel
theorem d_Score_newVoice_29 : decode prog_8_method_4_code 29 = .ok (.getfield 41, 3) := by decide +kernel
theorem d_Score_newVoice_32 : decode prog_8_method_4_code 32 = .ok (.iconst 1, 1) := by decide +kernel
theorem d_Score_newVoice_33 : decode prog_8_method_4_code 33 = .ok (.isub, 1) := by decide +kernel
theorem d_Score_newVoice_34 : decode prog_8_method_4_code 34 = .ok (.aaload, 1) := by decide +kernel
theorem d_Score_newVoice_35 : decode prog_8_method_4_code 35 = .ok (.astore_n 1, 1) := by decide +kernel
theorem d_Score_newVoice_36 : decode prog_8_method_4_code 36 = .ok (.aload_n 1, 1) := by decide +kernel
theorem d_Score_newVoice_37 : decode prog_8_method_4_code 37 = .ok (.ifnull 7, 3) := by decide +kernel
theorem d_Score_newVoice_40 : decode prog_8_method_4_code 40 = .ok (.aload_n 1, 1) := by decide +kernel
theorem d_Score_newVoice_41 : decode prog_8_method_4_code 41 = .ok (.invokevirtual 57, 3) := by decide +kernel
theorem l_Score_57 : ml_OK "PlainMusic$Score" 57 ⟨"PlainMusic$Voice", "clear", "()V"⟩ := Or.inl (gw_in 855 (by decide +kernel) (by decide +kernel))
theorem k_Voice_clear : mt_OK m_Voice_clear 0 1 := ⟨(gw_in 858 (by decide +kernel) (by decide +kernel)), (gw_in 139 (by decide +kernel) (by decide +kernel)), ⟨by decide +kernel, by decide +kernel, by decide +kernel⟩, fun h => absurd h (by decide), fun _ => ⟨(gw_in 856 (by decide +kernel) (by decide +kernel)), (gw_in 857 (by decide +kernel) (by decide +kernel))⟩, fun h => absurd h (by decide)⟩
theorem d_Score_newVoice_44 : decode prog_8_method_4_code 44 = .ok (.aload_n 1, 1) := by decide +kernel
theorem d_Score_newVoice_45 : decode prog_8_method_4_code 45 = .ok (.areturn, 1) := by decide +kernel
theorem d_Score_newVoice_12 : decode prog_8_method_4_code 12 = .ok (.aconst_null, 1) := by decide +kernel
theorem d_Score_newVoice_13 : decode prog_8_method_4_code 13 = .ok (.areturn, 1) := by decide +kernel
def m_Score_addToLine : mr_T := (⟨"PlainMusic$Score", "addToLine", "(I)Z"⟩, prog_8_method_6_code, 2, some .boolean)
theorem d_Score_addToLine_0 : decode prog_8_method_6_code 0 = .ok (.aload_n 0, 1) := by decide +kernel
theorem d_Score_addToLine_1 : decode prog_8_method_6_code 1 = .ok (.getfield 48, 3) := by decide +kernel
theorem d_Score_addToLine_4 : decode prog_8_method_6_code 4 = .ok (.aload_n 0, 1) := by decide +kernel
theorem d_Score_addToLine_5 : decode prog_8_method_6_code 5 = .ok (.getfield 24, 3) := by decide +kernel
theorem d_Score_addToLine_8 : decode prog_8_method_6_code 8 = .ok (.arraylength, 1) := by decide +kernel
theorem d_Score_addToLine_9 : decode prog_8_method_6_code 9 = .ok (.if_icmp .lt 5, 3) := by decide +kernel
theorem d_Score_addToLine_14 : decode prog_8_method_6_code 14 = .ok (.aload_n 0, 1) := by decide +kernel
theorem d_Score_addToLine_15 : decode prog_8_method_6_code 15 = .ok (.getfield 24, 3) := by decide +kernel
theorem d_Score_addToLine_18 : decode prog_8_method_6_code 18 = .ok (.aload_n 0, 1) := by decide +kernel
theorem d_Score_addToLine_19 : decode prog_8_method_6_code 19 = .ok (.getfield 48, 3) := by decide +kernel
theorem d_Score_addToLine_22 : decode prog_8_method_6_code 22 = .ok (.iload_n 1, 1) := by decide +kernel
theorem d_Score_addToLine_23 : decode prog_8_method_6_code 23 = .ok (.iastore, 1) := by decide +kernel
theorem d_Score_addToLine_24 : decode prog_8_method_6_code 24 = .ok (.aload_n 0, 1) := by decide +kernel
theorem d_Score_addToLine_25 : decode prog_8_method_6_code 25 = .ok (.dup, 1) := by decide +kernel
theorem d_Score_addToLine_26 : decode prog_8_method_6_code 26 = .ok (.getfield 48, 3) := by decide +kernel
theorem d_Score_addToLine_29 : decode prog_8_method_6_code 29 = .ok (.iconst 1, 1) := by decide +kernel
theorem d_Score_addToLine_30 : decode prog_8_method_6_code 30 = .ok (.iadd, 1) := by decide +kernel
theorem d_Score_addToLine_31 : decode prog_8_method_6_code 31 = .ok (.putfield 48, 3) := by decide +kernel
theorem d_Score_addToLine_34 : decode prog_8_method_6_code 34 = .ok (.iconst 1, 1) := by decide +kernel
theorem d_Score_addToLine_35 : decode prog_8_method_6_code 35 = .ok (.ireturn, 1) := by decide +kernel
theorem d_Score_addToLine_12 : decode prog_8_method_6_code 12 = .ok (.iconst 0, 1) := by decide +kernel
theorem d_Score_addToLine_13 : decode prog_8_method_6_code 13 = .ok (.ireturn, 1) := by decide +kernel
def m_Score_addRule : mr_T := (⟨"PlainMusic$Score", "addRule", "(III)V"⟩, prog_8_method_7_code, 4, none)
theorem d_Score_addRule_0 : decode prog_8_method_7_code 0 = .ok (.aload_n 0, 1) := by decide +kernel
theorem d_Score_addRule_1 : decode prog_8_method_7_code 1 = .ok (.getfield 51, 3) := by decide +kernel
theorem d_Score_addRule_4 : decode prog_8_method_7_code 4 = .ok (.aload_n 0, 1) := by decide +kernel
theorem d_Score_addRule_5 : decode prog_8_method_7_code 5 = .ok (.getfield 28, 3) := by decide +kernel
theorem d_Score_addRule_8 : decode prog_8_method_7_code 8 = .ok (.arraylength, 1) := by decide +kernel
theorem d_Score_addRule_9 : decode prog_8_method_7_code 9 = .ok (.if_icmp .ge 43, 3) := by decide +kernel
theorem d_Score_addRule_52 : decode prog_8_method_7_code 52 = .ok (.return_, 1) := by decide +kernel
theorem d_Score_addRule_12 : decode prog_8_method_7_code 12 = .ok (.aload_n 0, 1) := by decide +kernel
theorem d_Score_addRule_13 : decode prog_8_method_7_code 13 = .ok (.getfield 28, 3) := by decide +kernel
theorem d_Score_addRule_16 : decode prog_8_method_7_code 16 = .ok (.aload_n 0, 1) := by decide +kernel
theorem d_Score_addRule_17 : decode prog_8_method_7_code 17 = .ok (.getfield 51, 3) := by decide +kernel
theorem d_Score_addRule_20 : decode prog_8_method_7_code 20 = .ok (.iload_n 1, 1) := by decide +kernel
theorem d_Score_addRule_21 : decode prog_8_method_7_code 21 = .ok (.iastore, 1) := by decide +kernel
theorem d_Score_addRule_22 : decode prog_8_method_7_code 22 = .ok (.aload_n 0, 1) := by decide +kernel
theorem d_Score_addRule_23 : decode prog_8_method_7_code 23 = .ok (.getfield 31, 3) := by decide +kernel
theorem d_Score_addRule_26 : decode prog_8_method_7_code 26 = .ok (.aload_n 0, 1) := by decide +kernel
theorem d_Score_addRule_27 : decode prog_8_method_7_code 27 = .ok (.getfield 51, 3) := by decide +kernel
theorem d_Score_addRule_30 : decode prog_8_method_7_code 30 = .ok (.iload_n 2, 1) := by decide +kernel
theorem d_Score_addRule_31 : decode prog_8_method_7_code 31 = .ok (.iastore, 1) := by decide +kernel
theorem d_Score_addRule_32 : decode prog_8_method_7_code 32 = .ok (.aload_n 0, 1) := by decide +kernel
theorem d_Score_addRule_33 : decode prog_8_method_7_code 33 = .ok (.getfield 34, 3) := by decide +kernel
theorem d_Score_addRule_36 : decode prog_8_method_7_code 36 = .ok (.aload_n 0, 1) := by decide +kernel
theorem d_Score_addRule_37 : decode prog_8_method_7_code 37 = .ok (.getfield 51, 3) := by decide +kernel
theorem d_Score_addRule_40 : decode prog_8_method_7_code 40 = .ok (.iload_n 3, 1) := by decide +kernel
theorem d_Score_addRule_41 : decode prog_8_method_7_code 41 = .ok (.iastore, 1) := by decide +kernel
theorem d_Score_addRule_42 : decode prog_8_method_7_code 42 = .ok (.aload_n 0, 1) := by decide +kernel
theorem d_Score_addRule_43 : decode prog_8_method_7_code 43 = .ok (.dup, 1) := by decide +kernel
theorem d_Score_addRule_44 : decode prog_8_method_7_code 44 = .ok (.getfield 51, 3) := by decide +kernel
theorem d_Score_addRule_47 : decode prog_8_method_7_code 47 = .ok (.iconst 1, 1) := by decide +kernel
theorem d_Score_addRule_48 : decode prog_8_method_7_code 48 = .ok (.iadd, 1) := by decide +kernel
theorem d_Score_addRule_49 : decode prog_8_method_7_code 49 = .ok (.putfield 51, 3) := by decide +kernel
def m_Score_addToRow : mr_T := (⟨"PlainMusic$Score", "addToRow", "(I)V"⟩, prog_8_method_8_code, 2, none)
theorem d_Score_addToRow_0 : decode prog_8_method_8_code 0 = .ok (.aload_n 0, 1) := by decide +kernel
theorem d_Score_addToRow_1 : decode prog_8_method_8_code 1 = .ok (.getfield 54, 3) := by decide +kernel
theorem d_Score_addToRow_4 : decode prog_8_method_8_code 4 = .ok (.aload_n 0, 1) := by decide +kernel
theorem d_Score_addToRow_5 : decode prog_8_method_8_code 5 = .ok (.getfield 37, 3) := by decide +kernel
theorem d_Score_addToRow_8 : decode prog_8_method_8_code 8 = .ok (.arraylength, 1) := by decide +kernel
theorem d_Score_addToRow_9 : decode prog_8_method_8_code 9 = .ok (.if_icmp .ge 23, 3) := by decide +kernel
theorem d_Score_addToRow_32 : decode prog_8_method_8_code 32 = .ok (.return_, 1) := by decide +kernel
theorem d_Score_addToRow_12 : decode prog_8_method_8_code 12 = .ok (.aload_n 0, 1) := by decide +kernel
theorem d_Score_addToRow_13 : decode prog_8_method_8_code 13 = .ok (.getfield 37, 3) := by decide +kernel
theorem d_Score_addToRow_16 : decode prog_8_method_8_code 16 = .ok (.aload_n 0, 1) := by decide +kernel
theorem d_Score_addToRow_17 : decode prog_8_method_8_code 17 = .ok (.getfield 54, 3) := by decide +kernel
theorem d_Score_addToRow_20 : decode prog_8_method_8_code 20 = .ok (.iload_n 1, 1) := by decide +kernel
theorem d_Score_addToRow_21 : decode prog_8_method_8_code 21 = .ok (.iastore, 1) := by decide +kernel
theorem d_Score_addToRow_22 : decode prog_8_method_8_code 22 = .ok (.aload_n 0, 1) := by decide +kernel
theorem d_Score_addToRow_23 : decode prog_8_method_8_code 23 = .ok (.dup, 1) := by decide +kernel
theorem d_Score_addToRow_24 : decode prog_8_method_8_code 24 = .ok (.getfield 54, 3) := by decide +kernel
theorem d_Score_addToRow_27 : decode prog_8_method_8_code 27 = .ok (.iconst 1, 1) := by decide +kernel
theorem d_Score_addToRow_28 : decode prog_8_method_8_code 28 = .ok (.iadd, 1) := by decide +kernel
theorem d_Score_addToRow_29 : decode prog_8_method_8_code 29 = .ok (.putfield 54, 3) := by decide +kernel
def m_Score_allEvents : mr_T := (⟨"PlainMusic$Score", "allEvents", "()I"⟩, prog_8_method_9_code, 4, some .int)
theorem d_Score_allEvents_0 : decode prog_8_method_9_code 0 = .ok (.iconst 0, 1) := by decide +kernel
theorem d_Score_allEvents_1 : decode prog_8_method_9_code 1 = .ok (.istore_n 1, 1) := by decide +kernel
theorem d_Score_allEvents_2 : decode prog_8_method_9_code 2 = .ok (.iconst 0, 1) := by decide +kernel
theorem d_Score_allEvents_3 : decode prog_8_method_9_code 3 = .ok (.istore_n 2, 1) := by decide +kernel
theorem d_Score_allEvents_4 : decode prog_8_method_9_code 4 = .ok (.iload_n 2, 1) := by decide +kernel
theorem d_Score_allEvents_5 : decode prog_8_method_9_code 5 = .ok (.aload_n 0, 1) := by decide +kernel
theorem d_Score_allEvents_6 : decode prog_8_method_9_code 6 = .ok (.getfield 41, 3) := by decide +kernel
theorem d_Score_allEvents_9 : decode prog_8_method_9_code 9 = .ok (.if_icmp .ge 30, 3) := by decide +kernel
theorem d_Score_allEvents_39 : decode prog_8_method_9_code 39 = .ok (.iload_n 1, 1) := by decide +kernel
theorem d_Score_allEvents_40 : decode prog_8_method_9_code 40 = .ok (.ireturn, 1) := by decide +kernel
theorem d_Score_allEvents_12 : decode prog_8_method_9_code 12 = .ok (.aload_n 0, 1) := by decide +kernel
theorem d_Score_allEvents_13 : decode prog_8_method_9_code 13 = .ok (.iload_n 2, 1) := by decide +kernel
theorem d_Score_allEvents_14 : decode prog_8_method_9_code 14 = .ok (.invokevirtual 60, 3) := by decide +kernel
theorem l_Score_60 : ml_OK "PlainMusic$Score" 60 ⟨"PlainMusic$Score", "voiceAt", "(I)LPlainMusic$Voice;"⟩ := Or.inl (gw_in 1015 (by decide +kernel) (by decide +kernel))
theorem k_Score_voiceAt : mt_OK m_Score_voiceAt 1 1 := ⟨(gw_in 1018 (by decide +kernel) (by decide +kernel)), (gw_in 138 (by decide +kernel) (by decide +kernel)), ⟨by decide +kernel, by decide +kernel, by decide +kernel⟩, fun h => absurd h (by decide), fun _ => ⟨(gw_in 1016 (by decide +kernel) (by decide +kernel)), (gw_in 1017 (by decide +kernel) (by decide +kernel))⟩, fun h => absurd h (by decide)⟩
theorem d_Score_allEvents_17 : decode prog_8_method_9_code 17 = .ok (.astore_n 3, 1) := by decide +kernel
theorem d_Score_allEvents_18 : decode prog_8_method_9_code 18 = .ok (.iload_n 1, 1) := by decide +kernel
theorem d_Score_allEvents_19 : decode prog_8_method_9_code 19 = .ok (.aload_n 3, 1) := by decide +kernel
theorem d_Score_allEvents_20 : decode prog_8_method_9_code 20 = .ok (.ifnonnull 7, 3) := by decide +kernel
theorem d_Score_allEvents_23 : decode prog_8_method_9_code 23 = .ok (.iconst 0, 1) := by decide +kernel
theorem d_Score_allEvents_24 : decode prog_8_method_9_code 24 = .ok (.goto 7, 3) := by decide +kernel
theorem d_Score_allEvents_31 : decode prog_8_method_9_code 31 = .ok (.iadd, 1) := by decide +kernel
theorem d_Score_allEvents_32 : decode prog_8_method_9_code 32 = .ok (.istore_n 1, 1) := by decide +kernel
theorem d_Score_allEvents_33 : decode prog_8_method_9_code 33 = .ok (.iinc 2 1, 3) := by decide +kernel
theorem d_Score_allEvents_36 : decode prog_8_method_9_code 36 = .ok (.goto (-32), 3) := by decide +kernel
theorem d_Score_allEvents_27 : decode prog_8_method_9_code 27 = .ok (.aload_n 3, 1) := by decide +kernel
theorem d_Score_allEvents_28 : decode prog_8_method_9_code 28 = .ok (.getfield 64, 3) := by decide +kernel
theorem f_Score_64 : fl_OK "PlainMusic$Score" 64 10 14 .int false := ⟨_, rfl, by decide, (gw_in 304 (by decide +kernel) (by decide +kernel)), rfl, rfl⟩
def m_Score_mostBars : mr_T := (⟨"PlainMusic$Score", "mostBars", "()I"⟩, prog_8_method_10_code, 4, some .int)
theorem d_Score_mostBars_0 : decode prog_8_method_10_code 0 = .ok (.iconst 0, 1) := by decide +kernel
theorem d_Score_mostBars_1 : decode prog_8_method_10_code 1 = .ok (.istore_n 1, 1) := by decide +kernel
theorem d_Score_mostBars_2 : decode prog_8_method_10_code 2 = .ok (.iconst 0, 1) := by decide +kernel
theorem d_Score_mostBars_3 : decode prog_8_method_10_code 3 = .ok (.istore_n 2, 1) := by decide +kernel
theorem d_Score_mostBars_4 : decode prog_8_method_10_code 4 = .ok (.iload_n 2, 1) := by decide +kernel
theorem d_Score_mostBars_5 : decode prog_8_method_10_code 5 = .ok (.aload_n 0, 1) := by decide +kernel
theorem d_Score_mostBars_6 : decode prog_8_method_10_code 6 = .ok (.getfield 41, 3) := by decide +kernel
theorem d_Score_mostBars_9 : decode prog_8_method_10_code 9 = .ok (.if_icmp .ge 32, 3) := by decide +kernel
theorem d_Score_mostBars_41 : decode prog_8_method_10_code 41 = .ok (.iload_n 1, 1) := by decide +kernel
theorem d_Score_mostBars_42 : decode prog_8_method_10_code 42 = .ok (.ireturn, 1) := by decide +kernel
theorem d_Score_mostBars_12 : decode prog_8_method_10_code 12 = .ok (.aload_n 0, 1) := by decide +kernel
theorem d_Score_mostBars_13 : decode prog_8_method_10_code 13 = .ok (.iload_n 2, 1) := by decide +kernel
theorem d_Score_mostBars_14 : decode prog_8_method_10_code 14 = .ok (.invokevirtual 60, 3) := by decide +kernel
theorem d_Score_mostBars_17 : decode prog_8_method_10_code 17 = .ok (.astore_n 3, 1) := by decide +kernel
theorem d_Score_mostBars_18 : decode prog_8_method_10_code 18 = .ok (.iload_n 1, 1) := by decide +kernel
theorem d_Score_mostBars_19 : decode prog_8_method_10_code 19 = .ok (.aload_n 3, 1) := by decide +kernel
theorem d_Score_mostBars_20 : decode prog_8_method_10_code 20 = .ok (.ifnonnull 7, 3) := by decide +kernel
theorem d_Score_mostBars_23 : decode prog_8_method_10_code 23 = .ok (.iconst 0, 1) := by decide +kernel
theorem d_Score_mostBars_24 : decode prog_8_method_10_code 24 = .ok (.goto 7, 3) := by decide +kernel
theorem d_Score_mostBars_31 : decode prog_8_method_10_code 31 = .ok (.invokestatic 70, 3) := by decide +kernel
theorem ma_max : Cond.static Lib.Math.max.name ∈ gw ∧ Cond.initialized "java/lang/Math" ∈ gw ∧ Cond.code Lib.Math.max.name Lib.Math.max.code 2 (some .int) ∈ gw := ⟨(gw_in 771 (by decide +kernel) (by decide +kernel)), (gw_in 147 (by decide +kernel) (by decide +kernel)), (gw_in 772 (by decide +kernel) (by decide +kernel))⟩
theorem lm_Score_70 : Cond.methodLink "PlainMusic$Score" 70 Lib.Math.max.name ∈ gw := (gw_in 1032 (by decide +kernel) (by decide +kernel))
theorem d_Score_mostBars_34 : decode prog_8_method_10_code 34 = .ok (.istore_n 1, 1) := by decide +kernel
theorem d_Score_mostBars_35 : decode prog_8_method_10_code 35 = .ok (.iinc 2 1, 3) := by decide +kernel
theorem d_Score_mostBars_38 : decode prog_8_method_10_code 38 = .ok (.goto (-34), 3) := by decide +kernel
theorem d_Score_mostBars_27 : decode prog_8_method_10_code 27 = .ok (.aload_n 3, 1) := by decide +kernel
theorem d_Score_mostBars_28 : decode prog_8_method_10_code 28 = .ok (.getfield 67, 3) := by decide +kernel
theorem f_Score_67 : fl_OK "PlainMusic$Score" 67 10 16 .int false := ⟨_, rfl, by decide, (gw_in 313 (by decide +kernel) (by decide +kernel)), rfl, rfl⟩
def m_Tokens_isSmall : mr_T := (⟨"PlainMusic$Tokens", "isSmall", "(I)Z"⟩, prog_10_method_12_code, 1, some .boolean)
theorem d_Tokens_isSmall_0 : decode prog_10_method_12_code 0 = .ok (.iload_n 0, 1) := by decide +kernel
theorem d_Tokens_isSmall_1 : decode prog_10_method_12_code 1 = .ok (.bipush 97, 2) := by decide +kernel
theorem d_Tokens_isSmall_3 : decode prog_10_method_12_code 3 = .ok (.if_icmp .lt 13, 3) := by decide +kernel
theorem d_Tokens_isSmall_16 : decode prog_10_method_12_code 16 = .ok (.iconst 0, 1) := by decide +kernel
theorem d_Tokens_isSmall_17 : decode prog_10_method_12_code 17 = .ok (.ireturn, 1) := by decide +kernel
theorem d_Tokens_isSmall_6 : decode prog_10_method_12_code 6 = .ok (.iload_n 0, 1) := by decide +kernel
theorem d_Tokens_isSmall_7 : decode prog_10_method_12_code 7 = .ok (.bipush 122, 2) := by decide +kernel
theorem d_Tokens_isSmall_9 : decode prog_10_method_12_code 9 = .ok (.if_icmp .gt 7, 3) := by decide +kernel
theorem d_Tokens_isSmall_12 : decode prog_10_method_12_code 12 = .ok (.iconst 1, 1) := by decide +kernel
theorem d_Tokens_isSmall_13 : decode prog_10_method_12_code 13 = .ok (.goto 4, 3) := by decide +kernel
def m_Tokens_isDigit : mr_T := (⟨"PlainMusic$Tokens", "isDigit", "(I)Z"⟩, prog_10_method_13_code, 1, some .boolean)
theorem d_Tokens_isDigit_0 : decode prog_10_method_13_code 0 = .ok (.iload_n 0, 1) := by decide +kernel
theorem d_Tokens_isDigit_1 : decode prog_10_method_13_code 1 = .ok (.bipush 48, 2) := by decide +kernel
theorem d_Tokens_isDigit_3 : decode prog_10_method_13_code 3 = .ok (.if_icmp .lt 13, 3) := by decide +kernel
theorem d_Tokens_isDigit_16 : decode prog_10_method_13_code 16 = .ok (.iconst 0, 1) := by decide +kernel
theorem d_Tokens_isDigit_17 : decode prog_10_method_13_code 17 = .ok (.ireturn, 1) := by decide +kernel
theorem d_Tokens_isDigit_6 : decode prog_10_method_13_code 6 = .ok (.iload_n 0, 1) := by decide +kernel
theorem d_Tokens_isDigit_7 : decode prog_10_method_13_code 7 = .ok (.bipush 57, 2) := by decide +kernel
theorem d_Tokens_isDigit_9 : decode prog_10_method_13_code 9 = .ok (.if_icmp .gt 7, 3) := by decide +kernel
theorem d_Tokens_isDigit_12 : decode prog_10_method_13_code 12 = .ok (.iconst 1, 1) := by decide +kernel
theorem d_Tokens_isDigit_13 : decode prog_10_method_13_code 13 = .ok (.goto 4, 3) := by decide +kernel
def m_Tokens_byteAt : mr_T := (⟨"PlainMusic$Tokens", "byteAt", "(I)I"⟩, prog_10_method_5_code, 2, some .int)
theorem d_Tokens_byteAt_0 : decode prog_10_method_5_code 0 = .ok (.iload_n 1, 1) := by decide +kernel
theorem d_Tokens_byteAt_1 : decode prog_10_method_5_code 1 = .ok (.ifCond .lt 29, 3) := by decide +kernel
theorem d_Tokens_byteAt_30 : decode prog_10_method_5_code 30 = .ok (.iconst (-1), 1) := by decide +kernel
theorem d_Tokens_byteAt_31 : decode prog_10_method_5_code 31 = .ok (.ireturn, 1) := by decide +kernel
theorem d_Tokens_byteAt_4 : decode prog_10_method_5_code 4 = .ok (.iload_n 1, 1) := by decide +kernel
theorem d_Tokens_byteAt_5 : decode prog_10_method_5_code 5 = .ok (.aload_n 0, 1) := by decide +kernel
theorem d_Tokens_byteAt_6 : decode prog_10_method_5_code 6 = .ok (.getfield 34, 3) := by decide +kernel
theorem f_Tokens_34 : fl_OK "PlainMusic$Tokens" 34 8 7 .int false := ⟨_, rfl, by decide, (gw_in 182 (by decide +kernel) (by decide +kernel)), rfl, rfl⟩
theorem sf_3 : sh_L[3]? = some (8 + 4, 13) := by decide +kernel
theorem rgf_3_7 : rg 3 7 = (0, 2000) := by decide +kernel
theorem d_Tokens_byteAt_9 : decode prog_10_method_5_code 9 = .ok (.if_icmp .ge 21, 3) := by decide +kernel
theorem d_Tokens_byteAt_12 : decode prog_10_method_5_code 12 = .ok (.iload_n 1, 1) := by decide +kernel
theorem d_Tokens_byteAt_13 : decode prog_10_method_5_code 13 = .ok (.aload_n 0, 1) := by decide +kernel
theorem d_Tokens_byteAt_14 : decode prog_10_method_5_code 14 = .ok (.getfield 25, 3) := by decide +kernel
theorem d_Tokens_byteAt_17 : decode prog_10_method_5_code 17 = .ok (.arraylength, 1) := by decide +kernel
theorem sf_8 : sh_L[8]? = some (0, 0) := by decide +kernel
theorem d_Tokens_byteAt_18 : decode prog_10_method_5_code 18 = .ok (.if_icmp .ge 12, 3) := by decide +kernel
theorem sf_1 : sh_L[1]? = some (0, 2000) := by decide +kernel
theorem d_Tokens_byteAt_21 : decode prog_10_method_5_code 21 = .ok (.aload_n 0, 1) := by decide +kernel
theorem d_Tokens_byteAt_22 : decode prog_10_method_5_code 22 = .ok (.getfield 25, 3) := by decide +kernel
theorem d_Tokens_byteAt_25 : decode prog_10_method_5_code 25 = .ok (.iload_n 1, 1) := by decide +kernel
theorem d_Tokens_byteAt_26 : decode prog_10_method_5_code 26 = .ok (.iaload, 1) := by decide +kernel
theorem rgf_8 (k : Nat) : rg 8 k = ((-2147483648), 2147483647) := rfl
theorem d_Tokens_byteAt_27 : decode prog_10_method_5_code 27 = .ok (.goto 4, 3) := by decide +kernel
theorem rgf_1 (k : Nat) : rg 1 k = ((-2147483648), 2147483647) := rfl
def m_Tokens_skipBlanks : mr_T := (⟨"PlainMusic$Tokens", "skipBlanks", "()V"⟩, prog_10_method_6_code, 3, none)
theorem d_Tokens_skipBlanks_0 : decode prog_10_method_6_code 0 = .ok (.iconst 0, 1) := by decide +kernel
theorem d_Tokens_skipBlanks_1 : decode prog_10_method_6_code 1 = .ok (.istore_n 1, 1) := by decide +kernel
theorem d_Tokens_skipBlanks_2 : decode prog_10_method_6_code 2 = .ok (.aload_n 0, 1) := by decide +kernel
theorem d_Tokens_skipBlanks_3 : decode prog_10_method_6_code 3 = .ok (.getfield 38, 3) := by decide +kernel
theorem f_Tokens_38 : fl_OK "PlainMusic$Tokens" 38 8 8 .int false := ⟨_, rfl, by decide, (gw_in 183 (by decide +kernel) (by decide +kernel)), rfl, rfl⟩
theorem rgf_3_8 : rg 3 8 = (0, 2000) := by decide +kernel
theorem d_Tokens_skipBlanks_6 : decode prog_10_method_6_code 6 = .ok (.aload_n 0, 1) := by decide +kernel
theorem d_Tokens_skipBlanks_7 : decode prog_10_method_6_code 7 = .ok (.getfield 34, 3) := by decide +kernel
theorem d_Tokens_skipBlanks_10 : decode prog_10_method_6_code 10 = .ok (.if_icmp .ge 70, 3) := by decide +kernel
theorem d_Tokens_skipBlanks_80 : decode prog_10_method_6_code 80 = .ok (.return_, 1) := by decide +kernel
theorem d_Tokens_skipBlanks_13 : decode prog_10_method_6_code 13 = .ok (.aload_n 0, 1) := by decide +kernel
theorem d_Tokens_skipBlanks_14 : decode prog_10_method_6_code 14 = .ok (.aload_n 0, 1) := by decide +kernel
theorem d_Tokens_skipBlanks_15 : decode prog_10_method_6_code 15 = .ok (.getfield 38, 3) := by decide +kernel
theorem d_Tokens_skipBlanks_18 : decode prog_10_method_6_code 18 = .ok (.invokevirtual 70, 3) := by decide +kernel
theorem l_Tokens_70 : ml_OK "PlainMusic$Tokens" 70 ⟨"PlainMusic$Tokens", "byteAt", "(I)I"⟩ := Or.inl (gw_in 667 (by decide +kernel) (by decide +kernel))
theorem k_Tokens_byteAt : mt_OK m_Tokens_byteAt 1 1 := ⟨(gw_in 670 (by decide +kernel) (by decide +kernel)), (gw_in 136 (by decide +kernel) (by decide +kernel)), ⟨by decide +kernel, by decide +kernel, by decide +kernel⟩, fun h => absurd h (by decide), fun _ => ⟨(gw_in 669 (by decide +kernel) (by decide +kernel)), (gw_in 3 (by decide +kernel) (by decide +kernel))⟩, fun h => absurd h (by decide)⟩
theorem d_Tokens_skipBlanks_21 : decode prog_10_method_6_code 21 = .ok (.istore_n 2, 1) := by decide +kernel
theorem d_Tokens_skipBlanks_22 : decode prog_10_method_6_code 22 = .ok (.iload_n 2, 1) := by decide +kernel
theorem d_Tokens_skipBlanks_23 : decode prog_10_method_6_code 23 = .ok (.bipush 10, 2) := by decide +kernel
theorem d_Tokens_skipBlanks_25 : decode prog_10_method_6_code 25 = .ok (.if_icmp .ne 8, 3) := by decide +kernel
theorem d_Tokens_skipBlanks_33 : decode prog_10_method_6_code 33 = .ok (.iload_n 2, 1) := by decide +kernel
theorem d_Tokens_skipBlanks_34 : decode prog_10_method_6_code 34 = .ok (.bipush 37, 2) := by decide +kernel
theorem d_Tokens_skipBlanks_36 : decode prog_10_method_6_code 36 = .ok (.if_icmp .ne 8, 3) := by decide +kernel
theorem d_Tokens_skipBlanks_44 : decode prog_10_method_6_code 44 = .ok (.iload_n 1, 1) := by decide +kernel
theorem d_Tokens_skipBlanks_45 : decode prog_10_method_6_code 45 = .ok (.ifCond .ne 22, 3) := by decide +kernel
theorem d_Tokens_skipBlanks_48 : decode prog_10_method_6_code 48 = .ok (.iload_n 2, 1) := by decide +kernel
theorem d_Tokens_skipBlanks_49 : decode prog_10_method_6_code 49 = .ok (.bipush 9, 2) := by decide +kernel
theorem d_Tokens_skipBlanks_51 : decode prog_10_method_6_code 51 = .ok (.if_icmp .eq 16, 3) := by decide +kernel
theorem d_Tokens_skipBlanks_67 : decode prog_10_method_6_code 67 = .ok (.aload_n 0, 1) := by decide +kernel
theorem d_Tokens_skipBlanks_68 : decode prog_10_method_6_code 68 = .ok (.dup, 1) := by decide +kernel
theorem d_Tokens_skipBlanks_69 : decode prog_10_method_6_code 69 = .ok (.getfield 38, 3) := by decide +kernel
theorem d_Tokens_skipBlanks_72 : decode prog_10_method_6_code 72 = .ok (.iconst 1, 1) := by decide +kernel
theorem d_Tokens_skipBlanks_73 : decode prog_10_method_6_code 73 = .ok (.iadd, 1) := by decide +kernel
theorem d_Tokens_skipBlanks_74 : decode prog_10_method_6_code 74 = .ok (.putfield 38, 3) := by decide +kernel
theorem d_Tokens_skipBlanks_77 : decode prog_10_method_6_code 77 = .ok (.goto (-75), 3) := by decide +kernel
theorem d_Tokens_skipBlanks_54 : decode prog_10_method_6_code 54 = .ok (.iload_n 2, 1) := by decide +kernel
theorem d_Tokens_skipBlanks_55 : decode prog_10_method_6_code 55 = .ok (.bipush 13, 2) := by decide +kernel
theorem d_Tokens_skipBlanks_57 : decode prog_10_method_6_code 57 = .ok (.if_icmp .eq 10, 3) := by decide +kernel
theorem d_Tokens_skipBlanks_60 : decode prog_10_method_6_code 60 = .ok (.iload_n 2, 1) := by decide +kernel
theorem d_Tokens_skipBlanks_61 : decode prog_10_method_6_code 61 = .ok (.bipush 32, 2) := by decide +kernel
theorem d_Tokens_skipBlanks_63 : decode prog_10_method_6_code 63 = .ok (.if_icmp .eq 4, 3) := by decide +kernel
theorem d_Tokens_skipBlanks_66 : decode prog_10_method_6_code 66 = .ok (.return_, 1) := by decide +kernel
theorem d_Tokens_skipBlanks_39 : decode prog_10_method_6_code 39 = .ok (.iconst 1, 1) := by decide +kernel
theorem d_Tokens_skipBlanks_40 : decode prog_10_method_6_code 40 = .ok (.istore_n 1, 1) := by decide +kernel
theorem d_Tokens_skipBlanks_41 : decode prog_10_method_6_code 41 = .ok (.goto 26, 3) := by decide +kernel
theorem d_Tokens_skipBlanks_28 : decode prog_10_method_6_code 28 = .ok (.iconst 0, 1) := by decide +kernel
theorem d_Tokens_skipBlanks_29 : decode prog_10_method_6_code 29 = .ok (.istore_n 1, 1) := by decide +kernel
theorem d_Tokens_skipBlanks_30 : decode prog_10_method_6_code 30 = .ok (.goto 37, 3) := by decide +kernel
def m_Tokens_cutPitch : mr_T := (⟨"PlainMusic$Tokens", "cutPitch", "(I)V"⟩, prog_10_method_7_code, 7, none)
theorem d_Tokens_cutPitch_0 : decode prog_10_method_7_code 0 = .ok (.aload_n 0, 1) := by decide +kernel
theorem d_Tokens_cutPitch_1 : decode prog_10_method_7_code 1 = .ok (.getfield 38, 3) := by decide +kernel
theorem d_Tokens_cutPitch_4 : decode prog_10_method_7_code 4 = .ok (.iconst 1, 1) := by decide +kernel
theorem d_Tokens_cutPitch_5 : decode prog_10_method_7_code 5 = .ok (.iadd, 1) := by decide +kernel
theorem d_Tokens_cutPitch_6 : decode prog_10_method_7_code 6 = .ok (.istore_n 2, 1) := by decide +kernel
theorem d_Tokens_cutPitch_7 : decode prog_10_method_7_code 7 = .ok (.iconst 0, 1) := by decide +kernel
theorem d_Tokens_cutPitch_8 : decode prog_10_method_7_code 8 = .ok (.istore_n 3, 1) := by decide +kernel
theorem d_Tokens_cutPitch_9 : decode prog_10_method_7_code 9 = .ok (.aload_n 0, 1) := by decide +kernel
theorem d_Tokens_cutPitch_10 : decode prog_10_method_7_code 10 = .ok (.iload_n 2, 1) := by decide +kernel
theorem d_Tokens_cutPitch_11 : decode prog_10_method_7_code 11 = .ok (.invokevirtual 70, 3) := by decide +kernel
theorem d_Tokens_cutPitch_14 : decode prog_10_method_7_code 14 = .ok (.istore 4, 2) := by decide +kernel
theorem d_Tokens_cutPitch_16 : decode prog_10_method_7_code 16 = .ok (.iload 4, 2) := by decide +kernel
theorem d_Tokens_cutPitch_18 : decode prog_10_method_7_code 18 = .ok (.bipush 35, 2) := by decide +kernel
theorem d_Tokens_cutPitch_20 : decode prog_10_method_7_code 20 = .ok (.if_icmp .eq 10, 3) := by decide +kernel
theorem d_Tokens_cutPitch_30 : decode prog_10_method_7_code 30 = .ok (.aload_n 0, 1) := by decide +kernel
theorem d_Tokens_cutPitch_31 : decode prog_10_method_7_code 31 = .ok (.iload_n 2, 1) := by decide +kernel
theorem d_Tokens_cutPitch_32 : decode prog_10_method_7_code 32 = .ok (.iconst 1, 1) := by decide +kernel
theorem d_Tokens_cutPitch_33 : decode prog_10_method_7_code 33 = .ok (.iadd, 1) := by decide +kernel
theorem d_Tokens_cutPitch_34 : decode prog_10_method_7_code 34 = .ok (.invokevirtual 70, 3) := by decide +kernel
theorem d_Tokens_cutPitch_37 : decode prog_10_method_7_code 37 = .ok (.iload 4, 2) := by decide +kernel
theorem d_Tokens_cutPitch_39 : decode prog_10_method_7_code 39 = .ok (.if_icmp .ne 7, 3) := by decide +kernel
theorem d_Tokens_cutPitch_46 : decode prog_10_method_7_code 46 = .ok (.iconst 1, 1) := by decide +kernel
theorem d_Tokens_cutPitch_47 : decode prog_10_method_7_code 47 = .ok (.istore_n 3, 1) := by decide +kernel
theorem d_Tokens_cutPitch_48 : decode prog_10_method_7_code 48 = .ok (.iload_n 2, 1) := by decide +kernel
theorem d_Tokens_cutPitch_49 : decode prog_10_method_7_code 49 = .ok (.iload_n 3, 1) := by decide +kernel
theorem d_Tokens_cutPitch_50 : decode prog_10_method_7_code 50 = .ok (.iadd, 1) := by decide +kernel
theorem d_Tokens_cutPitch_51 : decode prog_10_method_7_code 51 = .ok (.istore_n 2, 1) := by decide +kernel
theorem d_Tokens_cutPitch_52 : decode prog_10_method_7_code 52 = .ok (.aload_n 0, 1) := by decide +kernel
theorem d_Tokens_cutPitch_53 : decode prog_10_method_7_code 53 = .ok (.iload_n 2, 1) := by decide +kernel
theorem d_Tokens_cutPitch_54 : decode prog_10_method_7_code 54 = .ok (.invokevirtual 70, 3) := by decide +kernel
theorem d_Tokens_cutPitch_57 : decode prog_10_method_7_code 57 = .ok (.bipush 48, 2) := by decide +kernel
theorem d_Tokens_cutPitch_59 : decode prog_10_method_7_code 59 = .ok (.isub, 1) := by decide +kernel
theorem d_Tokens_cutPitch_60 : decode prog_10_method_7_code 60 = .ok (.istore 5, 2) := by decide +kernel
theorem d_Tokens_cutPitch_62 : decode prog_10_method_7_code 62 = .ok (.iload 5, 2) := by decide +kernel
theorem d_Tokens_cutPitch_64 : decode prog_10_method_7_code 64 = .ok (.ifCond .lt 10, 3) := by decide +kernel
theorem d_Tokens_cutPitch_74 : decode prog_10_method_7_code 74 = .ok (.aload_n 0, 1) := by decide +kernel
theorem d_Tokens_cutPitch_75 : decode prog_10_method_7_code 75 = .ok (.sipush 257, 3) := by decide +kernel
theorem d_Tokens_cutPitch_78 : decode prog_10_method_7_code 78 = .ok (.putfield 54, 3) := by decide +kernel
theorem f_Tokens_54 : fl_OK "PlainMusic$Tokens" 54 8 9 .int false := ⟨_, rfl, by decide, (gw_in 185 (by decide +kernel) (by decide +kernel)), rfl, rfl⟩
theorem rgf_3_9 : rg 3 9 = ((-2147483648), 2147483647) := by decide +kernel
theorem d_Tokens_cutPitch_81 : decode prog_10_method_7_code 81 = .ok (.return_, 1) := by decide +kernel
theorem d_Tokens_cutPitch_67 : decode prog_10_method_7_code 67 = .ok (.iload 5, 2) := by decide +kernel
theorem d_Tokens_cutPitch_69 : decode prog_10_method_7_code 69 = .ok (.bipush 8, 2) := by decide +kernel
theorem d_Tokens_cutPitch_71 : decode prog_10_method_7_code 71 = .ok (.if_icmp .le 11, 3) := by decide +kernel
theorem d_Tokens_cutPitch_82 : decode prog_10_method_7_code 82 = .ok (.iload_n 1, 1) := by decide +kernel
theorem d_Tokens_cutPitch_83 : decode prog_10_method_7_code 83 = .ok (.bipush 67, 2) := by decide +kernel
theorem d_Tokens_cutPitch_85 : decode prog_10_method_7_code 85 = .ok (.isub, 1) := by decide +kernel
theorem d_Tokens_cutPitch_86 : decode prog_10_method_7_code 86 = .ok (.getstatic 98, 3) := by decide +kernel
def m_Tokens_cutName : mr_T := (⟨"PlainMusic$Tokens", "cutName", "()V"⟩, prog_10_method_8_code, 4, none)
theorem d_Tokens_cutName_0 : decode prog_10_method_8_code 0 = .ok (.aload_n 0, 1) := by decide +kernel
theorem d_Tokens_cutName_1 : decode prog_10_method_8_code 1 = .ok (.getfield 38, 3) := by decide +kernel
theorem d_Tokens_cutName_4 : decode prog_10_method_8_code 4 = .ok (.istore_n 1, 1) := by decide +kernel
theorem d_Tokens_cutName_5 : decode prog_10_method_8_code 5 = .ok (.lconst 0, 1) := by decide +kernel
theorem d_Tokens_cutName_6 : decode prog_10_method_8_code 6 = .ok (.lstore_n 2, 1) := by decide +kernel
theorem d_Tokens_cutName_7 : decode prog_10_method_8_code 7 = .ok (.aload_n 0, 1) := by decide +kernel
theorem d_Tokens_cutName_8 : decode prog_10_method_8_code 8 = .ok (.getfield 38, 3) := by decide +kernel
theorem d_Tokens_cutName_11 : decode prog_10_method_8_code 11 = .ok (.aload_n 0, 1) := by decide +kernel
theorem d_Tokens_cutName_12 : decode prog_10_method_8_code 12 = .ok (.getfield 34, 3) := by decide +kernel
theorem d_Tokens_cutName_15 : decode prog_10_method_8_code 15 = .ok (.if_icmp .ge 45, 3) := by decide +kernel
theorem d_Tokens_cutName_60 : decode prog_10_method_8_code 60 = .ok (.aload_n 0, 1) := by decide +kernel
theorem d_Tokens_cutName_61 : decode prog_10_method_8_code 61 = .ok (.lload_n 2, 1) := by decide +kernel
theorem d_Tokens_cutName_62 : decode prog_10_method_8_code 62 = .ok (.putfield 60, 3) := by decide +kernel
theorem f_Tokens_60 : fl_OK "PlainMusic$Tokens" 60 8 11 .long false := ⟨_, rfl, by decide, (gw_in 188 (by decide +kernel) (by decide +kernel)), rfl, rfl⟩
theorem d_Tokens_cutName_65 : decode prog_10_method_8_code 65 = .ok (.aload_n 0, 1) := by decide +kernel
theorem d_Tokens_cutName_66 : decode prog_10_method_8_code 66 = .ok (.aload_n 0, 1) := by decide +kernel
theorem d_Tokens_cutName_67 : decode prog_10_method_8_code 67 = .ok (.getfield 38, 3) := by decide +kernel
theorem d_Tokens_cutName_70 : decode prog_10_method_8_code 70 = .ok (.iload_n 1, 1) := by decide +kernel
theorem d_Tokens_cutName_71 : decode prog_10_method_8_code 71 = .ok (.isub, 1) := by decide +kernel
theorem d_Tokens_cutName_72 : decode prog_10_method_8_code 72 = .ok (.bipush 8, 2) := by decide +kernel
theorem d_Tokens_cutName_74 : decode prog_10_method_8_code 74 = .ok (.if_icmp .le 9, 3) := by decide +kernel
theorem d_Tokens_cutName_83 : decode prog_10_method_8_code 83 = .ok (.lload_n 2, 1) := by decide +kernel
theorem d_Tokens_cutName_84 : decode prog_10_method_8_code 84 = .ok (.invokestatic 104, 3) := by decide +kernel
def m_Tokens_cutNumber : mr_T := (⟨"PlainMusic$Tokens", "cutNumber", "()V"⟩, prog_10_method_11_code, 3, none)
theorem d_Tokens_cutNumber_0 : decode prog_10_method_11_code 0 = .ok (.aload_n 0, 1) := by decide +kernel
theorem d_Tokens_cutNumber_1 : decode prog_10_method_11_code 1 = .ok (.getfield 38, 3) := by decide +kernel
theorem d_Tokens_cutNumber_4 : decode prog_10_method_11_code 4 = .ok (.istore_n 1, 1) := by decide +kernel
theorem d_Tokens_cutNumber_5 : decode prog_10_method_11_code 5 = .ok (.iconst 0, 1) := by decide +kernel
theorem d_Tokens_cutNumber_6 : decode prog_10_method_11_code 6 = .ok (.istore_n 2, 1) := by decide +kernel
theorem d_Tokens_cutNumber_7 : decode prog_10_method_11_code 7 = .ok (.aload_n 0, 1) := by decide +kernel
theorem d_Tokens_cutNumber_8 : decode prog_10_method_11_code 8 = .ok (.getfield 38, 3) := by decide +kernel
theorem d_Tokens_cutNumber_11 : decode prog_10_method_11_code 11 = .ok (.aload_n 0, 1) := by decide +kernel
theorem d_Tokens_cutNumber_12 : decode prog_10_method_11_code 12 = .ok (.getfield 34, 3) := by decide +kernel
theorem d_Tokens_cutNumber_15 : decode prog_10_method_11_code 15 = .ok (.if_icmp .ge 47, 3) := by decide +kernel
theorem d_Tokens_cutNumber_62 : decode prog_10_method_11_code 62 = .ok (.aload_n 0, 1) := by decide +kernel
theorem d_Tokens_cutNumber_63 : decode prog_10_method_11_code 63 = .ok (.iload_n 2, 1) := by decide +kernel
theorem d_Tokens_cutNumber_64 : decode prog_10_method_11_code 64 = .ok (.i2l, 1) := by decide +kernel
theorem d_Tokens_cutNumber_65 : decode prog_10_method_11_code 65 = .ok (.putfield 60, 3) := by decide +kernel
theorem d_Tokens_cutNumber_68 : decode prog_10_method_11_code 68 = .ok (.aload_n 0, 1) := by decide +kernel
theorem d_Tokens_cutNumber_69 : decode prog_10_method_11_code 69 = .ok (.aload_n 0, 1) := by decide +kernel
theorem d_Tokens_cutNumber_70 : decode prog_10_method_11_code 70 = .ok (.getfield 38, 3) := by decide +kernel
theorem d_Tokens_cutNumber_73 : decode prog_10_method_11_code 73 = .ok (.iload_n 1, 1) := by decide +kernel
theorem d_Tokens_cutNumber_74 : decode prog_10_method_11_code 74 = .ok (.isub, 1) := by decide +kernel
theorem d_Tokens_cutNumber_75 : decode prog_10_method_11_code 75 = .ok (.iconst 4, 1) := by decide +kernel
theorem d_Tokens_cutNumber_76 : decode prog_10_method_11_code 76 = .ok (.if_icmp .le 9, 3) := by decide +kernel
theorem d_Tokens_cutNumber_85 : decode prog_10_method_11_code 85 = .ok (.sipush 259, 3) := by decide +kernel
theorem d_Tokens_cutNumber_88 : decode prog_10_method_11_code 88 = .ok (.putfield 54, 3) := by decide +kernel
theorem d_Tokens_cutNumber_91 : decode prog_10_method_11_code 91 = .ok (.return_, 1) := by decide +kernel
theorem d_Tokens_cutNumber_79 : decode prog_10_method_11_code 79 = .ok (.sipush 257, 3) := by decide +kernel
theorem d_Tokens_cutNumber_82 : decode prog_10_method_11_code 82 = .ok (.goto 6, 3) := by decide +kernel
theorem d_Tokens_cutNumber_18 : decode prog_10_method_11_code 18 = .ok (.aload_n 0, 1) := by decide +kernel
theorem d_Tokens_cutNumber_19 : decode prog_10_method_11_code 19 = .ok (.aload_n 0, 1) := by decide +kernel
theorem d_Tokens_cutNumber_20 : decode prog_10_method_11_code 20 = .ok (.getfield 38, 3) := by decide +kernel
theorem d_Tokens_cutNumber_23 : decode prog_10_method_11_code 23 = .ok (.invokevirtual 70, 3) := by decide +kernel
theorem d_Tokens_cutNumber_26 : decode prog_10_method_11_code 26 = .ok (.invokestatic 85, 3) := by decide +kernel
theorem l_Tokens_85 : ml_OK "PlainMusic$Tokens" 85 ⟨"PlainMusic$Tokens", "isDigit", "(I)Z"⟩ := Or.inl (gw_in 747 (by decide +kernel) (by decide +kernel))
theorem k_Tokens_isDigit : mt_OK m_Tokens_isDigit 1 0 := ⟨(gw_in 749 (by decide +kernel) (by decide +kernel)), (gw_in 136 (by decide +kernel) (by decide +kernel)), ⟨by decide +kernel, by decide +kernel, by decide +kernel⟩, fun _ => (gw_in 748 (by decide +kernel) (by decide +kernel)), fun h => absurd h (by decide), fun h => absurd h (by decide)⟩
theorem d_Tokens_cutNumber_29 : decode prog_10_method_11_code 29 = .ok (.ifCond .eq 33, 3) := by decide +kernel
theorem d_Tokens_cutNumber_32 : decode prog_10_method_11_code 32 = .ok (.iload_n 2, 1) := by decide +kernel
theorem d_Tokens_cutNumber_33 : decode prog_10_method_11_code 33 = .ok (.bipush 10, 2) := by decide +kernel
theorem d_Tokens_cutNumber_35 : decode prog_10_method_11_code 35 = .ok (.imul, 1) := by decide +kernel
theorem d_Tokens_cutNumber_36 : decode prog_10_method_11_code 36 = .ok (.aload_n 0, 1) := by decide +kernel
theorem d_Tokens_cutNumber_37 : decode prog_10_method_11_code 37 = .ok (.aload_n 0, 1) := by decide +kernel
theorem d_Tokens_cutNumber_38 : decode prog_10_method_11_code 38 = .ok (.getfield 38, 3) := by decide +kernel
theorem d_Tokens_cutNumber_41 : decode prog_10_method_11_code 41 = .ok (.invokevirtual 70, 3) := by decide +kernel
theorem d_Tokens_cutNumber_44 : decode prog_10_method_11_code 44 = .ok (.iadd, 1) := by decide +kernel
theorem d_Tokens_cutNumber_45 : decode prog_10_method_11_code 45 = .ok (.bipush 48, 2) := by decide +kernel
theorem d_Tokens_cutNumber_47 : decode prog_10_method_11_code 47 = .ok (.isub, 1) := by decide +kernel
theorem d_Tokens_cutNumber_48 : decode prog_10_method_11_code 48 = .ok (.istore_n 2, 1) := by decide +kernel
theorem d_Tokens_cutNumber_49 : decode prog_10_method_11_code 49 = .ok (.aload_n 0, 1) := by decide +kernel
theorem d_Tokens_cutNumber_50 : decode prog_10_method_11_code 50 = .ok (.dup, 1) := by decide +kernel
theorem d_Tokens_cutNumber_51 : decode prog_10_method_11_code 51 = .ok (.getfield 38, 3) := by decide +kernel
theorem d_Tokens_cutNumber_54 : decode prog_10_method_11_code 54 = .ok (.iconst 1, 1) := by decide +kernel
theorem d_Tokens_cutNumber_55 : decode prog_10_method_11_code 55 = .ok (.iadd, 1) := by decide +kernel
theorem d_Tokens_cutNumber_56 : decode prog_10_method_11_code 56 = .ok (.putfield 38, 3) := by decide +kernel
theorem d_Tokens_cutNumber_59 : decode prog_10_method_11_code 59 = .ok (.goto (-52), 3) := by decide +kernel
def m_Tokens_next : mr_T := (⟨"PlainMusic$Tokens", "next", "()V"⟩, prog_10_method_3_code, 1, none)
theorem d_Tokens_next_0 : decode prog_10_method_3_code 0 = .ok (.aload_n 0, 1) := by decide +kernel
theorem d_Tokens_next_1 : decode prog_10_method_3_code 1 = .ok (.getfield 48, 3) := by decide +kernel
theorem f_Tokens_48 : fl_OK "PlainMusic$Tokens" 48 8 5 .int false := ⟨_, rfl, by decide, (gw_in 180 (by decide +kernel) (by decide +kernel)), rfl, rfl⟩
theorem rgf_3_5 : rg 3 5 = ((-1), 2000) := by decide +kernel
theorem d_Tokens_next_4 : decode prog_10_method_3_code 4 = .ok (.iconst 1, 1) := by decide +kernel
theorem d_Tokens_next_5 : decode prog_10_method_3_code 5 = .ok (.iadd, 1) := by decide +kernel
theorem d_Tokens_next_6 : decode prog_10_method_3_code 6 = .ok (.aload_n 0, 1) := by decide +kernel
theorem d_Tokens_next_7 : decode prog_10_method_3_code 7 = .ok (.getfield 41, 3) := by decide +kernel
theorem f_Tokens_41 : fl_OK "PlainMusic$Tokens" 41 8 4 .int false := ⟨_, rfl, by decide, (gw_in 179 (by decide +kernel) (by decide +kernel)), rfl, rfl⟩
theorem rgf_3_4 : rg 3 4 = (0, 2001) := by decide +kernel
theorem d_Tokens_next_10 : decode prog_10_method_3_code 10 = .ok (.if_icmp .ge 79, 3) := by decide +kernel
theorem d_Tokens_next_89 : decode prog_10_method_3_code 89 = .ok (.return_, 1) := by decide +kernel
theorem d_Tokens_next_13 : decode prog_10_method_3_code 13 = .ok (.aload_n 0, 1) := by decide +kernel
theorem d_Tokens_next_14 : decode prog_10_method_3_code 14 = .ok (.getfield 48, 3) := by decide +kernel
theorem d_Tokens_next_17 : decode prog_10_method_3_code 17 = .ok (.iconst 1, 1) := by decide +kernel
theorem d_Tokens_next_18 : decode prog_10_method_3_code 18 = .ok (.iadd, 1) := by decide +kernel
theorem d_Tokens_next_19 : decode prog_10_method_3_code 19 = .ok (.aload_n 0, 1) := by decide +kernel
theorem d_Tokens_next_20 : decode prog_10_method_3_code 20 = .ok (.getfield 9, 3) := by decide +kernel
theorem rff_3_0 : (3, 0, 4) ∈ rf_L := by decide +kernel
theorem d_Tokens_next_23 : decode prog_10_method_3_code 23 = .ok (.arraylength, 1) := by decide +kernel
theorem sf_4 : sh_L[4]? = some (0, 2001) := by decide +kernel
theorem d_Tokens_next_24 : decode prog_10_method_3_code 24 = .ok (.if_icmp .ge 65, 3) := by decide +kernel
theorem d_Tokens_next_27 : decode prog_10_method_3_code 27 = .ok (.aload_n 0, 1) := by decide +kernel
theorem d_Tokens_next_28 : decode prog_10_method_3_code 28 = .ok (.dup, 1) := by decide +kernel
theorem d_Tokens_next_29 : decode prog_10_method_3_code 29 = .ok (.getfield 48, 3) := by decide +kernel
theorem d_Tokens_next_32 : decode prog_10_method_3_code 32 = .ok (.iconst 1, 1) := by decide +kernel
theorem d_Tokens_next_33 : decode prog_10_method_3_code 33 = .ok (.iadd, 1) := by decide +kernel
theorem d_Tokens_next_34 : decode prog_10_method_3_code 34 = .ok (.putfield 48, 3) := by decide +kernel
theorem d_Tokens_next_37 : decode prog_10_method_3_code 37 = .ok (.aload_n 0, 1) := by decide +kernel
theorem d_Tokens_next_38 : decode prog_10_method_3_code 38 = .ok (.aload_n 0, 1) := by decide +kernel
theorem d_Tokens_next_39 : decode prog_10_method_3_code 39 = .ok (.getfield 9, 3) := by decide +kernel
theorem d_Tokens_next_42 : decode prog_10_method_3_code 42 = .ok (.aload_n 0, 1) := by decide +kernel
theorem d_Tokens_next_43 : decode prog_10_method_3_code 43 = .ok (.getfield 48, 3) := by decide +kernel
theorem d_Tokens_next_46 : decode prog_10_method_3_code 46 = .ok (.iaload, 1) := by decide +kernel
theorem rgf_4 (k : Nat) : rg 4 k = ((-2147483648), 2147483647) := rfl
theorem d_Tokens_next_47 : decode prog_10_method_3_code 47 = .ok (.putfield 54, 3) := by decide +kernel
theorem d_Tokens_next_50 : decode prog_10_method_3_code 50 = .ok (.aload_n 0, 1) := by decide +kernel
theorem d_Tokens_next_51 : decode prog_10_method_3_code 51 = .ok (.aload_n 0, 1) := by decide +kernel
theorem d_Tokens_next_52 : decode prog_10_method_3_code 52 = .ok (.getfield 15, 3) := by decide +kernel
theorem rff_3_1 : (3, 1, 5) ∈ rf_L := by decide +kernel
theorem d_Tokens_next_55 : decode prog_10_method_3_code 55 = .ok (.aload_n 0, 1) := by decide +kernel
theorem d_Tokens_next_56 : decode prog_10_method_3_code 56 = .ok (.getfield 48, 3) := by decide +kernel
theorem d_Tokens_next_59 : decode prog_10_method_3_code 59 = .ok (.iaload, 1) := by decide +kernel
theorem sf_5 : sh_L[5]? = some (0, 2001) := by decide +kernel
theorem rgf_5 (k : Nat) : rg 5 k = ((-2147483648), 2147483647) := rfl
theorem d_Tokens_next_60 : decode prog_10_method_3_code 60 = .ok (.putfield 57, 3) := by decide +kernel
theorem f_Tokens_57 : fl_OK "PlainMusic$Tokens" 57 8 10 .int false := ⟨_, rfl, by decide, (gw_in 186 (by decide +kernel) (by decide +kernel)), rfl, rfl⟩
theorem rgf_3_10 : rg 3 10 = ((-2147483648), 2147483647) := by decide +kernel
theorem d_Tokens_next_63 : decode prog_10_method_3_code 63 = .ok (.aload_n 0, 1) := by decide +kernel
theorem d_Tokens_next_64 : decode prog_10_method_3_code 64 = .ok (.aload_n 0, 1) := by decide +kernel
theorem d_Tokens_next_65 : decode prog_10_method_3_code 65 = .ok (.getfield 18, 3) := by decide +kernel
theorem rff_3_2 : (3, 2, 6) ∈ rf_L := by decide +kernel
theorem d_Tokens_next_68 : decode prog_10_method_3_code 68 = .ok (.aload_n 0, 1) := by decide +kernel
theorem d_Tokens_next_69 : decode prog_10_method_3_code 69 = .ok (.getfield 48, 3) := by decide +kernel
theorem d_Tokens_next_72 : decode prog_10_method_3_code 72 = .ok (.laload, 1) := by decide +kernel
theorem sf_6 : sh_L[6]? = some (1, 2001) := by decide +kernel
theorem d_Tokens_next_73 : decode prog_10_method_3_code 73 = .ok (.putfield 60, 3) := by decide +kernel
theorem d_Tokens_next_76 : decode prog_10_method_3_code 76 = .ok (.aload_n 0, 1) := by decide +kernel
theorem d_Tokens_next_77 : decode prog_10_method_3_code 77 = .ok (.aload_n 0, 1) := by decide +kernel
theorem d_Tokens_next_78 : decode prog_10_method_3_code 78 = .ok (.getfield 22, 3) := by decide +kernel
theorem rff_3_3 : (3, 3, 7) ∈ rf_L := by decide +kernel
theorem d_Tokens_next_81 : decode prog_10_method_3_code 81 = .ok (.aload_n 0, 1) := by decide +kernel
theorem d_Tokens_next_82 : decode prog_10_method_3_code 82 = .ok (.getfield 48, 3) := by decide +kernel
theorem d_Tokens_next_85 : decode prog_10_method_3_code 85 = .ok (.iaload, 1) := by decide +kernel
theorem sf_7 : sh_L[7]? = some (0, 2001) := by decide +kernel
theorem rgf_7 (k : Nat) : rg 7 k = ((-2147483648), 2147483647) := rfl
theorem d_Tokens_next_86 : decode prog_10_method_3_code 86 = .ok (.putfield 64, 3) := by decide +kernel
theorem f_Tokens_64 : fl_OK "PlainMusic$Tokens" 64 8 12 .int false := ⟨_, rfl, by decide, (gw_in 190 (by decide +kernel) (by decide +kernel)), rfl, rfl⟩
theorem rgf_3_12 : rg 3 12 = ((-2147483648), 2147483647) := by decide +kernel
