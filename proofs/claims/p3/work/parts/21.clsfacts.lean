/-! ===== small facts for the walks ===== -/
theorem isS_o {s : Nat} (h : isS s) : isS (97 - s) := by unfold isS at *; omega
theorem lt1_V {v : Nat} (hv : isV v) : v < 170 := by unfold isV at hv; omega
theorem lt1_S {v : Nat} (hv : isS v) : v < 170 := by unfold isS at hv; omega
theorem lt2_V {v k : Nat} (hv : isV v) (hk : k < 40) : v + k < 170 := by unfold isV at hv; omega
theorem lt2_S {v k : Nat} (hv : isS v) (hk : k < 40) : v + k < 170 := by unfold isS at hv; omega
theorem kF_j {F : Nat → Prop} {s a k : Nat} {z lo hi : Int} {h0 h : ah_T} (hk : kF F s h0 h) (ha : ¬ F a) (hq : rg a k = (lo, hi)) (h1 : lo ≤ z) (h2 : z ≤ hi) : kF F s h0 (st_i h a k z) := kF_i hk ha hq ⟨h1, h2⟩
theorem mul_nn32 {x y z ux uy : Int} (e : z = w32 (x * y)) (hx : 0 ≤ x) (hy : 0 ≤ y) (hux : x ≤ ux) (huy : y ≤ uy) (hm : ux * uy < 2147483648) : 0 ≤ z ∧ z ≤ ux * uy ∧ z = x * y := by
  have h1 : 0 ≤ x * y := Int.mul_nonneg hx hy
  have h2 : x * y ≤ ux * uy := Int.mul_le_mul hux huy hy (by omega)
  rw [w32_id (by unfold i32; omega)] at e
  subst e
  exact ⟨h1, h2, rfl⟩
theorem mul_nn64 {x y z ux uy : Int} (e : z = w64 (x * y)) (hx : 0 ≤ x) (hy : 0 ≤ y) (hux : x ≤ ux) (huy : y ≤ uy) (hm : ux * uy < 9223372036854775808) : 0 ≤ z ∧ z ≤ ux * uy ∧ z = x * y := by
  have h1 : 0 ≤ x * y := Int.mul_nonneg hx hy
  have h2 : x * y ≤ ux * uy := Int.mul_le_mul hux huy hy (by omega)
  rw [w64_id (by unfold i64; omega)] at e
  subst e
  exact ⟨h1, h2, rfl⟩
theorem rem_nn {x y z : Int} (e : z = x.tmod y) (hx : 0 ≤ x) (hy : 1 ≤ y) : 0 ≤ z ∧ z ≤ x ∧ z < y ∧ z = x % y := by
  rw [Int.tmod_eq_emod_of_nonneg hx] at e
  subst e
  have h1 : 0 ≤ y * (x / y) := Int.mul_nonneg (by omega) (Int.ediv_nonneg hx (by omega))
  have h2 : x % y + y * (x / y) = x := Int.emod_add_mul_ediv x y
  exact ⟨Int.emod_nonneg _ (by omega), by omega, Int.emod_lt_of_pos _ (by omega), rfl⟩
theorem rem_c {x y z : Int} (e : z = x.tmod y) (hy : 0 < y) : -y < z ∧ z < y := by
  subst e
  have h1 := Int.natAbs_tmod x y
  have h2 : (x.tmod y).natAbs < y.natAbs := by rw [h1]; exact Nat.mod_lt _ (by omega)
  omega
theorem div_nn32 {x y z : Int} (e : z = w32 (x.tdiv y)) (hx : 0 ≤ x) (hy : 1 ≤ y) (hu : x < 2147483648) : 0 ≤ z ∧ z ≤ x ∧ z = x / y := by
  rw [Int.tdiv_eq_ediv_of_nonneg hx] at e
  have h1 : 0 ≤ x / y := Int.ediv_nonneg hx (by omega)
  have h2 : x / y ≤ x := Int.ediv_le_self _ hx
  rw [w32_id (by unfold i32; omega)] at e
  subst e
  exact ⟨h1, h2, rfl⟩
theorem div_nn64 {x y z : Int} (e : z = w64 (x.tdiv y)) (hx : 0 ≤ x) (hy : 1 ≤ y) (hu : x < 9223372036854775808) : 0 ≤ z ∧ z ≤ x ∧ z = x / y := by
  rw [Int.tdiv_eq_ediv_of_nonneg hx] at e
  have h1 : 0 ≤ x / y := Int.ediv_nonneg hx (by omega)
  have h2 : x / y ≤ x := Int.ediv_le_self _ hx
  rw [w64_id (by unfold i64; omega)] at e
  subst e
  exact ⟨h1, h2, rfl⟩
theorem abs_r {x z : Int} (e : z = if 0 ≤ x then x else w32 (0 - x)) (h : -2147483647 ≤ x) : 0 ≤ z ∧ (z = x ∨ z = -x) := by
  by_cases h0 : 0 ≤ x
  · rw [if_pos h0] at e; omega
  · rw [if_neg h0] at e
    by_cases h1 : x ≤ 2147483647
    · rw [w32_id (by unfold i32; omega)] at e; omega
    · omega
theorem mmin_r {x y z : Int} (e : z = if y < x then y else x) : z ≤ x ∧ z ≤ y ∧ (z = x ∨ z = y) := by
  split at e <;> omega
theorem mmax_r {x y z : Int} (e : z = if x < y then y else x) : x ≤ z ∧ y ≤ z ∧ (z = x ∨ z = y) := by
  split at e <;> omega
theorem and_r {x z m : Int} (k : Nat) (e : z = (Int32.ofInt x &&& Int32.ofInt m).toInt) (hm : (Int32.ofInt m).toBitVec.toNat = 2 ^ k - 1) (hk : k ≤ 30) (hm2 : m + 1 = ((2 ^ k : Nat) : Int)) : 0 ≤ z ∧ z ≤ m := by
  rw [pk_and _ k hm] at e
  have h1 : (Int32.ofInt x).toBitVec.toNat % 2 ^ k < 2 ^ k := Nat.mod_lt _ (Nat.two_pow_pos k)
  have h2 : 2 ^ k ≤ 2 ^ 30 := Nat.pow_le_pow_right (by decide) hk
  rw [nI_toInt (by omega)] at e
  omega
def m_JLong_compare : mr_T := (⟨"java/lang/Long", "compare", "(JJ)I"⟩, prog_17_method_42_code, 4, some .int)
theorem d_JLong_compare_0 : decode prog_17_method_42_code 0 = .ok (.lload_n 0, 1) := by decide +kernel
theorem d_JLong_compare_1 : decode prog_17_method_42_code 1 = .ok (.lload_n 2, 1) := by decide +kernel
theorem d_JLong_compare_2 : decode prog_17_method_42_code 2 = .ok (.lcmp, 1) := by decide +kernel
theorem d_JLong_compare_3 : decode prog_17_method_42_code 3 = .ok (.ifCond .ge 7, 3) := by decide +kernel
theorem d_JLong_compare_10 : decode prog_17_method_42_code 10 = .ok (.lload_n 0, 1) := by decide +kernel
theorem d_JLong_compare_11 : decode prog_17_method_42_code 11 = .ok (.lload_n 2, 1) := by decide +kernel
theorem d_JLong_compare_12 : decode prog_17_method_42_code 12 = .ok (.lcmp, 1) := by decide +kernel
theorem d_JLong_compare_13 : decode prog_17_method_42_code 13 = .ok (.ifCond .ne 7, 3) := by decide +kernel
theorem d_JLong_compare_20 : decode prog_17_method_42_code 20 = .ok (.iconst 1, 1) := by decide +kernel
theorem d_JLong_compare_21 : decode prog_17_method_42_code 21 = .ok (.ireturn, 1) := by decide +kernel
theorem d_JLong_compare_16 : decode prog_17_method_42_code 16 = .ok (.iconst 0, 1) := by decide +kernel
theorem d_JLong_compare_17 : decode prog_17_method_42_code 17 = .ok (.goto 4, 3) := by decide +kernel
theorem d_JLong_compare_6 : decode prog_17_method_42_code 6 = .ok (.iconst (-1), 1) := by decide +kernel
theorem d_JLong_compare_7 : decode prog_17_method_42_code 7 = .ok (.goto 14, 3) := by decide +kernel
def m_Voice_pitchesOf : mr_T := (⟨"PlainMusic$Voice", "pitchesOf", "(I)I"⟩, prog_12_method_12_code, 3, some .int)
theorem d_Voice_pitchesOf_0 : decode prog_12_method_12_code 0 = .ok (.aload_n 0, 1) := by decide +kernel
theorem d_Voice_pitchesOf_1 : decode prog_12_method_12_code 1 = .ok (.getfield 31, 3) := by decide +kernel
theorem d_Voice_pitchesOf_4 : decode prog_12_method_12_code 4 = .ok (.iload_n 1, 1) := by decide +kernel
theorem d_Voice_pitchesOf_5 : decode prog_12_method_12_code 5 = .ok (.iaload, 1) := by decide +kernel
theorem d_Voice_pitchesOf_6 : decode prog_12_method_12_code 6 = .ok (.istore_n 2, 1) := by decide +kernel
theorem d_Voice_pitchesOf_7 : decode prog_12_method_12_code 7 = .ok (.aload_n 0, 1) := by decide +kernel
theorem d_Voice_pitchesOf_8 : decode prog_12_method_12_code 8 = .ok (.getfield 18, 3) := by decide +kernel
theorem d_Voice_pitchesOf_11 : decode prog_12_method_12_code 11 = .ok (.iload_n 2, 1) := by decide +kernel
theorem d_Voice_pitchesOf_12 : decode prog_12_method_12_code 12 = .ok (.iconst 1, 1) := by decide +kernel
theorem d_Voice_pitchesOf_13 : decode prog_12_method_12_code 13 = .ok (.iadd, 1) := by decide +kernel
theorem d_Voice_pitchesOf_14 : decode prog_12_method_12_code 14 = .ok (.iaload, 1) := by decide +kernel
theorem d_Voice_pitchesOf_15 : decode prog_12_method_12_code 15 = .ok (.aload_n 0, 1) := by decide +kernel
theorem d_Voice_pitchesOf_16 : decode prog_12_method_12_code 16 = .ok (.getfield 18, 3) := by decide +kernel
theorem d_Voice_pitchesOf_19 : decode prog_12_method_12_code 19 = .ok (.iload_n 2, 1) := by decide +kernel
theorem d_Voice_pitchesOf_20 : decode prog_12_method_12_code 20 = .ok (.iaload, 1) := by decide +kernel
theorem d_Voice_pitchesOf_21 : decode prog_12_method_12_code 21 = .ok (.isub, 1) := by decide +kernel
theorem d_Voice_pitchesOf_22 : decode prog_12_method_12_code 22 = .ok (.ireturn, 1) := by decide +kernel
def m_Voice_isRest : mr_T := (⟨"PlainMusic$Voice", "isRest", "(I)Z"⟩, prog_12_method_13_code, 2, some .boolean)
theorem d_Voice_isRest_0 : decode prog_12_method_13_code 0 = .ok (.aload_n 0, 1) := by decide +kernel
theorem d_Voice_isRest_1 : decode prog_12_method_13_code 1 = .ok (.iload_n 1, 1) := by decide +kernel
theorem d_Voice_isRest_2 : decode prog_12_method_13_code 2 = .ok (.invokevirtual 80, 3) := by decide +kernel
theorem l_Voice_80 : ml_OK "PlainMusic$Voice" 80 ⟨"PlainMusic$Voice", "pitchesOf", "(I)I"⟩ := Or.inl (gw_in 1051 (by decide +kernel) (by decide +kernel))
theorem k_Voice_pitchesOf : mt_OK m_Voice_pitchesOf 1 1 := ⟨(gw_in 1054 (by decide +kernel) (by decide +kernel)), (gw_in 139 (by decide +kernel) (by decide +kernel)), ⟨by decide +kernel, by decide +kernel, by decide +kernel⟩, fun h => absurd h (by decide), fun _ => ⟨(gw_in 1052 (by decide +kernel) (by decide +kernel)), (gw_in 1053 (by decide +kernel) (by decide +kernel))⟩, fun h => absurd h (by decide)⟩
theorem d_Voice_isRest_5 : decode prog_12_method_13_code 5 = .ok (.ifCond .ne 7, 3) := by decide +kernel
theorem d_Voice_isRest_12 : decode prog_12_method_13_code 12 = .ok (.iconst 0, 1) := by decide +kernel
theorem d_Voice_isRest_13 : decode prog_12_method_13_code 13 = .ok (.ireturn, 1) := by decide +kernel
theorem d_Voice_isRest_8 : decode prog_12_method_13_code 8 = .ok (.iconst 1, 1) := by decide +kernel
theorem d_Voice_isRest_9 : decode prog_12_method_13_code 9 = .ok (.goto 4, 3) := by decide +kernel
def m_Voice_keyOf : mr_T := (⟨"PlainMusic$Voice", "keyOf", "(II)I"⟩, prog_12_method_14_code, 4, some .int)
theorem d_Voice_keyOf_0 : decode prog_12_method_14_code 0 = .ok (.aload_n 0, 1) := by decide +kernel
theorem d_Voice_keyOf_1 : decode prog_12_method_14_code 1 = .ok (.getfield 18, 3) := by decide +kernel
theorem d_Voice_keyOf_4 : decode prog_12_method_14_code 4 = .ok (.aload_n 0, 1) := by decide +kernel
theorem d_Voice_keyOf_5 : decode prog_12_method_14_code 5 = .ok (.getfield 31, 3) := by decide +kernel
theorem d_Voice_keyOf_8 : decode prog_12_method_14_code 8 = .ok (.iload_n 1, 1) := by decide +kernel
theorem d_Voice_keyOf_9 : decode prog_12_method_14_code 9 = .ok (.iaload, 1) := by decide +kernel
theorem d_Voice_keyOf_10 : decode prog_12_method_14_code 10 = .ok (.iaload, 1) := by decide +kernel
theorem d_Voice_keyOf_11 : decode prog_12_method_14_code 11 = .ok (.iload_n 2, 1) := by decide +kernel
theorem d_Voice_keyOf_12 : decode prog_12_method_14_code 12 = .ok (.iadd, 1) := by decide +kernel
theorem d_Voice_keyOf_13 : decode prog_12_method_14_code 13 = .ok (.istore_n 3, 1) := by decide +kernel
theorem d_Voice_keyOf_14 : decode prog_12_method_14_code 14 = .ok (.iload_n 3, 1) := by decide +kernel
theorem d_Voice_keyOf_15 : decode prog_12_method_14_code 15 = .ok (.ifCond .lt 21, 3) := by decide +kernel
theorem d_Voice_keyOf_36 : decode prog_12_method_14_code 36 = .ok (.iconst 0, 1) := by decide +kernel
theorem d_Voice_keyOf_37 : decode prog_12_method_14_code 37 = .ok (.ireturn, 1) := by decide +kernel
theorem d_Voice_keyOf_18 : decode prog_12_method_14_code 18 = .ok (.iload_n 3, 1) := by decide +kernel
theorem d_Voice_keyOf_19 : decode prog_12_method_14_code 19 = .ok (.aload_n 0, 1) := by decide +kernel
theorem d_Voice_keyOf_20 : decode prog_12_method_14_code 20 = .ok (.getfield 9, 3) := by decide +kernel
theorem d_Voice_keyOf_23 : decode prog_12_method_14_code 23 = .ok (.arraylength, 1) := by decide +kernel
theorem d_Voice_keyOf_24 : decode prog_12_method_14_code 24 = .ok (.if_icmp .ge 12, 3) := by decide +kernel
theorem d_Voice_keyOf_27 : decode prog_12_method_14_code 27 = .ok (.aload_n 0, 1) := by decide +kernel
theorem d_Voice_keyOf_28 : decode prog_12_method_14_code 28 = .ok (.getfield 9, 3) := by decide +kernel
theorem d_Voice_keyOf_31 : decode prog_12_method_14_code 31 = .ok (.iload_n 3, 1) := by decide +kernel
theorem d_Voice_keyOf_32 : decode prog_12_method_14_code 32 = .ok (.iaload, 1) := by decide +kernel
theorem d_Voice_keyOf_33 : decode prog_12_method_14_code 33 = .ok (.goto 4, 3) := by decide +kernel
def m_Voice_stepOf : mr_T := (⟨"PlainMusic$Voice", "stepOf", "(II)I"⟩, prog_12_method_15_code, 4, some .int)
theorem d_Voice_stepOf_0 : decode prog_12_method_15_code 0 = .ok (.aload_n 0, 1) := by decide +kernel
theorem d_Voice_stepOf_1 : decode prog_12_method_15_code 1 = .ok (.getfield 18, 3) := by decide +kernel
theorem d_Voice_stepOf_4 : decode prog_12_method_15_code 4 = .ok (.aload_n 0, 1) := by decide +kernel
theorem d_Voice_stepOf_5 : decode prog_12_method_15_code 5 = .ok (.getfield 31, 3) := by decide +kernel
theorem d_Voice_stepOf_8 : decode prog_12_method_15_code 8 = .ok (.iload_n 1, 1) := by decide +kernel
theorem d_Voice_stepOf_9 : decode prog_12_method_15_code 9 = .ok (.iaload, 1) := by decide +kernel
theorem d_Voice_stepOf_10 : decode prog_12_method_15_code 10 = .ok (.iaload, 1) := by decide +kernel
theorem d_Voice_stepOf_11 : decode prog_12_method_15_code 11 = .ok (.iload_n 2, 1) := by decide +kernel
theorem d_Voice_stepOf_12 : decode prog_12_method_15_code 12 = .ok (.iadd, 1) := by decide +kernel
theorem d_Voice_stepOf_13 : decode prog_12_method_15_code 13 = .ok (.istore_n 3, 1) := by decide +kernel
theorem d_Voice_stepOf_14 : decode prog_12_method_15_code 14 = .ok (.iload_n 3, 1) := by decide +kernel
theorem d_Voice_stepOf_15 : decode prog_12_method_15_code 15 = .ok (.ifCond .lt 21, 3) := by decide +kernel
theorem d_Voice_stepOf_36 : decode prog_12_method_15_code 36 = .ok (.iconst 0, 1) := by decide +kernel
theorem d_Voice_stepOf_37 : decode prog_12_method_15_code 37 = .ok (.ireturn, 1) := by decide +kernel
theorem d_Voice_stepOf_18 : decode prog_12_method_15_code 18 = .ok (.iload_n 3, 1) := by decide +kernel
theorem d_Voice_stepOf_19 : decode prog_12_method_15_code 19 = .ok (.aload_n 0, 1) := by decide +kernel
theorem d_Voice_stepOf_20 : decode prog_12_method_15_code 20 = .ok (.getfield 15, 3) := by decide +kernel
theorem d_Voice_stepOf_23 : decode prog_12_method_15_code 23 = .ok (.arraylength, 1) := by decide +kernel
theorem d_Voice_stepOf_24 : decode prog_12_method_15_code 24 = .ok (.if_icmp .ge 12, 3) := by decide +kernel
theorem d_Voice_stepOf_27 : decode prog_12_method_15_code 27 = .ok (.aload_n 0, 1) := by decide +kernel
theorem d_Voice_stepOf_28 : decode prog_12_method_15_code 28 = .ok (.getfield 15, 3) := by decide +kernel
theorem d_Voice_stepOf_31 : decode prog_12_method_15_code 31 = .ok (.iload_n 3, 1) := by decide +kernel
theorem d_Voice_stepOf_32 : decode prog_12_method_15_code 32 = .ok (.iaload, 1) := by decide +kernel
theorem d_Voice_stepOf_33 : decode prog_12_method_15_code 33 = .ok (.goto 4, 3) := by decide +kernel
def m_Voice_lowestKey : mr_T := (⟨"PlainMusic$Voice", "lowestKey", "(I)I"⟩, prog_12_method_16_code, 2, some .int)
theorem d_Voice_lowestKey_0 : decode prog_12_method_16_code 0 = .ok (.aload_n 0, 1) := by decide +kernel
theorem d_Voice_lowestKey_1 : decode prog_12_method_16_code 1 = .ok (.iload_n 1, 1) := by decide +kernel
theorem d_Voice_lowestKey_2 : decode prog_12_method_16_code 2 = .ok (.iconst 0, 1) := by decide +kernel
theorem d_Voice_lowestKey_3 : decode prog_12_method_16_code 3 = .ok (.invokevirtual 91, 3) := by decide +kernel
theorem l_Voice_91 : ml_OK "PlainMusic$Voice" 91 ⟨"PlainMusic$Voice", "keyOf", "(II)I"⟩ := Or.inl (gw_in 1121 (by decide +kernel) (by decide +kernel))
theorem k_Voice_keyOf : mt_OK m_Voice_keyOf 2 1 := ⟨(gw_in 1067 (by decide +kernel) (by decide +kernel)), (gw_in 139 (by decide +kernel) (by decide +kernel)), ⟨by decide +kernel, by decide +kernel, by decide +kernel⟩, fun h => absurd h (by decide), fun _ => ⟨(gw_in 1065 (by decide +kernel) (by decide +kernel)), (gw_in 1066 (by decide +kernel) (by decide +kernel))⟩, fun h => absurd h (by decide)⟩
theorem d_Voice_lowestKey_6 : decode prog_12_method_16_code 6 = .ok (.ireturn, 1) := by decide +kernel
def m_Voice_highestKey : mr_T := (⟨"PlainMusic$Voice", "highestKey", "(I)I"⟩, prog_12_method_17_code, 2, some .int)
theorem d_Voice_highestKey_0 : decode prog_12_method_17_code 0 = .ok (.aload_n 0, 1) := by decide +kernel
theorem d_Voice_highestKey_1 : decode prog_12_method_17_code 1 = .ok (.iload_n 1, 1) := by decide +kernel
theorem d_Voice_highestKey_2 : decode prog_12_method_17_code 2 = .ok (.aload_n 0, 1) := by decide +kernel
theorem d_Voice_highestKey_3 : decode prog_12_method_17_code 3 = .ok (.iload_n 1, 1) := by decide +kernel
theorem d_Voice_highestKey_4 : decode prog_12_method_17_code 4 = .ok (.invokevirtual 80, 3) := by decide +kernel
theorem d_Voice_highestKey_7 : decode prog_12_method_17_code 7 = .ok (.iconst 1, 1) := by decide +kernel
theorem d_Voice_highestKey_8 : decode prog_12_method_17_code 8 = .ok (.isub, 1) := by decide +kernel
theorem d_Voice_highestKey_9 : decode prog_12_method_17_code 9 = .ok (.invokevirtual 91, 3) := by decide +kernel
theorem d_Voice_highestKey_12 : decode prog_12_method_17_code 12 = .ok (.ireturn, 1) := by decide +kernel
def m_Voice_hasKey : mr_T := (⟨"PlainMusic$Voice", "hasKey", "(II)Z"⟩, prog_12_method_18_code, 4, some .boolean)
theorem d_Voice_hasKey_0 : decode prog_12_method_18_code 0 = .ok (.iconst 0, 1) := by decide +kernel
theorem d_Voice_hasKey_1 : decode prog_12_method_18_code 1 = .ok (.istore_n 3, 1) := by decide +kernel
theorem d_Voice_hasKey_2 : decode prog_12_method_18_code 2 = .ok (.iload_n 3, 1) := by decide +kernel
theorem d_Voice_hasKey_3 : decode prog_12_method_18_code 3 = .ok (.aload_n 0, 1) := by decide +kernel
theorem d_Voice_hasKey_4 : decode prog_12_method_18_code 4 = .ok (.iload_n 1, 1) := by decide +kernel
theorem d_Voice_hasKey_5 : decode prog_12_method_18_code 5 = .ok (.invokevirtual 80, 3) := by decide +kernel
theorem d_Voice_hasKey_8 : decode prog_12_method_18_code 8 = .ok (.if_icmp .ge 21, 3) := by decide +kernel
theorem d_Voice_hasKey_29 : decode prog_12_method_18_code 29 = .ok (.iconst 0, 1) := by decide +kernel
theorem d_Voice_hasKey_30 : decode prog_12_method_18_code 30 = .ok (.ireturn, 1) := by decide +kernel
theorem d_Voice_hasKey_11 : decode prog_12_method_18_code 11 = .ok (.aload_n 0, 1) := by decide +kernel
theorem d_Voice_hasKey_12 : decode prog_12_method_18_code 12 = .ok (.iload_n 1, 1) := by decide +kernel
theorem d_Voice_hasKey_13 : decode prog_12_method_18_code 13 = .ok (.iload_n 3, 1) := by decide +kernel
theorem d_Voice_hasKey_14 : decode prog_12_method_18_code 14 = .ok (.invokevirtual 91, 3) := by decide +kernel
theorem d_Voice_hasKey_17 : decode prog_12_method_18_code 17 = .ok (.iload_n 2, 1) := by decide +kernel
theorem d_Voice_hasKey_18 : decode prog_12_method_18_code 18 = .ok (.if_icmp .ne 5, 3) := by decide +kernel
theorem d_Voice_hasKey_23 : decode prog_12_method_18_code 23 = .ok (.iinc 3 1, 3) := by decide +kernel
theorem d_Voice_hasKey_26 : decode prog_12_method_18_code 26 = .ok (.goto (-24), 3) := by decide +kernel
theorem d_Voice_hasKey_21 : decode prog_12_method_18_code 21 = .ok (.iconst 1, 1) := by decide +kernel
theorem d_Voice_hasKey_22 : decode prog_12_method_18_code 22 = .ok (.ireturn, 1) := by decide +kernel
def m_Voice_numberOf : mr_T := (⟨"PlainMusic$Voice", "numberOf", "(I)I"⟩, prog_12_method_19_code, 2, some .int)
theorem d_Voice_numberOf_0 : decode prog_12_method_19_code 0 = .ok (.aload_n 0, 1) := by decide +kernel
theorem d_Voice_numberOf_1 : decode prog_12_method_19_code 1 = .ok (.getfield 21, 3) := by decide +kernel
theorem d_Voice_numberOf_4 : decode prog_12_method_19_code 4 = .ok (.aload_n 0, 1) := by decide +kernel
theorem d_Voice_numberOf_5 : decode prog_12_method_19_code 5 = .ok (.getfield 31, 3) := by decide +kernel
theorem d_Voice_numberOf_8 : decode prog_12_method_19_code 8 = .ok (.iload_n 1, 1) := by decide +kernel
theorem d_Voice_numberOf_9 : decode prog_12_method_19_code 9 = .ok (.iaload, 1) := by decide +kernel
theorem d_Voice_numberOf_10 : decode prog_12_method_19_code 10 = .ok (.iaload, 1) := by decide +kernel
theorem d_Voice_numberOf_11 : decode prog_12_method_19_code 11 = .ok (.ireturn, 1) := by decide +kernel
def m_Voice_isTied : mr_T := (⟨"PlainMusic$Voice", "isTied", "(I)Z"⟩, prog_12_method_20_code, 2, some .boolean)
theorem d_Voice_isTied_0 : decode prog_12_method_20_code 0 = .ok (.aload_n 0, 1) := by decide +kernel
theorem d_Voice_isTied_1 : decode prog_12_method_20_code 1 = .ok (.getfield 27, 3) := by decide +kernel
theorem d_Voice_isTied_4 : decode prog_12_method_20_code 4 = .ok (.aload_n 0, 1) := by decide +kernel
theorem d_Voice_isTied_5 : decode prog_12_method_20_code 5 = .ok (.getfield 31, 3) := by decide +kernel
theorem d_Voice_isTied_8 : decode prog_12_method_20_code 8 = .ok (.iload_n 1, 1) := by decide +kernel
theorem d_Voice_isTied_9 : decode prog_12_method_20_code 9 = .ok (.iaload, 1) := by decide +kernel
theorem d_Voice_isTied_10 : decode prog_12_method_20_code 10 = .ok (.baload, 1) := by decide +kernel
theorem d_Voice_isTied_11 : decode prog_12_method_20_code 11 = .ok (.ireturn, 1) := by decide +kernel
def m_Voice_isShort : mr_T := (⟨"PlainMusic$Voice", "isShort", "(I)Z"⟩, prog_12_method_21_code, 2, some .boolean)
theorem d_Voice_isShort_0 : decode prog_12_method_21_code 0 = .ok (.aload_n 0, 1) := by decide +kernel
theorem d_Voice_isShort_1 : decode prog_12_method_21_code 1 = .ok (.iload_n 1, 1) := by decide +kernel
theorem d_Voice_isShort_2 : decode prog_12_method_21_code 2 = .ok (.invokevirtual 95, 3) := by decide +kernel
theorem l_Voice_95 : ml_OK "PlainMusic$Voice" 95 ⟨"PlainMusic$Voice", "isRest", "(I)Z"⟩ := Or.inl (gw_in 1182 (by decide +kernel) (by decide +kernel))
theorem k_Voice_isRest : mt_OK m_Voice_isRest 1 1 := ⟨(gw_in 1125 (by decide +kernel) (by decide +kernel)), (gw_in 139 (by decide +kernel) (by decide +kernel)), ⟨by decide +kernel, by decide +kernel, by decide +kernel⟩, fun h => absurd h (by decide), fun _ => ⟨(gw_in 1123 (by decide +kernel) (by decide +kernel)), (gw_in 1124 (by decide +kernel) (by decide +kernel))⟩, fun h => absurd h (by decide)⟩
theorem d_Voice_isShort_5 : decode prog_12_method_21_code 5 = .ok (.ifCond .ne 17, 3) := by decide +kernel
theorem d_Voice_isShort_22 : decode prog_12_method_21_code 22 = .ok (.iconst 0, 1) := by decide +kernel
theorem d_Voice_isShort_23 : decode prog_12_method_21_code 23 = .ok (.ireturn, 1) := by decide +kernel
theorem d_Voice_isShort_8 : decode prog_12_method_21_code 8 = .ok (.aload_n 0, 1) := by decide +kernel
theorem d_Voice_isShort_9 : decode prog_12_method_21_code 9 = .ok (.iload_n 1, 1) := by decide +kernel
theorem d_Voice_isShort_10 : decode prog_12_method_21_code 10 = .ok (.invokevirtual 88, 3) := by decide +kernel
theorem l_Voice_88 : ml_OK "PlainMusic$Voice" 88 ⟨"PlainMusic$Voice", "numberOf", "(I)I"⟩ := Or.inl (gw_in 1059 (by decide +kernel) (by decide +kernel))
theorem k_Voice_numberOf : mt_OK m_Voice_numberOf 1 1 := ⟨(gw_in 1062 (by decide +kernel) (by decide +kernel)), (gw_in 139 (by decide +kernel) (by decide +kernel)), ⟨by decide +kernel, by decide +kernel, by decide +kernel⟩, fun h => absurd h (by decide), fun _ => ⟨(gw_in 1060 (by decide +kernel) (by decide +kernel)), (gw_in 1061 (by decide +kernel) (by decide +kernel))⟩, fun h => absurd h (by decide)⟩
theorem d_Voice_isShort_13 : decode prog_12_method_21_code 13 = .ok (.bipush 8, 2) := by decide +kernel
theorem d_Voice_isShort_15 : decode prog_12_method_21_code 15 = .ok (.if_icmp .lt 7, 3) := by decide +kernel
theorem d_Voice_isShort_18 : decode prog_12_method_21_code 18 = .ok (.iconst 1, 1) := by decide +kernel
theorem d_Voice_isShort_19 : decode prog_12_method_21_code 19 = .ok (.goto 4, 3) := by decide +kernel
def m_Voice_isReached : mr_T := (⟨"PlainMusic$Voice", "isReached", "(IJJ)Z"⟩, prog_12_method_23_code, 6, some .boolean)
theorem d_Voice_isReached_0 : decode prog_12_method_23_code 0 = .ok (.lload_n 2, 1) := by decide +kernel
theorem d_Voice_isReached_1 : decode prog_12_method_23_code 1 = .ok (.aload_n 0, 1) := by decide +kernel
theorem d_Voice_isReached_2 : decode prog_12_method_23_code 2 = .ok (.getfield 41, 3) := by decide +kernel
theorem d_Voice_isReached_5 : decode prog_12_method_23_code 5 = .ok (.iload_n 1, 1) := by decide +kernel
theorem d_Voice_isReached_6 : decode prog_12_method_23_code 6 = .ok (.laload, 1) := by decide +kernel
theorem d_Voice_isReached_7 : decode prog_12_method_23_code 7 = .ok (.lmul, 1) := by decide +kernel
theorem d_Voice_isReached_8 : decode prog_12_method_23_code 8 = .ok (.ldc2_w 66, 3) := by decide +kernel
theorem cst_Voice_66 : Cond.constantLong "PlainMusic$Voice" 66 (Int64.ofInt 2) ∈ gw := (gw_in 938 (by decide +kernel) (by decide +kernel))
theorem d_Voice_isReached_11 : decode prog_12_method_23_code 11 = .ok (.aload_n 0, 1) := by decide +kernel
theorem d_Voice_isReached_12 : decode prog_12_method_23_code 12 = .ok (.getfield 37, 3) := by decide +kernel
theorem d_Voice_isReached_15 : decode prog_12_method_23_code 15 = .ok (.iload_n 1, 1) := by decide +kernel
theorem d_Voice_isReached_16 : decode prog_12_method_23_code 16 = .ok (.laload, 1) := by decide +kernel
theorem d_Voice_isReached_17 : decode prog_12_method_23_code 17 = .ok (.lmul, 1) := by decide +kernel
theorem d_Voice_isReached_18 : decode prog_12_method_23_code 18 = .ok (.lload 4, 2) := by decide +kernel
theorem d_Voice_isReached_20 : decode prog_12_method_23_code 20 = .ok (.lmul, 1) := by decide +kernel
theorem d_Voice_isReached_21 : decode prog_12_method_23_code 21 = .ok (.lcmp, 1) := by decide +kernel
theorem d_Voice_isReached_22 : decode prog_12_method_23_code 22 = .ok (.ifCond .lt 7, 3) := by decide +kernel
theorem d_Voice_isReached_29 : decode prog_12_method_23_code 29 = .ok (.iconst 0, 1) := by decide +kernel
theorem d_Voice_isReached_30 : decode prog_12_method_23_code 30 = .ok (.ireturn, 1) := by decide +kernel
theorem d_Voice_isReached_25 : decode prog_12_method_23_code 25 = .ok (.iconst 1, 1) := by decide +kernel
theorem d_Voice_isReached_26 : decode prog_12_method_23_code 26 = .ok (.goto 4, 3) := by decide +kernel
def m_Voice_sinceBarTop : mr_T := (⟨"PlainMusic$Voice", "sinceBarTop", "(II)J"⟩, prog_12_method_24_code, 4, some .long)
theorem d_Voice_sinceBarTop_0 : decode prog_12_method_24_code 0 = .ok (.aload_n 0, 1) := by decide +kernel
theorem d_Voice_sinceBarTop_1 : decode prog_12_method_24_code 1 = .ok (.getfield 50, 3) := by decide +kernel
theorem d_Voice_sinceBarTop_4 : decode prog_12_method_24_code 4 = .ok (.iload_n 1, 1) := by decide +kernel
theorem d_Voice_sinceBarTop_5 : decode prog_12_method_24_code 5 = .ok (.iaload, 1) := by decide +kernel
theorem d_Voice_sinceBarTop_6 : decode prog_12_method_24_code 6 = .ok (.istore_n 3, 1) := by decide +kernel
theorem d_Voice_sinceBarTop_7 : decode prog_12_method_24_code 7 = .ok (.aload_n 0, 1) := by decide +kernel
theorem d_Voice_sinceBarTop_8 : decode prog_12_method_24_code 8 = .ok (.getfield 37, 3) := by decide +kernel
theorem d_Voice_sinceBarTop_11 : decode prog_12_method_24_code 11 = .ok (.iload_n 2, 1) := by decide +kernel
theorem d_Voice_sinceBarTop_12 : decode prog_12_method_24_code 12 = .ok (.laload, 1) := by decide +kernel
theorem d_Voice_sinceBarTop_13 : decode prog_12_method_24_code 13 = .ok (.aload_n 0, 1) := by decide +kernel
theorem d_Voice_sinceBarTop_14 : decode prog_12_method_24_code 14 = .ok (.getfield 41, 3) := by decide +kernel
theorem d_Voice_sinceBarTop_17 : decode prog_12_method_24_code 17 = .ok (.iload_n 3, 1) := by decide +kernel
theorem d_Voice_sinceBarTop_18 : decode prog_12_method_24_code 18 = .ok (.laload, 1) := by decide +kernel
theorem d_Voice_sinceBarTop_19 : decode prog_12_method_24_code 19 = .ok (.lmul, 1) := by decide +kernel
theorem d_Voice_sinceBarTop_20 : decode prog_12_method_24_code 20 = .ok (.aload_n 0, 1) := by decide +kernel
theorem d_Voice_sinceBarTop_21 : decode prog_12_method_24_code 21 = .ok (.getfield 37, 3) := by decide +kernel
theorem d_Voice_sinceBarTop_24 : decode prog_12_method_24_code 24 = .ok (.iload_n 3, 1) := by decide +kernel
theorem d_Voice_sinceBarTop_25 : decode prog_12_method_24_code 25 = .ok (.laload, 1) := by decide +kernel
theorem d_Voice_sinceBarTop_26 : decode prog_12_method_24_code 26 = .ok (.aload_n 0, 1) := by decide +kernel
theorem d_Voice_sinceBarTop_27 : decode prog_12_method_24_code 27 = .ok (.getfield 41, 3) := by decide +kernel
theorem d_Voice_sinceBarTop_30 : decode prog_12_method_24_code 30 = .ok (.iload_n 2, 1) := by decide +kernel
theorem d_Voice_sinceBarTop_31 : decode prog_12_method_24_code 31 = .ok (.laload, 1) := by decide +kernel
theorem d_Voice_sinceBarTop_32 : decode prog_12_method_24_code 32 = .ok (.lmul, 1) := by decide +kernel
theorem d_Voice_sinceBarTop_33 : decode prog_12_method_24_code 33 = .ok (.lsub, 1) := by decide +kernel
theorem d_Voice_sinceBarTop_34 : decode prog_12_method_24_code 34 = .ok (.lreturn, 1) := by decide +kernel
def m_Voice_sinceBarBottom : mr_T := (⟨"PlainMusic$Voice", "sinceBarBottom", "(II)J"⟩, prog_12_method_25_code, 3, some .long)
theorem d_Voice_sinceBarBottom_0 : decode prog_12_method_25_code 0 = .ok (.aload_n 0, 1) := by decide +kernel
theorem d_Voice_sinceBarBottom_1 : decode prog_12_method_25_code 1 = .ok (.getfield 41, 3) := by decide +kernel
theorem d_Voice_sinceBarBottom_4 : decode prog_12_method_25_code 4 = .ok (.iload_n 2, 1) := by decide +kernel
theorem d_Voice_sinceBarBottom_5 : decode prog_12_method_25_code 5 = .ok (.laload, 1) := by decide +kernel
theorem d_Voice_sinceBarBottom_6 : decode prog_12_method_25_code 6 = .ok (.aload_n 0, 1) := by decide +kernel
theorem d_Voice_sinceBarBottom_7 : decode prog_12_method_25_code 7 = .ok (.getfield 41, 3) := by decide +kernel
theorem d_Voice_sinceBarBottom_10 : decode prog_12_method_25_code 10 = .ok (.aload_n 0, 1) := by decide +kernel
theorem d_Voice_sinceBarBottom_11 : decode prog_12_method_25_code 11 = .ok (.getfield 50, 3) := by decide +kernel
theorem d_Voice_sinceBarBottom_14 : decode prog_12_method_25_code 14 = .ok (.iload_n 1, 1) := by decide +kernel
theorem d_Voice_sinceBarBottom_15 : decode prog_12_method_25_code 15 = .ok (.iaload, 1) := by decide +kernel
theorem d_Voice_sinceBarBottom_16 : decode prog_12_method_25_code 16 = .ok (.laload, 1) := by decide +kernel
theorem d_Voice_sinceBarBottom_17 : decode prog_12_method_25_code 17 = .ok (.lmul, 1) := by decide +kernel
theorem d_Voice_sinceBarBottom_18 : decode prog_12_method_25_code 18 = .ok (.lreturn, 1) := by decide +kernel
def m_Voice_compareBar : mr_T := (⟨"PlainMusic$Voice", "compareBar", "(III)I"⟩, prog_12_method_26_code, 5, some .int)
theorem d_Voice_compareBar_0 : decode prog_12_method_26_code 0 = .ok (.aload_n 0, 1) := by decide +kernel
theorem d_Voice_compareBar_1 : decode prog_12_method_26_code 1 = .ok (.getfield 50, 3) := by decide +kernel
theorem d_Voice_compareBar_4 : decode prog_12_method_26_code 4 = .ok (.iload_n 1, 1) := by decide +kernel
theorem d_Voice_compareBar_5 : decode prog_12_method_26_code 5 = .ok (.iconst 1, 1) := by decide +kernel
theorem d_Voice_compareBar_6 : decode prog_12_method_26_code 6 = .ok (.iadd, 1) := by decide +kernel
theorem d_Voice_compareBar_7 : decode prog_12_method_26_code 7 = .ok (.iaload, 1) := by decide +kernel
theorem d_Voice_compareBar_8 : decode prog_12_method_26_code 8 = .ok (.istore 4, 2) := by decide +kernel
theorem d_Voice_compareBar_10 : decode prog_12_method_26_code 10 = .ok (.aload_n 0, 1) := by decide +kernel
theorem d_Voice_compareBar_11 : decode prog_12_method_26_code 11 = .ok (.iload_n 1, 1) := by decide +kernel
theorem d_Voice_compareBar_12 : decode prog_12_method_26_code 12 = .ok (.iload 4, 2) := by decide +kernel
theorem d_Voice_compareBar_14 : decode prog_12_method_26_code 14 = .ok (.invokevirtual 115, 3) := by decide +kernel
theorem l_Voice_115 : ml_OK "PlainMusic$Voice" 115 ⟨"PlainMusic$Voice", "sinceBarTop", "(II)J"⟩ := Or.inl (gw_in 1092 (by decide +kernel) (by decide +kernel))
theorem k_Voice_sinceBarTop : mt_OK m_Voice_sinceBarTop 2 1 := ⟨(gw_in 1095 (by decide +kernel) (by decide +kernel)), (gw_in 139 (by decide +kernel) (by decide +kernel)), ⟨by decide +kernel, by decide +kernel, by decide +kernel⟩, fun h => absurd h (by decide), fun _ => ⟨(gw_in 1093 (by decide +kernel) (by decide +kernel)), (gw_in 1094 (by decide +kernel) (by decide +kernel))⟩, fun h => absurd h (by decide)⟩
theorem d_Voice_compareBar_17 : decode prog_12_method_26_code 17 = .ok (.iload_n 3, 1) := by decide +kernel
theorem d_Voice_compareBar_18 : decode prog_12_method_26_code 18 = .ok (.i2l, 1) := by decide +kernel
theorem d_Voice_compareBar_19 : decode prog_12_method_26_code 19 = .ok (.lmul, 1) := by decide +kernel
theorem d_Voice_compareBar_20 : decode prog_12_method_26_code 20 = .ok (.aload_n 0, 1) := by decide +kernel
theorem d_Voice_compareBar_21 : decode prog_12_method_26_code 21 = .ok (.iload_n 1, 1) := by decide +kernel
theorem d_Voice_compareBar_22 : decode prog_12_method_26_code 22 = .ok (.iload 4, 2) := by decide +kernel
theorem d_Voice_compareBar_24 : decode prog_12_method_26_code 24 = .ok (.invokevirtual 119, 3) := by decide +kernel
theorem l_Voice_119 : ml_OK "PlainMusic$Voice" 119 ⟨"PlainMusic$Voice", "sinceBarBottom", "(II)J"⟩ := Or.inl (gw_in 1096 (by decide +kernel) (by decide +kernel))
theorem k_Voice_sinceBarBottom : mt_OK m_Voice_sinceBarBottom 2 1 := ⟨(gw_in 1099 (by decide +kernel) (by decide +kernel)), (gw_in 139 (by decide +kernel) (by decide +kernel)), ⟨by decide +kernel, by decide +kernel, by decide +kernel⟩, fun h => absurd h (by decide), fun _ => ⟨(gw_in 1097 (by decide +kernel) (by decide +kernel)), (gw_in 1098 (by decide +kernel) (by decide +kernel))⟩, fun h => absurd h (by decide)⟩
theorem d_Voice_compareBar_27 : decode prog_12_method_26_code 27 = .ok (.iload_n 2, 1) := by decide +kernel
theorem d_Voice_compareBar_28 : decode prog_12_method_26_code 28 = .ok (.i2l, 1) := by decide +kernel
theorem d_Voice_compareBar_29 : decode prog_12_method_26_code 29 = .ok (.lmul, 1) := by decide +kernel
theorem d_Voice_compareBar_30 : decode prog_12_method_26_code 30 = .ok (.invokestatic 122, 3) := by decide +kernel
theorem l_Voice_122 : ml_OK "PlainMusic$Voice" 122 ⟨"java/lang/Long", "compare", "(JJ)I"⟩ := Or.inl (gw_in 1100 (by decide +kernel) (by decide +kernel))
theorem k_JLong_compare : mt_OK m_JLong_compare 2 0 := ⟨(gw_in 1102 (by decide +kernel) (by decide +kernel)), (gw_in 154 (by decide +kernel) (by decide +kernel)), ⟨by decide +kernel, by decide +kernel, by decide +kernel⟩, fun _ => (gw_in 1101 (by decide +kernel) (by decide +kernel)), fun h => absurd h (by decide), fun h => absurd h (by decide)⟩
theorem d_Voice_compareBar_33 : decode prog_12_method_26_code 33 = .ok (.ireturn, 1) := by decide +kernel
def m_Voice_timeOf : mr_T := (⟨"PlainMusic$Voice", "timeOf", "(II)J"⟩, prog_12_method_10_code, 3, some .long)
theorem d_Voice_timeOf_0 : decode prog_12_method_10_code 0 = .ok (.iload_n 2, 1) := by decide +kernel
theorem d_Voice_timeOf_1 : decode prog_12_method_10_code 1 = .ok (.tableswitch 48 0 2 #[27, 34, 41], 27) := by decide +kernel
theorem d_Voice_timeOf_49 : decode prog_12_method_10_code 49 = .ok (.aload_n 0, 1) := by decide +kernel
theorem d_Voice_timeOf_50 : decode prog_12_method_10_code 50 = .ok (.getfield 47, 3) := by decide +kernel
theorem d_Voice_timeOf_53 : decode prog_12_method_10_code 53 = .ok (.iload_n 1, 1) := by decide +kernel
theorem d_Voice_timeOf_54 : decode prog_12_method_10_code 54 = .ok (.laload, 1) := by decide +kernel
theorem d_Voice_timeOf_55 : decode prog_12_method_10_code 55 = .ok (.lreturn, 1) := by decide +kernel
theorem d_Voice_timeOf_28 : decode prog_12_method_10_code 28 = .ok (.aload_n 0, 1) := by decide +kernel
theorem d_Voice_timeOf_29 : decode prog_12_method_10_code 29 = .ok (.getfield 37, 3) := by decide +kernel
theorem d_Voice_timeOf_32 : decode prog_12_method_10_code 32 = .ok (.iload_n 1, 1) := by decide +kernel
theorem d_Voice_timeOf_33 : decode prog_12_method_10_code 33 = .ok (.laload, 1) := by decide +kernel
theorem d_Voice_timeOf_34 : decode prog_12_method_10_code 34 = .ok (.lreturn, 1) := by decide +kernel
theorem d_Voice_timeOf_35 : decode prog_12_method_10_code 35 = .ok (.aload_n 0, 1) := by decide +kernel
theorem d_Voice_timeOf_36 : decode prog_12_method_10_code 36 = .ok (.getfield 41, 3) := by decide +kernel
theorem d_Voice_timeOf_39 : decode prog_12_method_10_code 39 = .ok (.iload_n 1, 1) := by decide +kernel
theorem d_Voice_timeOf_40 : decode prog_12_method_10_code 40 = .ok (.laload, 1) := by decide +kernel
theorem d_Voice_timeOf_41 : decode prog_12_method_10_code 41 = .ok (.lreturn, 1) := by decide +kernel
theorem d_Voice_timeOf_42 : decode prog_12_method_10_code 42 = .ok (.aload_n 0, 1) := by decide +kernel
theorem d_Voice_timeOf_43 : decode prog_12_method_10_code 43 = .ok (.getfield 44, 3) := by decide +kernel
theorem d_Voice_timeOf_46 : decode prog_12_method_10_code 46 = .ok (.iload_n 1, 1) := by decide +kernel
theorem d_Voice_timeOf_47 : decode prog_12_method_10_code 47 = .ok (.laload, 1) := by decide +kernel
theorem d_Voice_timeOf_48 : decode prog_12_method_10_code 48 = .ok (.lreturn, 1) := by decide +kernel
def m_Voice_writingOf : mr_T := (⟨"PlainMusic$Voice", "writingOf", "(II)I"⟩, prog_12_method_11_code, 3, some .int)
theorem d_Voice_writingOf_0 : decode prog_12_method_11_code 0 = .ok (.iload_n 2, 1) := by decide +kernel
theorem d_Voice_writingOf_1 : decode prog_12_method_11_code 1 = .ok (.tableswitch 64 4 7 #[31, 37, 51, 58], 31) := by decide +kernel
theorem d_Voice_writingOf_65 : decode prog_12_method_11_code 65 = .ok (.aload_n 0, 1) := by decide +kernel
theorem d_Voice_writingOf_66 : decode prog_12_method_11_code 66 = .ok (.getfield 24, 3) := by decide +kernel
theorem d_Voice_writingOf_69 : decode prog_12_method_11_code 69 = .ok (.aload_n 0, 1) := by decide +kernel
theorem d_Voice_writingOf_70 : decode prog_12_method_11_code 70 = .ok (.getfield 31, 3) := by decide +kernel
theorem d_Voice_writingOf_73 : decode prog_12_method_11_code 73 = .ok (.iload_n 1, 1) := by decide +kernel
theorem d_Voice_writingOf_74 : decode prog_12_method_11_code 74 = .ok (.iaload, 1) := by decide +kernel
theorem d_Voice_writingOf_75 : decode prog_12_method_11_code 75 = .ok (.iaload, 1) := by decide +kernel
theorem d_Voice_writingOf_76 : decode prog_12_method_11_code 76 = .ok (.ireturn, 1) := by decide +kernel
theorem d_Voice_writingOf_32 : decode prog_12_method_11_code 32 = .ok (.aload_n 0, 1) := by decide +kernel
theorem d_Voice_writingOf_33 : decode prog_12_method_11_code 33 = .ok (.iload_n 1, 1) := by decide +kernel
theorem d_Voice_writingOf_34 : decode prog_12_method_11_code 34 = .ok (.invokevirtual 80, 3) := by decide +kernel
theorem d_Voice_writingOf_37 : decode prog_12_method_11_code 37 = .ok (.ireturn, 1) := by decide +kernel
theorem d_Voice_writingOf_38 : decode prog_12_method_11_code 38 = .ok (.aload_n 0, 1) := by decide +kernel
theorem d_Voice_writingOf_39 : decode prog_12_method_11_code 39 = .ok (.iload_n 1, 1) := by decide +kernel
theorem d_Voice_writingOf_40 : decode prog_12_method_11_code 40 = .ok (.invokevirtual 84, 3) := by decide +kernel
theorem l_Voice_84 : ml_OK "PlainMusic$Voice" 84 ⟨"PlainMusic$Voice", "isTied", "(I)Z"⟩ := Or.inl (gw_in 1055 (by decide +kernel) (by decide +kernel))
theorem k_Voice_isTied : mt_OK m_Voice_isTied 1 1 := ⟨(gw_in 1058 (by decide +kernel) (by decide +kernel)), (gw_in 139 (by decide +kernel) (by decide +kernel)), ⟨by decide +kernel, by decide +kernel, by decide +kernel⟩, fun h => absurd h (by decide), fun _ => ⟨(gw_in 1056 (by decide +kernel) (by decide +kernel)), (gw_in 1057 (by decide +kernel) (by decide +kernel))⟩, fun h => absurd h (by decide)⟩
theorem d_Voice_writingOf_43 : decode prog_12_method_11_code 43 = .ok (.ifCond .eq 7, 3) := by decide +kernel
theorem d_Voice_writingOf_50 : decode prog_12_method_11_code 50 = .ok (.iconst 0, 1) := by decide +kernel
theorem d_Voice_writingOf_51 : decode prog_12_method_11_code 51 = .ok (.ireturn, 1) := by decide +kernel
theorem d_Voice_writingOf_46 : decode prog_12_method_11_code 46 = .ok (.iconst 1, 1) := by decide +kernel
theorem d_Voice_writingOf_47 : decode prog_12_method_11_code 47 = .ok (.goto 4, 3) := by decide +kernel
theorem d_Voice_writingOf_52 : decode prog_12_method_11_code 52 = .ok (.aload_n 0, 1) := by decide +kernel
theorem d_Voice_writingOf_53 : decode prog_12_method_11_code 53 = .ok (.getfield 34, 3) := by decide +kernel
theorem d_Voice_writingOf_56 : decode prog_12_method_11_code 56 = .ok (.iload_n 1, 1) := by decide +kernel
theorem d_Voice_writingOf_57 : decode prog_12_method_11_code 57 = .ok (.iaload, 1) := by decide +kernel
theorem d_Voice_writingOf_58 : decode prog_12_method_11_code 58 = .ok (.ireturn, 1) := by decide +kernel
theorem d_Voice_writingOf_59 : decode prog_12_method_11_code 59 = .ok (.aload_n 0, 1) := by decide +kernel
theorem d_Voice_writingOf_60 : decode prog_12_method_11_code 60 = .ok (.iload_n 1, 1) := by decide +kernel
theorem d_Voice_writingOf_61 : decode prog_12_method_11_code 61 = .ok (.invokevirtual 88, 3) := by decide +kernel
theorem d_Voice_writingOf_64 : decode prog_12_method_11_code 64 = .ok (.ireturn, 1) := by decide +kernel
def m_Voice_clear : mr_T := (⟨"PlainMusic$Voice", "clear", "()V"⟩, prog_12_method_2_code, 1, none)
theorem d_Voice_clear_0 : decode prog_12_method_2_code 0 = .ok (.aload_n 0, 1) := by decide +kernel
theorem d_Voice_clear_1 : decode prog_12_method_2_code 1 = .ok (.iconst 0, 1) := by decide +kernel
theorem d_Voice_clear_2 : decode prog_12_method_2_code 2 = .ok (.putfield 53, 3) := by decide +kernel
theorem f_Voice_53 : fl_OK "PlainMusic$Voice" 53 10 2 .int false := ⟨_, rfl, by decide, (gw_in 280 (by decide +kernel) (by decide +kernel)), rfl, rfl⟩
theorem d_Voice_clear_5 : decode prog_12_method_2_code 5 = .ok (.aload_n 0, 1) := by decide +kernel
theorem d_Voice_clear_6 : decode prog_12_method_2_code 6 = .ok (.iconst 0, 1) := by decide +kernel
theorem d_Voice_clear_7 : decode prog_12_method_2_code 7 = .ok (.putfield 57, 3) := by decide +kernel
theorem f_Voice_57 : fl_OK "PlainMusic$Voice" 57 10 7 .int false := ⟨_, rfl, by decide, (gw_in 285 (by decide +kernel) (by decide +kernel)), rfl, rfl⟩
theorem d_Voice_clear_10 : decode prog_12_method_2_code 10 = .ok (.aload_n 0, 1) := by decide +kernel
theorem d_Voice_clear_11 : decode prog_12_method_2_code 11 = .ok (.getfield 18, 3) := by decide +kernel
theorem d_Voice_clear_14 : decode prog_12_method_2_code 14 = .ok (.iconst 0, 1) := by decide +kernel
theorem d_Voice_clear_15 : decode prog_12_method_2_code 15 = .ok (.iconst 0, 1) := by decide +kernel
theorem d_Voice_clear_16 : decode prog_12_method_2_code 16 = .ok (.iastore, 1) := by decide +kernel
theorem d_Voice_clear_17 : decode prog_12_method_2_code 17 = .ok (.return_, 1) := by decide +kernel
def m_Voice_addPitch : mr_T := (⟨"PlainMusic$Voice", "addPitch", "(II)V"⟩, prog_12_method_3_code, 3, none)
theorem d_Voice_addPitch_0 : decode prog_12_method_3_code 0 = .ok (.aload_n 0, 1) := by decide +kernel
theorem d_Voice_addPitch_1 : decode prog_12_method_3_code 1 = .ok (.getfield 53, 3) := by decide +kernel
theorem d_Voice_addPitch_4 : decode prog_12_method_3_code 4 = .ok (.aload_n 0, 1) := by decide +kernel
theorem d_Voice_addPitch_5 : decode prog_12_method_3_code 5 = .ok (.getfield 9, 3) := by decide +kernel
theorem d_Voice_addPitch_8 : decode prog_12_method_3_code 8 = .ok (.arraylength, 1) := by decide +kernel
theorem d_Voice_addPitch_9 : decode prog_12_method_3_code 9 = .ok (.if_icmp .ge 33, 3) := by decide +kernel
theorem d_Voice_addPitch_42 : decode prog_12_method_3_code 42 = .ok (.return_, 1) := by decide +kernel
theorem d_Voice_addPitch_12 : decode prog_12_method_3_code 12 = .ok (.aload_n 0, 1) := by decide +kernel
theorem d_Voice_addPitch_13 : decode prog_12_method_3_code 13 = .ok (.getfield 9, 3) := by decide +kernel
theorem d_Voice_addPitch_16 : decode prog_12_method_3_code 16 = .ok (.aload_n 0, 1) := by decide +kernel
theorem d_Voice_addPitch_17 : decode prog_12_method_3_code 17 = .ok (.getfield 53, 3) := by decide +kernel
theorem d_Voice_addPitch_20 : decode prog_12_method_3_code 20 = .ok (.iload_n 1, 1) := by decide +kernel
theorem d_Voice_addPitch_21 : decode prog_12_method_3_code 21 = .ok (.iastore, 1) := by decide +kernel
theorem d_Voice_addPitch_22 : decode prog_12_method_3_code 22 = .ok (.aload_n 0, 1) := by decide +kernel
theorem d_Voice_addPitch_23 : decode prog_12_method_3_code 23 = .ok (.getfield 15, 3) := by decide +kernel
theorem d_Voice_addPitch_26 : decode prog_12_method_3_code 26 = .ok (.aload_n 0, 1) := by decide +kernel
theorem d_Voice_addPitch_27 : decode prog_12_method_3_code 27 = .ok (.getfield 53, 3) := by decide +kernel
theorem d_Voice_addPitch_30 : decode prog_12_method_3_code 30 = .ok (.iload_n 2, 1) := by decide +kernel
theorem d_Voice_addPitch_31 : decode prog_12_method_3_code 31 = .ok (.iastore, 1) := by decide +kernel
theorem d_Voice_addPitch_32 : decode prog_12_method_3_code 32 = .ok (.aload_n 0, 1) := by decide +kernel
theorem d_Voice_addPitch_33 : decode prog_12_method_3_code 33 = .ok (.dup, 1) := by decide +kernel
theorem d_Voice_addPitch_34 : decode prog_12_method_3_code 34 = .ok (.getfield 53, 3) := by decide +kernel
theorem d_Voice_addPitch_37 : decode prog_12_method_3_code 37 = .ok (.iconst 1, 1) := by decide +kernel
theorem d_Voice_addPitch_38 : decode prog_12_method_3_code 38 = .ok (.iadd, 1) := by decide +kernel
theorem d_Voice_addPitch_39 : decode prog_12_method_3_code 39 = .ok (.putfield 53, 3) := by decide +kernel
def m_Voice_endSound : mr_T := (⟨"PlainMusic$Voice", "endSound", "(IIZ)I"⟩, prog_12_method_4_code, 4, some .int)
theorem d_Voice_endSound_0 : decode prog_12_method_4_code 0 = .ok (.aload_n 0, 1) := by decide +kernel
theorem d_Voice_endSound_1 : decode prog_12_method_4_code 1 = .ok (.getfield 57, 3) := by decide +kernel
theorem d_Voice_endSound_4 : decode prog_12_method_4_code 4 = .ok (.aload_n 0, 1) := by decide +kernel
theorem d_Voice_endSound_5 : decode prog_12_method_4_code 5 = .ok (.getfield 21, 3) := by decide +kernel
theorem d_Voice_endSound_8 : decode prog_12_method_4_code 8 = .ok (.arraylength, 1) := by decide +kernel
theorem d_Voice_endSound_9 : decode prog_12_method_4_code 9 = .ok (.if_icmp .lt 5, 3) := by decide +kernel
theorem d_Voice_endSound_14 : decode prog_12_method_4_code 14 = .ok (.aload_n 0, 1) := by decide +kernel
theorem d_Voice_endSound_15 : decode prog_12_method_4_code 15 = .ok (.getfield 21, 3) := by decide +kernel
theorem d_Voice_endSound_18 : decode prog_12_method_4_code 18 = .ok (.aload_n 0, 1) := by decide +kernel
theorem d_Voice_endSound_19 : decode prog_12_method_4_code 19 = .ok (.getfield 57, 3) := by decide +kernel
theorem d_Voice_endSound_22 : decode prog_12_method_4_code 22 = .ok (.iload_n 1, 1) := by decide +kernel
theorem d_Voice_endSound_23 : decode prog_12_method_4_code 23 = .ok (.iastore, 1) := by decide +kernel
theorem d_Voice_endSound_24 : decode prog_12_method_4_code 24 = .ok (.aload_n 0, 1) := by decide +kernel
theorem d_Voice_endSound_25 : decode prog_12_method_4_code 25 = .ok (.getfield 24, 3) := by decide +kernel
theorem d_Voice_endSound_28 : decode prog_12_method_4_code 28 = .ok (.aload_n 0, 1) := by decide +kernel
theorem d_Voice_endSound_29 : decode prog_12_method_4_code 29 = .ok (.getfield 57, 3) := by decide +kernel
theorem d_Voice_endSound_32 : decode prog_12_method_4_code 32 = .ok (.iload_n 2, 1) := by decide +kernel
theorem d_Voice_endSound_33 : decode prog_12_method_4_code 33 = .ok (.iastore, 1) := by decide +kernel
theorem d_Voice_endSound_34 : decode prog_12_method_4_code 34 = .ok (.aload_n 0, 1) := by decide +kernel
theorem d_Voice_endSound_35 : decode prog_12_method_4_code 35 = .ok (.getfield 27, 3) := by decide +kernel
theorem d_Voice_endSound_38 : decode prog_12_method_4_code 38 = .ok (.aload_n 0, 1) := by decide +kernel
theorem d_Voice_endSound_39 : decode prog_12_method_4_code 39 = .ok (.getfield 57, 3) := by decide +kernel
theorem d_Voice_endSound_42 : decode prog_12_method_4_code 42 = .ok (.iload_n 3, 1) := by decide +kernel
theorem d_Voice_endSound_43 : decode prog_12_method_4_code 43 = .ok (.bastore, 1) := by decide +kernel
theorem d_Voice_endSound_44 : decode prog_12_method_4_code 44 = .ok (.aload_n 0, 1) := by decide +kernel
theorem d_Voice_endSound_45 : decode prog_12_method_4_code 45 = .ok (.dup, 1) := by decide +kernel
theorem d_Voice_endSound_46 : decode prog_12_method_4_code 46 = .ok (.getfield 57, 3) := by decide +kernel
theorem d_Voice_endSound_49 : decode prog_12_method_4_code 49 = .ok (.iconst 1, 1) := by decide +kernel
theorem d_Voice_endSound_50 : decode prog_12_method_4_code 50 = .ok (.iadd, 1) := by decide +kernel
theorem d_Voice_endSound_51 : decode prog_12_method_4_code 51 = .ok (.putfield 57, 3) := by decide +kernel
theorem d_Voice_endSound_54 : decode prog_12_method_4_code 54 = .ok (.aload_n 0, 1) := by decide +kernel
theorem d_Voice_endSound_55 : decode prog_12_method_4_code 55 = .ok (.getfield 18, 3) := by decide +kernel
theorem d_Voice_endSound_58 : decode prog_12_method_4_code 58 = .ok (.aload_n 0, 1) := by decide +kernel
theorem d_Voice_endSound_59 : decode prog_12_method_4_code 59 = .ok (.getfield 57, 3) := by decide +kernel
theorem d_Voice_endSound_62 : decode prog_12_method_4_code 62 = .ok (.aload_n 0, 1) := by decide +kernel
theorem d_Voice_endSound_63 : decode prog_12_method_4_code 63 = .ok (.getfield 53, 3) := by decide +kernel
theorem d_Voice_endSound_66 : decode prog_12_method_4_code 66 = .ok (.iastore, 1) := by decide +kernel
theorem d_Voice_endSound_67 : decode prog_12_method_4_code 67 = .ok (.aload_n 0, 1) := by decide +kernel
theorem d_Voice_endSound_68 : decode prog_12_method_4_code 68 = .ok (.getfield 57, 3) := by decide +kernel
theorem d_Voice_endSound_71 : decode prog_12_method_4_code 71 = .ok (.iconst 1, 1) := by decide +kernel
theorem d_Voice_endSound_72 : decode prog_12_method_4_code 72 = .ok (.isub, 1) := by decide +kernel
theorem d_Voice_endSound_73 : decode prog_12_method_4_code 73 = .ok (.ireturn, 1) := by decide +kernel
theorem d_Voice_endSound_12 : decode prog_12_method_4_code 12 = .ok (.iconst 0, 1) := by decide +kernel
theorem d_Voice_endSound_13 : decode prog_12_method_4_code 13 = .ok (.ireturn, 1) := by decide +kernel
def m_Voice_beginWalk : mr_T := (⟨"PlainMusic$Voice", "beginWalk", "()V"⟩, prog_12_method_5_code, 1, none)
theorem d_Voice_beginWalk_0 : decode prog_12_method_5_code 0 = .ok (.aload_n 0, 1) := by decide +kernel
theorem d_Voice_beginWalk_1 : decode prog_12_method_5_code 1 = .ok (.iconst 0, 1) := by decide +kernel
theorem d_Voice_beginWalk_2 : decode prog_12_method_5_code 2 = .ok (.putfield 60, 3) := by decide +kernel
theorem f_Voice_60 : fl_OK "PlainMusic$Voice" 60 10 14 .int false := ⟨_, rfl, by decide, (gw_in 300 (by decide +kernel) (by decide +kernel)), rfl, rfl⟩
theorem d_Voice_beginWalk_5 : decode prog_12_method_5_code 5 = .ok (.aload_n 0, 1) := by decide +kernel
theorem d_Voice_beginWalk_6 : decode prog_12_method_5_code 6 = .ok (.getfield 37, 3) := by decide +kernel
theorem d_Voice_beginWalk_9 : decode prog_12_method_5_code 9 = .ok (.iconst 0, 1) := by decide +kernel
theorem d_Voice_beginWalk_10 : decode prog_12_method_5_code 10 = .ok (.lconst 0, 1) := by decide +kernel
theorem d_Voice_beginWalk_11 : decode prog_12_method_5_code 11 = .ok (.lastore, 1) := by decide +kernel
theorem d_Voice_beginWalk_12 : decode prog_12_method_5_code 12 = .ok (.aload_n 0, 1) := by decide +kernel
theorem d_Voice_beginWalk_13 : decode prog_12_method_5_code 13 = .ok (.getfield 41, 3) := by decide +kernel
theorem d_Voice_beginWalk_16 : decode prog_12_method_5_code 16 = .ok (.iconst 0, 1) := by decide +kernel
theorem d_Voice_beginWalk_17 : decode prog_12_method_5_code 17 = .ok (.lconst 1, 1) := by decide +kernel
theorem d_Voice_beginWalk_18 : decode prog_12_method_5_code 18 = .ok (.lastore, 1) := by decide +kernel
theorem d_Voice_beginWalk_19 : decode prog_12_method_5_code 19 = .ok (.aload_n 0, 1) := by decide +kernel
theorem d_Voice_beginWalk_20 : decode prog_12_method_5_code 20 = .ok (.getfield 50, 3) := by decide +kernel
theorem d_Voice_beginWalk_23 : decode prog_12_method_5_code 23 = .ok (.iconst 0, 1) := by decide +kernel
theorem d_Voice_beginWalk_24 : decode prog_12_method_5_code 24 = .ok (.iconst 0, 1) := by decide +kernel
theorem d_Voice_beginWalk_25 : decode prog_12_method_5_code 25 = .ok (.iastore, 1) := by decide +kernel
theorem d_Voice_beginWalk_26 : decode prog_12_method_5_code 26 = .ok (.aload_n 0, 1) := by decide +kernel
theorem d_Voice_beginWalk_27 : decode prog_12_method_5_code 27 = .ok (.iconst 1, 1) := by decide +kernel
theorem d_Voice_beginWalk_28 : decode prog_12_method_5_code 28 = .ok (.putfield 63, 3) := by decide +kernel
theorem f_Voice_63 : fl_OK "PlainMusic$Voice" 63 10 16 .int false := ⟨_, rfl, by decide, (gw_in 309 (by decide +kernel) (by decide +kernel)), rfl, rfl⟩
theorem d_Voice_beginWalk_31 : decode prog_12_method_5_code 31 = .ok (.return_, 1) := by decide +kernel
def m_Voice_endWalk : mr_T := (⟨"PlainMusic$Voice", "endWalk", "()V"⟩, prog_12_method_7_code, 1, none)
theorem d_Voice_endWalk_0 : decode prog_12_method_7_code 0 = .ok (.aload_n 0, 1) := by decide +kernel
theorem d_Voice_endWalk_1 : decode prog_12_method_7_code 1 = .ok (.getfield 63, 3) := by decide +kernel
theorem d_Voice_endWalk_4 : decode prog_12_method_7_code 4 = .ok (.aload_n 0, 1) := by decide +kernel
theorem d_Voice_endWalk_5 : decode prog_12_method_7_code 5 = .ok (.getfield 50, 3) := by decide +kernel
theorem d_Voice_endWalk_8 : decode prog_12_method_7_code 8 = .ok (.arraylength, 1) := by decide +kernel
theorem d_Voice_endWalk_9 : decode prog_12_method_7_code 9 = .ok (.if_icmp .ge 16, 3) := by decide +kernel
theorem d_Voice_endWalk_12 : decode prog_12_method_7_code 12 = .ok (.aload_n 0, 1) := by decide +kernel
theorem d_Voice_endWalk_13 : decode prog_12_method_7_code 13 = .ok (.getfield 50, 3) := by decide +kernel
theorem d_Voice_endWalk_16 : decode prog_12_method_7_code 16 = .ok (.aload_n 0, 1) := by decide +kernel
theorem d_Voice_endWalk_17 : decode prog_12_method_7_code 17 = .ok (.getfield 63, 3) := by decide +kernel
theorem d_Voice_endWalk_20 : decode prog_12_method_7_code 20 = .ok (.aload_n 0, 1) := by decide +kernel
theorem d_Voice_endWalk_21 : decode prog_12_method_7_code 21 = .ok (.getfield 60, 3) := by decide +kernel
theorem d_Voice_endWalk_24 : decode prog_12_method_7_code 24 = .ok (.iastore, 1) := by decide +kernel
theorem d_Voice_endWalk_25 : decode prog_12_method_7_code 25 = .ok (.return_, 1) := by decide +kernel
