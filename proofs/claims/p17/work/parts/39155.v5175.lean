/-! ===== verification conditions, 5175 ===== -/
def B_JLong_bitCount_0 (G : cx_T) (s : Nat) (a0 : Int) (h : ah_T) (Q : Option av_T → ah_T → Prop) : Prop :=
 ∀ x1 : Int, x1 = (((Int64.ofInt a0).toUInt64 >>> ((Int32.ofInt 1).toInt64.toUInt64 &&& Int64.toUInt64 63)).toInt64).toInt → (-9223372036854775808) ≤ x1 → x1 ≤ 9223372036854775807 → ∀ x2 : Int, x2 = ((Int64.ofInt x1) &&& (Int64.ofInt 6148914691236517205)).toInt → (-9223372036854775808) ≤ x2 → x2 ≤ 9223372036854775807 → ∀ x3 : Int, x3 = w64 (a0 - x2) → (-9223372036854775808) ≤ x3 → x3 ≤ 9223372036854775807 → ∀ x4 : Int, x4 = ((Int64.ofInt x3) &&& (Int64.ofInt 3689348814741910323)).toInt → (-9223372036854775808) ≤ x4 → x4 ≤ 9223372036854775807 → ∀ x5 : Int, x5 = (((Int64.ofInt x3).toUInt64 >>> ((Int32.ofInt 2).toInt64.toUInt64 &&& Int64.toUInt64 63)).toInt64).toInt → (-9223372036854775808) ≤ x5 → x5 ≤ 9223372036854775807 → ∀ x6 : Int, x6 = ((Int64.ofInt x5) &&& (Int64.ofInt 3689348814741910323)).toInt → (-9223372036854775808) ≤ x6 → x6 ≤ 9223372036854775807 → ∀ x7 : Int, x7 = w64 (x4 + x6) → (-9223372036854775808) ≤ x7 → x7 ≤ 9223372036854775807 → ∀ x8 : Int, x8 = (((Int64.ofInt x7).toUInt64 >>> ((Int32.ofInt 4).toInt64.toUInt64 &&& Int64.toUInt64 63)).toInt64).toInt → (-9223372036854775808) ≤ x8 → x8 ≤ 9223372036854775807 → ∀ x9 : Int, x9 = w64 (x7 + x8) → (-9223372036854775808) ≤ x9 → x9 ≤ 9223372036854775807 → ∀ x10 : Int, x10 = ((Int64.ofInt x9) &&& (Int64.ofInt 1085102592571150095)).toInt → (-9223372036854775808) ≤ x10 → x10 ≤ 9223372036854775807 → ∀ x11 : Int, x11 = (((Int64.ofInt x10).toUInt64 >>> ((Int32.ofInt 8).toInt64.toUInt64 &&& Int64.toUInt64 63)).toInt64).toInt → (-9223372036854775808) ≤ x11 → x11 ≤ 9223372036854775807 → ∀ x12 : Int, x12 = w64 (x10 + x11) → (-9223372036854775808) ≤ x12 → x12 ≤ 9223372036854775807 → ∀ x13 : Int, x13 = (((Int64.ofInt x12).toUInt64 >>> ((Int32.ofInt 16).toInt64.toUInt64 &&& Int64.toUInt64 63)).toInt64).toInt → (-9223372036854775808) ≤ x13 → x13 ≤ 9223372036854775807 → ∀ x14 : Int, x14 = w64 (x12 + x13) → (-9223372036854775808) ≤ x14 → x14 ≤ 9223372036854775807 → ∀ x15 : Int, x15 = (((Int64.ofInt x14).toUInt64 >>> ((Int32.ofInt 32).toInt64.toUInt64 &&& Int64.toUInt64 63)).toInt64).toInt → (-9223372036854775808) ≤ x15 → x15 ≤ 9223372036854775807 → ∀ x16 : Int, x16 = w64 (x14 + x15) → (-9223372036854775808) ≤ x16 → x16 ≤ 9223372036854775807 → ∀ x17 : Int, x17 = w32 x16 → -2147483648 ≤ x17 → x17 ≤ 2147483647 → ∀ x18 : Int, x18 = ((Int32.ofInt x17) &&& (Int32.ofInt 127)).toInt → (-2147483648) ≤ x18 → x18 ≤ 2147483647 → Q (some (av_I x18)) h
theorem b_JLong_bitCount_0 {G : cx_T} {s : Nat} {a0 : Int} {h : ah_T} {Q : Option av_T → ah_T → Prop} (hb0 : hb s h) (H : B_JLong_bitCount_0 G s a0 h Q ) : aw G (rm_R 0 0 0) m_JLong_bitCount 0 0 0 [some (av_L a0), none] [] h Q := by
  unfold B_JLong_bitCount_0 at H
  have hS : isS s := hb0.2.1
  refine A_lload_n 0 d_JLong_bitCount_0 rfl rfl ?_
  refine A_lload_n 0 d_JLong_bitCount_1 rfl rfl ?_
  refine A_iconst d_JLong_bitCount_2 rfl ?_
  refine A_lushr d_JLong_bitCount_3 ?_
  refine A_nrL (fun x1 ex1 lx1 ux1 => ?_)
  replace H := H x1 ex1 lx1 ux1
  refine A_ldc2 (z := 6148914691236517205) d_JLong_bitCount_4 cst_JLong_314 rfl ?_
  refine A_pc (pc' := 7) rfl ?_
  refine A_land d_JLong_bitCount_7 ?_
  refine A_nrL (fun x2 ex2 lx2 ux2 => ?_)
  replace H := H x2 ex2 lx2 ux2
  refine A_lsubw d_JLong_bitCount_8 (fun x3 ex3 lx3 ux3 => ?_)
  replace H := H x3 (ex3.trans (by first | rfl | (congr 1; omega))) lx3 ux3
  refine A_lstore_n 0 (L' := [some (av_L x3), none]) d_JLong_bitCount_9 rfl (Nat.le_of_ble_eq_true rfl) rfl ?_
  refine A_lload_n 0 d_JLong_bitCount_10 rfl rfl ?_
  refine A_ldc2 (z := 3689348814741910323) d_JLong_bitCount_11 cst_JLong_316 rfl ?_
  refine A_land d_JLong_bitCount_14 ?_
  refine A_nrL (fun x4 ex4 lx4 ux4 => ?_)
  replace H := H x4 ex4 lx4 ux4
  refine A_pc (pc' := 15) rfl ?_
  refine A_lload_n 0 d_JLong_bitCount_15 rfl rfl ?_
  refine A_iconst d_JLong_bitCount_16 rfl ?_
  refine A_lushr d_JLong_bitCount_17 ?_
  refine A_nrL (fun x5 ex5 lx5 ux5 => ?_)
  replace H := H x5 ex5 lx5 ux5
  refine A_ldc2 (z := 3689348814741910323) d_JLong_bitCount_18 cst_JLong_316 rfl ?_
  refine A_land d_JLong_bitCount_21 ?_
  refine A_nrL (fun x6 ex6 lx6 ux6 => ?_)
  replace H := H x6 ex6 lx6 ux6
  refine A_laddw d_JLong_bitCount_22 (fun x7 ex7 lx7 ux7 => ?_)
  replace H := H x7 (ex7.trans (by first | rfl | (congr 1; omega))) lx7 ux7
  refine A_pc (pc' := 23) rfl ?_
  refine A_lstore_n 0 (L' := [some (av_L x7), none]) d_JLong_bitCount_23 rfl (Nat.le_of_ble_eq_true rfl) rfl ?_
  refine A_lload_n 0 d_JLong_bitCount_24 rfl rfl ?_
  refine A_lload_n 0 d_JLong_bitCount_25 rfl rfl ?_
  refine A_iconst d_JLong_bitCount_26 rfl ?_
  refine A_lushr d_JLong_bitCount_27 ?_
  refine A_nrL (fun x8 ex8 lx8 ux8 => ?_)
  replace H := H x8 ex8 lx8 ux8
  refine A_laddw d_JLong_bitCount_28 (fun x9 ex9 lx9 ux9 => ?_)
  replace H := H x9 (ex9.trans (by first | rfl | (congr 1; omega))) lx9 ux9
  refine A_pc (pc' := 29) rfl ?_
  refine A_ldc2 (z := 1085102592571150095) d_JLong_bitCount_29 cst_JLong_318 rfl ?_
  refine A_land d_JLong_bitCount_32 ?_
  refine A_nrL (fun x10 ex10 lx10 ux10 => ?_)
  replace H := H x10 ex10 lx10 ux10
  refine A_lstore_n 0 (L' := [some (av_L x10), none]) d_JLong_bitCount_33 rfl (Nat.le_of_ble_eq_true rfl) rfl ?_
  refine A_lload_n 0 d_JLong_bitCount_34 rfl rfl ?_
  refine A_lload_n 0 d_JLong_bitCount_35 rfl rfl ?_
  refine A_bipush d_JLong_bitCount_36 rfl ?_
  refine A_pc (pc' := 38) rfl ?_
  refine A_lushr d_JLong_bitCount_38 ?_
  refine A_nrL (fun x11 ex11 lx11 ux11 => ?_)
  replace H := H x11 ex11 lx11 ux11
  refine A_laddw d_JLong_bitCount_39 (fun x12 ex12 lx12 ux12 => ?_)
  replace H := H x12 (ex12.trans (by first | rfl | (congr 1; omega))) lx12 ux12
  refine A_lstore_n 0 (L' := [some (av_L x12), none]) d_JLong_bitCount_40 rfl (Nat.le_of_ble_eq_true rfl) rfl ?_
  refine A_lload_n 0 d_JLong_bitCount_41 rfl rfl ?_
  refine A_lload_n 0 d_JLong_bitCount_42 rfl rfl ?_
  refine A_bipush d_JLong_bitCount_43 rfl ?_
  refine A_pc (pc' := 45) rfl ?_
  refine A_lushr d_JLong_bitCount_45 ?_
  refine A_nrL (fun x13 ex13 lx13 ux13 => ?_)
  replace H := H x13 ex13 lx13 ux13
  refine A_laddw d_JLong_bitCount_46 (fun x14 ex14 lx14 ux14 => ?_)
  replace H := H x14 (ex14.trans (by first | rfl | (congr 1; omega))) lx14 ux14
  refine A_lstore_n 0 (L' := [some (av_L x14), none]) d_JLong_bitCount_47 rfl (Nat.le_of_ble_eq_true rfl) rfl ?_
  refine A_lload_n 0 d_JLong_bitCount_48 rfl rfl ?_
  refine A_lload_n 0 d_JLong_bitCount_49 rfl rfl ?_
  refine A_bipush d_JLong_bitCount_50 rfl ?_
  refine A_pc (pc' := 52) rfl ?_
  refine A_lushr d_JLong_bitCount_52 ?_
  refine A_nrL (fun x15 ex15 lx15 ux15 => ?_)
  replace H := H x15 ex15 lx15 ux15
  refine A_laddw d_JLong_bitCount_53 (fun x16 ex16 lx16 ux16 => ?_)
  replace H := H x16 (ex16.trans (by first | rfl | (congr 1; omega))) lx16 ux16
  refine A_lstore_n 0 (L' := [some (av_L x16), none]) d_JLong_bitCount_54 rfl (Nat.le_of_ble_eq_true rfl) rfl ?_
  refine A_lload_n 0 d_JLong_bitCount_55 rfl rfl ?_
  refine A_l2iw d_JLong_bitCount_56 (fun x17 ex17 lx17 ux17 => ?_)
  replace H := H x17 ex17 lx17 ux17
  refine A_bipush d_JLong_bitCount_57 rfl ?_
  refine A_pc (pc' := 59) rfl ?_
  refine A_iand d_JLong_bitCount_59 ?_
  refine A_nrI (fun x18 ex18 lx18 ux18 => ?_)
  replace H := H x18 ex18 lx18 ux18
  exact A_iret d_JLong_bitCount_60 (by decide) rfl H
theorem c_JLong_bitCount {G : cx_T} {s : Nat} {a0 : Int} {h : ah_T} {Q : Option av_T → ah_T → Prop} (hb0 : hb s h) (H : i64 a0 → B_JLong_bitCount_0 G s a0 h Q ) : con G 0 0 0 m_JLong_bitCount [av_L a0] h Q := by
  have hS : isS s := hb0.2.1
  refine con_of (L := [some (av_L a0), none]) (by decide +kernel) (Nat.le_of_ble_eq_true rfl) rfl ?_
  refine A_locL 0 rfl (fun ra0 => ?_)
  exact b_JLong_bitCount_0   hb0 (H ra0)
