/-! ===== the reference's methods, 330 ===== -/
def m_MD_closing : mr_T := (⟨"PlainMusicModel", "closing", "(I)I"⟩, prog_14_method_36_code, 2, some .int)
theorem d_MD_closing_0 : decode prog_14_method_36_code 0 = .ok (.aload_n 0, 1) := by decide +kernel
theorem d_MD_closing_1 : decode prog_14_method_36_code 1 = .ok (.getfield 133, 3) := by decide +kernel
theorem d_MD_closing_4 : decode prog_14_method_36_code 4 = .ok (.iload_n 1, 1) := by decide +kernel
theorem d_MD_closing_5 : decode prog_14_method_36_code 5 = .ok (.iaload, 1) := by decide +kernel
theorem d_MD_closing_6 : decode prog_14_method_36_code 6 = .ok (.ireturn, 1) := by decide +kernel
def m_MD_opening : mr_T := (⟨"PlainMusicModel", "opening", "(I)I"⟩, prog_14_method_42_code, 2, some .int)
theorem d_MD_opening_0 : decode prog_14_method_42_code 0 = .ok (.aload_n 0, 1) := by decide +kernel
theorem d_MD_opening_1 : decode prog_14_method_42_code 1 = .ok (.getfield 133, 3) := by decide +kernel
theorem d_MD_opening_4 : decode prog_14_method_42_code 4 = .ok (.iload_n 1, 1) := by decide +kernel
theorem d_MD_opening_5 : decode prog_14_method_42_code 5 = .ok (.iaload, 1) := by decide +kernel
theorem d_MD_opening_6 : decode prog_14_method_42_code 6 = .ok (.ireturn, 1) := by decide +kernel
def m_MD_colons : mr_T := (⟨"PlainMusicModel", "colons", "(I)I"⟩, prog_14_method_37_code, 2, some .int)
theorem d_MD_colons_0 : decode prog_14_method_37_code 0 = .ok (.aload_n 0, 1) := by decide +kernel
theorem d_MD_colons_1 : decode prog_14_method_37_code 1 = .ok (.getfield 145, 3) := by decide +kernel
theorem d_MD_colons_4 : decode prog_14_method_37_code 4 = .ok (.iload_n 1, 1) := by decide +kernel
theorem d_MD_colons_5 : decode prog_14_method_37_code 5 = .ok (.iaload, 1) := by decide +kernel
theorem d_MD_colons_6 : decode prog_14_method_37_code 6 = .ok (.ireturn, 1) := by decide +kernel
def m_MD_behindColon : mr_T := (⟨"PlainMusicModel", "behindColon", "(II)I"⟩, prog_14_method_38_code, 5, some .int)
theorem d_MD_behindColon_0 : decode prog_14_method_38_code 0 = .ok (.aload_n 0, 1) := by decide +kernel
theorem d_MD_behindColon_1 : decode prog_14_method_38_code 1 = .ok (.getfield 136, 3) := by decide +kernel
theorem d_MD_behindColon_4 : decode prog_14_method_38_code 4 = .ok (.iload_n 1, 1) := by decide +kernel
theorem d_MD_behindColon_5 : decode prog_14_method_38_code 5 = .ok (.iaload, 1) := by decide +kernel
theorem d_MD_behindColon_6 : decode prog_14_method_38_code 6 = .ok (.istore_n 3, 1) := by decide +kernel
theorem d_MD_behindColon_7 : decode prog_14_method_38_code 7 = .ok (.iconst 1, 1) := by decide +kernel
theorem d_MD_behindColon_8 : decode prog_14_method_38_code 8 = .ok (.istore 4, 2) := by decide +kernel
theorem d_MD_behindColon_10 : decode prog_14_method_38_code 10 = .ok (.iload 4, 2) := by decide +kernel
theorem d_MD_behindColon_12 : decode prog_14_method_38_code 12 = .ok (.iload_n 2, 1) := by decide +kernel
theorem d_MD_behindColon_13 : decode prog_14_method_38_code 13 = .ok (.if_icmp .ge 16, 3) := by decide +kernel
theorem d_MD_behindColon_29 : decode prog_14_method_38_code 29 = .ok (.iload_n 3, 1) := by decide +kernel
theorem d_MD_behindColon_30 : decode prog_14_method_38_code 30 = .ok (.iconst 1, 1) := by decide +kernel
theorem d_MD_behindColon_31 : decode prog_14_method_38_code 31 = .ok (.iadd, 1) := by decide +kernel
theorem d_MD_behindColon_32 : decode prog_14_method_38_code 32 = .ok (.ireturn, 1) := by decide +kernel
theorem d_MD_behindColon_16 : decode prog_14_method_38_code 16 = .ok (.aload_n 0, 1) := by decide +kernel
theorem d_MD_behindColon_17 : decode prog_14_method_38_code 17 = .ok (.getfield 139, 3) := by decide +kernel
theorem d_MD_behindColon_20 : decode prog_14_method_38_code 20 = .ok (.iload_n 3, 1) := by decide +kernel
theorem d_MD_behindColon_21 : decode prog_14_method_38_code 21 = .ok (.iaload, 1) := by decide +kernel
theorem d_MD_behindColon_22 : decode prog_14_method_38_code 22 = .ok (.istore_n 3, 1) := by decide +kernel
theorem d_MD_behindColon_23 : decode prog_14_method_38_code 23 = .ok (.iinc 4 1, 3) := by decide +kernel
theorem d_MD_behindColon_26 : decode prog_14_method_38_code 26 = .ok (.goto (-16), 3) := by decide +kernel
def m_MD_isIn : mr_T := (⟨"PlainMusicModel", "isIn", "(I)Z"⟩, prog_14_method_40_code, 2, some .boolean)
theorem mr_170_70 : mr 170 70 = (0, 10) := by decide +kernel
theorem d_MD_isIn_0 : decode prog_14_method_40_code 0 = .ok (.aload_n 0, 1) := by decide +kernel
theorem d_MD_isIn_1 : decode prog_14_method_40_code 1 = .ok (.getfield 163, 3) := by decide +kernel
theorem rfm_79 : (79, 220) ∈ mf_L := by decide +kernel
theorem d_MD_isIn_4 : decode prog_14_method_40_code 4 = .ok (.aload_n 0, 1) := by decide +kernel
theorem d_MD_isIn_5 : decode prog_14_method_40_code 5 = .ok (.getfield 399, 3) := by decide +kernel
theorem f_MD_399 : fl_OK "PlainMusicModel" 399 12 70 .int false := ⟨_, rfl, by decide, (gw_in 1552 (by decide +kernel) (by decide +kernel)), rfl, rfl⟩
theorem d_MD_isIn_8 : decode prog_14_method_40_code 8 = .ok (.iconst 1, 1) := by decide +kernel
theorem d_MD_isIn_9 : decode prog_14_method_40_code 9 = .ok (.isub, 1) := by decide +kernel
theorem d_MD_isIn_10 : decode prog_14_method_40_code 10 = .ok (.baload, 1) := by decide +kernel
theorem sf_220 : sh_L[220]? = some (2, 10) := by decide +kernel
theorem d_MD_isIn_11 : decode prog_14_method_40_code 11 = .ok (.ireturn, 1) := by decide +kernel
def m_MD_turned : mr_T := (⟨"PlainMusicModel", "turned", "(I)I"⟩, prog_14_method_41_code, 2, some .int)
theorem mr_170_71 : mr 170 71 = (0, 2010) := by decide +kernel
theorem d_MD_turned_0 : decode prog_14_method_41_code 0 = .ok (.aload_n 0, 1) := by decide +kernel
theorem d_MD_turned_1 : decode prog_14_method_41_code 1 = .ok (.getfield 163, 3) := by decide +kernel
theorem d_MD_turned_4 : decode prog_14_method_41_code 4 = .ok (.aload_n 0, 1) := by decide +kernel
theorem d_MD_turned_5 : decode prog_14_method_41_code 5 = .ok (.getfield 399, 3) := by decide +kernel
theorem d_MD_turned_8 : decode prog_14_method_41_code 8 = .ok (.iconst 1, 1) := by decide +kernel
theorem d_MD_turned_9 : decode prog_14_method_41_code 9 = .ok (.isub, 1) := by decide +kernel
theorem d_MD_turned_10 : decode prog_14_method_41_code 10 = .ok (.iconst 0, 1) := by decide +kernel
theorem d_MD_turned_11 : decode prog_14_method_41_code 11 = .ok (.bastore, 1) := by decide +kernel
theorem mr_220 (k : Nat) : mr 220 k = ((-2147483648), 2147483647) := rfl
theorem d_MD_turned_12 : decode prog_14_method_41_code 12 = .ok (.aload_n 0, 1) := by decide +kernel
theorem d_MD_turned_13 : decode prog_14_method_41_code 13 = .ok (.getfield 157, 3) := by decide +kernel
theorem rfm_68 : (68, 218) ∈ mf_L := by decide +kernel
theorem d_MD_turned_16 : decode prog_14_method_41_code 16 = .ok (.aload_n 0, 1) := by decide +kernel
theorem d_MD_turned_17 : decode prog_14_method_41_code 17 = .ok (.getfield 399, 3) := by decide +kernel
theorem d_MD_turned_20 : decode prog_14_method_41_code 20 = .ok (.iconst 1, 1) := by decide +kernel
theorem d_MD_turned_21 : decode prog_14_method_41_code 21 = .ok (.isub, 1) := by decide +kernel
theorem d_MD_turned_22 : decode prog_14_method_41_code 22 = .ok (.iaload, 1) := by decide +kernel
theorem sf_218 : sh_L[218]? = some (0, 10) := by decide +kernel
theorem mr_218 (k : Nat) : mr 218 k = (0, 2001) := rfl
theorem d_MD_turned_23 : decode prog_14_method_41_code 23 = .ok (.aload_n 0, 1) := by decide +kernel
theorem d_MD_turned_24 : decode prog_14_method_41_code 24 = .ok (.getfield 160, 3) := by decide +kernel
theorem rfm_69 : (69, 219) ∈ mf_L := by decide +kernel
theorem d_MD_turned_27 : decode prog_14_method_41_code 27 = .ok (.aload_n 0, 1) := by decide +kernel
theorem d_MD_turned_28 : decode prog_14_method_41_code 28 = .ok (.getfield 399, 3) := by decide +kernel
theorem d_MD_turned_31 : decode prog_14_method_41_code 31 = .ok (.iconst 1, 1) := by decide +kernel
theorem d_MD_turned_32 : decode prog_14_method_41_code 32 = .ok (.isub, 1) := by decide +kernel
theorem d_MD_turned_33 : decode prog_14_method_41_code 33 = .ok (.iaload, 1) := by decide +kernel
theorem sf_219 : sh_L[219]? = some (0, 10) := by decide +kernel
theorem mr_219 (k : Nat) : mr 219 k = (0, 2001) := rfl
theorem d_MD_turned_34 : decode prog_14_method_41_code 34 = .ok (.if_icmp .ge 32, 3) := by decide +kernel
theorem d_MD_turned_66 : decode prog_14_method_41_code 66 = .ok (.aload_n 0, 1) := by decide +kernel
theorem d_MD_turned_67 : decode prog_14_method_41_code 67 = .ok (.dup, 1) := by decide +kernel
theorem d_MD_turned_68 : decode prog_14_method_41_code 68 = .ok (.getfield 399, 3) := by decide +kernel
theorem d_MD_turned_71 : decode prog_14_method_41_code 71 = .ok (.iconst 1, 1) := by decide +kernel
theorem d_MD_turned_72 : decode prog_14_method_41_code 72 = .ok (.isub, 1) := by decide +kernel
theorem d_MD_turned_73 : decode prog_14_method_41_code 73 = .ok (.putfield 399, 3) := by decide +kernel
theorem d_MD_turned_76 : decode prog_14_method_41_code 76 = .ok (.aload_n 0, 1) := by decide +kernel
theorem d_MD_turned_77 : decode prog_14_method_41_code 77 = .ok (.iload_n 1, 1) := by decide +kernel
theorem d_MD_turned_78 : decode prog_14_method_41_code 78 = .ok (.invokevirtual 449, 3) := by decide +kernel
theorem k_MD_closing : mt_OK m_MD_closing 1 1 := ⟨(gw_in 1980 (by decide +kernel) (by decide +kernel)), (gw_in 146 (by decide +kernel) (by decide +kernel)), ⟨by decide +kernel, by decide +kernel, by decide +kernel⟩, fun h => absurd h (by decide), fun _ => ⟨(gw_in 1979 (by decide +kernel) (by decide +kernel)), (gw_in 94 (by decide +kernel) (by decide +kernel))⟩, fun h => absurd h (by decide)⟩
theorem l_MD_449 : ml_OK "PlainMusicModel" 449 ⟨"PlainMusicModel", "closing", "(I)I"⟩ := Or.inl (gw_in 1977 (by decide +kernel) (by decide +kernel))
theorem d_MD_turned_81 : decode prog_14_method_41_code 81 = .ok (.iconst 1, 1) := by decide +kernel
theorem d_MD_turned_82 : decode prog_14_method_41_code 82 = .ok (.iadd, 1) := by decide +kernel
theorem d_MD_turned_83 : decode prog_14_method_41_code 83 = .ok (.ireturn, 1) := by decide +kernel
theorem d_MD_turned_37 : decode prog_14_method_41_code 37 = .ok (.aload_n 0, 1) := by decide +kernel
theorem d_MD_turned_38 : decode prog_14_method_41_code 38 = .ok (.getfield 157, 3) := by decide +kernel
theorem d_MD_turned_41 : decode prog_14_method_41_code 41 = .ok (.aload_n 0, 1) := by decide +kernel
theorem d_MD_turned_42 : decode prog_14_method_41_code 42 = .ok (.getfield 399, 3) := by decide +kernel
theorem d_MD_turned_45 : decode prog_14_method_41_code 45 = .ok (.iconst 1, 1) := by decide +kernel
theorem d_MD_turned_46 : decode prog_14_method_41_code 46 = .ok (.isub, 1) := by decide +kernel
theorem d_MD_turned_47 : decode prog_14_method_41_code 47 = .ok (.dup2, 1) := by decide +kernel
theorem d_MD_turned_48 : decode prog_14_method_41_code 48 = .ok (.iaload, 1) := by decide +kernel
theorem d_MD_turned_49 : decode prog_14_method_41_code 49 = .ok (.iconst 1, 1) := by decide +kernel
theorem d_MD_turned_50 : decode prog_14_method_41_code 50 = .ok (.iadd, 1) := by decide +kernel
theorem d_MD_turned_51 : decode prog_14_method_41_code 51 = .ok (.iastore, 1) := by decide +kernel
theorem d_MD_turned_52 : decode prog_14_method_41_code 52 = .ok (.aload_n 0, 1) := by decide +kernel
theorem d_MD_turned_53 : decode prog_14_method_41_code 53 = .ok (.dup, 1) := by decide +kernel
theorem d_MD_turned_54 : decode prog_14_method_41_code 54 = .ok (.getfield 402, 3) := by decide +kernel
theorem f_MD_402 : fl_OK "PlainMusicModel" 402 12 71 .int false := ⟨_, rfl, by decide, (gw_in 1553 (by decide +kernel) (by decide +kernel)), rfl, rfl⟩
theorem d_MD_turned_57 : decode prog_14_method_41_code 57 = .ok (.iconst 1, 1) := by decide +kernel
theorem d_MD_turned_58 : decode prog_14_method_41_code 58 = .ok (.iadd, 1) := by decide +kernel
theorem d_MD_turned_59 : decode prog_14_method_41_code 59 = .ok (.putfield 402, 3) := by decide +kernel
theorem d_MD_turned_62 : decode prog_14_method_41_code 62 = .ok (.iload_n 1, 1) := by decide +kernel
theorem d_MD_turned_63 : decode prog_14_method_41_code 63 = .ok (.iconst 1, 1) := by decide +kernel
theorem d_MD_turned_64 : decode prog_14_method_41_code 64 = .ok (.iadd, 1) := by decide +kernel
theorem d_MD_turned_65 : decode prog_14_method_41_code 65 = .ok (.ireturn, 1) := by decide +kernel
def m_MD_scale : mr_T := (⟨"PlainMusicModel", "scale", "(II)V"⟩, prog_14_method_43_code, 3, none)
theorem d_MD_scale_0 : decode prog_14_method_43_code 0 = .ok (.aload_n 0, 1) := by decide +kernel
theorem d_MD_scale_1 : decode prog_14_method_43_code 1 = .ok (.aload_n 0, 1) := by decide +kernel
theorem d_MD_scale_2 : decode prog_14_method_43_code 2 = .ok (.getfield 420, 3) := by decide +kernel
theorem f_MD_420 : fl_OK "PlainMusicModel" 420 12 77 .long false := ⟨_, rfl, by decide, (gw_in 1559 (by decide +kernel) (by decide +kernel)), rfl, rfl⟩
theorem d_MD_scale_5 : decode prog_14_method_43_code 5 = .ok (.iload_n 1, 1) := by decide +kernel
theorem d_MD_scale_6 : decode prog_14_method_43_code 6 = .ok (.i2l, 1) := by decide +kernel
theorem d_MD_scale_7 : decode prog_14_method_43_code 7 = .ok (.lmul, 1) := by decide +kernel
theorem d_MD_scale_8 : decode prog_14_method_43_code 8 = .ok (.aload_n 0, 1) := by decide +kernel
theorem d_MD_scale_9 : decode prog_14_method_43_code 9 = .ok (.getfield 423, 3) := by decide +kernel
theorem f_MD_423 : fl_OK "PlainMusicModel" 423 12 78 .long false := ⟨_, rfl, by decide, (gw_in 1560 (by decide +kernel) (by decide +kernel)), rfl, rfl⟩
theorem d_MD_scale_12 : decode prog_14_method_43_code 12 = .ok (.iload_n 2, 1) := by decide +kernel
theorem d_MD_scale_13 : decode prog_14_method_43_code 13 = .ok (.i2l, 1) := by decide +kernel
theorem d_MD_scale_14 : decode prog_14_method_43_code 14 = .ok (.lmul, 1) := by decide +kernel
theorem d_MD_scale_15 : decode prog_14_method_43_code 15 = .ok (.invokevirtual 391, 3) := by decide +kernel
theorem d_MD_scale_18 : decode prog_14_method_43_code 18 = .ok (.aload_n 0, 1) := by decide +kernel
theorem d_MD_scale_19 : decode prog_14_method_43_code 19 = .ok (.aload_n 0, 1) := by decide +kernel
theorem d_MD_scale_20 : decode prog_14_method_43_code 20 = .ok (.getfield 385, 3) := by decide +kernel
theorem d_MD_scale_23 : decode prog_14_method_43_code 23 = .ok (.putfield 420, 3) := by decide +kernel
theorem mq_170_77 : mq 170 77 = ((-9223372036854775808), 9223372036854775807) := by decide +kernel
theorem d_MD_scale_26 : decode prog_14_method_43_code 26 = .ok (.aload_n 0, 1) := by decide +kernel
theorem d_MD_scale_27 : decode prog_14_method_43_code 27 = .ok (.aload_n 0, 1) := by decide +kernel
theorem d_MD_scale_28 : decode prog_14_method_43_code 28 = .ok (.getfield 388, 3) := by decide +kernel
theorem d_MD_scale_31 : decode prog_14_method_43_code 31 = .ok (.putfield 423, 3) := by decide +kernel
theorem mq_170_78 : mq 170 78 = ((-9223372036854775808), 9223372036854775807) := by decide +kernel
theorem d_MD_scale_34 : decode prog_14_method_43_code 34 = .ok (.return_, 1) := by decide +kernel
theorem s_MD_closing {G : cx_T} {h : ah_T} (hx : mi h) {a1 : Int} (la1 : 0 ≤ a1) (ua1 : a1 ≤ 1999) : con G 0 0 0 m_MD_closing [av_R (some 170), av_I a1] h (fun r h' => ∃ z, r = some (av_I z) ∧ (0 ≤ z ∧ z ≤ 2000) ∧ (z = h.2.1 210 a1.toNat) ∧ h = h') := by
  refine con_of (L := [some (av_R (some 170)), some (av_I a1)]) (by decide +kernel) (Nat.le_of_ble_eq_true rfl) rfl ?_
  refine A_aload_n 0 d_MD_closing_0 rfl rfl ?_
  refine A_getAv (z := some 210) T_ok d_MD_closing_1 f_MD_133 (mi_s hx sf_170) (mi_r hx rfm_53) ?_
  refine A_iload_n 1 d_MD_closing_4 rfl rfl ?_
  refine A_ialoadn (lo := 0) (hi := 2000) d_MD_closing_5 (mi_s hx sf_210) (by omega) (by omega) (mi_g hx (by decide) (mr_210 _)) (fun x2 ex2 _ _ => ?_)
  exact A_iret d_MD_closing_6 (by decide) rfl ⟨_, rfl, ⟨by omega, by omega⟩, (by omega), rfl⟩
theorem s_MD_opening {G : cx_T} {h : ah_T} (hx : mi h) {a1 : Int} (la1 : 0 ≤ a1) (ua1 : a1 ≤ 1999) : con G 0 0 0 m_MD_opening [av_R (some 170), av_I a1] h (fun r h' => ∃ z, r = some (av_I z) ∧ (0 ≤ z ∧ z ≤ 2000) ∧ (z = h.2.1 210 a1.toNat) ∧ h = h') := by
  refine con_of (L := [some (av_R (some 170)), some (av_I a1)]) (by decide +kernel) (Nat.le_of_ble_eq_true rfl) rfl ?_
  refine A_aload_n 0 d_MD_opening_0 rfl rfl ?_
  refine A_getAv (z := some 210) T_ok d_MD_opening_1 f_MD_133 (mi_s hx sf_170) (mi_r hx rfm_53) ?_
  refine A_iload_n 1 d_MD_opening_4 rfl rfl ?_
  refine A_ialoadn (lo := 0) (hi := 2000) d_MD_opening_5 (mi_s hx sf_210) (by omega) (by omega) (mi_g hx (by decide) (mr_210 _)) (fun x2 ex2 _ _ => ?_)
  exact A_iret d_MD_opening_6 (by decide) rfl ⟨_, rfl, ⟨by omega, by omega⟩, (by omega), rfl⟩
theorem s_MD_colons {G : cx_T} {h : ah_T} (hx : mi h) {a1 : Int} (la1 : 0 ≤ a1) (ua1 : a1 ≤ 1999) : con G 0 0 0 m_MD_colons [av_R (some 170), av_I a1] h (fun r h' => ∃ z, r = some (av_I z) ∧ (0 ≤ z ∧ z ≤ 2000) ∧ (z = h.2.1 214 a1.toNat) ∧ h = h') := by
  refine con_of (L := [some (av_R (some 170)), some (av_I a1)]) (by decide +kernel) (Nat.le_of_ble_eq_true rfl) rfl ?_
  refine A_aload_n 0 d_MD_colons_0 rfl rfl ?_
  refine A_getAv (z := some 214) T_ok d_MD_colons_1 f_MD_145 (mi_s hx sf_170) (mi_r hx rfm_57) ?_
  refine A_iload_n 1 d_MD_colons_4 rfl rfl ?_
  refine A_ialoadn (lo := 0) (hi := 2000) d_MD_colons_5 (mi_s hx sf_214) (by omega) (by omega) (mi_g hx (by decide) (mr_214 _)) (fun x2 ex2 _ _ => ?_)
  exact A_iret d_MD_colons_6 (by decide) rfl ⟨_, rfl, ⟨by omega, by omega⟩, (by omega), rfl⟩
theorem s_MD_behindColon {G : cx_T} {h : ah_T} (hx : mi h) {a1 : Int} {a2 : Int} (la1 : 0 ≤ a1) (ua1 : a1 ≤ 1999) (la2 : 1 ≤ a2) (ua2 : a2 ≤ 2000) (hcl : ∀ j : Nat, (j : Int) < a2 → col (h.2.1 211) (h.2.1 212) a1.toNat j < 2000) : con G 0 0 0 m_MD_behindColon [av_R (some 170), av_I a1, av_I a2] h (fun r h' => ∃ z, r = some (av_I z) ∧ (1 ≤ z ∧ z ≤ 2000) ∧ (z = (col (h.2.1 211) (h.2.1 212) a1.toNat (a2 - 1).toNat : Int) + 1) ∧ h = h') := by
  refine con_of (L := [some (av_R (some 170)), some (av_I a1), some (av_I a2), none, none]) (by decide +kernel) (Nat.le_of_ble_eq_true rfl) rfl ?_
  refine A_aload_n 0 d_MD_behindColon_0 rfl rfl ?_
  refine A_getAv (z := some 211) T_ok d_MD_behindColon_1 f_MD_136 (mi_s hx sf_170) (mi_r hx rfm_54) ?_
  refine A_iload_n 1 d_MD_behindColon_4 rfl rfl ?_
  refine A_ialoadn (lo := 0) (hi := 2000) d_MD_behindColon_5 (mi_s hx sf_211) (by omega) (by omega) (mi_g hx (by decide) (mr_211 _)) (fun x2 ex2 _ _ => ?_)
  refine A_istore_n 3 (L' := [some (av_R (some 170)), some (av_I a1), some (av_I a2), some (av_I x2), none]) d_MD_behindColon_6 rfl (Nat.le_of_ble_eq_true rfl) rfl ?_
  refine A_pc (pc' := 7) rfl ?_
  refine A_iconst d_MD_behindColon_7 rfl ?_
  refine A_istore (L' := [some (av_R (some 170)), some (av_I a1), some (av_I a2), some (av_I x2), some (av_I 1)]) d_MD_behindColon_8 (Nat.le_of_ble_eq_true rfl) rfl ?_
  have lp10 : ∀ (n : Nat) (i3 i4 : Int) , 0 ≤ i3 → i3 ≤ 2000 → 1 ≤ i4 → i4 ≤ 2000 → (1 ≤ i4 ∧ i4 ≤ a2 ∧ i3 = (col (h.2.1 211) (h.2.1 212) a1.toNat (i4 - 1).toNat : Int)) → (2001 - i4).toNat < n → aw G (rm_R 0 0 0) m_MD_behindColon 0 0 10 [some (av_R (some 170)), some (av_I a1), some (av_I a2), some (av_I i3), some (av_I i4)] [] h (fun r h' => ∃ z, r = some (av_I z) ∧ (1 ≤ z ∧ z ≤ 2000) ∧ (z = (col (h.2.1 211) (h.2.1 212) a1.toNat (a2 - 1).toNat : Int) + 1) ∧ h = h') := by
    intro n
    induction n with
    | zero => intro i3 i4 _ _ _ _ _ hm; omega
    | succ n ih10 =>
      intro i3 i4 hl0 hl1 hl2 hl3 hinv hm
      refine A_iload d_MD_behindColon_10 rfl ?_
      refine A_iload_n 2 d_MD_behindColon_12 rfl rfl ?_
      refine A_icmp_ge (tgt := 29) d_MD_behindColon_13 (by decide) (fun c5 => ?_) (fun c5 => ?_)
      · have yc := hcl (i4 - 1).toNat (by omega)
        refine A_iload_n 3 d_MD_behindColon_29 rfl rfl ?_
        refine A_iconst d_MD_behindColon_30 rfl ?_
        refine A_iaddv (z := (i3 + 1)) d_MD_behindColon_31 (w32_to (by omega) (by unfold i32; omega)) ?_
        exact A_iret d_MD_behindColon_32 (by decide) rfl ⟨_, rfl, ⟨by omega, by omega⟩, (by have q1 : i4 = a2 := (by omega); rw [← q1]; omega), rfl⟩
      · have yc := hcl (i4 - 1).toNat (by omega)
        refine A_aload_n 0 d_MD_behindColon_16 rfl rfl ?_
        refine A_getAv (z := some 212) T_ok d_MD_behindColon_17 f_MD_139 (mi_s hx sf_170) (mi_r hx rfm_55) ?_
        refine A_iload_n 3 d_MD_behindColon_20 rfl rfl ?_
        refine A_ialoadn (lo := 0) (hi := 2000) d_MD_behindColon_21 (mi_s hx sf_212) (by omega) (by omega) (mi_g hx (by decide) (mr_212 _)) (fun x7 ex7 _ _ => ?_)
        refine A_istore_n 3 (L' := [some (av_R (some 170)), some (av_I a1), some (av_I a2), some (av_I x7), some (av_I i4)]) d_MD_behindColon_22 rfl (Nat.le_of_ble_eq_true rfl) rfl ?_
        refine A_pc (pc' := 23) rfl ?_
        refine A_iincv (z := (i4 + 1)) (L' := [some (av_R (some 170)), some (av_I a1), some (av_I a2), some (av_I x7), some (av_I (i4 + 1))]) d_MD_behindColon_23 rfl (w32_to (by omega) (by unfold i32; omega)) rfl ?_
        refine A_goto (tgt := 10) d_MD_behindColon_26 (by decide) ?_
        exact ih10 x7 (i4 + 1) (by omega) (by omega) (by omega) (by omega) ⟨by omega, by omega, col_n (i := i4) hinv.2.2 (by omega) ex7 (by omega)⟩ (by omega)
  exact lp10 _ x2 1 (by omega) (by omega) (by omega) (by omega) ⟨by omega, by omega, col_z ex2 (by omega)⟩ (Nat.lt_succ_self _)
theorem s_MD_isIn {G : cx_T} {h : ah_T} (hx : mi h) {a1 : Int} (hd : 1 ≤ h.2.1 170 70 ∧ h.2.1 170 70 ≤ 7) : con G 0 0 0 m_MD_isIn [av_R (some 170), av_I a1] h (fun r h' => ∃ z, r = some (av_I z) ∧ (z = 0 ∨ z = 1) ∧ h = h') := by
  refine con_of (L := [some (av_R (some 170)), some (av_I a1)]) (by decide +kernel) (Nat.le_of_ble_eq_true rfl) rfl ?_
  obtain ⟨sd1, esd1⟩ : ∃ x, x = h.2.1 170 70 := ⟨_, rfl⟩
  have rsd1 : 0 ≤ sd1 ∧ sd1 ≤ 10 := (by rw [esd1]; exact mi_g hx (by decide) mr_170_70)
  refine A_locI 1 rfl (fun ra => ?_)
  obtain ⟨_, _⟩ := ra
  refine A_aload_n 0 d_MD_isIn_0 rfl rfl ?_
  refine A_getAv (z := some 220) T_ok d_MD_isIn_1 f_MD_163 (mi_s hx sf_170) (mi_r hx rfm_79) ?_
  refine A_aload_n 0 d_MD_isIn_4 rfl rfl ?_
  refine A_getIv (z := sd1) T_ok d_MD_isIn_5 f_MD_399 (mi_s hx sf_170) esd1.symm ?_
  refine A_iconst d_MD_isIn_8 rfl ?_
  refine A_pc (pc' := 9) rfl ?_
  refine A_isubv (z := (sd1 - 1)) d_MD_isIn_9 (w32_to (by omega) (by unfold i32; omega)) ?_
  refine A_zaloadn d_MD_isIn_10 (mi_s hx sf_220) (by omega) (by omega) (fun x4 ex4 bx4 => ?_)
  exact A_zret d_MD_isIn_11 (by decide) rfl (by omega) ⟨_, rfl, by omega, rfl⟩
theorem s_MD_turned {G : cx_T} {h : ah_T} (hx : mi h) {a1 : Int} (la1 : 0 ≤ a1) (ua1 : a1 ≤ 1999) (hd : 1 ≤ h.2.1 170 70 ∧ h.2.1 170 70 ≤ 7) (hcm : h.2.1 170 71 ≤ 2005) : con G 1 0 0 m_MD_turned [av_R (some 170), av_I a1] h (fun r h' => ∃ z, r = some (av_I z) ∧ (1 ≤ z ∧ z ≤ 2001) ∧ ((h.2.1 218 (h.2.1 170 70 - 1).toNat < h.2.1 219 (h.2.1 170 70 - 1).toNat ∧ z = a1 + 1 ∧ h'.2.1 170 70 = h.2.1 170 70 ∧ h'.2.1 170 71 = h.2.1 170 71 + 1 ∧ h'.2.1 218 (h.2.1 170 70 - 1).toNat = h.2.1 218 (h.2.1 170 70 - 1).toNat + 1 ∧ ∀ k, k ≠ (h.2.1 170 70 - 1).toNat → h'.2.1 218 k = h.2.1 218 k) ∨ (h.2.1 219 (h.2.1 170 70 - 1).toNat ≤ h.2.1 218 (h.2.1 170 70 - 1).toNat ∧ z = h.2.1 210 a1.toNat + 1 ∧ h'.2.1 170 70 = h.2.1 170 70 - 1 ∧ h'.2.1 170 71 = h.2.1 170 71 ∧ ∀ k, h'.2.1 218 k = h.2.1 218 k)) ∧ kM (pm [70, 71] [218, 220]) h h') := by
  refine con_of (L := [some (av_R (some 170)), some (av_I a1)]) (by decide +kernel) (Nat.le_of_ble_eq_true rfl) rfl ?_
  have k0 : kM (pm [70, 71] [218, 220]) h h := kM_0 hx
  obtain ⟨sd1, esd1⟩ : ∃ x, x = h.2.1 170 70 := ⟨_, rfl⟩
  have rsd1 : 0 ≤ sd1 ∧ sd1 ≤ 10 := (by rw [esd1]; exact mi_g k0.1 (by decide) mr_170_70)
  obtain ⟨sd2, esd2⟩ : ∃ x, x = h.2.1 170 71 := ⟨_, rfl⟩
  have rsd2 : 0 ≤ sd2 ∧ sd2 ≤ 2010 := (by rw [esd2]; exact mi_g k0.1 (by decide) mr_170_71)
  refine A_aload_n 0 d_MD_turned_0 rfl rfl ?_
  refine A_getAv (z := some 220) T_ok d_MD_turned_1 f_MD_163 (mi_s k0.1 sf_170) (mi_r k0.1 rfm_79) ?_
  refine A_aload_n 0 d_MD_turned_4 rfl rfl ?_
  refine A_getIv (z := sd1) T_ok d_MD_turned_5 f_MD_399 (mi_s k0.1 sf_170) esd1.symm ?_
  refine A_iconst d_MD_turned_8 rfl ?_
  refine A_pc (pc' := 9) rfl ?_
  refine A_isubv (z := (sd1 - 1)) d_MD_turned_9 (w32_to (by omega) (by unfold i32; omega)) ?_
  refine A_iconst d_MD_turned_10 rfl ?_
  refine A_zastorek (KR := kM (pm [70, 71] [218, 220]) h) d_MD_turned_11 (mi_s k0.1 sf_220) (by omega) (by omega) (by omega) (kM_i k0 (by decide) rfl (mr_220 _) (by omega) (by omega)) (fun h5 k6 eh5 => ?_)
  refine A_aload_n 0 d_MD_turned_12 rfl rfl ?_
  refine A_getAv (z := some 218) T_ok d_MD_turned_13 f_MD_157 (mi_s k6.1 sf_170) (mi_r k6.1 rfm_68) ?_
  refine A_aload_n 0 d_MD_turned_16 rfl rfl ?_
  refine A_pc (pc' := 17) rfl ?_
  refine A_getIv (z := sd1) T_ok d_MD_turned_17 f_MD_399 (mi_s k6.1 sf_170) ((eh5.1 _ _ (fun q => absurd q (by decide))).trans esd1.symm) ?_
  refine A_iconst d_MD_turned_20 rfl ?_
  refine A_isubv (z := (sd1 - 1)) d_MD_turned_21 (w32_to (by omega) (by unfold i32; omega)) ?_
  refine A_ialoadn (lo := 0) (hi := 2001) d_MD_turned_22 (mi_s k6.1 sf_218) (by omega) (by omega) (mi_g k6.1 (by decide) (mr_218 _)) (fun x9 ex9 _ _ => ?_)
  have fx9 := ex9.trans (k6.2.2.1 218 _ rfl)
  refine A_aload_n 0 d_MD_turned_23 rfl rfl ?_
  refine A_getAv (z := some 219) T_ok d_MD_turned_24 f_MD_160 (mi_s k6.1 sf_170) (mi_r k6.1 rfm_69) ?_
  refine A_pc (pc' := 27) rfl ?_
  refine A_aload_n 0 d_MD_turned_27 rfl rfl ?_
  refine A_getIv (z := sd1) T_ok d_MD_turned_28 f_MD_399 (mi_s k6.1 sf_170) ((eh5.1 _ _ (fun q => absurd q (by decide))).trans esd1.symm) ?_
  refine A_iconst d_MD_turned_31 rfl ?_
  refine A_isubv (z := (sd1 - 1)) d_MD_turned_32 (w32_to (by omega) (by unfold i32; omega)) ?_
  refine A_ialoadn (lo := 0) (hi := 2001) d_MD_turned_33 (mi_s k6.1 sf_219) (by omega) (by omega) (mi_g k6.1 (by decide) (mr_219 _)) (fun x12 ex12 _ _ => ?_)
  have fx12 := ex12.trans (k6.2.2.1 219 _ rfl)
  refine A_icmp_ge (tgt := 66) d_MD_turned_34 (by decide) (fun c13 => ?_) (fun c13 => ?_)
  · refine A_aload_n 0 d_MD_turned_66 rfl rfl ?_
    refine A_dupR d_MD_turned_67 ?_
    refine A_getIv (z := sd1) T_ok d_MD_turned_68 f_MD_399 (mi_s k6.1 sf_170) ((eh5.1 _ _ (fun q => absurd q (by decide))).trans esd1.symm) ?_
    refine A_iconst d_MD_turned_71 rfl ?_
    refine A_isubv (z := (sd1 - 1)) d_MD_turned_72 (w32_to (by omega) (by unfold i32; omega)) ?_
    refine A_pc (pc' := 73) rfl ?_
    refine A_putIk (KR := kM (pm [70, 71] [218, 220]) h) T_ok d_MD_turned_73 f_MD_399 (mi_s k6.1 sf_170) fin_f (kM_i k6 (by decide) (by decide) mr_170_70 (by omega) (by omega)) (fun h15 k16 eh15 => ?_)
    refine A_aload_n 0 d_MD_turned_76 rfl rfl ?_
    refine A_iload_n 1 d_MD_turned_77 rfl rfl ?_
    have zf18 := eh15.2.1
    have zf19 := ((eh15.1 _ _ (fun _ => by decide)).trans ((eh5.1 _ _ (fun q => absurd q (by decide))).trans esd2.symm))
    refine A_callV1 m_MD_closing T_ok d_MD_turned_78 l_MD_449 k_MD_closing (mi_s k16.1 sf_170) rfl (by decide +kernel) (by decide) (Nat.le_of_ble_eq_true rfl) (s_MD_closing k16.1 (by omega) (by omega)) (fun r h17 hq => ?_)
    obtain ⟨x21, rfl, ⟨_, _⟩, xx21, rfl⟩ := hq
    refine A_iconst d_MD_turned_81 rfl ?_
    refine A_iaddv (z := (x21 + 1)) d_MD_turned_82 (w32_to (by omega) (by unfold i32; omega)) ?_
    exact A_iret d_MD_turned_83 (by decide) rfl ⟨_, rfl, ⟨by omega, by omega⟩, (by rw [← esd1]; exact Or.inr ⟨by omega, by omega, by have qq0 := eh15.2.1; omega, by have qq0 := ((eh15.1 _ _ (fun _ => by decide)).trans ((eh5.1 _ _ (fun q => absurd q (by decide))).trans esd2.symm)); omega, fun k => ((eh15.1 218 k (fun q => absurd q (by decide))).trans (eh5.1 218 k (fun q => absurd q (by decide))))⟩), k16⟩
  · refine A_aload_n 0 d_MD_turned_37 rfl rfl ?_
    refine A_getAv (z := some 218) T_ok d_MD_turned_38 f_MD_157 (mi_s k6.1 sf_170) (mi_r k6.1 rfm_68) ?_
    refine A_aload_n 0 d_MD_turned_41 rfl rfl ?_
    refine A_getIv (z := sd1) T_ok d_MD_turned_42 f_MD_399 (mi_s k6.1 sf_170) ((eh5.1 _ _ (fun q => absurd q (by decide))).trans esd1.symm) ?_
    refine A_iconst d_MD_turned_45 rfl ?_
    refine A_pc (pc' := 46) rfl ?_
    refine A_isubv (z := (sd1 - 1)) d_MD_turned_46 (w32_to (by omega) (by unfold i32; omega)) ?_
    refine A_dup2RI d_MD_turned_47 ?_
    refine A_ialoadv (z := x9) d_MD_turned_48 (mi_s k6.1 sf_218) (by omega) (by omega) ex9.symm ?_
    refine A_iconst d_MD_turned_49 rfl ?_
    refine A_iaddv (z := (x9 + 1)) d_MD_turned_50 (w32_to (by omega) (by unfold i32; omega)) ?_
    refine A_iastorek (KR := kM (pm [70, 71] [218, 220]) h) d_MD_turned_51 (mi_s k6.1 sf_218) (by omega) (by omega) (kM_i k6 (by decide) rfl (mr_218 _) (by omega) (by omega)) (fun h25 k26 eh25 => ?_)
    refine A_pc (pc' := 52) rfl ?_
    refine A_aload_n 0 d_MD_turned_52 rfl rfl ?_
    refine A_dupR d_MD_turned_53 ?_
    refine A_getIv (z := sd2) T_ok d_MD_turned_54 f_MD_402 (mi_s k26.1 sf_170) ((eh25.1 _ _ (fun q => absurd q (by decide))).trans ((eh5.1 _ _ (fun q => absurd q (by decide))).trans esd2.symm)) ?_
    refine A_iconst d_MD_turned_57 rfl ?_
    refine A_iaddv (z := (sd2 + 1)) d_MD_turned_58 (w32_to (by omega) (by unfold i32; omega)) ?_
    refine A_putIk (KR := kM (pm [70, 71] [218, 220]) h) T_ok d_MD_turned_59 f_MD_402 (mi_s k26.1 sf_170) fin_f (kM_i k26 (by decide) (by decide) mr_170_71 (by omega) (by omega)) (fun h28 k29 eh28 => ?_)
    refine A_pc (pc' := 62) rfl ?_
    refine A_iload_n 1 d_MD_turned_62 rfl rfl ?_
    refine A_iconst d_MD_turned_63 rfl ?_
    refine A_iaddv (z := (a1 + 1)) d_MD_turned_64 (w32_to (by omega) (by unfold i32; omega)) ?_
    exact A_iret d_MD_turned_65 (by decide) rfl ⟨_, rfl, ⟨by omega, by omega⟩, (by rw [← esd1]; exact Or.inl ⟨by have q1 := ((eh28.1 _ _ (fun q => absurd q (by decide))).trans eh25.2.1); omega, by omega, by have qq0 := ((eh28.1 _ _ (fun _ => by decide)).trans ((eh25.1 _ _ (fun q => absurd q (by decide))).trans ((eh5.1 _ _ (fun q => absurd q (by decide))).trans esd1.symm))); omega, by have qq0 := eh28.2.1; omega, by have q1 := ((eh28.1 _ _ (fun q => absurd q (by decide))).trans eh25.2.1); omega, (fun k hk => ((eh28.1 218 k (fun q => absurd q (by decide))).trans ((eh25.1 218 k (fun _ => hk)).trans (eh5.1 218 k (fun q => absurd q (by decide))))))⟩), k29⟩
theorem s_MD_scale {G : cx_T} {h : ah_T} (hx : mi h) {a1 : Int} {a2 : Int} (la1 : 1 ≤ a1) (ua1 : a1 ≤ 16) (la2 : 1 ≤ a2) (ua2 : a2 ≤ 16) (hsb : 1 ≤ h.2.2.1 170 77 ∧ h.2.2.1 170 77 ≤ 268435456 ∧ 1 ≤ h.2.2.1 170 78 ∧ h.2.2.1 170 78 ≤ 268435456) : con G 2 0 0 m_MD_scale [av_R (some 170), av_I a1, av_I a2] h (fun r h' => r = none ∧ ((∃ d : Int, d ≠ 0 ∧ h'.2.2.1 170 77 * d = h.2.2.1 170 77 * a1 ∧ h'.2.2.1 170 78 * d = h.2.2.1 170 78 * a2) ∧ 1 ≤ h'.2.2.1 170 77 ∧ 1 ≤ h'.2.2.1 170 78 ∧ Int.gcd (h'.2.2.1 170 77) (h'.2.2.1 170 78) = 1) ∧ kM (pm [65, 66, 77, 78] []) h h') := by
  refine con_of (L := [some (av_R (some 170)), some (av_I a1), some (av_I a2)]) (by decide +kernel) (Nat.le_of_ble_eq_true rfl) rfl ?_
  have k0 : kM (pm [65, 66, 77, 78] []) h h := kM_0 hx
  obtain ⟨sl1, esl1⟩ : ∃ x, x = h.2.2.1 170 77 := ⟨_, rfl⟩
  have rsl1 : 1 ≤ sl1 ∧ sl1 ≤ 268435456 := (by omega)
  obtain ⟨sl2, esl2⟩ : ∃ x, x = h.2.2.1 170 78 := ⟨_, rfl⟩
  have rsl2 : 1 ≤ sl2 ∧ sl2 ≤ 268435456 := (by omega)
  obtain ⟨sl3, esl3⟩ : ∃ x, x = h.2.2.1 170 65 := ⟨_, rfl⟩
  have rsl3 : (-9223372036854775808) ≤ sl3 ∧ sl3 ≤ 9223372036854775807 := (by rw [esl3]; exact mi_l k0.1 (by decide) mq_170_65)
  obtain ⟨sl4, esl4⟩ : ∃ x, x = h.2.2.1 170 66 := ⟨_, rfl⟩
  have rsl4 : (-9223372036854775808) ≤ sl4 ∧ sl4 ≤ 9223372036854775807 := (by rw [esl4]; exact mi_l k0.1 (by decide) mq_170_66)
  refine A_aload_n 0 d_MD_scale_0 rfl rfl ?_
  refine A_aload_n 0 d_MD_scale_1 rfl rfl ?_
  refine A_getLv (z := sl1) T_ok d_MD_scale_2 f_MD_420 (mi_s k0.1 sf_170) esl1.symm ?_
  refine A_iload_n 1 d_MD_scale_5 rfl rfl ?_
  refine A_i2l d_MD_scale_6 ?_
  refine A_pc (pc' := 7) rfl ?_
  refine A_lmulw d_MD_scale_7 (fun x6 ex6 _ _ => ?_)
  have cx6 := mul_pp64 (ux := 268435456) (uy := 16) ex6 (by omega) (by omega) (by omega) (by omega) (by decide)
  have bx6 := mul_b64 (ux := 268435456) (uy := 16) ex6 (by omega) (by omega) (by omega) (by omega) (by decide)
  refine A_aload_n 0 d_MD_scale_8 rfl rfl ?_
  refine A_getLv (z := sl2) T_ok d_MD_scale_9 f_MD_423 (mi_s k0.1 sf_170) esl2.symm ?_
  refine A_iload_n 2 d_MD_scale_12 rfl rfl ?_
  refine A_i2l d_MD_scale_13 ?_
  refine A_lmulw d_MD_scale_14 (fun x8 ex8 _ _ => ?_)
  have cx8 := mul_pp64 (ux := 268435456) (uy := 16) ex8 (by omega) (by omega) (by omega) (by omega) (by decide)
  have bx8 := mul_b64 (ux := 268435456) (uy := 16) ex8 (by omega) (by omega) (by omega) (by omega) (by decide)
  refine A_pc (pc' := 15) rfl ?_
  refine A_callV2 m_MD_fraction T_ok d_MD_scale_15 l_MD_391 k_MD_fraction (mi_s k0.1 sf_170) rfl (by decide +kernel) (by decide) (Nat.le_of_ble_eq_true rfl) (s_MD_fraction k0.1 (by omega) (by omega) (by omega) (by omega)) (fun r h9 hq => ?_)
  obtain ⟨rfl, xk10, k10⟩ := hq
  have k11 := kM_t k0 k10 (pm_s (by decide) (by decide))
  obtain ⟨sl12, esl12⟩ : ∃ x, x = h9.2.2.1 170 65 := ⟨_, rfl⟩
  have rsl12 : (-9223372036854775808) ≤ sl12 ∧ sl12 ≤ 9223372036854775807 := (by rw [esl12]; exact mi_l k11.1 (by decide) mq_170_65)
  obtain ⟨sl13, esl13⟩ : ∃ x, x = h9.2.2.1 170 66 := ⟨_, rfl⟩
  have rsl13 : (-9223372036854775808) ≤ sl13 ∧ sl13 ≤ 9223372036854775807 := (by rw [esl13]; exact mi_l k11.1 (by decide) mq_170_66)
  refine A_aload_n 0 d_MD_scale_18 rfl rfl ?_
  refine A_aload_n 0 d_MD_scale_19 rfl rfl ?_
  refine A_getLv (z := sl12) T_ok d_MD_scale_20 f_MD_385 (mi_s k11.1 sf_170) esl12.symm ?_
  refine A_putLk (KR := kM (pm [65, 66, 77, 78] []) h) T_ok d_MD_scale_23 f_MD_420 (mi_s k11.1 sf_170) fin_f (kM_l k11 (by decide) (by decide) mq_170_77 (by omega) (by omega)) (fun h15 k16 eh15 => ?_)
  refine A_aload_n 0 d_MD_scale_26 rfl rfl ?_
  refine A_pc (pc' := 27) rfl ?_
  refine A_aload_n 0 d_MD_scale_27 rfl rfl ?_
  refine A_getLv (z := sl13) T_ok d_MD_scale_28 f_MD_388 (mi_s k16.1 sf_170) ((eh15.2.1 _ _ (fun _ => by decide)).trans esl13.symm) ?_
  refine A_putLk (KR := kM (pm [65, 66, 77, 78] []) h) T_ok d_MD_scale_31 f_MD_423 (mi_s k16.1 sf_170) fin_f (kM_l k16 (by decide) (by decide) mq_170_78 (by omega) (by omega)) (fun h18 k19 eh18 => ?_)
  exact A_vret d_MD_scale_34 (by decide) rfl ⟨rfl, (by obtain ⟨⟨dd, o1, o2, o3⟩, o4, o5, o6, o7, o8, o9⟩ := xk10; rw [((eh18.2.1 _ _ (fun _ => by decide)).trans eh15.2.2), eh18.2.2]; exact sc_ok o1 o2 o4 o8 o9 bx6.2.2 bx8.2.2 esl1 esl2 esl12 esl13 (by omega)), k19⟩
