theorem s_JLong_compare {G : cx_T} {h : ah_T} {a0 : Int} {a1 : Int}  : con G 0 0 0 m_JLong_compare [av_L a0, av_L a1] h (fun r h' => ∃ z, r = some (av_I z) ∧ ((-1) ≤ z ∧ z ≤ 1) ∧ ((a0 < a1 → z = -1) ∧ (a0 = a1 → z = 0) ∧ (a1 < a0 → z = 1)) ∧ h = h') := by
  refine con_of (L := [some (av_L a0), none, some (av_L a1), none]) (by decide +kernel) (Nat.le_of_ble_eq_true rfl) rfl ?_
  refine A_locL 0 rfl (fun ra => ?_)
  obtain ⟨_, _⟩ := ra
  refine A_locL 2 rfl (fun ra => ?_)
  obtain ⟨_, _⟩ := ra
  refine A_lload_n 0 d_JLong_compare_0 rfl rfl ?_
  refine A_lload_n 2 d_JLong_compare_1 rfl rfl ?_
  refine A_lcmpn d_JLong_compare_2 (fun x1 lx1 ex1 gx1 _ _ => ?_)
  refine A_if_ge (tgt := 10) d_JLong_compare_3 (by decide) (fun c2 => ?_) (fun c2 => ?_)
  · have mc2 : (a0 - a1) ≥ 0 := by omega
    refine A_lload_n 0 d_JLong_compare_10 rfl rfl ?_
    refine A_lload_n 2 d_JLong_compare_11 rfl rfl ?_
    refine A_lcmpn d_JLong_compare_12 (fun x3 lx3 ex3 gx3 _ _ => ?_)
    refine A_if_ne (tgt := 20) d_JLong_compare_13 (by decide) (fun c4 => ?_) (fun c4 => ?_)
    · have mc4 : (a0 - a1) ≠ 0 := by omega
      refine A_iconst d_JLong_compare_20 rfl ?_
      exact A_iret d_JLong_compare_21 (by decide) rfl ⟨_, rfl, ⟨by omega, by omega⟩, ⟨fun _ => by omega, fun _ => by omega, fun _ => by omega⟩, rfl⟩
    · have mc4 : (a0 - a1) = 0 := by omega
      refine A_iconst d_JLong_compare_16 rfl ?_
      refine A_goto (tgt := 21) d_JLong_compare_17 (by decide) ?_
      exact A_iret d_JLong_compare_21 (by decide) rfl ⟨_, rfl, ⟨by omega, by omega⟩, ⟨fun _ => by omega, fun _ => by omega, fun _ => by omega⟩, rfl⟩
  · have mc2 : (a0 - a1) < 0 := by omega
    refine A_iconst d_JLong_compare_6 rfl ?_
    refine A_goto (tgt := 21) d_JLong_compare_7 (by decide) ?_
    exact A_iret d_JLong_compare_21 (by decide) rfl ⟨_, rfl, ⟨by omega, by omega⟩, ⟨fun _ => by omega, fun _ => by omega, fun _ => by omega⟩, rfl⟩
theorem s_Voice_pitchesOf {G : cx_T} {s : Nat} {h : ah_T} (hx : xi s h) {a0 : Nat} {a1 : Int} (ha0 : isV a0) (la1 : 0 ≤ a1) (ua1 : a1 ≤ 299) : con G 0 0 0 m_Voice_pitchesOf [av_R (some a0), av_I a1] h (fun r h' => ∃ z, r = some (av_I z) ∧ ((-300) ≤ z ∧ z ≤ 300) ∧ h = h') := by
  refine con_of (L := [some (av_R (some a0)), some (av_I a1), none]) (by decide +kernel) (Nat.le_of_ble_eq_true rfl) rfl ?_
  have hS : isS s := hx.2.1
  have hs0 : s = 17 ∨ s = 80 := hS
  have ga0 := lt_V ha0
  refine A_aload_n 0 d_Voice_pitchesOf_0 rfl rfl ?_
  refine A_getAv (z := some (a0 + 7)) T_ok d_Voice_pitchesOf_1 f_Voice_31 (xs_V hx ha0) (xr_V_8 hx ha0) ?_
  refine A_iload_n 1 d_Voice_pitchesOf_4 rfl rfl ?_
  refine A_ialoadn (lo := 0) (hi := 299) d_Voice_pitchesOf_5 (xs_V_8 hx ha0) (by omega) (by omega) (xi_g hx (lt2_V ha0 (by decide)) (rg_V_8 ha0 _)) (fun x2 ex2 _ _ => ?_)
  refine A_istore_n 2 (L' := [some (av_R (some a0)), some (av_I a1), some (av_I x2)]) d_Voice_pitchesOf_6 rfl (Nat.le_of_ble_eq_true rfl) rfl ?_
  refine A_pc (pc' := 7) rfl ?_
  refine A_aload_n 0 d_Voice_pitchesOf_7 rfl rfl ?_
  refine A_getAv (z := some (a0 + 3)) T_ok d_Voice_pitchesOf_8 f_Voice_18 (xs_V hx ha0) (xr_V_3 hx ha0) ?_
  refine A_iload_n 2 d_Voice_pitchesOf_11 rfl rfl ?_
  refine A_iconst d_Voice_pitchesOf_12 rfl ?_
  refine A_iaddv (z := (x2 + 1)) d_Voice_pitchesOf_13 (w32_to (by omega) (by unfold i32; omega)) ?_
  refine A_ialoadn (lo := 0) (hi := 300) d_Voice_pitchesOf_14 (xs_V_3 hx ha0) (by omega) (by omega) (xi_g hx (lt2_V ha0 (by decide)) (rg_V_3 ha0 _)) (fun x4 ex4 _ _ => ?_)
  refine A_pc (pc' := 15) rfl ?_
  refine A_aload_n 0 d_Voice_pitchesOf_15 rfl rfl ?_
  refine A_getAv (z := some (a0 + 3)) T_ok d_Voice_pitchesOf_16 f_Voice_18 (xs_V hx ha0) (xr_V_3 hx ha0) ?_
  refine A_iload_n 2 d_Voice_pitchesOf_19 rfl rfl ?_
  refine A_ialoadn (lo := 0) (hi := 300) d_Voice_pitchesOf_20 (xs_V_3 hx ha0) (by omega) (by omega) (xi_g hx (lt2_V ha0 (by decide)) (rg_V_3 ha0 _)) (fun x6 ex6 _ _ => ?_)
  refine A_isubv (z := (x4 - x6)) d_Voice_pitchesOf_21 (w32_to (by omega) (by unfold i32; omega)) ?_
  exact A_iret d_Voice_pitchesOf_22 (by decide) rfl ⟨_, rfl, ⟨by omega, by omega⟩, rfl⟩
theorem s_Voice_isRest {G : cx_T} {s : Nat} {h : ah_T} (hx : xi s h) {a0 : Nat} {a1 : Int} (ha0 : isV a0) (la1 : 0 ≤ a1) (ua1 : a1 ≤ 299) : con G 1 0 0 m_Voice_isRest [av_R (some a0), av_I a1] h (fun r h' => ∃ z, r = some (av_I z) ∧ (z = 0 ∨ z = 1) ∧ h = h') := by
  refine con_of (L := [some (av_R (some a0)), some (av_I a1)]) (by decide +kernel) (Nat.le_of_ble_eq_true rfl) rfl ?_
  have hS : isS s := hx.2.1
  have hs0 : s = 17 ∨ s = 80 := hS
  have ga0 := lt_V ha0
  refine A_aload_n 0 d_Voice_isRest_0 rfl rfl ?_
  refine A_iload_n 1 d_Voice_isRest_1 rfl rfl ?_
  refine A_callV1 m_Voice_pitchesOf T_ok d_Voice_isRest_2 l_Voice_80 k_Voice_pitchesOf (xs_V hx ha0) rfl (by decide) (by decide) (Nat.le_of_ble_eq_true rfl) (s_Voice_pitchesOf hx ha0 (by omega) (by omega)) (fun r h1 hq => ?_)
  obtain ⟨x3, rfl, ⟨_, _⟩, rfl⟩ := hq
  refine A_if_ne (tgt := 12) d_Voice_isRest_5 (by decide) (fun c4 => ?_) (fun c4 => ?_)
  · refine A_iconst d_Voice_isRest_12 rfl ?_
    exact A_zret d_Voice_isRest_13 (by decide) rfl (by omega) ⟨_, rfl, by omega, rfl⟩
  · refine A_iconst d_Voice_isRest_8 rfl ?_
    refine A_goto (tgt := 13) d_Voice_isRest_9 (by decide) ?_
    exact A_zret d_Voice_isRest_13 (by decide) rfl (by omega) ⟨_, rfl, by omega, rfl⟩
theorem s_Voice_keyOf {G : cx_T} {s : Nat} {h : ah_T} (hx : xi s h) {a0 : Nat} {a1 : Int} {a2 : Int} (ha0 : isV a0) (la1 : 0 ≤ a1) (ua1 : a1 ≤ 299) : con G 0 0 0 m_Voice_keyOf [av_R (some a0), av_I a1, av_I a2] h (fun r h' => ∃ z, r = some (av_I z) ∧ ((-2147483648) ≤ z ∧ z ≤ 2147483647) ∧ h = h') := by
  refine con_of (L := [some (av_R (some a0)), some (av_I a1), some (av_I a2), none]) (by decide +kernel) (Nat.le_of_ble_eq_true rfl) rfl ?_
  have hS : isS s := hx.2.1
  have hs0 : s = 17 ∨ s = 80 := hS
  have ga0 := lt_V ha0
  refine A_locI 2 rfl (fun ra => ?_)
  obtain ⟨_, _⟩ := ra
  refine A_aload_n 0 d_Voice_keyOf_0 rfl rfl ?_
  refine A_getAv (z := some (a0 + 3)) T_ok d_Voice_keyOf_1 f_Voice_18 (xs_V hx ha0) (xr_V_3 hx ha0) ?_
  refine A_aload_n 0 d_Voice_keyOf_4 rfl rfl ?_
  refine A_getAv (z := some (a0 + 7)) T_ok d_Voice_keyOf_5 f_Voice_31 (xs_V hx ha0) (xr_V_8 hx ha0) ?_
  refine A_iload_n 1 d_Voice_keyOf_8 rfl rfl ?_
  refine A_pc (pc' := 9) rfl ?_
  refine A_ialoadn (lo := 0) (hi := 299) d_Voice_keyOf_9 (xs_V_8 hx ha0) (by omega) (by omega) (xi_g hx (lt2_V ha0 (by decide)) (rg_V_8 ha0 _)) (fun x3 ex3 _ _ => ?_)
  refine A_ialoadn (lo := 0) (hi := 300) d_Voice_keyOf_10 (xs_V_3 hx ha0) (by omega) (by omega) (xi_g hx (lt2_V ha0 (by decide)) (rg_V_3 ha0 _)) (fun x4 ex4 _ _ => ?_)
  refine A_iload_n 2 d_Voice_keyOf_11 rfl rfl ?_
  refine A_iaddw d_Voice_keyOf_12 (fun x5 _ _ _ => ?_)
  refine A_istore_n 3 (L' := [some (av_R (some a0)), some (av_I a1), some (av_I a2), some (av_I x5)]) d_Voice_keyOf_13 rfl (Nat.le_of_ble_eq_true rfl) rfl ?_
  refine A_iload_n 3 d_Voice_keyOf_14 rfl rfl ?_
  refine A_pc (pc' := 15) rfl ?_
  refine A_if_lt (tgt := 36) d_Voice_keyOf_15 (by decide) (fun c6 => ?_) (fun c6 => ?_)
  · refine A_iconst d_Voice_keyOf_36 rfl ?_
    exact A_iret d_Voice_keyOf_37 (by decide) rfl ⟨_, rfl, ⟨by omega, by omega⟩, rfl⟩
  · refine A_iload_n 3 d_Voice_keyOf_18 rfl rfl ?_
    refine A_aload_n 0 d_Voice_keyOf_19 rfl rfl ?_
    refine A_getAv (z := some (a0 + 1)) T_ok d_Voice_keyOf_20 f_Voice_9 (xs_V hx ha0) (xr_V_0 hx ha0) ?_
    refine A_alenN d_Voice_keyOf_23 (xs_V_0 hx ha0) (by decide) (by decide) ?_
    refine A_icmp_ge (tgt := 36) d_Voice_keyOf_24 (by decide) (fun c8 => ?_) (fun c8 => ?_)
    · refine A_iconst d_Voice_keyOf_36 rfl ?_
      exact A_iret d_Voice_keyOf_37 (by decide) rfl ⟨_, rfl, ⟨by omega, by omega⟩, rfl⟩
    · refine A_aload_n 0 d_Voice_keyOf_27 rfl rfl ?_
      refine A_getAv (z := some (a0 + 1)) T_ok d_Voice_keyOf_28 f_Voice_9 (xs_V hx ha0) (xr_V_0 hx ha0) ?_
      refine A_iload_n 3 d_Voice_keyOf_31 rfl rfl ?_
      refine A_ialoadf d_Voice_keyOf_32 (xs_V_0 hx ha0) (by omega) (by omega) (fun x10 ex10 _ _ => ?_)
      refine A_goto (tgt := 37) d_Voice_keyOf_33 (by decide) ?_
      exact A_iret d_Voice_keyOf_37 (by decide) rfl ⟨_, rfl, ⟨by omega, by omega⟩, rfl⟩
theorem s_Voice_stepOf {G : cx_T} {s : Nat} {h : ah_T} (hx : xi s h) {a0 : Nat} {a1 : Int} {a2 : Int} (ha0 : isV a0) (la1 : 0 ≤ a1) (ua1 : a1 ≤ 299) : con G 0 0 0 m_Voice_stepOf [av_R (some a0), av_I a1, av_I a2] h (fun r h' => ∃ z, r = some (av_I z) ∧ ((-2147483648) ≤ z ∧ z ≤ 2147483647) ∧ h = h') := by
  refine con_of (L := [some (av_R (some a0)), some (av_I a1), some (av_I a2), none]) (by decide +kernel) (Nat.le_of_ble_eq_true rfl) rfl ?_
  have hS : isS s := hx.2.1
  have hs0 : s = 17 ∨ s = 80 := hS
  have ga0 := lt_V ha0
  refine A_locI 2 rfl (fun ra => ?_)
  obtain ⟨_, _⟩ := ra
  refine A_aload_n 0 d_Voice_stepOf_0 rfl rfl ?_
  refine A_getAv (z := some (a0 + 3)) T_ok d_Voice_stepOf_1 f_Voice_18 (xs_V hx ha0) (xr_V_3 hx ha0) ?_
  refine A_aload_n 0 d_Voice_stepOf_4 rfl rfl ?_
  refine A_getAv (z := some (a0 + 7)) T_ok d_Voice_stepOf_5 f_Voice_31 (xs_V hx ha0) (xr_V_8 hx ha0) ?_
  refine A_iload_n 1 d_Voice_stepOf_8 rfl rfl ?_
  refine A_pc (pc' := 9) rfl ?_
  refine A_ialoadn (lo := 0) (hi := 299) d_Voice_stepOf_9 (xs_V_8 hx ha0) (by omega) (by omega) (xi_g hx (lt2_V ha0 (by decide)) (rg_V_8 ha0 _)) (fun x3 ex3 _ _ => ?_)
  refine A_ialoadn (lo := 0) (hi := 300) d_Voice_stepOf_10 (xs_V_3 hx ha0) (by omega) (by omega) (xi_g hx (lt2_V ha0 (by decide)) (rg_V_3 ha0 _)) (fun x4 ex4 _ _ => ?_)
  refine A_iload_n 2 d_Voice_stepOf_11 rfl rfl ?_
  refine A_iaddw d_Voice_stepOf_12 (fun x5 _ _ _ => ?_)
  refine A_istore_n 3 (L' := [some (av_R (some a0)), some (av_I a1), some (av_I a2), some (av_I x5)]) d_Voice_stepOf_13 rfl (Nat.le_of_ble_eq_true rfl) rfl ?_
  refine A_iload_n 3 d_Voice_stepOf_14 rfl rfl ?_
  refine A_pc (pc' := 15) rfl ?_
  refine A_if_lt (tgt := 36) d_Voice_stepOf_15 (by decide) (fun c6 => ?_) (fun c6 => ?_)
  · refine A_iconst d_Voice_stepOf_36 rfl ?_
    exact A_iret d_Voice_stepOf_37 (by decide) rfl ⟨_, rfl, ⟨by omega, by omega⟩, rfl⟩
  · refine A_iload_n 3 d_Voice_stepOf_18 rfl rfl ?_
    refine A_aload_n 0 d_Voice_stepOf_19 rfl rfl ?_
    refine A_getAv (z := some (a0 + 2)) T_ok d_Voice_stepOf_20 f_Voice_15 (xs_V hx ha0) (xr_V_1 hx ha0) ?_
    refine A_alenN d_Voice_stepOf_23 (xs_V_1 hx ha0) (by decide) (by decide) ?_
    refine A_icmp_ge (tgt := 36) d_Voice_stepOf_24 (by decide) (fun c8 => ?_) (fun c8 => ?_)
    · refine A_iconst d_Voice_stepOf_36 rfl ?_
      exact A_iret d_Voice_stepOf_37 (by decide) rfl ⟨_, rfl, ⟨by omega, by omega⟩, rfl⟩
    · refine A_aload_n 0 d_Voice_stepOf_27 rfl rfl ?_
      refine A_getAv (z := some (a0 + 2)) T_ok d_Voice_stepOf_28 f_Voice_15 (xs_V hx ha0) (xr_V_1 hx ha0) ?_
      refine A_iload_n 3 d_Voice_stepOf_31 rfl rfl ?_
      refine A_ialoadf d_Voice_stepOf_32 (xs_V_1 hx ha0) (by omega) (by omega) (fun x10 ex10 _ _ => ?_)
      refine A_goto (tgt := 37) d_Voice_stepOf_33 (by decide) ?_
      exact A_iret d_Voice_stepOf_37 (by decide) rfl ⟨_, rfl, ⟨by omega, by omega⟩, rfl⟩
theorem s_Voice_lowestKey {G : cx_T} {s : Nat} {h : ah_T} (hx : xi s h) {a0 : Nat} {a1 : Int} (ha0 : isV a0) (la1 : 0 ≤ a1) (ua1 : a1 ≤ 299) : con G 1 0 0 m_Voice_lowestKey [av_R (some a0), av_I a1] h (fun r h' => ∃ z, r = some (av_I z) ∧ ((-2147483648) ≤ z ∧ z ≤ 2147483647) ∧ h = h') := by
  refine con_of (L := [some (av_R (some a0)), some (av_I a1)]) (by decide +kernel) (Nat.le_of_ble_eq_true rfl) rfl ?_
  have hS : isS s := hx.2.1
  have hs0 : s = 17 ∨ s = 80 := hS
  have ga0 := lt_V ha0
  refine A_aload_n 0 d_Voice_lowestKey_0 rfl rfl ?_
  refine A_iload_n 1 d_Voice_lowestKey_1 rfl rfl ?_
  refine A_iconst d_Voice_lowestKey_2 rfl ?_
  refine A_callV2 m_Voice_keyOf T_ok d_Voice_lowestKey_3 l_Voice_91 k_Voice_keyOf (xs_V hx ha0) rfl (by decide) (by decide) (Nat.le_of_ble_eq_true rfl) (s_Voice_keyOf hx ha0 (by omega) (by omega)) (fun r h1 hq => ?_)
  obtain ⟨x3, rfl, ⟨_, _⟩, rfl⟩ := hq
  exact A_iret d_Voice_lowestKey_6 (by decide) rfl ⟨_, rfl, ⟨by omega, by omega⟩, rfl⟩
theorem s_Voice_highestKey {G : cx_T} {s : Nat} {h : ah_T} (hx : xi s h) {a0 : Nat} {a1 : Int} (ha0 : isV a0) (la1 : 0 ≤ a1) (ua1 : a1 ≤ 299) : con G 1 0 0 m_Voice_highestKey [av_R (some a0), av_I a1] h (fun r h' => ∃ z, r = some (av_I z) ∧ ((-2147483648) ≤ z ∧ z ≤ 2147483647) ∧ h = h') := by
  refine con_of (L := [some (av_R (some a0)), some (av_I a1)]) (by decide +kernel) (Nat.le_of_ble_eq_true rfl) rfl ?_
  have hS : isS s := hx.2.1
  have hs0 : s = 17 ∨ s = 80 := hS
  have ga0 := lt_V ha0
  refine A_aload_n 0 d_Voice_highestKey_0 rfl rfl ?_
  refine A_iload_n 1 d_Voice_highestKey_1 rfl rfl ?_
  refine A_aload_n 0 d_Voice_highestKey_2 rfl rfl ?_
  refine A_iload_n 1 d_Voice_highestKey_3 rfl rfl ?_
  refine A_callV1 m_Voice_pitchesOf T_ok d_Voice_highestKey_4 l_Voice_80 k_Voice_pitchesOf (xs_V hx ha0) rfl (by decide) (by decide) (Nat.le_of_ble_eq_true rfl) (s_Voice_pitchesOf hx ha0 (by omega) (by omega)) (fun r h1 hq => ?_)
  obtain ⟨x3, rfl, ⟨_, _⟩, rfl⟩ := hq
  refine A_iconst d_Voice_highestKey_7 rfl ?_
  refine A_isubv (z := (x3 - 1)) d_Voice_highestKey_8 (w32_to (by omega) (by unfold i32; omega)) ?_
  refine A_callV2 m_Voice_keyOf T_ok d_Voice_highestKey_9 l_Voice_91 k_Voice_keyOf (xs_V hx ha0) rfl (by decide) (by decide) (Nat.le_of_ble_eq_true rfl) (s_Voice_keyOf hx ha0 (by omega) (by omega)) (fun r h4 hq => ?_)
  obtain ⟨x6, rfl, ⟨_, _⟩, rfl⟩ := hq
  exact A_iret d_Voice_highestKey_12 (by decide) rfl ⟨_, rfl, ⟨by omega, by omega⟩, rfl⟩
theorem s_Voice_hasKey {G : cx_T} {s : Nat} {h : ah_T} (hx : xi s h) {a0 : Nat} {a1 : Int} {a2 : Int} (ha0 : isV a0) (la1 : 0 ≤ a1) (ua1 : a1 ≤ 299) : con G 1 0 0 m_Voice_hasKey [av_R (some a0), av_I a1, av_I a2] h (fun r h' => ∃ z, r = some (av_I z) ∧ (z = 0 ∨ z = 1) ∧ h = h') := by
  refine con_of (L := [some (av_R (some a0)), some (av_I a1), some (av_I a2), none]) (by decide +kernel) (Nat.le_of_ble_eq_true rfl) rfl ?_
  have hS : isS s := hx.2.1
  have hs0 : s = 17 ∨ s = 80 := hS
  have ga0 := lt_V ha0
  refine A_locI 2 rfl (fun ra => ?_)
  obtain ⟨_, _⟩ := ra
  refine A_iconst d_Voice_hasKey_0 rfl ?_
  refine A_istore_n 3 (L' := [some (av_R (some a0)), some (av_I a1), some (av_I a2), some (av_I 0)]) d_Voice_hasKey_1 rfl (Nat.le_of_ble_eq_true rfl) rfl ?_
  have lp2 : ∀ (n : Nat) (i1 : Int) , 0 ≤ i1 → i1 ≤ 300 → (301 - i1).toNat < n → aw G (rm_R 1 0 0) m_Voice_hasKey 0 0 2 [some (av_R (some a0)), some (av_I a1), some (av_I a2), some (av_I i1)] [] h (fun r h' => ∃ z, r = some (av_I z) ∧ (z = 0 ∨ z = 1) ∧ h = h') := by
    intro n
    induction n with
    | zero => intro i1 _ _ hm; omega
    | succ n ih2 =>
      intro i1 hl0 hl1 hm
      refine A_iload_n 3 d_Voice_hasKey_2 rfl rfl ?_
      refine A_aload_n 0 d_Voice_hasKey_3 rfl rfl ?_
      refine A_iload_n 1 d_Voice_hasKey_4 rfl rfl ?_
      refine A_callV1 m_Voice_pitchesOf T_ok d_Voice_hasKey_5 l_Voice_80 k_Voice_pitchesOf (xs_V hx ha0) rfl (by decide) (by decide) (Nat.le_of_ble_eq_true rfl) (s_Voice_pitchesOf hx ha0 (by omega) (by omega)) (fun r h2 hq => ?_)
      obtain ⟨x4, rfl, ⟨_, _⟩, rfl⟩ := hq
      refine A_icmp_ge (tgt := 29) d_Voice_hasKey_8 (by decide) (fun c5 => ?_) (fun c5 => ?_)
      · refine A_iconst d_Voice_hasKey_29 rfl ?_
        exact A_zret d_Voice_hasKey_30 (by decide) rfl (by omega) ⟨_, rfl, by omega, rfl⟩
      · refine A_aload_n 0 d_Voice_hasKey_11 rfl rfl ?_
        refine A_iload_n 1 d_Voice_hasKey_12 rfl rfl ?_
        refine A_iload_n 3 d_Voice_hasKey_13 rfl rfl ?_
        refine A_callV2 m_Voice_keyOf T_ok d_Voice_hasKey_14 l_Voice_91 k_Voice_keyOf (xs_V hx ha0) rfl (by decide) (by decide) (Nat.le_of_ble_eq_true rfl) (s_Voice_keyOf hx ha0 (by omega) (by omega)) (fun r h6 hq => ?_)
        obtain ⟨x8, rfl, ⟨_, _⟩, rfl⟩ := hq
        refine A_iload_n 2 d_Voice_hasKey_17 rfl rfl ?_
        refine A_icmp_ne (tgt := 23) d_Voice_hasKey_18 (by decide) (fun c9 => ?_) (fun c9 => ?_)
        · refine A_iincv (z := (i1 + 1)) (L' := [some (av_R (some a0)), some (av_I a1), some (av_I a2), some (av_I (i1 + 1))]) d_Voice_hasKey_23 rfl (w32_to (by omega) (by unfold i32; omega)) rfl ?_
          refine A_goto (tgt := 2) d_Voice_hasKey_26 (by decide) ?_
          exact ih2 (i1 + 1) (by omega) (by omega) (by omega)
        · refine A_iconst d_Voice_hasKey_21 rfl ?_
          exact A_zret d_Voice_hasKey_22 (by decide) rfl (by omega) ⟨_, rfl, by omega, rfl⟩
  exact lp2 _ 0 (by omega) (by omega) (Nat.lt_succ_self _)
theorem s_Voice_numberOf {G : cx_T} {s : Nat} {h : ah_T} (hx : xi s h) {a0 : Nat} {a1 : Int} (ha0 : isV a0) (la1 : 0 ≤ a1) (ua1 : a1 ≤ 299) : con G 0 0 0 m_Voice_numberOf [av_R (some a0), av_I a1] h (fun r h' => ∃ z, r = some (av_I z) ∧ ((-2147483648) ≤ z ∧ z ≤ 2147483647) ∧ h = h') := by
  refine con_of (L := [some (av_R (some a0)), some (av_I a1)]) (by decide +kernel) (Nat.le_of_ble_eq_true rfl) rfl ?_
  have hS : isS s := hx.2.1
  have hs0 : s = 17 ∨ s = 80 := hS
  have ga0 := lt_V ha0
  refine A_aload_n 0 d_Voice_numberOf_0 rfl rfl ?_
  refine A_getAv (z := some (a0 + 4)) T_ok d_Voice_numberOf_1 f_Voice_21 (xs_V hx ha0) (xr_V_4 hx ha0) ?_
  refine A_aload_n 0 d_Voice_numberOf_4 rfl rfl ?_
  refine A_getAv (z := some (a0 + 7)) T_ok d_Voice_numberOf_5 f_Voice_31 (xs_V hx ha0) (xr_V_8 hx ha0) ?_
  refine A_iload_n 1 d_Voice_numberOf_8 rfl rfl ?_
  refine A_pc (pc' := 9) rfl ?_
  refine A_ialoadn (lo := 0) (hi := 299) d_Voice_numberOf_9 (xs_V_8 hx ha0) (by omega) (by omega) (xi_g hx (lt2_V ha0 (by decide)) (rg_V_8 ha0 _)) (fun x3 ex3 _ _ => ?_)
  refine A_ialoadf d_Voice_numberOf_10 (xs_V_4 hx ha0) (by omega) (by omega) (fun x4 ex4 _ _ => ?_)
  exact A_iret d_Voice_numberOf_11 (by decide) rfl ⟨_, rfl, ⟨by omega, by omega⟩, rfl⟩
theorem s_Voice_isTied {G : cx_T} {s : Nat} {h : ah_T} (hx : xi s h) {a0 : Nat} {a1 : Int} (ha0 : isV a0) (la1 : 0 ≤ a1) (ua1 : a1 ≤ 299) : con G 0 0 0 m_Voice_isTied [av_R (some a0), av_I a1] h (fun r h' => ∃ z, r = some (av_I z) ∧ (z = 0 ∨ z = 1) ∧ h = h') := by
  refine con_of (L := [some (av_R (some a0)), some (av_I a1)]) (by decide +kernel) (Nat.le_of_ble_eq_true rfl) rfl ?_
  have hS : isS s := hx.2.1
  have hs0 : s = 17 ∨ s = 80 := hS
  have ga0 := lt_V ha0
  refine A_aload_n 0 d_Voice_isTied_0 rfl rfl ?_
  refine A_getAv (z := some (a0 + 6)) T_ok d_Voice_isTied_1 f_Voice_27 (xs_V hx ha0) (xr_V_6 hx ha0) ?_
  refine A_aload_n 0 d_Voice_isTied_4 rfl rfl ?_
  refine A_getAv (z := some (a0 + 7)) T_ok d_Voice_isTied_5 f_Voice_31 (xs_V hx ha0) (xr_V_8 hx ha0) ?_
  refine A_iload_n 1 d_Voice_isTied_8 rfl rfl ?_
  refine A_pc (pc' := 9) rfl ?_
  refine A_ialoadn (lo := 0) (hi := 299) d_Voice_isTied_9 (xs_V_8 hx ha0) (by omega) (by omega) (xi_g hx (lt2_V ha0 (by decide)) (rg_V_8 ha0 _)) (fun x3 ex3 _ _ => ?_)
  refine A_zaloadn d_Voice_isTied_10 (xs_V_6 hx ha0) (by omega) (by omega) (fun x4 ex4 bx4 => ?_)
  exact A_zret d_Voice_isTied_11 (by decide) rfl (by omega) ⟨_, rfl, by omega, rfl⟩
theorem s_Voice_isShort {G : cx_T} {s : Nat} {h : ah_T} (hx : xi s h) {a0 : Nat} {a1 : Int} (ha0 : isV a0) (la1 : 0 ≤ a1) (ua1 : a1 ≤ 299) : con G 2 0 0 m_Voice_isShort [av_R (some a0), av_I a1] h (fun r h' => ∃ z, r = some (av_I z) ∧ (z = 0 ∨ z = 1) ∧ h = h') := by
  refine con_of (L := [some (av_R (some a0)), some (av_I a1)]) (by decide +kernel) (Nat.le_of_ble_eq_true rfl) rfl ?_
  have hS : isS s := hx.2.1
  have hs0 : s = 17 ∨ s = 80 := hS
  have ga0 := lt_V ha0
  refine A_aload_n 0 d_Voice_isShort_0 rfl rfl ?_
  refine A_iload_n 1 d_Voice_isShort_1 rfl rfl ?_
  refine A_callV1 m_Voice_isRest T_ok d_Voice_isShort_2 l_Voice_95 k_Voice_isRest (xs_V hx ha0) rfl (by decide) (by decide) (Nat.le_of_ble_eq_true rfl) (s_Voice_isRest hx ha0 (by omega) (by omega)) (fun r h1 hq => ?_)
  obtain ⟨x3, rfl, bx3, rfl⟩ := hq
  refine A_if_ne (tgt := 22) d_Voice_isShort_5 (by decide) (fun c4 => ?_) (fun c4 => ?_)
  · refine A_iconst d_Voice_isShort_22 rfl ?_
    exact A_zret d_Voice_isShort_23 (by decide) rfl (by omega) ⟨_, rfl, by omega, rfl⟩
  · refine A_aload_n 0 d_Voice_isShort_8 rfl rfl ?_
    refine A_iload_n 1 d_Voice_isShort_9 rfl rfl ?_
    refine A_callV1 m_Voice_numberOf T_ok d_Voice_isShort_10 l_Voice_88 k_Voice_numberOf (xs_V hx ha0) rfl (by decide) (by decide) (Nat.le_of_ble_eq_true rfl) (s_Voice_numberOf hx ha0 (by omega) (by omega)) (fun r h5 hq => ?_)
    obtain ⟨x7, rfl, ⟨_, _⟩, rfl⟩ := hq
    refine A_bipush d_Voice_isShort_13 rfl ?_
    refine A_icmp_lt (tgt := 22) d_Voice_isShort_15 (by decide) (fun c8 => ?_) (fun c8 => ?_)
    · refine A_iconst d_Voice_isShort_22 rfl ?_
      exact A_zret d_Voice_isShort_23 (by decide) rfl (by omega) ⟨_, rfl, by omega, rfl⟩
    · refine A_iconst d_Voice_isShort_18 rfl ?_
      refine A_goto (tgt := 23) d_Voice_isShort_19 (by decide) ?_
      exact A_zret d_Voice_isShort_23 (by decide) rfl (by omega) ⟨_, rfl, by omega, rfl⟩
theorem s_Voice_isReached {G : cx_T} {s : Nat} {h : ah_T} (hx : xi s h) {a0 : Nat} {a1 : Int} {a2 : Int} {a3 : Int} (ha0 : isV a0) (la1 : 0 ≤ a1) (ua1 : a1 ≤ 300) : con G 0 0 0 m_Voice_isReached [av_R (some a0), av_I a1, av_L a2, av_L a3] h (fun r h' => ∃ z, r = some (av_I z) ∧ (z = 0 ∨ z = 1) ∧ h = h') := by
  refine con_of (L := [some (av_R (some a0)), some (av_I a1), some (av_L a2), none, some (av_L a3), none]) (by decide +kernel) (Nat.le_of_ble_eq_true rfl) rfl ?_
  have hS : isS s := hx.2.1
  have hs0 : s = 17 ∨ s = 80 := hS
  have ga0 := lt_V ha0
  refine A_locL 2 rfl (fun ra => ?_)
  obtain ⟨_, _⟩ := ra
  refine A_locL 4 rfl (fun ra => ?_)
  obtain ⟨_, _⟩ := ra
  refine A_lload_n 2 d_Voice_isReached_0 rfl rfl ?_
  refine A_aload_n 0 d_Voice_isReached_1 rfl rfl ?_
  refine A_getAv (z := some (a0 + 10)) T_ok d_Voice_isReached_2 f_Voice_41 (xs_V hx ha0) (xr_V_11 hx ha0) ?_
  refine A_iload_n 1 d_Voice_isReached_5 rfl rfl ?_
  refine A_laloadf d_Voice_isReached_6 (xs_V_11 hx ha0) (by omega) (by omega) (fun x2 ex2 _ _ => ?_)
  refine A_pc (pc' := 7) rfl ?_
  refine A_lmulw d_Voice_isReached_7 (fun x3 _ _ _ => ?_)
  refine A_ldc2 (z := 2) d_Voice_isReached_8 cst_Voice_66 rfl ?_
  refine A_aload_n 0 d_Voice_isReached_11 rfl rfl ?_
  refine A_getAv (z := some (a0 + 9)) T_ok d_Voice_isReached_12 f_Voice_37 (xs_V hx ha0) (xr_V_10 hx ha0) ?_
  refine A_iload_n 1 d_Voice_isReached_15 rfl rfl ?_
  refine A_laloadf d_Voice_isReached_16 (xs_V_10 hx ha0) (by omega) (by omega) (fun x5 ex5 _ _ => ?_)
  refine A_pc (pc' := 17) rfl ?_
  refine A_lmulw d_Voice_isReached_17 (fun x6 _ _ _ => ?_)
  refine A_lload d_Voice_isReached_18 rfl ?_
  refine A_lmulw d_Voice_isReached_20 (fun x7 _ _ _ => ?_)
  refine A_lcmpn d_Voice_isReached_21 (fun x8 lx8 ex8 gx8 _ _ => ?_)
  refine A_if_lt (tgt := 29) d_Voice_isReached_22 (by decide) (fun c9 => ?_) (fun c9 => ?_)
  · have mc9 : (x3 - x7) < 0 := by omega
    refine A_iconst d_Voice_isReached_29 rfl ?_
    exact A_zret d_Voice_isReached_30 (by decide) rfl (by omega) ⟨_, rfl, by omega, rfl⟩
  · have mc9 : (x3 - x7) ≥ 0 := by omega
    refine A_iconst d_Voice_isReached_25 rfl ?_
    refine A_goto (tgt := 30) d_Voice_isReached_26 (by decide) ?_
    exact A_zret d_Voice_isReached_30 (by decide) rfl (by omega) ⟨_, rfl, by omega, rfl⟩
theorem s_Voice_sinceBarTop {G : cx_T} {s : Nat} {h : ah_T} (hx : xi s h) {a0 : Nat} {a1 : Int} {a2 : Int} (ha0 : isV a0) (la1 : 0 ≤ a1) (ua1 : a1 ≤ 101) (la2 : 0 ≤ a2) (ua2 : a2 ≤ 300) : con G 0 0 0 m_Voice_sinceBarTop [av_R (some a0), av_I a1, av_I a2] h (fun r h' => ∃ z, r = some (av_L z) ∧ ((-9223372036854775808) ≤ z ∧ z ≤ 9223372036854775807) ∧ h = h') := by
  refine con_of (L := [some (av_R (some a0)), some (av_I a1), some (av_I a2), none]) (by decide +kernel) (Nat.le_of_ble_eq_true rfl) rfl ?_
  have hS : isS s := hx.2.1
  have hs0 : s = 17 ∨ s = 80 := hS
  have ga0 := lt_V ha0
  refine A_aload_n 0 d_Voice_sinceBarTop_0 rfl rfl ?_
  refine A_getAv (z := some (a0 + 13)) T_ok d_Voice_sinceBarTop_1 f_Voice_50 (xs_V hx ha0) (xr_V_15 hx ha0) ?_
  refine A_iload_n 1 d_Voice_sinceBarTop_4 rfl rfl ?_
  refine A_ialoadn (lo := 0) (hi := 300) d_Voice_sinceBarTop_5 (xs_V_15 hx ha0) (by omega) (by omega) (xi_g hx (lt2_V ha0 (by decide)) (rg_V_15 ha0 _)) (fun x2 ex2 _ _ => ?_)
  refine A_istore_n 3 (L' := [some (av_R (some a0)), some (av_I a1), some (av_I a2), some (av_I x2)]) d_Voice_sinceBarTop_6 rfl (Nat.le_of_ble_eq_true rfl) rfl ?_
  refine A_pc (pc' := 7) rfl ?_
  refine A_aload_n 0 d_Voice_sinceBarTop_7 rfl rfl ?_
  refine A_getAv (z := some (a0 + 9)) T_ok d_Voice_sinceBarTop_8 f_Voice_37 (xs_V hx ha0) (xr_V_10 hx ha0) ?_
  refine A_iload_n 2 d_Voice_sinceBarTop_11 rfl rfl ?_
  refine A_laloadf d_Voice_sinceBarTop_12 (xs_V_10 hx ha0) (by omega) (by omega) (fun x4 ex4 _ _ => ?_)
  refine A_aload_n 0 d_Voice_sinceBarTop_13 rfl rfl ?_
  refine A_getAv (z := some (a0 + 10)) T_ok d_Voice_sinceBarTop_14 f_Voice_41 (xs_V hx ha0) (xr_V_11 hx ha0) ?_
  refine A_pc (pc' := 17) rfl ?_
  refine A_iload_n 3 d_Voice_sinceBarTop_17 rfl rfl ?_
  refine A_laloadf d_Voice_sinceBarTop_18 (xs_V_11 hx ha0) (by omega) (by omega) (fun x6 ex6 _ _ => ?_)
  refine A_lmulw d_Voice_sinceBarTop_19 (fun x7 _ _ _ => ?_)
  refine A_aload_n 0 d_Voice_sinceBarTop_20 rfl rfl ?_
  refine A_getAv (z := some (a0 + 9)) T_ok d_Voice_sinceBarTop_21 f_Voice_37 (xs_V hx ha0) (xr_V_10 hx ha0) ?_
  refine A_iload_n 3 d_Voice_sinceBarTop_24 rfl rfl ?_
  refine A_pc (pc' := 25) rfl ?_
  refine A_laloadf d_Voice_sinceBarTop_25 (xs_V_10 hx ha0) (by omega) (by omega) (fun x9 ex9 _ _ => ?_)
  refine A_aload_n 0 d_Voice_sinceBarTop_26 rfl rfl ?_
  refine A_getAv (z := some (a0 + 10)) T_ok d_Voice_sinceBarTop_27 f_Voice_41 (xs_V hx ha0) (xr_V_11 hx ha0) ?_
  refine A_iload_n 2 d_Voice_sinceBarTop_30 rfl rfl ?_
  refine A_laloadf d_Voice_sinceBarTop_31 (xs_V_11 hx ha0) (by omega) (by omega) (fun x11 ex11 _ _ => ?_)
  refine A_lmulw d_Voice_sinceBarTop_32 (fun x12 _ _ _ => ?_)
  refine A_pc (pc' := 33) rfl ?_
  refine A_lsubw d_Voice_sinceBarTop_33 (fun x13 _ _ _ => ?_)
  exact A_lret d_Voice_sinceBarTop_34 (by decide) rfl ⟨_, rfl, ⟨by omega, by omega⟩, rfl⟩
theorem s_Voice_sinceBarBottom {G : cx_T} {s : Nat} {h : ah_T} (hx : xi s h) {a0 : Nat} {a1 : Int} {a2 : Int} (ha0 : isV a0) (la1 : 0 ≤ a1) (ua1 : a1 ≤ 101) (la2 : 0 ≤ a2) (ua2 : a2 ≤ 300) : con G 0 0 0 m_Voice_sinceBarBottom [av_R (some a0), av_I a1, av_I a2] h (fun r h' => ∃ z, r = some (av_L z) ∧ ((-9223372036854775808) ≤ z ∧ z ≤ 9223372036854775807) ∧ h = h') := by
  refine con_of (L := [some (av_R (some a0)), some (av_I a1), some (av_I a2)]) (by decide +kernel) (Nat.le_of_ble_eq_true rfl) rfl ?_
  have hS : isS s := hx.2.1
  have hs0 : s = 17 ∨ s = 80 := hS
  have ga0 := lt_V ha0
  refine A_aload_n 0 d_Voice_sinceBarBottom_0 rfl rfl ?_
  refine A_getAv (z := some (a0 + 10)) T_ok d_Voice_sinceBarBottom_1 f_Voice_41 (xs_V hx ha0) (xr_V_11 hx ha0) ?_
  refine A_iload_n 2 d_Voice_sinceBarBottom_4 rfl rfl ?_
  refine A_laloadf d_Voice_sinceBarBottom_5 (xs_V_11 hx ha0) (by omega) (by omega) (fun x2 ex2 _ _ => ?_)
  refine A_aload_n 0 d_Voice_sinceBarBottom_6 rfl rfl ?_
  refine A_pc (pc' := 7) rfl ?_
  refine A_getAv (z := some (a0 + 10)) T_ok d_Voice_sinceBarBottom_7 f_Voice_41 (xs_V hx ha0) (xr_V_11 hx ha0) ?_
  refine A_aload_n 0 d_Voice_sinceBarBottom_10 rfl rfl ?_
  refine A_getAv (z := some (a0 + 13)) T_ok d_Voice_sinceBarBottom_11 f_Voice_50 (xs_V hx ha0) (xr_V_15 hx ha0) ?_
  refine A_iload_n 1 d_Voice_sinceBarBottom_14 rfl rfl ?_
  refine A_ialoadn (lo := 0) (hi := 300) d_Voice_sinceBarBottom_15 (xs_V_15 hx ha0) (by omega) (by omega) (xi_g hx (lt2_V ha0 (by decide)) (rg_V_15 ha0 _)) (fun x5 ex5 _ _ => ?_)
  refine A_laloadf d_Voice_sinceBarBottom_16 (xs_V_11 hx ha0) (by omega) (by omega) (fun x6 ex6 _ _ => ?_)
  refine A_pc (pc' := 17) rfl ?_
  refine A_lmulw d_Voice_sinceBarBottom_17 (fun x7 _ _ _ => ?_)
  exact A_lret d_Voice_sinceBarBottom_18 (by decide) rfl ⟨_, rfl, ⟨by omega, by omega⟩, rfl⟩
theorem s_Voice_compareBar {G : cx_T} {s : Nat} {h : ah_T} (hx : xi s h) {a0 : Nat} {a1 : Int} {a2 : Int} {a3 : Int} (ha0 : isV a0) (la1 : 0 ≤ a1) (ua1 : a1 ≤ 100) : con G 1 0 0 m_Voice_compareBar [av_R (some a0), av_I a1, av_I a2, av_I a3] h (fun r h' => ∃ z, r = some (av_I z) ∧ ((-1) ≤ z ∧ z ≤ 1) ∧ h = h') := by
  refine con_of (L := [some (av_R (some a0)), some (av_I a1), some (av_I a2), some (av_I a3), none]) (by decide +kernel) (Nat.le_of_ble_eq_true rfl) rfl ?_
  have hS : isS s := hx.2.1
  have hs0 : s = 17 ∨ s = 80 := hS
  have ga0 := lt_V ha0
  refine A_locI 2 rfl (fun ra => ?_)
  obtain ⟨_, _⟩ := ra
  refine A_locI 3 rfl (fun ra => ?_)
  obtain ⟨_, _⟩ := ra
  refine A_aload_n 0 d_Voice_compareBar_0 rfl rfl ?_
  refine A_getAv (z := some (a0 + 13)) T_ok d_Voice_compareBar_1 f_Voice_50 (xs_V hx ha0) (xr_V_15 hx ha0) ?_
  refine A_iload_n 1 d_Voice_compareBar_4 rfl rfl ?_
  refine A_iconst d_Voice_compareBar_5 rfl ?_
  refine A_iaddv (z := (a1 + 1)) d_Voice_compareBar_6 (w32_to (by omega) (by unfold i32; omega)) ?_
  refine A_pc (pc' := 7) rfl ?_
  refine A_ialoadn (lo := 0) (hi := 300) d_Voice_compareBar_7 (xs_V_15 hx ha0) (by omega) (by omega) (xi_g hx (lt2_V ha0 (by decide)) (rg_V_15 ha0 _)) (fun x2 ex2 _ _ => ?_)
  refine A_istore (L' := [some (av_R (some a0)), some (av_I a1), some (av_I a2), some (av_I a3), some (av_I x2)]) d_Voice_compareBar_8 (Nat.le_of_ble_eq_true rfl) rfl ?_
  refine A_aload_n 0 d_Voice_compareBar_10 rfl rfl ?_
  refine A_iload_n 1 d_Voice_compareBar_11 rfl rfl ?_
  refine A_iload d_Voice_compareBar_12 rfl ?_
  refine A_callV2 m_Voice_sinceBarTop T_ok d_Voice_compareBar_14 l_Voice_115 k_Voice_sinceBarTop (xs_V hx ha0) rfl (by decide) (by decide) (Nat.le_of_ble_eq_true rfl) (s_Voice_sinceBarTop hx ha0 (by omega) (by omega) (by omega) (by omega)) (fun r h3 hq => ?_)
  obtain ⟨x5, rfl, ⟨_, _⟩, rfl⟩ := hq
  refine A_iload_n 3 d_Voice_compareBar_17 rfl rfl ?_
  refine A_i2l d_Voice_compareBar_18 ?_
  refine A_lmulw d_Voice_compareBar_19 (fun x6 _ _ _ => ?_)
  refine A_aload_n 0 d_Voice_compareBar_20 rfl rfl ?_
  refine A_iload_n 1 d_Voice_compareBar_21 rfl rfl ?_
  refine A_pc (pc' := 22) rfl ?_
  refine A_iload d_Voice_compareBar_22 rfl ?_
  refine A_callV2 m_Voice_sinceBarBottom T_ok d_Voice_compareBar_24 l_Voice_119 k_Voice_sinceBarBottom (xs_V hx ha0) rfl (by decide) (by decide) (Nat.le_of_ble_eq_true rfl) (s_Voice_sinceBarBottom hx ha0 (by omega) (by omega) (by omega) (by omega)) (fun r h7 hq => ?_)
  obtain ⟨x9, rfl, ⟨_, _⟩, rfl⟩ := hq
  refine A_iload_n 2 d_Voice_compareBar_27 rfl rfl ?_
  refine A_i2l d_Voice_compareBar_28 ?_
  refine A_lmulw d_Voice_compareBar_29 (fun x10 _ _ _ => ?_)
  refine A_callS2 m_JLong_compare d_Voice_compareBar_30 l_Voice_122 k_JLong_compare (by decide) (by decide) (Nat.le_of_ble_eq_true rfl) (s_JLong_compare  ) (fun r h11 hq => ?_)
  obtain ⟨x13, rfl, ⟨_, _⟩, xx13, rfl⟩ := hq
  exact A_iret d_Voice_compareBar_33 (by decide) rfl ⟨_, rfl, ⟨by omega, by omega⟩, rfl⟩
theorem s_Voice_timeOf {G : cx_T} {s : Nat} {h : ah_T} (hx : xi s h) {a0 : Nat} {a1 : Int} {a2 : Int} (ha0 : isV a0) (la1 : 0 ≤ a1) (ua1 : a1 ≤ 299) : con G 0 0 0 m_Voice_timeOf [av_R (some a0), av_I a1, av_I a2] h (fun r h' => ∃ z, r = some (av_L z) ∧ ((-9223372036854775808) ≤ z ∧ z ≤ 9223372036854775807) ∧ h = h') := by
  refine con_of (L := [some (av_R (some a0)), some (av_I a1), some (av_I a2)]) (by decide +kernel) (Nat.le_of_ble_eq_true rfl) rfl ?_
  have hS : isS s := hx.2.1
  have hs0 : s = 17 ∨ s = 80 := hS
  have ga0 := lt_V ha0
  refine A_locI 2 rfl (fun ra => ?_)
  obtain ⟨_, _⟩ := ra
  refine A_iload_n 2 d_Voice_timeOf_0 rfl rfl ?_
  rcases (by omega : a2 < 0 ∨ a2 = 0 ∨ a2 = 1 ∨ a2 = 2 ∨ 2 < a2) with c1 | c1 | c1 | c1 | c1
  · refine A_tabOut (tgt := 49) d_Voice_timeOf_1 (by omega) (by decide) ?_
    refine A_aload_n 0 d_Voice_timeOf_49 rfl rfl ?_
    refine A_getAv (z := some (a0 + 12)) T_ok d_Voice_timeOf_50 f_Voice_47 (xs_V hx ha0) (xr_V_13 hx ha0) ?_
    refine A_iload_n 1 d_Voice_timeOf_53 rfl rfl ?_
    refine A_laloadf d_Voice_timeOf_54 (xs_V_13 hx ha0) (by omega) (by omega) (fun x3 ex3 _ _ => ?_)
    exact A_lret d_Voice_timeOf_55 (by decide) rfl ⟨_, rfl, ⟨by omega, by omega⟩, rfl⟩
  · refine A_tabIn (tgt := 28) d_Voice_timeOf_1 (by omega) (by omega) (by rw [c1]; rfl) (by decide) ?_
    refine A_aload_n 0 d_Voice_timeOf_28 rfl rfl ?_
    refine A_getAv (z := some (a0 + 9)) T_ok d_Voice_timeOf_29 f_Voice_37 (xs_V hx ha0) (xr_V_10 hx ha0) ?_
    refine A_iload_n 1 d_Voice_timeOf_32 rfl rfl ?_
    refine A_laloadf d_Voice_timeOf_33 (xs_V_10 hx ha0) (by omega) (by omega) (fun x5 ex5 _ _ => ?_)
    exact A_lret d_Voice_timeOf_34 (by decide) rfl ⟨_, rfl, ⟨by omega, by omega⟩, rfl⟩
  · refine A_tabIn (tgt := 35) d_Voice_timeOf_1 (by omega) (by omega) (by rw [c1]; rfl) (by decide) ?_
    refine A_aload_n 0 d_Voice_timeOf_35 rfl rfl ?_
    refine A_getAv (z := some (a0 + 10)) T_ok d_Voice_timeOf_36 f_Voice_41 (xs_V hx ha0) (xr_V_11 hx ha0) ?_
    refine A_iload_n 1 d_Voice_timeOf_39 rfl rfl ?_
    refine A_laloadf d_Voice_timeOf_40 (xs_V_11 hx ha0) (by omega) (by omega) (fun x7 ex7 _ _ => ?_)
    exact A_lret d_Voice_timeOf_41 (by decide) rfl ⟨_, rfl, ⟨by omega, by omega⟩, rfl⟩
  · refine A_tabIn (tgt := 42) d_Voice_timeOf_1 (by omega) (by omega) (by rw [c1]; rfl) (by decide) ?_
    refine A_aload_n 0 d_Voice_timeOf_42 rfl rfl ?_
    refine A_getAv (z := some (a0 + 11)) T_ok d_Voice_timeOf_43 f_Voice_44 (xs_V hx ha0) (xr_V_12 hx ha0) ?_
    refine A_iload_n 1 d_Voice_timeOf_46 rfl rfl ?_
    refine A_laloadf d_Voice_timeOf_47 (xs_V_12 hx ha0) (by omega) (by omega) (fun x9 ex9 _ _ => ?_)
    exact A_lret d_Voice_timeOf_48 (by decide) rfl ⟨_, rfl, ⟨by omega, by omega⟩, rfl⟩
  · refine A_tabOut (tgt := 49) d_Voice_timeOf_1 (by omega) (by decide) ?_
    refine A_aload_n 0 d_Voice_timeOf_49 rfl rfl ?_
    refine A_getAv (z := some (a0 + 12)) T_ok d_Voice_timeOf_50 f_Voice_47 (xs_V hx ha0) (xr_V_13 hx ha0) ?_
    refine A_iload_n 1 d_Voice_timeOf_53 rfl rfl ?_
    refine A_laloadf d_Voice_timeOf_54 (xs_V_13 hx ha0) (by omega) (by omega) (fun x11 ex11 _ _ => ?_)
    exact A_lret d_Voice_timeOf_55 (by decide) rfl ⟨_, rfl, ⟨by omega, by omega⟩, rfl⟩
theorem s_Voice_writingOf {G : cx_T} {s : Nat} {h : ah_T} (hx : xi s h) {a0 : Nat} {a1 : Int} {a2 : Int} (ha0 : isV a0) (la1 : 0 ≤ a1) (ua1 : a1 ≤ 299) : con G 1 0 0 m_Voice_writingOf [av_R (some a0), av_I a1, av_I a2] h (fun r h' => ∃ z, r = some (av_I z) ∧ ((-2147483648) ≤ z ∧ z ≤ 2147483647) ∧ h = h') := by
  refine con_of (L := [some (av_R (some a0)), some (av_I a1), some (av_I a2)]) (by decide +kernel) (Nat.le_of_ble_eq_true rfl) rfl ?_
  have hS : isS s := hx.2.1
  have hs0 : s = 17 ∨ s = 80 := hS
  have ga0 := lt_V ha0
  refine A_locI 2 rfl (fun ra => ?_)
  obtain ⟨_, _⟩ := ra
  refine A_iload_n 2 d_Voice_writingOf_0 rfl rfl ?_
  rcases (by omega : a2 < 4 ∨ a2 = 4 ∨ a2 = 5 ∨ a2 = 6 ∨ a2 = 7 ∨ 7 < a2) with c1 | c1 | c1 | c1 | c1 | c1
  · refine A_tabOut (tgt := 65) d_Voice_writingOf_1 (by omega) (by decide) ?_
    refine A_aload_n 0 d_Voice_writingOf_65 rfl rfl ?_
    refine A_getAv (z := some (a0 + 5)) T_ok d_Voice_writingOf_66 f_Voice_24 (xs_V hx ha0) (xr_V_5 hx ha0) ?_
    refine A_aload_n 0 d_Voice_writingOf_69 rfl rfl ?_
    refine A_getAv (z := some (a0 + 7)) T_ok d_Voice_writingOf_70 f_Voice_31 (xs_V hx ha0) (xr_V_8 hx ha0) ?_
    refine A_iload_n 1 d_Voice_writingOf_73 rfl rfl ?_
    refine A_pc (pc' := 74) rfl ?_
    refine A_ialoadn (lo := 0) (hi := 299) d_Voice_writingOf_74 (xs_V_8 hx ha0) (by omega) (by omega) (xi_g hx (lt2_V ha0 (by decide)) (rg_V_8 ha0 _)) (fun x4 ex4 _ _ => ?_)
    refine A_ialoadf d_Voice_writingOf_75 (xs_V_5 hx ha0) (by omega) (by omega) (fun x5 ex5 _ _ => ?_)
    exact A_iret d_Voice_writingOf_76 (by decide) rfl ⟨_, rfl, ⟨by omega, by omega⟩, rfl⟩
  · refine A_tabIn (tgt := 32) d_Voice_writingOf_1 (by omega) (by omega) (by rw [c1]; rfl) (by decide) ?_
    refine A_aload_n 0 d_Voice_writingOf_32 rfl rfl ?_
    refine A_iload_n 1 d_Voice_writingOf_33 rfl rfl ?_
    refine A_callV1 m_Voice_pitchesOf T_ok d_Voice_writingOf_34 l_Voice_80 k_Voice_pitchesOf (xs_V hx ha0) rfl (by decide) (by decide) (Nat.le_of_ble_eq_true rfl) (s_Voice_pitchesOf hx ha0 (by omega) (by omega)) (fun r h6 hq => ?_)
    obtain ⟨x8, rfl, ⟨_, _⟩, rfl⟩ := hq
    exact A_iret d_Voice_writingOf_37 (by decide) rfl ⟨_, rfl, ⟨by omega, by omega⟩, rfl⟩
  · refine A_tabIn (tgt := 38) d_Voice_writingOf_1 (by omega) (by omega) (by rw [c1]; rfl) (by decide) ?_
    refine A_aload_n 0 d_Voice_writingOf_38 rfl rfl ?_
    refine A_iload_n 1 d_Voice_writingOf_39 rfl rfl ?_
    refine A_callV1 m_Voice_isTied T_ok d_Voice_writingOf_40 l_Voice_84 k_Voice_isTied (xs_V hx ha0) rfl (by decide) (by decide) (Nat.le_of_ble_eq_true rfl) (s_Voice_isTied hx ha0 (by omega) (by omega)) (fun r h9 hq => ?_)
    obtain ⟨x11, rfl, bx11, rfl⟩ := hq
    refine A_if_eq (tgt := 50) d_Voice_writingOf_43 (by decide) (fun c12 => ?_) (fun c12 => ?_)
    · refine A_iconst d_Voice_writingOf_50 rfl ?_
      exact A_iret d_Voice_writingOf_51 (by decide) rfl ⟨_, rfl, ⟨by omega, by omega⟩, rfl⟩
    · refine A_iconst d_Voice_writingOf_46 rfl ?_
      refine A_goto (tgt := 51) d_Voice_writingOf_47 (by decide) ?_
      exact A_iret d_Voice_writingOf_51 (by decide) rfl ⟨_, rfl, ⟨by omega, by omega⟩, rfl⟩
  · refine A_tabIn (tgt := 52) d_Voice_writingOf_1 (by omega) (by omega) (by rw [c1]; rfl) (by decide) ?_
    refine A_aload_n 0 d_Voice_writingOf_52 rfl rfl ?_
    refine A_getAv (z := some (a0 + 8)) T_ok d_Voice_writingOf_53 f_Voice_34 (xs_V hx ha0) (xr_V_9 hx ha0) ?_
    refine A_iload_n 1 d_Voice_writingOf_56 rfl rfl ?_
    refine A_ialoadf d_Voice_writingOf_57 (xs_V_9 hx ha0) (by omega) (by omega) (fun x14 ex14 _ _ => ?_)
    exact A_iret d_Voice_writingOf_58 (by decide) rfl ⟨_, rfl, ⟨by omega, by omega⟩, rfl⟩
  · refine A_tabIn (tgt := 59) d_Voice_writingOf_1 (by omega) (by omega) (by rw [c1]; rfl) (by decide) ?_
    refine A_aload_n 0 d_Voice_writingOf_59 rfl rfl ?_
    refine A_iload_n 1 d_Voice_writingOf_60 rfl rfl ?_
    refine A_callV1 m_Voice_numberOf T_ok d_Voice_writingOf_61 l_Voice_88 k_Voice_numberOf (xs_V hx ha0) rfl (by decide) (by decide) (Nat.le_of_ble_eq_true rfl) (s_Voice_numberOf hx ha0 (by omega) (by omega)) (fun r h15 hq => ?_)
    obtain ⟨x17, rfl, ⟨_, _⟩, rfl⟩ := hq
    exact A_iret d_Voice_writingOf_64 (by decide) rfl ⟨_, rfl, ⟨by omega, by omega⟩, rfl⟩
  · refine A_tabOut (tgt := 65) d_Voice_writingOf_1 (by omega) (by decide) ?_
    refine A_aload_n 0 d_Voice_writingOf_65 rfl rfl ?_
    refine A_getAv (z := some (a0 + 5)) T_ok d_Voice_writingOf_66 f_Voice_24 (xs_V hx ha0) (xr_V_5 hx ha0) ?_
    refine A_aload_n 0 d_Voice_writingOf_69 rfl rfl ?_
    refine A_getAv (z := some (a0 + 7)) T_ok d_Voice_writingOf_70 f_Voice_31 (xs_V hx ha0) (xr_V_8 hx ha0) ?_
    refine A_iload_n 1 d_Voice_writingOf_73 rfl rfl ?_
    refine A_pc (pc' := 74) rfl ?_
    refine A_ialoadn (lo := 0) (hi := 299) d_Voice_writingOf_74 (xs_V_8 hx ha0) (by omega) (by omega) (xi_g hx (lt2_V ha0 (by decide)) (rg_V_8 ha0 _)) (fun x20 ex20 _ _ => ?_)
    refine A_ialoadf d_Voice_writingOf_75 (xs_V_5 hx ha0) (by omega) (by omega) (fun x21 ex21 _ _ => ?_)
    exact A_iret d_Voice_writingOf_76 (by decide) rfl ⟨_, rfl, ⟨by omega, by omega⟩, rfl⟩
theorem s_Voice_clear {G : cx_T} {s : Nat} {h : ah_T} (hx : xi s h) {a0 : Nat} (ta0 : tV s a0) : con G 0 0 0 m_Voice_clear [av_R (some a0)] h (fun r h' => r = none ∧ kF (FB s) s h h') := by
  refine con_of (L := [some (av_R (some a0))]) (by decide +kernel) (Nat.le_of_ble_eq_true rfl) rfl ?_
  have hS : isS s := hx.2.1
  have hs0 : s = 17 ∨ s = 80 := hS
  have k0 : kF (FB s) s h h := kF_0 hx
  have ga0 : a0 = s + 7 ∨ a0 = s + 21 ∨ a0 = s + 35 ∨ a0 = s + 49 := ta0
  refine A_aload_n 0 d_Voice_clear_0 rfl rfl ?_
  refine A_iconst d_Voice_clear_1 rfl ?_
  refine A_putIk (KR := kF (FB s) s h) T_ok d_Voice_clear_2 f_Voice_53 (xs_V k0.1 (tV_V hS ta0)) fin_f (kF_j k0 (by omega) (rg_V_2 (tV_V hS ta0)) (by omega) (by omega)) (fun h1 k2 eh1 => ?_)
  refine A_aload_n 0 d_Voice_clear_5 rfl rfl ?_
  refine A_iconst d_Voice_clear_6 rfl ?_
  refine A_pc (pc' := 7) rfl ?_
  refine A_putIk (KR := kF (FB s) s h) T_ok d_Voice_clear_7 f_Voice_57 (xs_V k2.1 (tV_V hS ta0)) fin_f (kF_j k2 (by omega) (rg_V_7 (tV_V hS ta0)) (by omega) (by omega)) (fun h3 k4 eh3 => ?_)
  refine A_aload_n 0 d_Voice_clear_10 rfl rfl ?_
  refine A_getAv (z := some (a0 + 3)) T_ok d_Voice_clear_11 f_Voice_18 (xs_V k4.1 (tV_V hS ta0)) (xr_V_3 k4.1 (tV_V hS ta0)) ?_
  refine A_iconst d_Voice_clear_14 rfl ?_
  refine A_iconst d_Voice_clear_15 rfl ?_
  refine A_iastorek (KR := kF (FB s) s h) d_Voice_clear_16 (xs_V_3 k4.1 (tV_V hS ta0)) (by decide) (by decide) (kF_j k4 (by omega) (rg_V_3 (tV_V hS ta0) _) (by omega) (by omega)) (fun h6 k7 eh6 => ?_)
  refine A_pc (pc' := 17) rfl ?_
  exact A_vret d_Voice_clear_17 (by decide) rfl ⟨rfl, k7⟩
theorem s_Voice_addPitch {G : cx_T} {s : Nat} {h : ah_T} (hx : xi s h) {a0 : Nat} {a1 : Int} {a2 : Int} (ta0 : tV s a0) : con G 0 0 0 m_Voice_addPitch [av_R (some a0), av_I a1, av_I a2] h (fun r h' => r = none ∧ kF (FB s) s h h') := by
  refine con_of (L := [some (av_R (some a0)), some (av_I a1), some (av_I a2)]) (by decide +kernel) (Nat.le_of_ble_eq_true rfl) rfl ?_
  have hS : isS s := hx.2.1
  have hs0 : s = 17 ∨ s = 80 := hS
  have k0 : kF (FB s) s h h := kF_0 hx
  have ga0 : a0 = s + 7 ∨ a0 = s + 21 ∨ a0 = s + 35 ∨ a0 = s + 49 := ta0
  refine A_locI 1 rfl (fun ra => ?_)
  obtain ⟨_, _⟩ := ra
  refine A_locI 2 rfl (fun ra => ?_)
  obtain ⟨_, _⟩ := ra
  refine A_aload_n 0 d_Voice_addPitch_0 rfl rfl ?_
  refine A_getIn (lo := 0) (hi := 300) T_ok d_Voice_addPitch_1 f_Voice_53 (xs_V k0.1 (tV_V hS ta0)) (xi_g k0.1 (lt1_V (tV_V hS ta0)) (rg_V_2 (tV_V hS ta0))) (fun x1 ex1 _ _ => ?_)
  refine A_aload_n 0 d_Voice_addPitch_4 rfl rfl ?_
  refine A_getAv (z := some (a0 + 1)) T_ok d_Voice_addPitch_5 f_Voice_9 (xs_V k0.1 (tV_V hS ta0)) (xr_V_0 k0.1 (tV_V hS ta0)) ?_
  refine A_alenN d_Voice_addPitch_8 (xs_V_0 k0.1 (tV_V hS ta0)) (by decide) (by decide) ?_
  refine A_pc (pc' := 9) rfl ?_
  refine A_icmp_ge (tgt := 42) d_Voice_addPitch_9 (by decide) (fun c3 => ?_) (fun c3 => ?_)
  · exact A_vret d_Voice_addPitch_42 (by decide) rfl ⟨rfl, k0⟩
  · refine A_aload_n 0 d_Voice_addPitch_12 rfl rfl ?_
    refine A_getAv (z := some (a0 + 1)) T_ok d_Voice_addPitch_13 f_Voice_9 (xs_V k0.1 (tV_V hS ta0)) (xr_V_0 k0.1 (tV_V hS ta0)) ?_
    refine A_aload_n 0 d_Voice_addPitch_16 rfl rfl ?_
    refine A_getIv (z := x1) T_ok d_Voice_addPitch_17 f_Voice_53 (xs_V k0.1 (tV_V hS ta0)) ex1.symm ?_
    refine A_iload_n 1 d_Voice_addPitch_20 rfl rfl ?_
    refine A_pc (pc' := 21) rfl ?_
    refine A_iastorek (KR := kF (FB s) s h) d_Voice_addPitch_21 (xs_V_0 k0.1 (tV_V hS ta0)) (by omega) (by omega) (kF_j k0 (by omega) (rg_V_0 (tV_V hS ta0) _) (by omega) (by omega)) (fun h6 k7 eh6 => ?_)
    refine A_aload_n 0 d_Voice_addPitch_22 rfl rfl ?_
    refine A_getAv (z := some (a0 + 2)) T_ok d_Voice_addPitch_23 f_Voice_15 (xs_V k7.1 (tV_V hS ta0)) (xr_V_1 k7.1 (tV_V hS ta0)) ?_
    refine A_aload_n 0 d_Voice_addPitch_26 rfl rfl ?_
    refine A_getIv (z := x1) T_ok d_Voice_addPitch_27 f_Voice_53 (xs_V k7.1 (tV_V hS ta0)) ((eh6.1 _ _ (fun q => by omega)).trans ex1.symm) ?_
    refine A_iload_n 2 d_Voice_addPitch_30 rfl rfl ?_
    refine A_pc (pc' := 31) rfl ?_
    refine A_iastorek (KR := kF (FB s) s h) d_Voice_addPitch_31 (xs_V_1 k7.1 (tV_V hS ta0)) (by omega) (by omega) (kF_j k7 (by omega) (rg_V_1 (tV_V hS ta0) _) (by omega) (by omega)) (fun h10 k11 eh10 => ?_)
    refine A_aload_n 0 d_Voice_addPitch_32 rfl rfl ?_
    refine A_dupR d_Voice_addPitch_33 ?_
    refine A_getIv (z := x1) T_ok d_Voice_addPitch_34 f_Voice_53 (xs_V k11.1 (tV_V hS ta0)) ((eh10.1 _ _ (fun q => by omega)).trans ((eh6.1 _ _ (fun q => by omega)).trans ex1.symm)) ?_
    refine A_iconst d_Voice_addPitch_37 rfl ?_
    refine A_iaddv (z := (x1 + 1)) d_Voice_addPitch_38 (w32_to (by omega) (by unfold i32; omega)) ?_
    refine A_pc (pc' := 39) rfl ?_
    refine A_putIk (KR := kF (FB s) s h) T_ok d_Voice_addPitch_39 f_Voice_53 (xs_V k11.1 (tV_V hS ta0)) fin_f (kF_j k11 (by omega) (rg_V_2 (tV_V hS ta0)) (by omega) (by omega)) (fun h13 k14 eh13 => ?_)
    exact A_vret d_Voice_addPitch_42 (by decide) rfl ⟨rfl, k14⟩
theorem s_Voice_endSound {G : cx_T} {s : Nat} {h : ah_T} (hx : xi s h) {a0 : Nat} {a1 : Int} {a2 : Int} {a3 : Int} (ta0 : tV s a0) (ba3 : a3 = 0 ∨ a3 = 1) : con G 0 0 0 m_Voice_endSound [av_R (some a0), av_I a1, av_I a2, av_I a3] h (fun r h' => ∃ z, r = some (av_I z) ∧ ((-1) ≤ z ∧ z ≤ 299) ∧ kF (FB s) s h h') := by
  refine con_of (L := [some (av_R (some a0)), some (av_I a1), some (av_I a2), some (av_I a3)]) (by decide +kernel) (Nat.le_of_ble_eq_true rfl) rfl ?_
  have hS : isS s := hx.2.1
  have hs0 : s = 17 ∨ s = 80 := hS
  have k0 : kF (FB s) s h h := kF_0 hx
  have ga0 : a0 = s + 7 ∨ a0 = s + 21 ∨ a0 = s + 35 ∨ a0 = s + 49 := ta0
  refine A_locI 1 rfl (fun ra => ?_)
  obtain ⟨_, _⟩ := ra
  refine A_locI 2 rfl (fun ra => ?_)
  obtain ⟨_, _⟩ := ra
  refine A_aload_n 0 d_Voice_endSound_0 rfl rfl ?_
  refine A_getIn (lo := 0) (hi := 300) T_ok d_Voice_endSound_1 f_Voice_57 (xs_V k0.1 (tV_V hS ta0)) (xi_g k0.1 (lt1_V (tV_V hS ta0)) (rg_V_7 (tV_V hS ta0))) (fun x1 ex1 _ _ => ?_)
  refine A_aload_n 0 d_Voice_endSound_4 rfl rfl ?_
  refine A_getAv (z := some (a0 + 4)) T_ok d_Voice_endSound_5 f_Voice_21 (xs_V k0.1 (tV_V hS ta0)) (xr_V_4 k0.1 (tV_V hS ta0)) ?_
  refine A_alenN d_Voice_endSound_8 (xs_V_4 k0.1 (tV_V hS ta0)) (by decide) (by decide) ?_
  refine A_pc (pc' := 9) rfl ?_
  refine A_icmp_lt (tgt := 14) d_Voice_endSound_9 (by decide) (fun c3 => ?_) (fun c3 => ?_)
  · refine A_aload_n 0 d_Voice_endSound_14 rfl rfl ?_
    refine A_getAv (z := some (a0 + 4)) T_ok d_Voice_endSound_15 f_Voice_21 (xs_V k0.1 (tV_V hS ta0)) (xr_V_4 k0.1 (tV_V hS ta0)) ?_
    refine A_aload_n 0 d_Voice_endSound_18 rfl rfl ?_
    refine A_getIv (z := x1) T_ok d_Voice_endSound_19 f_Voice_57 (xs_V k0.1 (tV_V hS ta0)) ex1.symm ?_
    refine A_iload_n 1 d_Voice_endSound_22 rfl rfl ?_
    refine A_pc (pc' := 23) rfl ?_
    refine A_iastorek (KR := kF (FB s) s h) d_Voice_endSound_23 (xs_V_4 k0.1 (tV_V hS ta0)) (by omega) (by omega) (kF_j k0 (by omega) (rg_V_4 (tV_V hS ta0) _) (by omega) (by omega)) (fun h6 k7 eh6 => ?_)
    refine A_aload_n 0 d_Voice_endSound_24 rfl rfl ?_
    refine A_getAv (z := some (a0 + 5)) T_ok d_Voice_endSound_25 f_Voice_24 (xs_V k7.1 (tV_V hS ta0)) (xr_V_5 k7.1 (tV_V hS ta0)) ?_
    refine A_aload_n 0 d_Voice_endSound_28 rfl rfl ?_
    refine A_getIv (z := x1) T_ok d_Voice_endSound_29 f_Voice_57 (xs_V k7.1 (tV_V hS ta0)) ((eh6.1 _ _ (fun q => by omega)).trans ex1.symm) ?_
    refine A_iload_n 2 d_Voice_endSound_32 rfl rfl ?_
    refine A_pc (pc' := 33) rfl ?_
    refine A_iastorek (KR := kF (FB s) s h) d_Voice_endSound_33 (xs_V_5 k7.1 (tV_V hS ta0)) (by omega) (by omega) (kF_j k7 (by omega) (rg_V_5 (tV_V hS ta0) _) (by omega) (by omega)) (fun h10 k11 eh10 => ?_)
    refine A_aload_n 0 d_Voice_endSound_34 rfl rfl ?_
    refine A_getAv (z := some (a0 + 6)) T_ok d_Voice_endSound_35 f_Voice_27 (xs_V k11.1 (tV_V hS ta0)) (xr_V_6 k11.1 (tV_V hS ta0)) ?_
    refine A_aload_n 0 d_Voice_endSound_38 rfl rfl ?_
    refine A_getIv (z := x1) T_ok d_Voice_endSound_39 f_Voice_57 (xs_V k11.1 (tV_V hS ta0)) ((eh10.1 _ _ (fun q => by omega)).trans ((eh6.1 _ _ (fun q => by omega)).trans ex1.symm)) ?_
    refine A_iload_n 3 d_Voice_endSound_42 rfl rfl ?_
    refine A_pc (pc' := 43) rfl ?_
    refine A_zastorek (KR := kF (FB s) s h) d_Voice_endSound_43 (xs_V_6 k11.1 (tV_V hS ta0)) (by omega) (by omega) (by omega) (kF_j k11 (by omega) (rg_V_6 (tV_V hS ta0) _) (by omega) (by omega)) (fun h14 k15 eh14 => ?_)
    refine A_aload_n 0 d_Voice_endSound_44 rfl rfl ?_
    refine A_dupR d_Voice_endSound_45 ?_
    refine A_getIv (z := x1) T_ok d_Voice_endSound_46 f_Voice_57 (xs_V k15.1 (tV_V hS ta0)) ((eh14.1 _ _ (fun q => by omega)).trans ((eh10.1 _ _ (fun q => by omega)).trans ((eh6.1 _ _ (fun q => by omega)).trans ex1.symm))) ?_
    refine A_iconst d_Voice_endSound_49 rfl ?_
    refine A_iaddv (z := (x1 + 1)) d_Voice_endSound_50 (w32_to (by omega) (by unfold i32; omega)) ?_
    refine A_pc (pc' := 51) rfl ?_
    refine A_putIk (KR := kF (FB s) s h) T_ok d_Voice_endSound_51 f_Voice_57 (xs_V k15.1 (tV_V hS ta0)) fin_f (kF_j k15 (by omega) (rg_V_7 (tV_V hS ta0)) (by omega) (by omega)) (fun h17 k18 eh17 => ?_)
    refine A_aload_n 0 d_Voice_endSound_54 rfl rfl ?_
    refine A_getAv (z := some (a0 + 3)) T_ok d_Voice_endSound_55 f_Voice_18 (xs_V k18.1 (tV_V hS ta0)) (xr_V_3 k18.1 (tV_V hS ta0)) ?_
    refine A_aload_n 0 d_Voice_endSound_58 rfl rfl ?_
    refine A_getIv (z := (x1 + 1)) T_ok d_Voice_endSound_59 f_Voice_57 (xs_V k18.1 (tV_V hS ta0)) eh17.2 ?_
    refine A_aload_n 0 d_Voice_endSound_62 rfl rfl ?_
    refine A_pc (pc' := 63) rfl ?_
    refine A_getIn (lo := 0) (hi := 300) T_ok d_Voice_endSound_63 f_Voice_53 (xs_V k18.1 (tV_V hS ta0)) (xi_g k18.1 (lt1_V (tV_V hS ta0)) (rg_V_2 (tV_V hS ta0))) (fun x21 ex21 _ _ => ?_)
    refine A_iastorek (KR := kF (FB s) s h) d_Voice_endSound_66 (xs_V_3 k18.1 (tV_V hS ta0)) (by omega) (by omega) (kF_j k18 (by omega) (rg_V_3 (tV_V hS ta0) _) (by omega) (by omega)) (fun h22 k23 eh22 => ?_)
    refine A_aload_n 0 d_Voice_endSound_67 rfl rfl ?_
    refine A_getIv (z := (x1 + 1)) T_ok d_Voice_endSound_68 f_Voice_57 (xs_V k23.1 (tV_V hS ta0)) ((eh22.1 _ _ (fun q => by omega)).trans eh17.2) ?_
    refine A_iconst d_Voice_endSound_71 rfl ?_
    refine A_isubv (z := x1) d_Voice_endSound_72 (w32_to (by omega) (by unfold i32; omega)) ?_
    refine A_pc (pc' := 73) rfl ?_
    exact A_iret d_Voice_endSound_73 (by decide) rfl ⟨_, rfl, ⟨by omega, by omega⟩, k23⟩
  · refine A_iconst d_Voice_endSound_12 rfl ?_
    exact A_iret d_Voice_endSound_13 (by decide) rfl ⟨_, rfl, ⟨by omega, by omega⟩, k0⟩
theorem s_Voice_beginWalk {G : cx_T} {s : Nat} {h : ah_T} (hx : xi s h) {a0 : Nat} (ta0 : tV s a0) : con G 0 0 0 m_Voice_beginWalk [av_R (some a0)] h (fun r h' => r = none ∧ kF (FB s) s h h') := by
  refine con_of (L := [some (av_R (some a0))]) (by decide +kernel) (Nat.le_of_ble_eq_true rfl) rfl ?_
  have hS : isS s := hx.2.1
  have hs0 : s = 17 ∨ s = 80 := hS
  have k0 : kF (FB s) s h h := kF_0 hx
  have ga0 : a0 = s + 7 ∨ a0 = s + 21 ∨ a0 = s + 35 ∨ a0 = s + 49 := ta0
  refine A_aload_n 0 d_Voice_beginWalk_0 rfl rfl ?_
  refine A_iconst d_Voice_beginWalk_1 rfl ?_
  refine A_putIk (KR := kF (FB s) s h) T_ok d_Voice_beginWalk_2 f_Voice_60 (xs_V k0.1 (tV_V hS ta0)) fin_f (kF_j k0 (by omega) (rg_V_14 (tV_V hS ta0)) (by omega) (by omega)) (fun h1 k2 eh1 => ?_)
  refine A_aload_n 0 d_Voice_beginWalk_5 rfl rfl ?_
  refine A_getAv (z := some (a0 + 9)) T_ok d_Voice_beginWalk_6 f_Voice_37 (xs_V k2.1 (tV_V hS ta0)) (xr_V_10 k2.1 (tV_V hS ta0)) ?_
  refine A_pc (pc' := 9) rfl ?_
  refine A_iconst d_Voice_beginWalk_9 rfl ?_
  refine A_lconst_0 d_Voice_beginWalk_10 ?_
  refine A_lastorek (KR := kF (FB s) s h) d_Voice_beginWalk_11 (xs_V_10 k2.1 (tV_V hS ta0)) (by decide) (by decide) (kF_l k2 (by omega)) (fun h4 k5 eh4 => ?_)
  refine A_aload_n 0 d_Voice_beginWalk_12 rfl rfl ?_
  refine A_getAv (z := some (a0 + 10)) T_ok d_Voice_beginWalk_13 f_Voice_41 (xs_V k5.1 (tV_V hS ta0)) (xr_V_11 k5.1 (tV_V hS ta0)) ?_
  refine A_iconst d_Voice_beginWalk_16 rfl ?_
  refine A_pc (pc' := 17) rfl ?_
  refine A_lconst_1 d_Voice_beginWalk_17 ?_
  refine A_lastorek (KR := kF (FB s) s h) d_Voice_beginWalk_18 (xs_V_11 k5.1 (tV_V hS ta0)) (by decide) (by decide) (kF_l k5 (by omega)) (fun h7 k8 eh7 => ?_)
  refine A_aload_n 0 d_Voice_beginWalk_19 rfl rfl ?_
  refine A_getAv (z := some (a0 + 13)) T_ok d_Voice_beginWalk_20 f_Voice_50 (xs_V k8.1 (tV_V hS ta0)) (xr_V_15 k8.1 (tV_V hS ta0)) ?_
  refine A_iconst d_Voice_beginWalk_23 rfl ?_
  refine A_iconst d_Voice_beginWalk_24 rfl ?_
  refine A_pc (pc' := 25) rfl ?_
  refine A_iastorek (KR := kF (FB s) s h) d_Voice_beginWalk_25 (xs_V_15 k8.1 (tV_V hS ta0)) (by decide) (by decide) (kF_j k8 (by omega) (rg_V_15 (tV_V hS ta0) _) (by omega) (by omega)) (fun h10 k11 eh10 => ?_)
  refine A_aload_n 0 d_Voice_beginWalk_26 rfl rfl ?_
  refine A_iconst d_Voice_beginWalk_27 rfl ?_
  refine A_putIk (KR := kF (FB s) s h) T_ok d_Voice_beginWalk_28 f_Voice_63 (xs_V k11.1 (tV_V hS ta0)) fin_f (kF_j k11 (by omega) (rg_V_16 (tV_V hS ta0)) (by omega) (by omega)) (fun h12 k13 eh12 => ?_)
  exact A_vret d_Voice_beginWalk_31 (by decide) rfl ⟨rfl, k13⟩
theorem s_Voice_endWalk {G : cx_T} {s : Nat} {h : ah_T} (hx : xi s h) {a0 : Nat} (ta0 : tV s a0) : con G 0 0 0 m_Voice_endWalk [av_R (some a0)] h (fun r h' => r = none ∧ kF (FB s) s h h') := by
  refine con_of (L := [some (av_R (some a0))]) (by decide +kernel) (Nat.le_of_ble_eq_true rfl) rfl ?_
  have hS : isS s := hx.2.1
  have hs0 : s = 17 ∨ s = 80 := hS
  have k0 : kF (FB s) s h h := kF_0 hx
  have ga0 : a0 = s + 7 ∨ a0 = s + 21 ∨ a0 = s + 35 ∨ a0 = s + 49 := ta0
  refine A_aload_n 0 d_Voice_endWalk_0 rfl rfl ?_
  refine A_getIn (lo := 0) (hi := 101) T_ok d_Voice_endWalk_1 f_Voice_63 (xs_V k0.1 (tV_V hS ta0)) (xi_g k0.1 (lt1_V (tV_V hS ta0)) (rg_V_16 (tV_V hS ta0))) (fun x1 ex1 _ _ => ?_)
  refine A_aload_n 0 d_Voice_endWalk_4 rfl rfl ?_
  refine A_getAv (z := some (a0 + 13)) T_ok d_Voice_endWalk_5 f_Voice_50 (xs_V k0.1 (tV_V hS ta0)) (xr_V_15 k0.1 (tV_V hS ta0)) ?_
  refine A_alenN d_Voice_endWalk_8 (xs_V_15 k0.1 (tV_V hS ta0)) (by decide) (by decide) ?_
  refine A_pc (pc' := 9) rfl ?_
  refine A_icmp_ge (tgt := 25) d_Voice_endWalk_9 (by decide) (fun c => False.elim (by omega)) (fun c3 => ?_)
  refine A_aload_n 0 d_Voice_endWalk_12 rfl rfl ?_
  refine A_getAv (z := some (a0 + 13)) T_ok d_Voice_endWalk_13 f_Voice_50 (xs_V k0.1 (tV_V hS ta0)) (xr_V_15 k0.1 (tV_V hS ta0)) ?_
  refine A_aload_n 0 d_Voice_endWalk_16 rfl rfl ?_
  refine A_getIv (z := x1) T_ok d_Voice_endWalk_17 f_Voice_63 (xs_V k0.1 (tV_V hS ta0)) ex1.symm ?_
  refine A_aload_n 0 d_Voice_endWalk_20 rfl rfl ?_
  refine A_pc (pc' := 21) rfl ?_
  refine A_getIn (lo := 0) (hi := 300) T_ok d_Voice_endWalk_21 f_Voice_60 (xs_V k0.1 (tV_V hS ta0)) (xi_g k0.1 (lt1_V (tV_V hS ta0)) (rg_V_14 (tV_V hS ta0))) (fun x6 ex6 _ _ => ?_)
  refine A_iastorek (KR := kF (FB s) s h) d_Voice_endWalk_24 (xs_V_15 k0.1 (tV_V hS ta0)) (by omega) (by omega) (kF_j k0 (by omega) (rg_V_15 (tV_V hS ta0) _) (by omega) (by omega)) (fun h7 k8 eh7 => ?_)
  exact A_vret d_Voice_endWalk_25 (by decide) rfl ⟨rfl, k8⟩
theorem s_PM_greatestDivisor {G : cx_T} {h : ah_T} {a0 : Int} {a1 : Int}  : con G 0 0 0 m_PM_greatestDivisor [av_L a0, av_L a1] h (fun r h' => ∃ z, r = some (av_L z) ∧ (1 ≤ z ∧ z ≤ 9223372036854775807) ∧ h = h') := by
  refine con_of (L := [some (av_L a0), none, some (av_L a1), none, none, none, none, none, none, none, none]) (by decide +kernel) (Nat.le_of_ble_eq_true rfl) rfl ?_
  refine A_locL 0 rfl (fun ra => ?_)
  obtain ⟨_, _⟩ := ra
  refine A_locL 2 rfl (fun ra => ?_)
  obtain ⟨_, _⟩ := ra
  refine A_lload_n 0 d_PM_greatestDivisor_0 rfl rfl ?_
  refine A_lstore (L' := [some (av_L a0), none, some (av_L a1), none, some (av_L a0), none, none, none, none, none, none]) d_PM_greatestDivisor_1 (Nat.le_of_ble_eq_true rfl) rfl ?_
  refine A_lload_n 2 d_PM_greatestDivisor_3 rfl rfl ?_
  refine A_lstore (L' := [some (av_L a0), none, some (av_L a1), none, some (av_L a0), none, some (av_L a1), none, none, none, none]) d_PM_greatestDivisor_4 (Nat.le_of_ble_eq_true rfl) rfl ?_
  refine A_iconst d_PM_greatestDivisor_6 rfl ?_
  refine A_pc (pc' := 7) rfl ?_
  refine A_istore (L' := [some (av_L a0), none, some (av_L a1), none, some (av_L a0), none, some (av_L a1), none, some (av_I 0), none, none]) d_PM_greatestDivisor_7 (Nat.le_of_ble_eq_true rfl) rfl ?_
  have lp9 : ∀ (n : Nat) (i1 i2 i3 : Int) , (-9223372036854775808) ≤ i1 → i1 ≤ 9223372036854775807 → (-9223372036854775808) ≤ i2 → i2 ≤ 9223372036854775807 → 0 ≤ i3 → i3 ≤ 200 → (201 - i3).toNat < n → aw G (rm_R 0 0 0) m_PM_greatestDivisor 0 0 9 [some (av_L a0), none, some (av_L a1), none, some (av_L i1), none, some (av_L i2), none, some (av_I i3), none, none] [] h (fun r h' => ∃ z, r = some (av_L z) ∧ (1 ≤ z ∧ z ≤ 9223372036854775807) ∧ h = h') := by
    intro n
    induction n with
    | zero => intro i1 i2 i3 _ _ _ _ _ _ hm; omega
    | succ n ih9 =>
      intro i1 i2 i3 hl0 hl1 hl2 hl3 hl4 hl5 hm
      refine A_iload d_PM_greatestDivisor_9 rfl ?_
      refine A_sipush d_PM_greatestDivisor_11 rfl ?_
      refine A_icmp_ge (tgt := 45) d_PM_greatestDivisor_14 (by decide) (fun c4 => ?_) (fun c4 => ?_)
      · refine A_lload d_PM_greatestDivisor_45 rfl ?_
        refine A_lconst_1 d_PM_greatestDivisor_47 ?_
        refine A_lcmpn d_PM_greatestDivisor_48 (fun x5 lx5 ex5 gx5 _ _ => ?_)
        refine A_if_ge (tgt := 56) d_PM_greatestDivisor_49 (by decide) (fun c6 => ?_) (fun c6 => ?_)
        · have mc6 : (i1 - 1) ≥ 0 := by omega
          refine A_lload d_PM_greatestDivisor_56 rfl ?_
          exact A_lret d_PM_greatestDivisor_58 (by decide) rfl ⟨_, rfl, ⟨by omega, by omega⟩, rfl⟩
        · have mc6 : (i1 - 1) < 0 := by omega
          refine A_lconst_1 d_PM_greatestDivisor_52 ?_
          refine A_goto (tgt := 58) d_PM_greatestDivisor_53 (by decide) ?_
          exact A_lret d_PM_greatestDivisor_58 (by decide) rfl ⟨_, rfl, ⟨by omega, by omega⟩, rfl⟩
      · refine A_lload d_PM_greatestDivisor_17 rfl ?_
        refine A_lconst_0 d_PM_greatestDivisor_19 ?_
        refine A_lcmpn d_PM_greatestDivisor_20 (fun x7 lx7 ex7 gx7 _ _ => ?_)
        refine A_if_eq (tgt := 45) d_PM_greatestDivisor_21 (by decide) (fun c8 => ?_) (fun c8 => ?_)
        · have mc8 : i2 = 0 := by omega
          refine A_lload d_PM_greatestDivisor_45 rfl ?_
          refine A_lconst_1 d_PM_greatestDivisor_47 ?_
          refine A_lcmpn d_PM_greatestDivisor_48 (fun x9 lx9 ex9 gx9 _ _ => ?_)
          refine A_if_ge (tgt := 56) d_PM_greatestDivisor_49 (by decide) (fun c10 => ?_) (fun c10 => ?_)
          · have mc10 : (i1 - 1) ≥ 0 := by omega
            refine A_lload d_PM_greatestDivisor_56 rfl ?_
            exact A_lret d_PM_greatestDivisor_58 (by decide) rfl ⟨_, rfl, ⟨by omega, by omega⟩, rfl⟩
          · have mc10 : (i1 - 1) < 0 := by omega
            refine A_lconst_1 d_PM_greatestDivisor_52 ?_
            refine A_goto (tgt := 58) d_PM_greatestDivisor_53 (by decide) ?_
            exact A_lret d_PM_greatestDivisor_58 (by decide) rfl ⟨_, rfl, ⟨by omega, by omega⟩, rfl⟩
        · have mc8 : i2 ≠ 0 := by omega
          refine A_lload d_PM_greatestDivisor_24 rfl ?_
          refine A_lload d_PM_greatestDivisor_26 rfl ?_
          refine A_lremc d_PM_greatestDivisor_28 (by omega) (fun x11 ex11 _ _ => ?_)
          refine A_lstore (L' := [some (av_L a0), none, some (av_L a1), none, some (av_L i1), none, some (av_L i2), none, some (av_I i3), some (av_L x11), none]) d_PM_greatestDivisor_29 (Nat.le_of_ble_eq_true rfl) rfl ?_
          refine A_lload d_PM_greatestDivisor_31 rfl ?_
          refine A_pc (pc' := 33) rfl ?_
          refine A_lstore (L' := [some (av_L a0), none, some (av_L a1), none, some (av_L i2), none, some (av_L i2), none, some (av_I i3), some (av_L x11), none]) d_PM_greatestDivisor_33 (Nat.le_of_ble_eq_true rfl) rfl ?_
          refine A_lload d_PM_greatestDivisor_35 rfl ?_
          refine A_lstore (L' := [some (av_L a0), none, some (av_L a1), none, some (av_L i2), none, some (av_L x11), none, some (av_I i3), some (av_L x11), none]) d_PM_greatestDivisor_37 (Nat.le_of_ble_eq_true rfl) rfl ?_
          refine A_iincv (z := (i3 + 1)) (L' := [some (av_L a0), none, some (av_L a1), none, some (av_L i2), none, some (av_L x11), none, some (av_I (i3 + 1)), some (av_L x11), none]) d_PM_greatestDivisor_39 rfl (w32_to (by omega) (by unfold i32; omega)) rfl ?_
          refine A_goto (tgt := 9) d_PM_greatestDivisor_42 (by decide) ?_
          refine A_free (L' := [some (av_L a0), none, some (av_L a1), none, some (av_L i2), none, some (av_L x11), none, some (av_I (i3 + 1)), none, none]) (And.intro rfl (And.intro rfl (And.intro rfl (And.intro rfl (And.intro rfl trivial))))) ?_
          exact ih9 i2 x11 (i3 + 1) (by omega) (by omega) (by omega) (by omega) (by omega) (by omega) (by omega)
  exact lp9 _ a0 a1 0 (by omega) (by omega) (by omega) (by omega) (by omega) (by omega) (Nat.lt_succ_self _)
theorem s_Voice_isTold {G : cx_T} {h : ah_T} {a0 : Int} {a1 : Int}  : con G 0 0 0 m_Voice_isTold [av_L a0, av_L a1] h (fun r h' => ∃ z, r = some (av_I z) ∧ (z = 0 ∨ z = 1) ∧ h = h') := by
  refine con_of (L := [some (av_L a0), none, some (av_L a1), none]) (by decide +kernel) (Nat.le_of_ble_eq_true rfl) rfl ?_
  refine A_locL 0 rfl (fun ra => ?_)
  obtain ⟨_, _⟩ := ra
  refine A_locL 2 rfl (fun ra => ?_)
  obtain ⟨_, _⟩ := ra
  refine A_lload_n 2 d_Voice_isTold_0 rfl rfl ?_
  refine A_ldc2 (z := 1000000) d_Voice_isTold_1 cst_Voice_76 rfl ?_
  refine A_lcmpn d_Voice_isTold_4 (fun x1 lx1 ex1 gx1 _ _ => ?_)
  refine A_if_gt (tgt := 22) d_Voice_isTold_5 (by decide) (fun c2 => ?_) (fun c2 => ?_)
  · have mc2 : (a1 - 1000000) > 0 := by omega
    refine A_iconst d_Voice_isTold_22 rfl ?_
    exact A_zret d_Voice_isTold_23 (by decide) rfl (by omega) ⟨_, rfl, by omega, rfl⟩
  · have mc2 : (a1 - 1000000) ≤ 0 := by omega
    refine A_lload_n 0 d_Voice_isTold_8 rfl rfl ?_
    refine A_ldc2 (z := 1000) d_Voice_isTold_9 cst_Voice_78 rfl ?_
    refine A_lload_n 2 d_Voice_isTold_12 rfl rfl ?_
    refine A_lmulw d_Voice_isTold_13 (fun x3 _ _ _ => ?_)
    refine A_lcmpn d_Voice_isTold_14 (fun x4 lx4 ex4 gx4 _ _ => ?_)
    refine A_pc (pc' := 15) rfl ?_
    refine A_if_gt (tgt := 22) d_Voice_isTold_15 (by decide) (fun c5 => ?_) (fun c5 => ?_)
    · have mc5 : (a0 - x3) > 0 := by omega
      refine A_iconst d_Voice_isTold_22 rfl ?_
      exact A_zret d_Voice_isTold_23 (by decide) rfl (by omega) ⟨_, rfl, by omega, rfl⟩
    · have mc5 : (a0 - x3) ≤ 0 := by omega
      refine A_iconst d_Voice_isTold_18 rfl ?_
      refine A_goto (tgt := 23) d_Voice_isTold_19 (by decide) ?_
      exact A_zret d_Voice_isTold_23 (by decide) rfl (by omega) ⟨_, rfl, by omega, rfl⟩
theorem s_Voice_addBar {G : cx_T} {s : Nat} {h : ah_T} (hx : xi s h) {a0 : Nat} (ta0 : tV s a0) : con G 0 0 0 m_Voice_addBar [av_R (some a0)] h (fun r h' => r = none ∧ kF (FB s) s h h') := by
  refine con_of (L := [some (av_R (some a0))]) (by decide +kernel) (Nat.le_of_ble_eq_true rfl) rfl ?_
  have hS : isS s := hx.2.1
  have hs0 : s = 17 ∨ s = 80 := hS
  have k0 : kF (FB s) s h h := kF_0 hx
  have ga0 : a0 = s + 7 ∨ a0 = s + 21 ∨ a0 = s + 35 ∨ a0 = s + 49 := ta0
  refine A_aload_n 0 d_Voice_addBar_0 rfl rfl ?_
  refine A_getIn (lo := 0) (hi := 101) T_ok d_Voice_addBar_1 f_Voice_63 (xs_V k0.1 (tV_V hS ta0)) (xi_g k0.1 (lt1_V (tV_V hS ta0)) (rg_V_16 (tV_V hS ta0))) (fun x1 ex1 _ _ => ?_)
  refine A_aload_n 0 d_Voice_addBar_4 rfl rfl ?_
  refine A_getAv (z := some (a0 + 13)) T_ok d_Voice_addBar_5 f_Voice_50 (xs_V k0.1 (tV_V hS ta0)) (xr_V_15 k0.1 (tV_V hS ta0)) ?_
  refine A_alenN d_Voice_addBar_8 (xs_V_15 k0.1 (tV_V hS ta0)) (by decide) (by decide) ?_
  refine A_pc (pc' := 9) rfl ?_
  refine A_icmp_ge (tgt := 35) d_Voice_addBar_9 (by decide) (fun c => False.elim (by omega)) (fun c3 => ?_)
  refine A_aload_n 0 d_Voice_addBar_12 rfl rfl ?_
  refine A_getAv (z := some (a0 + 13)) T_ok d_Voice_addBar_13 f_Voice_50 (xs_V k0.1 (tV_V hS ta0)) (xr_V_15 k0.1 (tV_V hS ta0)) ?_
  refine A_aload_n 0 d_Voice_addBar_16 rfl rfl ?_
  refine A_getIv (z := x1) T_ok d_Voice_addBar_17 f_Voice_63 (xs_V k0.1 (tV_V hS ta0)) ex1.symm ?_
  refine A_aload_n 0 d_Voice_addBar_20 rfl rfl ?_
  refine A_pc (pc' := 21) rfl ?_
  refine A_getIn (lo := 0) (hi := 300) T_ok d_Voice_addBar_21 f_Voice_60 (xs_V k0.1 (tV_V hS ta0)) (xi_g k0.1 (lt1_V (tV_V hS ta0)) (rg_V_14 (tV_V hS ta0))) (fun x6 ex6 _ _ => ?_)
  refine A_iastorek (KR := kF (FB s) s h) d_Voice_addBar_24 (xs_V_15 k0.1 (tV_V hS ta0)) (by omega) (by omega) (kF_j k0 (by omega) (rg_V_15 (tV_V hS ta0) _) (by omega) (by omega)) (fun h7 k8 eh7 => ?_)
  refine A_aload_n 0 d_Voice_addBar_25 rfl rfl ?_
  refine A_dupR d_Voice_addBar_26 ?_
  refine A_getIv (z := x1) T_ok d_Voice_addBar_27 f_Voice_63 (xs_V k8.1 (tV_V hS ta0)) ((eh7.1 _ _ (fun q => by omega)).trans ex1.symm) ?_
  refine A_iconst d_Voice_addBar_30 rfl ?_
  refine A_pc (pc' := 31) rfl ?_
  refine A_iaddv (z := (x1 + 1)) d_Voice_addBar_31 (w32_to (by omega) (by unfold i32; omega)) ?_
  refine A_putIk (KR := kF (FB s) s h) T_ok d_Voice_addBar_32 f_Voice_63 (xs_V k8.1 (tV_V hS ta0)) fin_f (kF_j k8 (by omega) (rg_V_16 (tV_V hS ta0)) (by omega) (by omega)) (fun h10 k11 eh10 => ?_)
  exact A_vret d_Voice_addBar_35 (by decide) rfl ⟨rfl, k11⟩
theorem s_Voice_addEvent {G : cx_T} {s : Nat} {h : ah_T} (hx : xi s h) {a0 : Nat} {a1 : Int} {a2 : Int} {a3 : Int} (ta0 : tV s a0) : con G 1 0 0 m_Voice_addEvent [av_R (some a0), av_I a1, av_L a2, av_L a3] h (fun r h' => ∃ z, r = some (av_I z) ∧ (z = 0 ∨ z = 1) ∧ kF (FB s) s h h') := by
  refine con_of (L := [some (av_R (some a0)), some (av_I a1), some (av_L a2), none, some (av_L a3), none, none, none, none, none, none, none, none, none, none, none, none, none, none]) (by decide +kernel) (Nat.le_of_ble_eq_true rfl) rfl ?_
  have hS : isS s := hx.2.1
  have hs0 : s = 17 ∨ s = 80 := hS
  have k0 : kF (FB s) s h h := kF_0 hx
  have ga0 : a0 = s + 7 ∨ a0 = s + 21 ∨ a0 = s + 35 ∨ a0 = s + 49 := ta0
  refine A_locI 1 rfl (fun ra => ?_)
  obtain ⟨_, _⟩ := ra
  refine A_locL 2 rfl (fun ra => ?_)
  obtain ⟨_, _⟩ := ra
  refine A_locL 4 rfl (fun ra => ?_)
  obtain ⟨_, _⟩ := ra
  refine A_aload_n 0 d_Voice_addEvent_0 rfl rfl ?_
  refine A_getIn (lo := 0) (hi := 300) T_ok d_Voice_addEvent_1 f_Voice_60 (xs_V k0.1 (tV_V hS ta0)) (xi_g k0.1 (lt1_V (tV_V hS ta0)) (rg_V_14 (tV_V hS ta0))) (fun x1 ex1 _ _ => ?_)
  refine A_sipush d_Voice_addEvent_4 rfl ?_
  refine A_icmp_ge (tgt := 21) d_Voice_addEvent_7 (by decide) (fun c2 => ?_) (fun c2 => ?_)
  · refine A_iconst d_Voice_addEvent_21 rfl ?_
    exact A_zret d_Voice_addEvent_22 (by decide) rfl (by omega) ⟨_, rfl, by omega, k0⟩
  · refine A_iload_n 1 d_Voice_addEvent_10 rfl rfl ?_
    refine A_if_lt (tgt := 21) d_Voice_addEvent_11 (by decide) (fun c3 => ?_) (fun c3 => ?_)
    · refine A_iconst d_Voice_addEvent_21 rfl ?_
      exact A_zret d_Voice_addEvent_22 (by decide) rfl (by omega) ⟨_, rfl, by omega, k0⟩
    · refine A_iload_n 1 d_Voice_addEvent_14 rfl rfl ?_
      refine A_sipush d_Voice_addEvent_15 rfl ?_
      refine A_icmp_lt (tgt := 23) d_Voice_addEvent_18 (by decide) (fun c4 => ?_) (fun c4 => ?_)
      · refine A_aload_n 0 d_Voice_addEvent_23 rfl rfl ?_
        refine A_getAv (z := some (a0 + 5)) T_ok d_Voice_addEvent_24 f_Voice_24 (xs_V k0.1 (tV_V hS ta0)) (xr_V_5 k0.1 (tV_V hS ta0)) ?_
        refine A_iload_n 1 d_Voice_addEvent_27 rfl rfl ?_
        refine A_ialoadf d_Voice_addEvent_28 (xs_V_5 k0.1 (tV_V hS ta0)) (by omega) (by omega) (fun x6 ex6 _ _ => ?_)
        refine A_istore (L' := [some (av_R (some a0)), some (av_I a1), some (av_L a2), none, some (av_L a3), none, some (av_I x6), none, none, none, none, none, none, none, none, none, none, none, none]) d_Voice_addEvent_29 (Nat.le_of_ble_eq_true rfl) rfl ?_
        refine A_pc (pc' := 31) rfl ?_
        refine A_lload_n 2 d_Voice_addEvent_31 rfl rfl ?_
        refine A_ldc2 (z := 2) d_Voice_addEvent_32 cst_Voice_66 rfl ?_
        refine A_iload d_Voice_addEvent_35 rfl ?_
        refine A_lshl d_Voice_addEvent_37 ?_
        refine A_nrL (fun x7 ex7 _ _ => ?_)
        refine A_lconst_1 d_Voice_addEvent_38 ?_
        refine A_lsubw d_Voice_addEvent_39 (fun x8 _ _ _ => ?_)
        refine A_pc (pc' := 40) rfl ?_
        refine A_lmulw d_Voice_addEvent_40 (fun x9 _ _ _ => ?_)
        refine A_lstore (L' := [some (av_R (some a0)), some (av_I a1), some (av_L a2), none, some (av_L a3), none, some (av_I x6), some (av_L x9), none, none, none, none, none, none, none, none, none, none, none]) d_Voice_addEvent_41 (Nat.le_of_ble_eq_true rfl) rfl ?_
        refine A_lload d_Voice_addEvent_43 rfl ?_
        refine A_aload_n 0 d_Voice_addEvent_45 rfl rfl ?_
        refine A_getAv (z := some (a0 + 4)) T_ok d_Voice_addEvent_46 f_Voice_21 (xs_V k0.1 (tV_V hS ta0)) (xr_V_4 k0.1 (tV_V hS ta0)) ?_
        refine A_iload_n 1 d_Voice_addEvent_49 rfl rfl ?_
        refine A_pc (pc' := 50) rfl ?_
        refine A_ialoadf d_Voice_addEvent_50 (xs_V_4 k0.1 (tV_V hS ta0)) (by omega) (by omega) (fun x11 ex11 _ _ => ?_)
        refine A_i2l d_Voice_addEvent_51 ?_
        refine A_lmulw d_Voice_addEvent_52 (fun x12 _ _ _ => ?_)
        refine A_lconst_1 d_Voice_addEvent_53 ?_
        refine A_iload d_Voice_addEvent_54 rfl ?_
        refine A_lshl d_Voice_addEvent_56 ?_
        refine A_nrL (fun x13 ex13 _ _ => ?_)
        refine A_pc (pc' := 57) rfl ?_
        refine A_lmulw d_Voice_addEvent_57 (fun x14 _ _ _ => ?_)
        refine A_lstore (L' := [some (av_R (some a0)), some (av_I a1), some (av_L a2), none, some (av_L a3), none, some (av_I x6), some (av_L x9), none, some (av_L x14), none, none, none, none, none, none, none, none, none]) d_Voice_addEvent_58 (Nat.le_of_ble_eq_true rfl) rfl ?_
        refine A_lload d_Voice_addEvent_60 rfl ?_
        refine A_lload d_Voice_addEvent_62 rfl ?_
        refine A_callS2 m_PM_greatestDivisor d_Voice_addEvent_64 l_Voice_68 k_PM_greatestDivisor (by decide) (by decide) (Nat.le_of_ble_eq_true rfl) (s_PM_greatestDivisor  ) (fun r h15 hq => ?_)
        obtain ⟨x17, rfl, ⟨_, _⟩, rfl⟩ := hq
        refine A_lstore (L' := [some (av_R (some a0)), some (av_I a1), some (av_L a2), none, some (av_L a3), none, some (av_I x6), some (av_L x9), none, some (av_L x14), none, some (av_L x17), none, none, none, none, none, none, none]) d_Voice_addEvent_67 (Nat.le_of_ble_eq_true rfl) rfl ?_
        refine A_aload_n 0 d_Voice_addEvent_69 rfl rfl ?_
        refine A_getAv (z := some (a0 + 7)) T_ok d_Voice_addEvent_70 f_Voice_31 (xs_V k0.1 (tV_V hS ta0)) (xr_V_8 k0.1 (tV_V hS ta0)) ?_
        refine A_aload_n 0 d_Voice_addEvent_73 rfl rfl ?_
        refine A_getIv (z := x1) T_ok d_Voice_addEvent_74 f_Voice_60 (xs_V k0.1 (tV_V hS ta0)) ex1.symm ?_
        refine A_pc (pc' := 77) rfl ?_
        refine A_iload_n 1 d_Voice_addEvent_77 rfl rfl ?_
        refine A_iastorek (KR := kF (FB s) s h) d_Voice_addEvent_78 (xs_V_8 k0.1 (tV_V hS ta0)) (by omega) (by omega) (kF_j k0 (by omega) (rg_V_8 (tV_V hS ta0) _) (by omega) (by omega)) (fun h20 k21 eh20 => ?_)
        refine A_aload_n 0 d_Voice_addEvent_79 rfl rfl ?_
        refine A_getAv (z := some (a0 + 8)) T_ok d_Voice_addEvent_80 f_Voice_34 (xs_V k21.1 (tV_V hS ta0)) (xr_V_9 k21.1 (tV_V hS ta0)) ?_
        refine A_aload_n 0 d_Voice_addEvent_83 rfl rfl ?_
        refine A_getIv (z := x1) T_ok d_Voice_addEvent_84 f_Voice_60 (xs_V k21.1 (tV_V hS ta0)) ((eh20.1 _ _ (fun q => by omega)).trans ex1.symm) ?_
        refine A_pc (pc' := 87) rfl ?_
        refine A_aload_n 0 d_Voice_addEvent_87 rfl rfl ?_
        refine A_getIn (lo := 0) (hi := 101) T_ok d_Voice_addEvent_88 f_Voice_63 (xs_V k21.1 (tV_V hS ta0)) (xi_g k21.1 (lt1_V (tV_V hS ta0)) (rg_V_16 (tV_V hS ta0))) (fun x24 ex24 _ _ => ?_)
        refine A_iconst d_Voice_addEvent_91 rfl ?_
        refine A_isubv (z := (x24 - 1)) d_Voice_addEvent_92 (w32_to (by omega) (by unfold i32; omega)) ?_
        refine A_iastorek (KR := kF (FB s) s h) d_Voice_addEvent_93 (xs_V_9 k21.1 (tV_V hS ta0)) (by omega) (by omega) (kF_j k21 (by omega) (rg_V_9 (tV_V hS ta0) _) (by omega) (by omega)) (fun h25 k26 eh25 => ?_)
        refine A_aload_n 0 d_Voice_addEvent_94 rfl rfl ?_
        refine A_pc (pc' := 95) rfl ?_
        refine A_getAv (z := some (a0 + 11)) T_ok d_Voice_addEvent_95 f_Voice_44 (xs_V k26.1 (tV_V hS ta0)) (xr_V_12 k26.1 (tV_V hS ta0)) ?_
        refine A_aload_n 0 d_Voice_addEvent_98 rfl rfl ?_
        refine A_getIv (z := x1) T_ok d_Voice_addEvent_99 f_Voice_60 (xs_V k26.1 (tV_V hS ta0)) ((eh25.1 _ _ (fun q => by omega)).trans ((eh20.1 _ _ (fun q => by omega)).trans ex1.symm)) ?_
        refine A_lload d_Voice_addEvent_102 rfl ?_
        refine A_lload d_Voice_addEvent_104 rfl ?_
        refine A_ldivc d_Voice_addEvent_106 (by omega) (fun x29 ex29 _ _ => ?_)
        refine A_pc (pc' := 107) rfl ?_
        refine A_lastorek (KR := kF (FB s) s h) d_Voice_addEvent_107 (xs_V_12 k26.1 (tV_V hS ta0)) (by omega) (by omega) (kF_l k26 (by omega)) (fun h30 k31 eh30 => ?_)
        refine A_aload_n 0 d_Voice_addEvent_108 rfl rfl ?_
        refine A_getAv (z := some (a0 + 12)) T_ok d_Voice_addEvent_109 f_Voice_47 (xs_V k31.1 (tV_V hS ta0)) (xr_V_13 k31.1 (tV_V hS ta0)) ?_
        refine A_aload_n 0 d_Voice_addEvent_112 rfl rfl ?_
        refine A_getIv (z := x1) T_ok d_Voice_addEvent_113 f_Voice_60 (xs_V k31.1 (tV_V hS ta0)) ((congrFun (congrFun eh30 _) _).trans ((eh25.1 _ _ (fun q => by omega)).trans ((eh20.1 _ _ (fun q => by omega)).trans ex1.symm))) ?_
        refine A_lload d_Voice_addEvent_116 rfl ?_
        refine A_pc (pc' := 118) rfl ?_
        refine A_lload d_Voice_addEvent_118 rfl ?_
        refine A_ldivc d_Voice_addEvent_120 (by omega) (fun x34 ex34 _ _ => ?_)
        refine A_lastorek (KR := kF (FB s) s h) d_Voice_addEvent_121 (xs_V_13 k31.1 (tV_V hS ta0)) (by omega) (by omega) (kF_l k31 (by omega)) (fun h35 k36 eh35 => ?_)
        refine A_aload_n 0 d_Voice_addEvent_122 rfl rfl ?_
        refine A_getAv (z := some (a0 + 11)) T_ok d_Voice_addEvent_123 f_Voice_44 (xs_V k36.1 (tV_V hS ta0)) (xr_V_12 k36.1 (tV_V hS ta0)) ?_
        refine A_aload_n 0 d_Voice_addEvent_126 rfl rfl ?_
        refine A_pc (pc' := 127) rfl ?_
        refine A_getIv (z := x1) T_ok d_Voice_addEvent_127 f_Voice_60 (xs_V k36.1 (tV_V hS ta0)) ((congrFun (congrFun eh35 _) _).trans ((congrFun (congrFun eh30 _) _).trans ((eh25.1 _ _ (fun q => by omega)).trans ((eh20.1 _ _ (fun q => by omega)).trans ex1.symm)))) ?_
        refine A_laloadf d_Voice_addEvent_130 (xs_V_12 k36.1 (tV_V hS ta0)) (by omega) (by omega) (fun x39 ex39 _ _ => ?_)
        refine A_aload_n 0 d_Voice_addEvent_131 rfl rfl ?_
        refine A_getAv (z := some (a0 + 12)) T_ok d_Voice_addEvent_132 f_Voice_47 (xs_V k36.1 (tV_V hS ta0)) (xr_V_13 k36.1 (tV_V hS ta0)) ?_
        refine A_aload_n 0 d_Voice_addEvent_135 rfl rfl ?_
        refine A_getIv (z := x1) T_ok d_Voice_addEvent_136 f_Voice_60 (xs_V k36.1 (tV_V hS ta0)) ((congrFun (congrFun eh35 _) _).trans ((congrFun (congrFun eh30 _) _).trans ((eh25.1 _ _ (fun q => by omega)).trans ((eh20.1 _ _ (fun q => by omega)).trans ex1.symm)))) ?_
        refine A_pc (pc' := 139) rfl ?_
        refine A_laloadf d_Voice_addEvent_139 (xs_V_13 k36.1 (tV_V hS ta0)) (by omega) (by omega) (fun x42 ex42 _ _ => ?_)
        refine A_callS2 m_Voice_isTold d_Voice_addEvent_140 l_Voice_72 k_Voice_isTold (by decide) (by decide) (Nat.le_of_ble_eq_true rfl) (s_Voice_isTold  ) (fun r h43 hq => ?_)
        obtain ⟨x45, rfl, bx45, rfl⟩ := hq
        refine A_if_ne (tgt := 148) d_Voice_addEvent_143 (by decide) (fun c46 => ?_) (fun c46 => ?_)
        · refine A_aload_n 0 d_Voice_addEvent_148 rfl rfl ?_
          refine A_getAv (z := some (a0 + 9)) T_ok d_Voice_addEvent_149 f_Voice_37 (xs_V k36.1 (tV_V hS ta0)) (xr_V_10 k36.1 (tV_V hS ta0)) ?_
          refine A_aload_n 0 d_Voice_addEvent_152 rfl rfl ?_
          refine A_getIv (z := x1) T_ok d_Voice_addEvent_153 f_Voice_60 (xs_V k36.1 (tV_V hS ta0)) ((congrFun (congrFun eh35 _) _).trans ((congrFun (congrFun eh30 _) _).trans ((eh25.1 _ _ (fun q => by omega)).trans ((eh20.1 _ _ (fun q => by omega)).trans ex1.symm)))) ?_
          refine A_laloadf d_Voice_addEvent_156 (xs_V_10 k36.1 (tV_V hS ta0)) (by omega) (by omega) (fun x49 ex49 _ _ => ?_)
          refine A_pc (pc' := 157) rfl ?_
          refine A_aload_n 0 d_Voice_addEvent_157 rfl rfl ?_
          refine A_getAv (z := some (a0 + 12)) T_ok d_Voice_addEvent_158 f_Voice_47 (xs_V k36.1 (tV_V hS ta0)) (xr_V_13 k36.1 (tV_V hS ta0)) ?_
          refine A_aload_n 0 d_Voice_addEvent_161 rfl rfl ?_
          refine A_getIv (z := x1) T_ok d_Voice_addEvent_162 f_Voice_60 (xs_V k36.1 (tV_V hS ta0)) ((congrFun (congrFun eh35 _) _).trans ((congrFun (congrFun eh30 _) _).trans ((eh25.1 _ _ (fun q => by omega)).trans ((eh20.1 _ _ (fun q => by omega)).trans ex1.symm)))) ?_
          refine A_laloadf d_Voice_addEvent_165 (xs_V_13 k36.1 (tV_V hS ta0)) (by omega) (by omega) (fun x52 ex52 _ _ => ?_)
          refine A_lmulw d_Voice_addEvent_166 (fun x53 _ _ _ => ?_)
          refine A_pc (pc' := 167) rfl ?_
          refine A_aload_n 0 d_Voice_addEvent_167 rfl rfl ?_
          refine A_getAv (z := some (a0 + 11)) T_ok d_Voice_addEvent_168 f_Voice_44 (xs_V k36.1 (tV_V hS ta0)) (xr_V_12 k36.1 (tV_V hS ta0)) ?_
          refine A_aload_n 0 d_Voice_addEvent_171 rfl rfl ?_
          refine A_getIv (z := x1) T_ok d_Voice_addEvent_172 f_Voice_60 (xs_V k36.1 (tV_V hS ta0)) ((congrFun (congrFun eh35 _) _).trans ((congrFun (congrFun eh30 _) _).trans ((eh25.1 _ _ (fun q => by omega)).trans ((eh20.1 _ _ (fun q => by omega)).trans ex1.symm)))) ?_
          refine A_laloadf d_Voice_addEvent_175 (xs_V_12 k36.1 (tV_V hS ta0)) (by omega) (by omega) (fun x56 ex56 _ _ => ?_)
          refine A_aload_n 0 d_Voice_addEvent_176 rfl rfl ?_
          refine A_pc (pc' := 177) rfl ?_
          refine A_getAv (z := some (a0 + 10)) T_ok d_Voice_addEvent_177 f_Voice_41 (xs_V k36.1 (tV_V hS ta0)) (xr_V_11 k36.1 (tV_V hS ta0)) ?_
          refine A_aload_n 0 d_Voice_addEvent_180 rfl rfl ?_
          refine A_getIv (z := x1) T_ok d_Voice_addEvent_181 f_Voice_60 (xs_V k36.1 (tV_V hS ta0)) ((congrFun (congrFun eh35 _) _).trans ((congrFun (congrFun eh30 _) _).trans ((eh25.1 _ _ (fun q => by omega)).trans ((eh20.1 _ _ (fun q => by omega)).trans ex1.symm)))) ?_
          refine A_laloadf d_Voice_addEvent_184 (xs_V_11 k36.1 (tV_V hS ta0)) (by omega) (by omega) (fun x59 ex59 _ _ => ?_)
          refine A_lmulw d_Voice_addEvent_185 (fun x60 _ _ _ => ?_)
          refine A_laddw d_Voice_addEvent_186 (fun x61 _ _ _ => ?_)
          refine A_pc (pc' := 187) rfl ?_
          refine A_lstore (L' := [some (av_R (some a0)), some (av_I a1), some (av_L a2), none, some (av_L a3), none, some (av_I x6), some (av_L x9), none, some (av_L x14), none, some (av_L x17), none, some (av_L x61), none, none, none, none, none]) d_Voice_addEvent_187 (Nat.le_of_ble_eq_true rfl) rfl ?_
          refine A_aload_n 0 d_Voice_addEvent_189 rfl rfl ?_
          refine A_getAv (z := some (a0 + 10)) T_ok d_Voice_addEvent_190 f_Voice_41 (xs_V k36.1 (tV_V hS ta0)) (xr_V_11 k36.1 (tV_V hS ta0)) ?_
          refine A_aload_n 0 d_Voice_addEvent_193 rfl rfl ?_
          refine A_getIv (z := x1) T_ok d_Voice_addEvent_194 f_Voice_60 (xs_V k36.1 (tV_V hS ta0)) ((congrFun (congrFun eh35 _) _).trans ((congrFun (congrFun eh30 _) _).trans ((eh25.1 _ _ (fun q => by omega)).trans ((eh20.1 _ _ (fun q => by omega)).trans ex1.symm)))) ?_
          refine A_laloadf d_Voice_addEvent_197 (xs_V_11 k36.1 (tV_V hS ta0)) (by omega) (by omega) (fun x64 ex64 _ _ => ?_)
          refine A_pc (pc' := 198) rfl ?_
          refine A_aload_n 0 d_Voice_addEvent_198 rfl rfl ?_
          refine A_getAv (z := some (a0 + 12)) T_ok d_Voice_addEvent_199 f_Voice_47 (xs_V k36.1 (tV_V hS ta0)) (xr_V_13 k36.1 (tV_V hS ta0)) ?_
          refine A_aload_n 0 d_Voice_addEvent_202 rfl rfl ?_
          refine A_getIv (z := x1) T_ok d_Voice_addEvent_203 f_Voice_60 (xs_V k36.1 (tV_V hS ta0)) ((congrFun (congrFun eh35 _) _).trans ((congrFun (congrFun eh30 _) _).trans ((eh25.1 _ _ (fun q => by omega)).trans ((eh20.1 _ _ (fun q => by omega)).trans ex1.symm)))) ?_
          refine A_laloadf d_Voice_addEvent_206 (xs_V_13 k36.1 (tV_V hS ta0)) (by omega) (by omega) (fun x67 ex67 _ _ => ?_)
          refine A_lmulw d_Voice_addEvent_207 (fun x68 _ _ _ => ?_)
          refine A_pc (pc' := 208) rfl ?_
          refine A_lstore (L' := [some (av_R (some a0)), some (av_I a1), some (av_L a2), none, some (av_L a3), none, some (av_I x6), some (av_L x9), none, some (av_L x14), none, some (av_L x17), none, some (av_L x61), none, some (av_L x68), none, none, none]) d_Voice_addEvent_208 (Nat.le_of_ble_eq_true rfl) rfl ?_
          refine A_lload d_Voice_addEvent_210 rfl ?_
          refine A_lload d_Voice_addEvent_212 rfl ?_
          refine A_callS2 m_PM_greatestDivisor d_Voice_addEvent_214 l_Voice_68 k_PM_greatestDivisor (by decide) (by decide) (Nat.le_of_ble_eq_true rfl) (s_PM_greatestDivisor  ) (fun r h69 hq => ?_)
          obtain ⟨x71, rfl, ⟨_, _⟩, rfl⟩ := hq
          refine A_lstore (L' := [some (av_R (some a0)), some (av_I a1), some (av_L a2), none, some (av_L a3), none, some (av_I x6), some (av_L x9), none, some (av_L x14), none, some (av_L x17), none, some (av_L x61), none, some (av_L x68), none, some (av_L x71), none]) d_Voice_addEvent_217 (Nat.le_of_ble_eq_true rfl) rfl ?_
          refine A_aload_n 0 d_Voice_addEvent_219 rfl rfl ?_
          refine A_dupR d_Voice_addEvent_220 ?_
          refine A_getIv (z := x1) T_ok d_Voice_addEvent_221 f_Voice_60 (xs_V k36.1 (tV_V hS ta0)) ((congrFun (congrFun eh35 _) _).trans ((congrFun (congrFun eh30 _) _).trans ((eh25.1 _ _ (fun q => by omega)).trans ((eh20.1 _ _ (fun q => by omega)).trans ex1.symm)))) ?_
          refine A_iconst d_Voice_addEvent_224 rfl ?_
          refine A_pc (pc' := 225) rfl ?_
          refine A_iaddv (z := (x1 + 1)) d_Voice_addEvent_225 (w32_to (by omega) (by unfold i32; omega)) ?_
          refine A_putIk (KR := kF (FB s) s h) T_ok d_Voice_addEvent_226 f_Voice_60 (xs_V k36.1 (tV_V hS ta0)) fin_f (kF_j k36 (by omega) (rg_V_14 (tV_V hS ta0)) (by omega) (by omega)) (fun h73 k74 eh73 => ?_)
          refine A_aload_n 0 d_Voice_addEvent_229 rfl rfl ?_
          refine A_getAv (z := some (a0 + 9)) T_ok d_Voice_addEvent_230 f_Voice_37 (xs_V k74.1 (tV_V hS ta0)) (xr_V_10 k74.1 (tV_V hS ta0)) ?_
          refine A_aload_n 0 d_Voice_addEvent_233 rfl rfl ?_
          refine A_getIv (z := (x1 + 1)) T_ok d_Voice_addEvent_234 f_Voice_60 (xs_V k74.1 (tV_V hS ta0)) eh73.2 ?_
          refine A_pc (pc' := 237) rfl ?_
          refine A_lload d_Voice_addEvent_237 rfl ?_
          refine A_lload d_Voice_addEvent_239 rfl ?_
          refine A_ldivc d_Voice_addEvent_241 (by omega) (fun x77 ex77 _ _ => ?_)
          refine A_lastorek (KR := kF (FB s) s h) d_Voice_addEvent_242 (xs_V_10 k74.1 (tV_V hS ta0)) (by omega) (by omega) (kF_l k74 (by omega)) (fun h78 k79 eh78 => ?_)
          refine A_aload_n 0 d_Voice_addEvent_243 rfl rfl ?_
          refine A_getAv (z := some (a0 + 10)) T_ok d_Voice_addEvent_244 f_Voice_41 (xs_V k79.1 (tV_V hS ta0)) (xr_V_11 k79.1 (tV_V hS ta0)) ?_
          refine A_pc (pc' := 247) rfl ?_
          refine A_aload_n 0 d_Voice_addEvent_247 rfl rfl ?_
          refine A_getIv (z := (x1 + 1)) T_ok d_Voice_addEvent_248 f_Voice_60 (xs_V k79.1 (tV_V hS ta0)) ((congrFun (congrFun eh78 _) _).trans eh73.2) ?_
          refine A_lload d_Voice_addEvent_251 rfl ?_
          refine A_lload d_Voice_addEvent_253 rfl ?_
          refine A_ldivc d_Voice_addEvent_255 (by omega) (fun x82 ex82 _ _ => ?_)
          refine A_lastorek (KR := kF (FB s) s h) d_Voice_addEvent_256 (xs_V_11 k79.1 (tV_V hS ta0)) (by omega) (by omega) (kF_l k79 (by omega)) (fun h83 k84 eh83 => ?_)
          refine A_pc (pc' := 257) rfl ?_
          refine A_aload_n 0 d_Voice_addEvent_257 rfl rfl ?_
          refine A_getAv (z := some (a0 + 9)) T_ok d_Voice_addEvent_258 f_Voice_37 (xs_V k84.1 (tV_V hS ta0)) (xr_V_10 k84.1 (tV_V hS ta0)) ?_
          refine A_aload_n 0 d_Voice_addEvent_261 rfl rfl ?_
          refine A_getIv (z := (x1 + 1)) T_ok d_Voice_addEvent_262 f_Voice_60 (xs_V k84.1 (tV_V hS ta0)) ((congrFun (congrFun eh83 _) _).trans ((congrFun (congrFun eh78 _) _).trans eh73.2)) ?_
          refine A_laloadf d_Voice_addEvent_265 (xs_V_10 k84.1 (tV_V hS ta0)) (by omega) (by omega) (fun x87 ex87 _ _ => ?_)
          refine A_aload_n 0 d_Voice_addEvent_266 rfl rfl ?_
          refine A_pc (pc' := 267) rfl ?_
          refine A_getAv (z := some (a0 + 10)) T_ok d_Voice_addEvent_267 f_Voice_41 (xs_V k84.1 (tV_V hS ta0)) (xr_V_11 k84.1 (tV_V hS ta0)) ?_
          refine A_aload_n 0 d_Voice_addEvent_270 rfl rfl ?_
          refine A_getIv (z := (x1 + 1)) T_ok d_Voice_addEvent_271 f_Voice_60 (xs_V k84.1 (tV_V hS ta0)) ((congrFun (congrFun eh83 _) _).trans ((congrFun (congrFun eh78 _) _).trans eh73.2)) ?_
          refine A_laloadf d_Voice_addEvent_274 (xs_V_11 k84.1 (tV_V hS ta0)) (by omega) (by omega) (fun x90 ex90 _ _ => ?_)
          refine A_callS2 m_Voice_isTold d_Voice_addEvent_275 l_Voice_72 k_Voice_isTold (by decide) (by decide) (Nat.le_of_ble_eq_true rfl) (s_Voice_isTold  ) (fun r h91 hq => ?_)
          obtain ⟨x93, rfl, bx93, rfl⟩ := hq
          exact A_zret d_Voice_addEvent_278 (by decide) rfl (by omega) ⟨_, rfl, by omega, k84⟩
        · refine A_iconst d_Voice_addEvent_146 rfl ?_
          exact A_zret d_Voice_addEvent_147 (by decide) rfl (by omega) ⟨_, rfl, by omega, k36⟩
      · refine A_iconst d_Voice_addEvent_21 rfl ?_
        exact A_zret d_Voice_addEvent_22 (by decide) rfl (by omega) ⟨_, rfl, by omega, k0⟩
theorem s_Score_clear {G : cx_T} {s : Nat} {h : ah_T} (hx : xi s h)   : con G 0 0 0 m_Score_clear [av_R (some s)] h (fun r h' => r = none ∧ kF (FB s) s h h') := by
  refine con_of (L := [some (av_R (some s))]) (by decide +kernel) (Nat.le_of_ble_eq_true rfl) rfl ?_
  have hS : isS s := hx.2.1
  have hs0 : s = 17 ∨ s = 80 := hS
  have k0 : kF (FB s) s h h := kF_0 hx
  refine A_aload_n 0 d_Score_clear_0 rfl rfl ?_
  refine A_iconst d_Score_clear_1 rfl ?_
  refine A_putIk (KR := kF (FB s) s h) T_ok d_Score_clear_2 f_Score_41 (xs_S k0.1 hS) fin_f (kF_j k0 (by omega) (rg_S_1 hS) (by omega) (by omega)) (fun h1 k2 eh1 => ?_)
  refine A_aload_n 0 d_Score_clear_5 rfl rfl ?_
  refine A_iconst d_Score_clear_6 rfl ?_
  refine A_pc (pc' := 7) rfl ?_
  refine A_putIk (KR := kF (FB s) s h) T_ok d_Score_clear_7 f_Score_17 (xs_S k2.1 hS) fin_f (kF_j k2 (by omega) (rg_S_2 hS) (by omega) (by omega)) (fun h3 k4 eh3 => ?_)
  refine A_aload_n 0 d_Score_clear_10 rfl rfl ?_
  refine A_iconst d_Score_clear_11 rfl ?_
  refine A_putIk (KR := kF (FB s) s h) T_ok d_Score_clear_12 f_Score_21 (xs_S k4.1 hS) fin_f (kF_j k4 (by omega) (rg_S_3 hS) (by omega) (by omega)) (fun h5 k6 eh5 => ?_)
  refine A_aload_n 0 d_Score_clear_15 rfl rfl ?_
  refine A_iconst d_Score_clear_16 rfl ?_
  refine A_pc (pc' := 17) rfl ?_
  refine A_putZk (KR := kF (FB s) s h) T_ok d_Score_clear_17 f_Score_44 (xs_S k6.1 hS) fin_f (by omega) (kF_j k6 (by omega) (rg_S_4 hS) (by omega) (by omega)) (fun h7 k8 eh7 => ?_)
  refine A_aload_n 0 d_Score_clear_20 rfl rfl ?_
  refine A_iconst d_Score_clear_21 rfl ?_
  refine A_putIk (KR := kF (FB s) s h) T_ok d_Score_clear_22 f_Score_48 (xs_S k8.1 hS) fin_f (kF_j k8 (by omega) (rg_S_6 hS) (by omega) (by omega)) (fun h9 k10 eh9 => ?_)
  refine A_aload_n 0 d_Score_clear_25 rfl rfl ?_
  refine A_iconst d_Score_clear_26 rfl ?_
  refine A_pc (pc' := 27) rfl ?_
  refine A_putIk (KR := kF (FB s) s h) T_ok d_Score_clear_27 f_Score_51 (xs_S k10.1 hS) fin_f (kF_j k10 (by omega) (rg_S_10 hS) (by omega) (by omega)) (fun h11 k12 eh11 => ?_)
  refine A_aload_n 0 d_Score_clear_30 rfl rfl ?_
  refine A_iconst d_Score_clear_31 rfl ?_
  refine A_putIk (KR := kF (FB s) s h) T_ok d_Score_clear_32 f_Score_54 (xs_S k12.1 hS) fin_f (kF_j k12 (by omega) (rg_S_12 hS) (by omega) (by omega)) (fun h13 k14 eh13 => ?_)
  exact A_vret d_Score_clear_35 (by decide) rfl ⟨rfl, k14⟩
theorem s_Score_setTime {G : cx_T} {s : Nat} {h : ah_T} (hx : xi s h) {a1 : Int} {a2 : Int}  : con G 0 0 0 m_Score_setTime [av_R (some s), av_I a1, av_I a2] h (fun r h' => r = none ∧ kF (FB s) s h h') := by
  refine con_of (L := [some (av_R (some s)), some (av_I a1), some (av_I a2)]) (by decide +kernel) (Nat.le_of_ble_eq_true rfl) rfl ?_
  have hS : isS s := hx.2.1
  have hs0 : s = 17 ∨ s = 80 := hS
  have k0 : kF (FB s) s h h := kF_0 hx
  refine A_locI 1 rfl (fun ra => ?_)
  obtain ⟨_, _⟩ := ra
  refine A_locI 2 rfl (fun ra => ?_)
  obtain ⟨_, _⟩ := ra
  refine A_aload_n 0 d_Score_setTime_0 rfl rfl ?_
  refine A_iconst d_Score_setTime_1 rfl ?_
  refine A_putZk (KR := kF (FB s) s h) T_ok d_Score_setTime_2 f_Score_44 (xs_S k0.1 hS) fin_f (by omega) (kF_j k0 (by omega) (rg_S_4 hS) (by omega) (by omega)) (fun h1 k2 eh1 => ?_)
  refine A_aload_n 0 d_Score_setTime_5 rfl rfl ?_
  refine A_iload_n 1 d_Score_setTime_6 rfl rfl ?_
  refine A_pc (pc' := 7) rfl ?_
  refine A_putIk (KR := kF (FB s) s h) T_ok d_Score_setTime_7 f_Score_17 (xs_S k2.1 hS) fin_f (kF_j k2 (by omega) (rg_S_2 hS) (by omega) (by omega)) (fun h3 k4 eh3 => ?_)
  refine A_aload_n 0 d_Score_setTime_10 rfl rfl ?_
  refine A_iload_n 2 d_Score_setTime_11 rfl rfl ?_
  refine A_putIk (KR := kF (FB s) s h) T_ok d_Score_setTime_12 f_Score_21 (xs_S k4.1 hS) fin_f (kF_j k4 (by omega) (rg_S_3 hS) (by omega) (by omega)) (fun h5 k6 eh5 => ?_)
  exact A_vret d_Score_setTime_15 (by decide) rfl ⟨rfl, k6⟩
theorem s_Score_voiceAt {G : cx_T} {s : Nat} {h : ah_T} (hx : xi s h) {a0 : Nat} {a1 : Int} (ha0 : isS a0) : con G 0 0 0 m_Score_voiceAt [av_R (some a0), av_I a1] h (fun r h' => ∃ o, r = some (av_R o) ∧ (o = none ∨ ∃ v, o = some v ∧ tV a0 v) ∧ h = h') := by
  refine con_of (L := [some (av_R (some a0)), some (av_I a1)]) (by decide +kernel) (Nat.le_of_ble_eq_true rfl) rfl ?_
  have hS : isS s := hx.2.1
  have hs0 : s = 17 ∨ s = 80 := hS
  refine A_locI 1 rfl (fun ra => ?_)
  obtain ⟨_, _⟩ := ra
  refine A_iload_n 1 d_Score_voiceAt_0 rfl rfl ?_
  refine A_if_lt (tgt := 30) d_Score_voiceAt_1 (by decide) (fun c1 => ?_) (fun c1 => ?_)
  · refine A_null d_Score_voiceAt_30 ?_
    exact A_aret d_Score_voiceAt_31 (by decide) rfl ty_o ⟨_, rfl, Or.inl rfl, rfl⟩
  · refine A_iload_n 1 d_Score_voiceAt_4 rfl rfl ?_
    refine A_aload_n 0 d_Score_voiceAt_5 rfl rfl ?_
    refine A_getIn (lo := 0) (hi := 4) T_ok d_Score_voiceAt_6 f_Score_41 (xs_S hx ha0) (xi_g hx (lt1_S ha0) (rg_S_1 ha0)) (fun x2 ex2 _ _ => ?_)
    refine A_icmp_ge (tgt := 30) d_Score_voiceAt_9 (by decide) (fun c3 => ?_) (fun c3 => ?_)
    · refine A_null d_Score_voiceAt_30 ?_
      exact A_aret d_Score_voiceAt_31 (by decide) rfl ty_o ⟨_, rfl, Or.inl rfl, rfl⟩
    · refine A_iload_n 1 d_Score_voiceAt_12 rfl rfl ?_
      refine A_aload_n 0 d_Score_voiceAt_13 rfl rfl ?_
      refine A_getAv (z := some (a0 + 1)) T_ok d_Score_voiceAt_14 f_Score_11 (xs_S hx ha0) (xr_S_0 hx ha0) ?_
      refine A_alenN d_Score_voiceAt_17 (xs_S_0 hx ha0) (by decide) (by decide) ?_
      refine A_icmp_ge (tgt := 30) d_Score_voiceAt_18 (by decide) (fun c => False.elim (by omega)) (fun c5 => ?_)
      refine A_aload_n 0 d_Score_voiceAt_21 rfl rfl ?_
      refine A_getAv (z := some (a0 + 1)) T_ok d_Score_voiceAt_22 f_Score_11 (xs_S hx ha0) (xr_S_0 hx ha0) ?_
      refine A_iload_n 1 d_Score_voiceAt_25 rfl rfl ?_
      refine A_aaloadn (S := fun o => ∃ v, o = some v ∧ tV a0 v) d_Score_voiceAt_26 (xs_S_0 hx ha0) (by omega) (by omega) (xr_Sv hx ha0 (by omega) (by omega)) (fun ox7 qx7 => ?_)
      obtain ⟨x7, rfl, tx7⟩ := qx7
      refine A_goto (tgt := 31) d_Score_voiceAt_27 (by decide) ?_
      exact A_aret d_Score_voiceAt_31 (by decide) rfl ty_o ⟨_, rfl, Or.inr ⟨_, rfl, tx7⟩, rfl⟩
theorem s_Score_newVoice {G : cx_T} {s : Nat} {h : ah_T} (hx : xi s h)   : con G 1 0 0 m_Score_newVoice [av_R (some s)] h (fun r h' => ∃ o, r = some (av_R o) ∧ (o = none ∨ ∃ v, o = some v ∧ tV s v) ∧ kF (FB s) s h h') := by
  refine con_of (L := [some (av_R (some s)), none]) (by decide +kernel) (Nat.le_of_ble_eq_true rfl) rfl ?_
  have hS : isS s := hx.2.1
  have hs0 : s = 17 ∨ s = 80 := hS
  have k0 : kF (FB s) s h h := kF_0 hx
  refine A_aload_n 0 d_Score_newVoice_0 rfl rfl ?_
  refine A_getIn (lo := 0) (hi := 4) T_ok d_Score_newVoice_1 f_Score_41 (xs_S k0.1 hS) (xi_g k0.1 (lt1_S hS) (rg_S_1 hS)) (fun x1 ex1 _ _ => ?_)
  refine A_aload_n 0 d_Score_newVoice_4 rfl rfl ?_
  refine A_getAv (z := some (s + 1)) T_ok d_Score_newVoice_5 f_Score_11 (xs_S k0.1 hS) (xr_S_0 k0.1 hS) ?_
  refine A_alenN d_Score_newVoice_8 (xs_S_0 k0.1 hS) (by decide) (by decide) ?_
  refine A_pc (pc' := 9) rfl ?_
  refine A_icmp_lt (tgt := 14) d_Score_newVoice_9 (by decide) (fun c3 => ?_) (fun c3 => ?_)
  · refine A_aload_n 0 d_Score_newVoice_14 rfl rfl ?_
    refine A_dupR d_Score_newVoice_15 ?_
    refine A_getIv (z := x1) T_ok d_Score_newVoice_16 f_Score_41 (xs_S k0.1 hS) ex1.symm ?_
    refine A_iconst d_Score_newVoice_19 rfl ?_
    refine A_iaddv (z := (x1 + 1)) d_Score_newVoice_20 (w32_to (by omega) (by unfold i32; omega)) ?_
    refine A_pc (pc' := 21) rfl ?_
    refine A_putIk (KR := kF (FB s) s h) T_ok d_Score_newVoice_21 f_Score_41 (xs_S k0.1 hS) fin_f (kF_j k0 (by omega) (rg_S_1 hS) (by omega) (by omega)) (fun h5 k6 eh5 => ?_)
    refine A_aload_n 0 d_Score_newVoice_24 rfl rfl ?_
    refine A_getAv (z := some (s + 1)) T_ok d_Score_newVoice_25 f_Score_11 (xs_S k6.1 hS) (xr_S_0 k6.1 hS) ?_
    refine A_aload_n 0 d_Score_newVoice_28 rfl rfl ?_
    refine A_getIv (z := (x1 + 1)) T_ok d_Score_newVoice_29 f_Score_41 (xs_S k6.1 hS) eh5.2 ?_
    refine A_iconst d_Score_newVoice_32 rfl ?_
    refine A_pc (pc' := 33) rfl ?_
    refine A_isubv (z := x1) d_Score_newVoice_33 (w32_to (by omega) (by unfold i32; omega)) ?_
    refine A_aaloadn (S := fun o => ∃ v, o = some v ∧ tV s v) d_Score_newVoice_34 (xs_S_0 k6.1 hS) (by omega) (by omega) (xr_Sv k6.1 hS (by omega) (by omega)) (fun ox9 qx9 => ?_)
    obtain ⟨x9, rfl, tx9⟩ := qx9
    refine A_astore_n 1 (L' := [some (av_R (some s)), some (av_R (some x9))]) d_Score_newVoice_35 rfl (Nat.le_of_ble_eq_true rfl) rfl ?_
    refine A_aload_n 1 d_Score_newVoice_36 rfl rfl ?_
    refine A_ifnull (tgt := 44) d_Score_newVoice_37 (by decide) (fun q => by cases q) (fun _ _ => ?_)
    refine A_aload_n 1 d_Score_newVoice_40 rfl rfl ?_
    refine A_callV0 m_Voice_clear T_ok d_Score_newVoice_41 l_Score_57 k_Voice_clear (xs_V k6.1 (tV_V hS tx9)) rfl (by decide) (by decide) (Nat.le_of_ble_eq_true rfl) (s_Voice_clear k6.1 tx9) (fun r h10 hq => ?_)
    obtain ⟨rfl, k11⟩ := hq
    have k12 := kF_t k6 k11 (fun _ q => q)
    refine A_aload_n 1 d_Score_newVoice_44 rfl rfl ?_
    exact A_aret d_Score_newVoice_45 (by decide) rfl ty_o ⟨_, rfl, Or.inr ⟨_, rfl, tx9⟩, k12⟩
  · refine A_null d_Score_newVoice_12 ?_
    exact A_aret d_Score_newVoice_13 (by decide) rfl ty_o ⟨_, rfl, Or.inl rfl, k0⟩
theorem s_Score_addToLine {G : cx_T} {s : Nat} {h : ah_T} (hx : xi s h) {a1 : Int}  : con G 0 0 0 m_Score_addToLine [av_R (some s), av_I a1] h (fun r h' => ∃ z, r = some (av_I z) ∧ (z = 0 ∨ z = 1) ∧ kF (FB s) s h h') := by
  refine con_of (L := [some (av_R (some s)), some (av_I a1)]) (by decide +kernel) (Nat.le_of_ble_eq_true rfl) rfl ?_
  have hS : isS s := hx.2.1
  have hs0 : s = 17 ∨ s = 80 := hS
  have k0 : kF (FB s) s h h := kF_0 hx
  refine A_locI 1 rfl (fun ra => ?_)
  obtain ⟨_, _⟩ := ra
  refine A_aload_n 0 d_Score_addToLine_0 rfl rfl ?_
  refine A_getIn (lo := 0) (hi := 8) T_ok d_Score_addToLine_1 f_Score_48 (xs_S k0.1 hS) (xi_g k0.1 (lt1_S hS) (rg_S_6 hS)) (fun x1 ex1 _ _ => ?_)
  refine A_aload_n 0 d_Score_addToLine_4 rfl rfl ?_
  refine A_getAv (z := some (s + 2)) T_ok d_Score_addToLine_5 f_Score_24 (xs_S k0.1 hS) (xr_S_5 k0.1 hS) ?_
  refine A_alenN d_Score_addToLine_8 (xs_S_5 k0.1 hS) (by decide) (by decide) ?_
  refine A_pc (pc' := 9) rfl ?_
  refine A_icmp_lt (tgt := 14) d_Score_addToLine_9 (by decide) (fun c3 => ?_) (fun c3 => ?_)
  · refine A_aload_n 0 d_Score_addToLine_14 rfl rfl ?_
    refine A_getAv (z := some (s + 2)) T_ok d_Score_addToLine_15 f_Score_24 (xs_S k0.1 hS) (xr_S_5 k0.1 hS) ?_
    refine A_aload_n 0 d_Score_addToLine_18 rfl rfl ?_
    refine A_getIv (z := x1) T_ok d_Score_addToLine_19 f_Score_48 (xs_S k0.1 hS) ex1.symm ?_
    refine A_iload_n 1 d_Score_addToLine_22 rfl rfl ?_
    refine A_pc (pc' := 23) rfl ?_
    refine A_iastorek (KR := kF (FB s) s h) d_Score_addToLine_23 (xs_S_5 k0.1 hS) (by omega) (by omega) (kF_j k0 (by omega) (rg_S_5 hS _) (by omega) (by omega)) (fun h6 k7 eh6 => ?_)
    refine A_aload_n 0 d_Score_addToLine_24 rfl rfl ?_
    refine A_dupR d_Score_addToLine_25 ?_
    refine A_getIv (z := x1) T_ok d_Score_addToLine_26 f_Score_48 (xs_S k7.1 hS) ((eh6.1 _ _ (fun q => by omega)).trans ex1.symm) ?_
    refine A_iconst d_Score_addToLine_29 rfl ?_
    refine A_iaddv (z := (x1 + 1)) d_Score_addToLine_30 (w32_to (by omega) (by unfold i32; omega)) ?_
    refine A_pc (pc' := 31) rfl ?_
    refine A_putIk (KR := kF (FB s) s h) T_ok d_Score_addToLine_31 f_Score_48 (xs_S k7.1 hS) fin_f (kF_j k7 (by omega) (rg_S_6 hS) (by omega) (by omega)) (fun h9 k10 eh9 => ?_)
    refine A_iconst d_Score_addToLine_34 rfl ?_
    exact A_zret d_Score_addToLine_35 (by decide) rfl (by omega) ⟨_, rfl, by omega, k10⟩
  · refine A_iconst d_Score_addToLine_12 rfl ?_
    exact A_zret d_Score_addToLine_13 (by decide) rfl (by omega) ⟨_, rfl, by omega, k0⟩
theorem s_Score_addRule {G : cx_T} {s : Nat} {h : ah_T} (hx : xi s h) {a1 : Int} {a2 : Int} {a3 : Int}  : con G 0 0 0 m_Score_addRule [av_R (some s), av_I a1, av_I a2, av_I a3] h (fun r h' => r = none ∧ kF (FB s) s h h') := by
  refine con_of (L := [some (av_R (some s)), some (av_I a1), some (av_I a2), some (av_I a3)]) (by decide +kernel) (Nat.le_of_ble_eq_true rfl) rfl ?_
  have hS : isS s := hx.2.1
  have hs0 : s = 17 ∨ s = 80 := hS
  have k0 : kF (FB s) s h h := kF_0 hx
  refine A_locI 1 rfl (fun ra => ?_)
  obtain ⟨_, _⟩ := ra
  refine A_locI 2 rfl (fun ra => ?_)
  obtain ⟨_, _⟩ := ra
  refine A_locI 3 rfl (fun ra => ?_)
  obtain ⟨_, _⟩ := ra
  refine A_aload_n 0 d_Score_addRule_0 rfl rfl ?_
  refine A_getIn (lo := 0) (hi := 24) T_ok d_Score_addRule_1 f_Score_51 (xs_S k0.1 hS) (xi_g k0.1 (lt1_S hS) (rg_S_10 hS)) (fun x1 ex1 _ _ => ?_)
  refine A_aload_n 0 d_Score_addRule_4 rfl rfl ?_
  refine A_getAv (z := some (s + 3)) T_ok d_Score_addRule_5 f_Score_28 (xs_S k0.1 hS) (xr_S_7 k0.1 hS) ?_
  refine A_alenN d_Score_addRule_8 (xs_S_7 k0.1 hS) (by decide) (by decide) ?_
  refine A_pc (pc' := 9) rfl ?_
  refine A_icmp_ge (tgt := 52) d_Score_addRule_9 (by decide) (fun c3 => ?_) (fun c3 => ?_)
  · exact A_vret d_Score_addRule_52 (by decide) rfl ⟨rfl, k0⟩
  · refine A_aload_n 0 d_Score_addRule_12 rfl rfl ?_
    refine A_getAv (z := some (s + 3)) T_ok d_Score_addRule_13 f_Score_28 (xs_S k0.1 hS) (xr_S_7 k0.1 hS) ?_
    refine A_aload_n 0 d_Score_addRule_16 rfl rfl ?_
    refine A_getIv (z := x1) T_ok d_Score_addRule_17 f_Score_51 (xs_S k0.1 hS) ex1.symm ?_
    refine A_iload_n 1 d_Score_addRule_20 rfl rfl ?_
    refine A_pc (pc' := 21) rfl ?_
    refine A_iastorek (KR := kF (FB s) s h) d_Score_addRule_21 (xs_S_7 k0.1 hS) (by omega) (by omega) (kF_j k0 (by omega) (rg_S_7 hS _) (by omega) (by omega)) (fun h6 k7 eh6 => ?_)
    refine A_aload_n 0 d_Score_addRule_22 rfl rfl ?_
    refine A_getAv (z := some (s + 4)) T_ok d_Score_addRule_23 f_Score_31 (xs_S k7.1 hS) (xr_S_8 k7.1 hS) ?_
    refine A_aload_n 0 d_Score_addRule_26 rfl rfl ?_
    refine A_getIv (z := x1) T_ok d_Score_addRule_27 f_Score_51 (xs_S k7.1 hS) ((eh6.1 _ _ (fun q => by omega)).trans ex1.symm) ?_
    refine A_iload_n 2 d_Score_addRule_30 rfl rfl ?_
    refine A_pc (pc' := 31) rfl ?_
    refine A_iastorek (KR := kF (FB s) s h) d_Score_addRule_31 (xs_S_8 k7.1 hS) (by omega) (by omega) (kF_j k7 (by omega) (rg_S_8 hS _) (by omega) (by omega)) (fun h10 k11 eh10 => ?_)
    refine A_aload_n 0 d_Score_addRule_32 rfl rfl ?_
    refine A_getAv (z := some (s + 5)) T_ok d_Score_addRule_33 f_Score_34 (xs_S k11.1 hS) (xr_S_9 k11.1 hS) ?_
    refine A_aload_n 0 d_Score_addRule_36 rfl rfl ?_
    refine A_getIv (z := x1) T_ok d_Score_addRule_37 f_Score_51 (xs_S k11.1 hS) ((eh10.1 _ _ (fun q => by omega)).trans ((eh6.1 _ _ (fun q => by omega)).trans ex1.symm)) ?_
    refine A_iload_n 3 d_Score_addRule_40 rfl rfl ?_
    refine A_pc (pc' := 41) rfl ?_
    refine A_iastorek (KR := kF (FB s) s h) d_Score_addRule_41 (xs_S_9 k11.1 hS) (by omega) (by omega) (kF_j k11 (by omega) (rg_S_9 hS _) (by omega) (by omega)) (fun h14 k15 eh14 => ?_)
    refine A_aload_n 0 d_Score_addRule_42 rfl rfl ?_
    refine A_dupR d_Score_addRule_43 ?_
    refine A_getIv (z := x1) T_ok d_Score_addRule_44 f_Score_51 (xs_S k15.1 hS) ((eh14.1 _ _ (fun q => by omega)).trans ((eh10.1 _ _ (fun q => by omega)).trans ((eh6.1 _ _ (fun q => by omega)).trans ex1.symm))) ?_
    refine A_iconst d_Score_addRule_47 rfl ?_
    refine A_iaddv (z := (x1 + 1)) d_Score_addRule_48 (w32_to (by omega) (by unfold i32; omega)) ?_
    refine A_pc (pc' := 49) rfl ?_
    refine A_putIk (KR := kF (FB s) s h) T_ok d_Score_addRule_49 f_Score_51 (xs_S k15.1 hS) fin_f (kF_j k15 (by omega) (rg_S_10 hS) (by omega) (by omega)) (fun h17 k18 eh17 => ?_)
    exact A_vret d_Score_addRule_52 (by decide) rfl ⟨rfl, k18⟩
theorem s_Score_addToRow {G : cx_T} {s : Nat} {h : ah_T} (hx : xi s h) {a1 : Int}  : con G 0 0 0 m_Score_addToRow [av_R (some s), av_I a1] h (fun r h' => r = none ∧ kF (FB s) s h h') := by
  refine con_of (L := [some (av_R (some s)), some (av_I a1)]) (by decide +kernel) (Nat.le_of_ble_eq_true rfl) rfl ?_
  have hS : isS s := hx.2.1
  have hs0 : s = 17 ∨ s = 80 := hS
  have k0 : kF (FB s) s h h := kF_0 hx
  refine A_locI 1 rfl (fun ra => ?_)
  obtain ⟨_, _⟩ := ra
  refine A_aload_n 0 d_Score_addToRow_0 rfl rfl ?_
  refine A_getIn (lo := 0) (hi := 12) T_ok d_Score_addToRow_1 f_Score_54 (xs_S k0.1 hS) (xi_g k0.1 (lt1_S hS) (rg_S_12 hS)) (fun x1 ex1 _ _ => ?_)
  refine A_aload_n 0 d_Score_addToRow_4 rfl rfl ?_
  refine A_getAv (z := some (s + 6)) T_ok d_Score_addToRow_5 f_Score_37 (xs_S k0.1 hS) (xr_S_11 k0.1 hS) ?_
  refine A_alenN d_Score_addToRow_8 (xs_S_11 k0.1 hS) (by decide) (by decide) ?_
  refine A_pc (pc' := 9) rfl ?_
  refine A_icmp_ge (tgt := 32) d_Score_addToRow_9 (by decide) (fun c3 => ?_) (fun c3 => ?_)
  · exact A_vret d_Score_addToRow_32 (by decide) rfl ⟨rfl, k0⟩
  · refine A_aload_n 0 d_Score_addToRow_12 rfl rfl ?_
    refine A_getAv (z := some (s + 6)) T_ok d_Score_addToRow_13 f_Score_37 (xs_S k0.1 hS) (xr_S_11 k0.1 hS) ?_
    refine A_aload_n 0 d_Score_addToRow_16 rfl rfl ?_
    refine A_getIv (z := x1) T_ok d_Score_addToRow_17 f_Score_54 (xs_S k0.1 hS) ex1.symm ?_
    refine A_iload_n 1 d_Score_addToRow_20 rfl rfl ?_
    refine A_pc (pc' := 21) rfl ?_
    refine A_iastorek (KR := kF (FB s) s h) d_Score_addToRow_21 (xs_S_11 k0.1 hS) (by omega) (by omega) (kF_j k0 (by omega) (rg_S_11 hS _) (by omega) (by omega)) (fun h6 k7 eh6 => ?_)
    refine A_aload_n 0 d_Score_addToRow_22 rfl rfl ?_
    refine A_dupR d_Score_addToRow_23 ?_
    refine A_getIv (z := x1) T_ok d_Score_addToRow_24 f_Score_54 (xs_S k7.1 hS) ((eh6.1 _ _ (fun q => by omega)).trans ex1.symm) ?_
    refine A_iconst d_Score_addToRow_27 rfl ?_
    refine A_iaddv (z := (x1 + 1)) d_Score_addToRow_28 (w32_to (by omega) (by unfold i32; omega)) ?_
    refine A_pc (pc' := 29) rfl ?_
    refine A_putIk (KR := kF (FB s) s h) T_ok d_Score_addToRow_29 f_Score_54 (xs_S k7.1 hS) fin_f (kF_j k7 (by omega) (rg_S_12 hS) (by omega) (by omega)) (fun h9 k10 eh9 => ?_)
    exact A_vret d_Score_addToRow_32 (by decide) rfl ⟨rfl, k10⟩
theorem s_Score_allEvents {G : cx_T} {s : Nat} {h : ah_T} (hx : xi s h) {a0 : Nat} (ha0 : isS a0) : con G 1 0 0 m_Score_allEvents [av_R (some a0)] h (fun r h' => ∃ z, r = some (av_I z) ∧ ((-2147483648) ≤ z ∧ z ≤ 2147483647) ∧ h = h') := by
  refine con_of (L := [some (av_R (some a0)), none, none, none]) (by decide +kernel) (Nat.le_of_ble_eq_true rfl) rfl ?_
  have hS : isS s := hx.2.1
  have hs0 : s = 17 ∨ s = 80 := hS
  refine A_iconst d_Score_allEvents_0 rfl ?_
  refine A_istore_n 1 (L' := [some (av_R (some a0)), some (av_I 0), none, none]) d_Score_allEvents_1 rfl (Nat.le_of_ble_eq_true rfl) rfl ?_
  refine A_iconst d_Score_allEvents_2 rfl ?_
  refine A_istore_n 2 (L' := [some (av_R (some a0)), some (av_I 0), some (av_I 0), none]) d_Score_allEvents_3 rfl (Nat.le_of_ble_eq_true rfl) rfl ?_
  have lp4 : ∀ (n : Nat) (i1 i2 : Int) , (-2147483648) ≤ i1 → i1 ≤ 2147483647 → 0 ≤ i2 → i2 ≤ 4 → (5 - i2).toNat < n → aw G (rm_R 1 0 0) m_Score_allEvents 0 0 4 [some (av_R (some a0)), some (av_I i1), some (av_I i2), none] [] h (fun r h' => ∃ z, r = some (av_I z) ∧ ((-2147483648) ≤ z ∧ z ≤ 2147483647) ∧ h = h') := by
    intro n
    induction n with
    | zero => intro i1 i2 _ _ _ _ hm; omega
    | succ n ih4 =>
      intro i1 i2 hl0 hl1 hl2 hl3 hm
      refine A_iload_n 2 d_Score_allEvents_4 rfl rfl ?_
      refine A_aload_n 0 d_Score_allEvents_5 rfl rfl ?_
      refine A_getIn (lo := 0) (hi := 4) T_ok d_Score_allEvents_6 f_Score_41 (xs_S hx ha0) (xi_g hx (lt1_S ha0) (rg_S_1 ha0)) (fun x3 ex3 _ _ => ?_)
      refine A_icmp_ge (tgt := 39) d_Score_allEvents_9 (by decide) (fun c4 => ?_) (fun c4 => ?_)
      · refine A_iload_n 1 d_Score_allEvents_39 rfl rfl ?_
        exact A_iret d_Score_allEvents_40 (by decide) rfl ⟨_, rfl, ⟨by omega, by omega⟩, rfl⟩
      · refine A_aload_n 0 d_Score_allEvents_12 rfl rfl ?_
        refine A_iload_n 2 d_Score_allEvents_13 rfl rfl ?_
        refine A_callV1 m_Score_voiceAt T_ok d_Score_allEvents_14 l_Score_60 k_Score_voiceAt (xs_S hx ha0) rfl (by decide) (by decide) (Nat.le_of_ble_eq_true rfl) (s_Score_voiceAt hx ha0) (fun r h5 hq => ?_)
        obtain ⟨ox7, rfl, qx7, rfl⟩ := hq
        rcases qx7 with rfl | ⟨x7, rfl, tx7⟩
        · refine A_astore_n 3 (L' := [some (av_R (some a0)), some (av_I i1), some (av_I i2), some (av_R none)]) d_Score_allEvents_17 rfl (Nat.le_of_ble_eq_true rfl) rfl ?_
          refine A_iload_n 1 d_Score_allEvents_18 rfl rfl ?_
          refine A_aload_n 3 d_Score_allEvents_19 rfl rfl ?_
          refine A_ifnonnull (tgt := 27) d_Score_allEvents_20 (by decide) (fun a q => by cases q) (fun _ => ?_)
          refine A_iconst d_Score_allEvents_23 rfl ?_
          refine A_goto (tgt := 31) d_Score_allEvents_24 (by decide) ?_
          refine A_iaddv (z := i1) d_Score_allEvents_31 (w32_to (by omega) (by unfold i32; omega)) ?_
          refine A_istore_n 1 (L' := [some (av_R (some a0)), some (av_I i1), some (av_I i2), some (av_R none)]) d_Score_allEvents_32 rfl (Nat.le_of_ble_eq_true rfl) rfl ?_
          refine A_iincv (z := (i2 + 1)) (L' := [some (av_R (some a0)), some (av_I i1), some (av_I (i2 + 1)), some (av_R none)]) d_Score_allEvents_33 rfl (w32_to (by omega) (by unfold i32; omega)) rfl ?_
          refine A_goto (tgt := 4) d_Score_allEvents_36 (by decide) ?_
          refine A_free (L' := [some (av_R (some a0)), some (av_I i1), some (av_I (i2 + 1)), none]) (And.intro rfl (And.intro rfl (And.intro rfl trivial))) ?_
          exact ih4 i1 (i2 + 1) (by omega) (by omega) (by omega) (by omega) (by omega)
        · refine A_astore_n 3 (L' := [some (av_R (some a0)), some (av_I i1), some (av_I i2), some (av_R (some x7))]) d_Score_allEvents_17 rfl (Nat.le_of_ble_eq_true rfl) rfl ?_
          refine A_iload_n 1 d_Score_allEvents_18 rfl rfl ?_
          refine A_aload_n 3 d_Score_allEvents_19 rfl rfl ?_
          refine A_ifnonnull (tgt := 27) d_Score_allEvents_20 (by decide) (fun _ _ => ?_) (fun q => by cases q)
          refine A_aload_n 3 d_Score_allEvents_27 rfl rfl ?_
          refine A_getIn (lo := 0) (hi := 300) T_ok d_Score_allEvents_28 f_Score_64 (xs_V hx (tV_V ha0 tx7)) (xi_g hx (lt1_V (tV_V ha0 tx7)) (rg_V_14 (tV_V ha0 tx7))) (fun x8 ex8 _ _ => ?_)
          refine A_iaddw d_Score_allEvents_31 (fun x9 _ _ _ => ?_)
          refine A_istore_n 1 (L' := [some (av_R (some a0)), some (av_I x9), some (av_I i2), some (av_R (some x7))]) d_Score_allEvents_32 rfl (Nat.le_of_ble_eq_true rfl) rfl ?_
          refine A_iincv (z := (i2 + 1)) (L' := [some (av_R (some a0)), some (av_I x9), some (av_I (i2 + 1)), some (av_R (some x7))]) d_Score_allEvents_33 rfl (w32_to (by omega) (by unfold i32; omega)) rfl ?_
          refine A_pc (pc' := 36) rfl ?_
          refine A_goto (tgt := 4) d_Score_allEvents_36 (by decide) ?_
          refine A_free (L' := [some (av_R (some a0)), some (av_I x9), some (av_I (i2 + 1)), none]) (And.intro rfl (And.intro rfl (And.intro rfl trivial))) ?_
          exact ih4 x9 (i2 + 1) (by omega) (by omega) (by omega) (by omega) (by omega)
  exact lp4 _ 0 0 (by omega) (by omega) (by omega) (by omega) (Nat.lt_succ_self _)
theorem s_Score_mostBars {G : cx_T} {s : Nat} {h : ah_T} (hx : xi s h) {a0 : Nat} (ha0 : isS a0) : con G 1 0 0 m_Score_mostBars [av_R (some a0)] h (fun r h' => ∃ z, r = some (av_I z) ∧ (0 ≤ z ∧ z ≤ 101) ∧ h = h') := by
  refine con_of (L := [some (av_R (some a0)), none, none, none]) (by decide +kernel) (Nat.le_of_ble_eq_true rfl) rfl ?_
  have hS : isS s := hx.2.1
  have hs0 : s = 17 ∨ s = 80 := hS
  refine A_iconst d_Score_mostBars_0 rfl ?_
  refine A_istore_n 1 (L' := [some (av_R (some a0)), some (av_I 0), none, none]) d_Score_mostBars_1 rfl (Nat.le_of_ble_eq_true rfl) rfl ?_
  refine A_iconst d_Score_mostBars_2 rfl ?_
  refine A_istore_n 2 (L' := [some (av_R (some a0)), some (av_I 0), some (av_I 0), none]) d_Score_mostBars_3 rfl (Nat.le_of_ble_eq_true rfl) rfl ?_
  have lp4 : ∀ (n : Nat) (i1 i2 : Int) , 0 ≤ i1 → i1 ≤ 101 → 0 ≤ i2 → i2 ≤ 4 → (5 - i2).toNat < n → aw G (rm_R 1 0 0) m_Score_mostBars 0 0 4 [some (av_R (some a0)), some (av_I i1), some (av_I i2), none] [] h (fun r h' => ∃ z, r = some (av_I z) ∧ (0 ≤ z ∧ z ≤ 101) ∧ h = h') := by
    intro n
    induction n with
    | zero => intro i1 i2 _ _ _ _ hm; omega
    | succ n ih4 =>
      intro i1 i2 hl0 hl1 hl2 hl3 hm
      refine A_iload_n 2 d_Score_mostBars_4 rfl rfl ?_
      refine A_aload_n 0 d_Score_mostBars_5 rfl rfl ?_
      refine A_getIn (lo := 0) (hi := 4) T_ok d_Score_mostBars_6 f_Score_41 (xs_S hx ha0) (xi_g hx (lt1_S ha0) (rg_S_1 ha0)) (fun x3 ex3 _ _ => ?_)
      refine A_icmp_ge (tgt := 41) d_Score_mostBars_9 (by decide) (fun c4 => ?_) (fun c4 => ?_)
      · refine A_iload_n 1 d_Score_mostBars_41 rfl rfl ?_
        exact A_iret d_Score_mostBars_42 (by decide) rfl ⟨_, rfl, ⟨by omega, by omega⟩, rfl⟩
      · refine A_aload_n 0 d_Score_mostBars_12 rfl rfl ?_
        refine A_iload_n 2 d_Score_mostBars_13 rfl rfl ?_
        refine A_callV1 m_Score_voiceAt T_ok d_Score_mostBars_14 l_Score_60 k_Score_voiceAt (xs_S hx ha0) rfl (by decide) (by decide) (Nat.le_of_ble_eq_true rfl) (s_Score_voiceAt hx ha0) (fun r h5 hq => ?_)
        obtain ⟨ox7, rfl, qx7, rfl⟩ := hq
        rcases qx7 with rfl | ⟨x7, rfl, tx7⟩
        · refine A_astore_n 3 (L' := [some (av_R (some a0)), some (av_I i1), some (av_I i2), some (av_R none)]) d_Score_mostBars_17 rfl (Nat.le_of_ble_eq_true rfl) rfl ?_
          refine A_iload_n 1 d_Score_mostBars_18 rfl rfl ?_
          refine A_aload_n 3 d_Score_mostBars_19 rfl rfl ?_
          refine A_ifnonnull (tgt := 27) d_Score_mostBars_20 (by decide) (fun a q => by cases q) (fun _ => ?_)
          refine A_iconst d_Score_mostBars_23 rfl ?_
          refine A_goto (tgt := 31) d_Score_mostBars_24 (by decide) ?_
          refine A_mmax d_Score_mostBars_31 lm_Score_70 ma_max (by decide) (by decide) (Nat.le_of_ble_eq_true rfl) rfl ?_
          refine A_nrI (fun x8 ex8 _ _ => ?_)
          have bx8 := mmax_r ex8
          refine A_istore_n 1 (L' := [some (av_R (some a0)), some (av_I x8), some (av_I i2), some (av_R none)]) d_Score_mostBars_34 rfl (Nat.le_of_ble_eq_true rfl) rfl ?_
          refine A_iincv (z := (i2 + 1)) (L' := [some (av_R (some a0)), some (av_I x8), some (av_I (i2 + 1)), some (av_R none)]) d_Score_mostBars_35 rfl (w32_to (by omega) (by unfold i32; omega)) rfl ?_
          refine A_goto (tgt := 4) d_Score_mostBars_38 (by decide) ?_
          refine A_free (L' := [some (av_R (some a0)), some (av_I x8), some (av_I (i2 + 1)), none]) (And.intro rfl (And.intro rfl (And.intro rfl trivial))) ?_
          exact ih4 x8 (i2 + 1) (by omega) (by omega) (by omega) (by omega) (by omega)
        · refine A_astore_n 3 (L' := [some (av_R (some a0)), some (av_I i1), some (av_I i2), some (av_R (some x7))]) d_Score_mostBars_17 rfl (Nat.le_of_ble_eq_true rfl) rfl ?_
          refine A_iload_n 1 d_Score_mostBars_18 rfl rfl ?_
          refine A_aload_n 3 d_Score_mostBars_19 rfl rfl ?_
          refine A_ifnonnull (tgt := 27) d_Score_mostBars_20 (by decide) (fun _ _ => ?_) (fun q => by cases q)
          refine A_aload_n 3 d_Score_mostBars_27 rfl rfl ?_
          refine A_getIn (lo := 0) (hi := 101) T_ok d_Score_mostBars_28 f_Score_67 (xs_V hx (tV_V ha0 tx7)) (xi_g hx (lt1_V (tV_V ha0 tx7)) (rg_V_16 (tV_V ha0 tx7))) (fun x9 ex9 _ _ => ?_)
          refine A_mmax d_Score_mostBars_31 lm_Score_70 ma_max (by decide) (by decide) (Nat.le_of_ble_eq_true rfl) rfl ?_
          refine A_nrI (fun x10 ex10 _ _ => ?_)
          have bx10 := mmax_r ex10
          refine A_istore_n 1 (L' := [some (av_R (some a0)), some (av_I x10), some (av_I i2), some (av_R (some x7))]) d_Score_mostBars_34 rfl (Nat.le_of_ble_eq_true rfl) rfl ?_
          refine A_iincv (z := (i2 + 1)) (L' := [some (av_R (some a0)), some (av_I x10), some (av_I (i2 + 1)), some (av_R (some x7))]) d_Score_mostBars_35 rfl (w32_to (by omega) (by unfold i32; omega)) rfl ?_
          refine A_pc (pc' := 38) rfl ?_
          refine A_goto (tgt := 4) d_Score_mostBars_38 (by decide) ?_
          refine A_free (L' := [some (av_R (some a0)), some (av_I x10), some (av_I (i2 + 1)), none]) (And.intro rfl (And.intro rfl (And.intro rfl trivial))) ?_
          exact ih4 x10 (i2 + 1) (by omega) (by omega) (by omega) (by omega) (by omega)
  exact lp4 _ 0 0 (by omega) (by omega) (by omega) (by omega) (Nat.lt_succ_self _)
theorem s_Tokens_isSmall {G : cx_T} {h : ah_T} {a0 : Int}  : con G 0 0 0 m_Tokens_isSmall [av_I a0] h (fun r h' => ∃ z, r = some (av_I z) ∧ (z = 0 ∨ z = 1) ∧ (z = 1 → 97 ≤ a0) ∧ h = h') := by
  refine con_of (L := [some (av_I a0)]) (by decide +kernel) (Nat.le_of_ble_eq_true rfl) rfl ?_
  refine A_locI 0 rfl (fun ra => ?_)
  obtain ⟨_, _⟩ := ra
  refine A_iload_n 0 d_Tokens_isSmall_0 rfl rfl ?_
  refine A_bipush d_Tokens_isSmall_1 rfl ?_
  refine A_icmp_lt (tgt := 16) d_Tokens_isSmall_3 (by decide) (fun c1 => ?_) (fun c1 => ?_)
  · refine A_iconst d_Tokens_isSmall_16 rfl ?_
    exact A_zret d_Tokens_isSmall_17 (by decide) rfl (by omega) ⟨_, rfl, by omega, fun _ => by omega, rfl⟩
  · refine A_iload_n 0 d_Tokens_isSmall_6 rfl rfl ?_
    refine A_bipush d_Tokens_isSmall_7 rfl ?_
    refine A_icmp_gt (tgt := 16) d_Tokens_isSmall_9 (by decide) (fun c2 => ?_) (fun c2 => ?_)
    · refine A_iconst d_Tokens_isSmall_16 rfl ?_
      exact A_zret d_Tokens_isSmall_17 (by decide) rfl (by omega) ⟨_, rfl, by omega, fun _ => by omega, rfl⟩
    · refine A_iconst d_Tokens_isSmall_12 rfl ?_
      refine A_goto (tgt := 17) d_Tokens_isSmall_13 (by decide) ?_
      exact A_zret d_Tokens_isSmall_17 (by decide) rfl (by omega) ⟨_, rfl, by omega, fun _ => by omega, rfl⟩
theorem s_Tokens_isDigit {G : cx_T} {h : ah_T} {a0 : Int}  : con G 0 0 0 m_Tokens_isDigit [av_I a0] h (fun r h' => ∃ z, r = some (av_I z) ∧ (z = 0 ∨ z = 1) ∧ (z = 1 → 48 ≤ a0) ∧ h = h') := by
  refine con_of (L := [some (av_I a0)]) (by decide +kernel) (Nat.le_of_ble_eq_true rfl) rfl ?_
  refine A_locI 0 rfl (fun ra => ?_)
  obtain ⟨_, _⟩ := ra
  refine A_iload_n 0 d_Tokens_isDigit_0 rfl rfl ?_
  refine A_bipush d_Tokens_isDigit_1 rfl ?_
  refine A_icmp_lt (tgt := 16) d_Tokens_isDigit_3 (by decide) (fun c1 => ?_) (fun c1 => ?_)
  · refine A_iconst d_Tokens_isDigit_16 rfl ?_
    exact A_zret d_Tokens_isDigit_17 (by decide) rfl (by omega) ⟨_, rfl, by omega, fun _ => by omega, rfl⟩
  · refine A_iload_n 0 d_Tokens_isDigit_6 rfl rfl ?_
    refine A_bipush d_Tokens_isDigit_7 rfl ?_
    refine A_icmp_gt (tgt := 16) d_Tokens_isDigit_9 (by decide) (fun c2 => ?_) (fun c2 => ?_)
    · refine A_iconst d_Tokens_isDigit_16 rfl ?_
      exact A_zret d_Tokens_isDigit_17 (by decide) rfl (by omega) ⟨_, rfl, by omega, fun _ => by omega, rfl⟩
    · refine A_iconst d_Tokens_isDigit_12 rfl ?_
      refine A_goto (tgt := 17) d_Tokens_isDigit_13 (by decide) ?_
      exact A_zret d_Tokens_isDigit_17 (by decide) rfl (by omega) ⟨_, rfl, by omega, fun _ => by omega, rfl⟩
theorem s_Tokens_byteAt {G : cx_T} {s : Nat} {h : ah_T} (hx : xi s h) {a1 : Int}  : con G 0 0 0 m_Tokens_byteAt [av_R (some 3), av_I a1] h (fun r h' => ∃ z, r = some (av_I z) ∧ ((-2147483648) ≤ z ∧ z ≤ 2147483647) ∧ (0 ≤ z → 0 ≤ a1 ∧ a1 ≤ 1999) ∧ h = h') := by
  refine con_of (L := [some (av_R (some 3)), some (av_I a1)]) (by decide +kernel) (Nat.le_of_ble_eq_true rfl) rfl ?_
  have hS : isS s := hx.2.1
  have hs0 : s = 17 ∨ s = 80 := hS
  refine A_locI 1 rfl (fun ra => ?_)
  obtain ⟨_, _⟩ := ra
  refine A_iload_n 1 d_Tokens_byteAt_0 rfl rfl ?_
  refine A_if_lt (tgt := 30) d_Tokens_byteAt_1 (by decide) (fun c1 => ?_) (fun c1 => ?_)
  · refine A_iconst d_Tokens_byteAt_30 rfl ?_
    exact A_iret d_Tokens_byteAt_31 (by decide) rfl ⟨_, rfl, ⟨by omega, by omega⟩, fun _ => by omega, rfl⟩
  · refine A_iload_n 1 d_Tokens_byteAt_4 rfl rfl ?_
    refine A_aload_n 0 d_Tokens_byteAt_5 rfl rfl ?_
    refine A_getIn (lo := 0) (hi := 2000) T_ok d_Tokens_byteAt_6 f_Tokens_34 (xi_s hx sf_3) (xi_g hx (by decide) rgf_3_7) (fun x2 ex2 _ _ => ?_)
    refine A_icmp_ge (tgt := 30) d_Tokens_byteAt_9 (by decide) (fun c3 => ?_) (fun c3 => ?_)
    · refine A_iconst d_Tokens_byteAt_30 rfl ?_
      exact A_iret d_Tokens_byteAt_31 (by decide) rfl ⟨_, rfl, ⟨by omega, by omega⟩, fun _ => by omega, rfl⟩
    · refine A_iload_n 1 d_Tokens_byteAt_12 rfl rfl ?_
      refine A_aload_n 0 d_Tokens_byteAt_13 rfl rfl ?_
      rcases hx.2.2.2.2.1 with ht | ht
      · refine A_getAv (z := some 8) T_ok d_Tokens_byteAt_14 f_Tokens_25 (xi_s hx sf_3) ht ?_
        refine A_alenN d_Tokens_byteAt_17 (xi_s hx sf_8) (by decide) (by decide) ?_
        refine A_icmp_ge (tgt := 30) d_Tokens_byteAt_18 (by decide) (fun c5 => ?_) (fun c => False.elim (by omega))
        refine A_iconst d_Tokens_byteAt_30 rfl ?_
        exact A_iret d_Tokens_byteAt_31 (by decide) rfl ⟨_, rfl, ⟨by omega, by omega⟩, fun _ => by omega, rfl⟩
      · refine A_getAv (z := some 1) T_ok d_Tokens_byteAt_14 f_Tokens_25 (xi_s hx sf_3) ht ?_
        refine A_alenN d_Tokens_byteAt_17 (xi_s hx sf_1) (by decide) (by decide) ?_
        refine A_icmp_ge (tgt := 30) d_Tokens_byteAt_18 (by decide) (fun c => False.elim (by omega)) (fun c6 => ?_)
        refine A_aload_n 0 d_Tokens_byteAt_21 rfl rfl ?_
        rcases hx.2.2.2.2.1 with ht | ht
        · refine A_getAv (z := some 8) T_ok d_Tokens_byteAt_22 f_Tokens_25 (xi_s hx sf_3) ht ?_
          refine A_iload_n 1 d_Tokens_byteAt_25 rfl rfl ?_
          refine A_ialoadf d_Tokens_byteAt_26 (xi_s hx sf_8) (by omega) (by omega) (fun x8 ex8 _ _ => ?_)
          refine A_goto (tgt := 31) d_Tokens_byteAt_27 (by decide) ?_
          exact A_iret d_Tokens_byteAt_31 (by decide) rfl ⟨_, rfl, ⟨by omega, by omega⟩, fun _ => by omega, rfl⟩
        · refine A_getAv (z := some 1) T_ok d_Tokens_byteAt_22 f_Tokens_25 (xi_s hx sf_3) ht ?_
          refine A_iload_n 1 d_Tokens_byteAt_25 rfl rfl ?_
          refine A_ialoadf d_Tokens_byteAt_26 (xi_s hx sf_1) (by omega) (by omega) (fun x9 ex9 _ _ => ?_)
          refine A_goto (tgt := 31) d_Tokens_byteAt_27 (by decide) ?_
          exact A_iret d_Tokens_byteAt_31 (by decide) rfl ⟨_, rfl, ⟨by omega, by omega⟩, fun _ => by omega, rfl⟩
theorem s_Tokens_skipBlanks {G : cx_T} {s : Nat} {h : ah_T} (hx : xi s h)   : con G 1 0 0 m_Tokens_skipBlanks [av_R (some 3)] h (fun r h' => r = none ∧ kF FA s h h') := by
  refine con_of (L := [some (av_R (some 3)), none, none]) (by decide +kernel) (Nat.le_of_ble_eq_true rfl) rfl ?_
  have hS : isS s := hx.2.1
  have hs0 : s = 17 ∨ s = 80 := hS
  have k0 : kF FA s h h := kF_0 hx
  refine A_iconst d_Tokens_skipBlanks_0 rfl ?_
  refine A_istore_n 1 (L' := [some (av_R (some 3)), some (av_I 0), none]) d_Tokens_skipBlanks_1 rfl (Nat.le_of_ble_eq_true rfl) rfl ?_
  have lp2 : ∀ (n : Nat) (i1 : Int) (h2 : ah_T) , 0 ≤ i1 → i1 ≤ 1 → kF FA s h h2 → (2001 - h2.2.1 3 8).toNat < n → aw G (rm_R 1 0 0) m_Tokens_skipBlanks 0 0 2 [some (av_R (some 3)), some (av_I i1), none] [] h2 (fun r h' => r = none ∧ kF FA s h h') := by
    intro n
    induction n with
    | zero => intro i1 h2 _ _ _ hm; omega
    | succ n ih2 =>
      intro i1 h2 hl0 hl1 k3 hm
      refine A_aload_n 0 d_Tokens_skipBlanks_2 rfl rfl ?_
      refine A_getIn (lo := 0) (hi := 2000) T_ok d_Tokens_skipBlanks_3 f_Tokens_38 (xi_s k3.1 sf_3) (xi_g k3.1 (by decide) rgf_3_8) (fun x4 ex4 _ _ => ?_)
      refine A_aload_n 0 d_Tokens_skipBlanks_6 rfl rfl ?_
      refine A_getIn (lo := 0) (hi := 2000) T_ok d_Tokens_skipBlanks_7 f_Tokens_34 (xi_s k3.1 sf_3) (xi_g k3.1 (by decide) rgf_3_7) (fun x5 ex5 _ _ => ?_)
      refine A_icmp_ge (tgt := 80) d_Tokens_skipBlanks_10 (by decide) (fun c6 => ?_) (fun c6 => ?_)
      · exact A_vret d_Tokens_skipBlanks_80 (by decide) rfl ⟨rfl, k3⟩
      · refine A_aload_n 0 d_Tokens_skipBlanks_13 rfl rfl ?_
        refine A_aload_n 0 d_Tokens_skipBlanks_14 rfl rfl ?_
        refine A_getIv (z := x4) T_ok d_Tokens_skipBlanks_15 f_Tokens_38 (xi_s k3.1 sf_3) ex4.symm ?_
        refine A_callV1 m_Tokens_byteAt T_ok d_Tokens_skipBlanks_18 l_Tokens_70 k_Tokens_byteAt (xi_s k3.1 sf_3) rfl (by decide) (by decide) (Nat.le_of_ble_eq_true rfl) (s_Tokens_byteAt k3.1 ) (fun r h8 hq => ?_)
        obtain ⟨x10, rfl, ⟨_, _⟩, xx10, rfl⟩ := hq
        refine A_istore_n 2 (L' := [some (av_R (some 3)), some (av_I i1), some (av_I x10)]) d_Tokens_skipBlanks_21 rfl (Nat.le_of_ble_eq_true rfl) rfl ?_
        refine A_iload_n 2 d_Tokens_skipBlanks_22 rfl rfl ?_
        refine A_bipush d_Tokens_skipBlanks_23 rfl ?_
        refine A_icmp_ne (tgt := 33) d_Tokens_skipBlanks_25 (by decide) (fun c11 => ?_) (fun c11 => ?_)
        · refine A_iload_n 2 d_Tokens_skipBlanks_33 rfl rfl ?_
          refine A_bipush d_Tokens_skipBlanks_34 rfl ?_
          refine A_icmp_ne (tgt := 44) d_Tokens_skipBlanks_36 (by decide) (fun c12 => ?_) (fun c12 => ?_)
          · refine A_iload_n 1 d_Tokens_skipBlanks_44 rfl rfl ?_
            refine A_if_ne (tgt := 67) d_Tokens_skipBlanks_45 (by decide) (fun c13 => ?_) (fun c13 => ?_)
            · refine A_aload_n 0 d_Tokens_skipBlanks_67 rfl rfl ?_
              refine A_dupR d_Tokens_skipBlanks_68 ?_
              refine A_getIv (z := x4) T_ok d_Tokens_skipBlanks_69 f_Tokens_38 (xi_s k3.1 sf_3) ex4.symm ?_
              refine A_iconst d_Tokens_skipBlanks_72 rfl ?_
              refine A_iaddv (z := (x4 + 1)) d_Tokens_skipBlanks_73 (w32_to (by omega) (by unfold i32; omega)) ?_
              refine A_pc (pc' := 74) rfl ?_
              refine A_putIk (KR := kF FA s h) T_ok d_Tokens_skipBlanks_74 f_Tokens_38 (xi_s k3.1 sf_3) fin_f (kF_j k3 (by decide) rgf_3_8 (by omega) (by omega)) (fun h15 k16 eh15 => ?_)
              refine A_goto (tgt := 2) d_Tokens_skipBlanks_77 (by decide) ?_
              refine A_free (L' := [some (av_R (some 3)), some (av_I i1), none]) (And.intro rfl (And.intro rfl trivial)) ?_
              exact ih2 i1 h15 (by omega) (by omega) k16 (by omega)
            · refine A_iload_n 2 d_Tokens_skipBlanks_48 rfl rfl ?_
              refine A_bipush d_Tokens_skipBlanks_49 rfl ?_
              refine A_icmp_eq (tgt := 67) d_Tokens_skipBlanks_51 (by decide) (fun c17 => ?_) (fun c17 => ?_)
              · refine A_aload_n 0 d_Tokens_skipBlanks_67 rfl rfl ?_
                refine A_dupR d_Tokens_skipBlanks_68 ?_
                refine A_getIv (z := x4) T_ok d_Tokens_skipBlanks_69 f_Tokens_38 (xi_s k3.1 sf_3) ex4.symm ?_
                refine A_iconst d_Tokens_skipBlanks_72 rfl ?_
                refine A_iaddv (z := (x4 + 1)) d_Tokens_skipBlanks_73 (w32_to (by omega) (by unfold i32; omega)) ?_
                refine A_pc (pc' := 74) rfl ?_
                refine A_putIk (KR := kF FA s h) T_ok d_Tokens_skipBlanks_74 f_Tokens_38 (xi_s k3.1 sf_3) fin_f (kF_j k3 (by decide) rgf_3_8 (by omega) (by omega)) (fun h19 k20 eh19 => ?_)
                refine A_goto (tgt := 2) d_Tokens_skipBlanks_77 (by decide) ?_
                refine A_free (L' := [some (av_R (some 3)), some (av_I i1), none]) (And.intro rfl (And.intro rfl trivial)) ?_
                exact ih2 i1 h19 (by omega) (by omega) k20 (by omega)
              · refine A_iload_n 2 d_Tokens_skipBlanks_54 rfl rfl ?_
                refine A_bipush d_Tokens_skipBlanks_55 rfl ?_
                refine A_icmp_eq (tgt := 67) d_Tokens_skipBlanks_57 (by decide) (fun c21 => ?_) (fun c21 => ?_)
                · refine A_aload_n 0 d_Tokens_skipBlanks_67 rfl rfl ?_
                  refine A_dupR d_Tokens_skipBlanks_68 ?_
                  refine A_getIv (z := x4) T_ok d_Tokens_skipBlanks_69 f_Tokens_38 (xi_s k3.1 sf_3) ex4.symm ?_
                  refine A_iconst d_Tokens_skipBlanks_72 rfl ?_
                  refine A_iaddv (z := (x4 + 1)) d_Tokens_skipBlanks_73 (w32_to (by omega) (by unfold i32; omega)) ?_
                  refine A_pc (pc' := 74) rfl ?_
                  refine A_putIk (KR := kF FA s h) T_ok d_Tokens_skipBlanks_74 f_Tokens_38 (xi_s k3.1 sf_3) fin_f (kF_j k3 (by decide) rgf_3_8 (by omega) (by omega)) (fun h23 k24 eh23 => ?_)
                  refine A_goto (tgt := 2) d_Tokens_skipBlanks_77 (by decide) ?_
                  refine A_free (L' := [some (av_R (some 3)), some (av_I i1), none]) (And.intro rfl (And.intro rfl trivial)) ?_
                  exact ih2 i1 h23 (by omega) (by omega) k24 (by omega)
                · refine A_iload_n 2 d_Tokens_skipBlanks_60 rfl rfl ?_
                  refine A_bipush d_Tokens_skipBlanks_61 rfl ?_
                  refine A_icmp_eq (tgt := 67) d_Tokens_skipBlanks_63 (by decide) (fun c25 => ?_) (fun c25 => ?_)
                  · refine A_aload_n 0 d_Tokens_skipBlanks_67 rfl rfl ?_
                    refine A_dupR d_Tokens_skipBlanks_68 ?_
                    refine A_getIv (z := x4) T_ok d_Tokens_skipBlanks_69 f_Tokens_38 (xi_s k3.1 sf_3) ex4.symm ?_
                    refine A_iconst d_Tokens_skipBlanks_72 rfl ?_
                    refine A_iaddv (z := (x4 + 1)) d_Tokens_skipBlanks_73 (w32_to (by omega) (by unfold i32; omega)) ?_
                    refine A_pc (pc' := 74) rfl ?_
                    refine A_putIk (KR := kF FA s h) T_ok d_Tokens_skipBlanks_74 f_Tokens_38 (xi_s k3.1 sf_3) fin_f (kF_j k3 (by decide) rgf_3_8 (by omega) (by omega)) (fun h27 k28 eh27 => ?_)
                    refine A_goto (tgt := 2) d_Tokens_skipBlanks_77 (by decide) ?_
                    refine A_free (L' := [some (av_R (some 3)), some (av_I i1), none]) (And.intro rfl (And.intro rfl trivial)) ?_
                    exact ih2 i1 h27 (by omega) (by omega) k28 (by omega)
                  · exact A_vret d_Tokens_skipBlanks_66 (by decide) rfl ⟨rfl, k3⟩
          · refine A_iconst d_Tokens_skipBlanks_39 rfl ?_
            refine A_istore_n 1 (L' := [some (av_R (some 3)), some (av_I 1), some (av_I x10)]) d_Tokens_skipBlanks_40 rfl (Nat.le_of_ble_eq_true rfl) rfl ?_
            refine A_goto (tgt := 67) d_Tokens_skipBlanks_41 (by decide) ?_
            refine A_aload_n 0 d_Tokens_skipBlanks_67 rfl rfl ?_
            refine A_dupR d_Tokens_skipBlanks_68 ?_
            refine A_getIv (z := x4) T_ok d_Tokens_skipBlanks_69 f_Tokens_38 (xi_s k3.1 sf_3) ex4.symm ?_
            refine A_iconst d_Tokens_skipBlanks_72 rfl ?_
            refine A_iaddv (z := (x4 + 1)) d_Tokens_skipBlanks_73 (w32_to (by omega) (by unfold i32; omega)) ?_
            refine A_pc (pc' := 74) rfl ?_
            refine A_putIk (KR := kF FA s h) T_ok d_Tokens_skipBlanks_74 f_Tokens_38 (xi_s k3.1 sf_3) fin_f (kF_j k3 (by decide) rgf_3_8 (by omega) (by omega)) (fun h30 k31 eh30 => ?_)
            refine A_goto (tgt := 2) d_Tokens_skipBlanks_77 (by decide) ?_
            refine A_free (L' := [some (av_R (some 3)), some (av_I 1), none]) (And.intro rfl (And.intro rfl trivial)) ?_
            exact ih2 1 h30 (by omega) (by omega) k31 (by omega)
        · refine A_iconst d_Tokens_skipBlanks_28 rfl ?_
          refine A_istore_n 1 (L' := [some (av_R (some 3)), some (av_I 0), some (av_I x10)]) d_Tokens_skipBlanks_29 rfl (Nat.le_of_ble_eq_true rfl) rfl ?_
          refine A_goto (tgt := 67) d_Tokens_skipBlanks_30 (by decide) ?_
          refine A_aload_n 0 d_Tokens_skipBlanks_67 rfl rfl ?_
          refine A_dupR d_Tokens_skipBlanks_68 ?_
          refine A_getIv (z := x4) T_ok d_Tokens_skipBlanks_69 f_Tokens_38 (xi_s k3.1 sf_3) ex4.symm ?_
          refine A_iconst d_Tokens_skipBlanks_72 rfl ?_
          refine A_iaddv (z := (x4 + 1)) d_Tokens_skipBlanks_73 (w32_to (by omega) (by unfold i32; omega)) ?_
          refine A_pc (pc' := 74) rfl ?_
          refine A_putIk (KR := kF FA s h) T_ok d_Tokens_skipBlanks_74 f_Tokens_38 (xi_s k3.1 sf_3) fin_f (kF_j k3 (by decide) rgf_3_8 (by omega) (by omega)) (fun h33 k34 eh33 => ?_)
          refine A_goto (tgt := 2) d_Tokens_skipBlanks_77 (by decide) ?_
          refine A_free (L' := [some (av_R (some 3)), some (av_I 0), none]) (And.intro rfl (And.intro rfl trivial)) ?_
          exact ih2 0 h33 (by omega) (by omega) k34 (by omega)
  exact lp2 _ 0 h (by omega) (by omega) k0 (Nat.lt_succ_self _)
theorem s_Tokens_cutNumber {G : cx_T} {s : Nat} {h : ah_T} (hx : xi s h)   : con G 1 0 0 m_Tokens_cutNumber [av_R (some 3)] h (fun r h' => r = none ∧ kF FA s h h') := by
  refine con_of (L := [some (av_R (some 3)), none, none]) (by decide +kernel) (Nat.le_of_ble_eq_true rfl) rfl ?_
  have hS : isS s := hx.2.1
  have hs0 : s = 17 ∨ s = 80 := hS
  have k0 : kF FA s h h := kF_0 hx
  refine A_aload_n 0 d_Tokens_cutNumber_0 rfl rfl ?_
  refine A_getIn (lo := 0) (hi := 2000) T_ok d_Tokens_cutNumber_1 f_Tokens_38 (xi_s k0.1 sf_3) (xi_g k0.1 (by decide) rgf_3_8) (fun x1 ex1 _ _ => ?_)
  refine A_istore_n 1 (L' := [some (av_R (some 3)), some (av_I x1), none]) d_Tokens_cutNumber_4 rfl (Nat.le_of_ble_eq_true rfl) rfl ?_
  refine A_iconst d_Tokens_cutNumber_5 rfl ?_
  refine A_istore_n 2 (L' := [some (av_R (some 3)), some (av_I x1), some (av_I 0)]) d_Tokens_cutNumber_6 rfl (Nat.le_of_ble_eq_true rfl) rfl ?_
  have lp7 : ∀ (n : Nat) (i2 : Int) (h3 : ah_T) , (-2147483648) ≤ i2 → i2 ≤ 2147483647 → kF FA s h h3 → (2001 - h3.2.1 3 8).toNat < n → aw G (rm_R 1 0 0) m_Tokens_cutNumber 0 0 7 [some (av_R (some 3)), some (av_I x1), some (av_I i2)] [] h3 (fun r h' => r = none ∧ kF FA s h h') := by
    intro n
    induction n with
    | zero => intro i2 h3 _ _ _ hm; omega
    | succ n ih7 =>
      intro i2 h3 hl0 hl1 k4 hm
      refine A_aload_n 0 d_Tokens_cutNumber_7 rfl rfl ?_
      refine A_getIn (lo := 0) (hi := 2000) T_ok d_Tokens_cutNumber_8 f_Tokens_38 (xi_s k4.1 sf_3) (xi_g k4.1 (by decide) rgf_3_8) (fun x5 ex5 _ _ => ?_)
      refine A_aload_n 0 d_Tokens_cutNumber_11 rfl rfl ?_
      refine A_getIn (lo := 0) (hi := 2000) T_ok d_Tokens_cutNumber_12 f_Tokens_34 (xi_s k4.1 sf_3) (xi_g k4.1 (by decide) rgf_3_7) (fun x6 ex6 _ _ => ?_)
      refine A_icmp_ge (tgt := 62) d_Tokens_cutNumber_15 (by decide) (fun c7 => ?_) (fun c7 => ?_)
      · refine A_aload_n 0 d_Tokens_cutNumber_62 rfl rfl ?_
        refine A_iload_n 2 d_Tokens_cutNumber_63 rfl rfl ?_
        refine A_i2l d_Tokens_cutNumber_64 ?_
        refine A_putLk (KR := kF FA s h) T_ok d_Tokens_cutNumber_65 f_Tokens_60 (xi_s k4.1 sf_3) fin_f (kF_l k4 (by decide)) (fun h8 k9 eh8 => ?_)
        refine A_aload_n 0 d_Tokens_cutNumber_68 rfl rfl ?_
        refine A_pc (pc' := 69) rfl ?_
        refine A_aload_n 0 d_Tokens_cutNumber_69 rfl rfl ?_
        refine A_getIv (z := x5) T_ok d_Tokens_cutNumber_70 f_Tokens_38 (xi_s k9.1 sf_3) ((congrFun (congrFun eh8 _) _).trans ex5.symm) ?_
        refine A_iload_n 1 d_Tokens_cutNumber_73 rfl rfl ?_
        refine A_isubv (z := (x5 - x1)) d_Tokens_cutNumber_74 (w32_to (by omega) (by unfold i32; omega)) ?_
        refine A_iconst d_Tokens_cutNumber_75 rfl ?_
        refine A_icmp_le (tgt := 85) d_Tokens_cutNumber_76 (by decide) (fun c11 => ?_) (fun c11 => ?_)
        · refine A_sipush d_Tokens_cutNumber_85 rfl ?_
          refine A_putIk (KR := kF FA s h) T_ok d_Tokens_cutNumber_88 f_Tokens_54 (xi_s k9.1 sf_3) fin_f (kF_j k9 (by decide) rgf_3_9 (by omega) (by omega)) (fun h12 k13 eh12 => ?_)
          exact A_vret d_Tokens_cutNumber_91 (by decide) rfl ⟨rfl, k13⟩
        · refine A_sipush d_Tokens_cutNumber_79 rfl ?_
          refine A_goto (tgt := 88) d_Tokens_cutNumber_82 (by decide) ?_
          refine A_putIk (KR := kF FA s h) T_ok d_Tokens_cutNumber_88 f_Tokens_54 (xi_s k9.1 sf_3) fin_f (kF_j k9 (by decide) rgf_3_9 (by omega) (by omega)) (fun h14 k15 eh14 => ?_)
          exact A_vret d_Tokens_cutNumber_91 (by decide) rfl ⟨rfl, k15⟩
      · refine A_aload_n 0 d_Tokens_cutNumber_18 rfl rfl ?_
        refine A_aload_n 0 d_Tokens_cutNumber_19 rfl rfl ?_
        refine A_getIv (z := x5) T_ok d_Tokens_cutNumber_20 f_Tokens_38 (xi_s k4.1 sf_3) ex5.symm ?_
        refine A_callV1 m_Tokens_byteAt T_ok d_Tokens_cutNumber_23 l_Tokens_70 k_Tokens_byteAt (xi_s k4.1 sf_3) rfl (by decide) (by decide) (Nat.le_of_ble_eq_true rfl) (s_Tokens_byteAt k4.1 ) (fun r h17 hq => ?_)
        obtain ⟨x19, rfl, ⟨_, _⟩, xx19, rfl⟩ := hq
        refine A_callS1 m_Tokens_isDigit d_Tokens_cutNumber_26 l_Tokens_85 k_Tokens_isDigit (by decide) (by decide) (Nat.le_of_ble_eq_true rfl) (s_Tokens_isDigit  ) (fun r h20 hq => ?_)
        obtain ⟨x22, rfl, bx22, xx22, rfl⟩ := hq
        refine A_if_eq (tgt := 62) d_Tokens_cutNumber_29 (by decide) (fun c23 => ?_) (fun c23 => ?_)
        · refine A_aload_n 0 d_Tokens_cutNumber_62 rfl rfl ?_
          refine A_iload_n 2 d_Tokens_cutNumber_63 rfl rfl ?_
          refine A_i2l d_Tokens_cutNumber_64 ?_
          refine A_putLk (KR := kF FA s h) T_ok d_Tokens_cutNumber_65 f_Tokens_60 (xi_s k4.1 sf_3) fin_f (kF_l k4 (by decide)) (fun h24 k25 eh24 => ?_)
          refine A_aload_n 0 d_Tokens_cutNumber_68 rfl rfl ?_
          refine A_pc (pc' := 69) rfl ?_
          refine A_aload_n 0 d_Tokens_cutNumber_69 rfl rfl ?_
          refine A_getIv (z := x5) T_ok d_Tokens_cutNumber_70 f_Tokens_38 (xi_s k25.1 sf_3) ((congrFun (congrFun eh24 _) _).trans ex5.symm) ?_
          refine A_iload_n 1 d_Tokens_cutNumber_73 rfl rfl ?_
          refine A_isubv (z := (x5 - x1)) d_Tokens_cutNumber_74 (w32_to (by omega) (by unfold i32; omega)) ?_
          refine A_iconst d_Tokens_cutNumber_75 rfl ?_
          refine A_icmp_le (tgt := 85) d_Tokens_cutNumber_76 (by decide) (fun c27 => ?_) (fun c27 => ?_)
          · refine A_sipush d_Tokens_cutNumber_85 rfl ?_
            refine A_putIk (KR := kF FA s h) T_ok d_Tokens_cutNumber_88 f_Tokens_54 (xi_s k25.1 sf_3) fin_f (kF_j k25 (by decide) rgf_3_9 (by omega) (by omega)) (fun h28 k29 eh28 => ?_)
            exact A_vret d_Tokens_cutNumber_91 (by decide) rfl ⟨rfl, k29⟩
          · refine A_sipush d_Tokens_cutNumber_79 rfl ?_
            refine A_goto (tgt := 88) d_Tokens_cutNumber_82 (by decide) ?_
            refine A_putIk (KR := kF FA s h) T_ok d_Tokens_cutNumber_88 f_Tokens_54 (xi_s k25.1 sf_3) fin_f (kF_j k25 (by decide) rgf_3_9 (by omega) (by omega)) (fun h30 k31 eh30 => ?_)
            exact A_vret d_Tokens_cutNumber_91 (by decide) rfl ⟨rfl, k31⟩
        · refine A_iload_n 2 d_Tokens_cutNumber_32 rfl rfl ?_
          refine A_bipush d_Tokens_cutNumber_33 rfl ?_
          refine A_imulw d_Tokens_cutNumber_35 (fun x32 _ _ _ => ?_)
          refine A_aload_n 0 d_Tokens_cutNumber_36 rfl rfl ?_
          refine A_aload_n 0 d_Tokens_cutNumber_37 rfl rfl ?_
          refine A_pc (pc' := 38) rfl ?_
          refine A_getIv (z := x5) T_ok d_Tokens_cutNumber_38 f_Tokens_38 (xi_s k4.1 sf_3) ex5.symm ?_
          refine A_callV1 m_Tokens_byteAt T_ok d_Tokens_cutNumber_41 l_Tokens_70 k_Tokens_byteAt (xi_s k4.1 sf_3) rfl (by decide) (by decide) (Nat.le_of_ble_eq_true rfl) (s_Tokens_byteAt k4.1 ) (fun r h34 hq => ?_)
          obtain ⟨x36, rfl, ⟨_, _⟩, xx36, rfl⟩ := hq
          refine A_iaddw d_Tokens_cutNumber_44 (fun x37 _ _ _ => ?_)
          refine A_bipush d_Tokens_cutNumber_45 rfl ?_
          refine A_isubw d_Tokens_cutNumber_47 (fun x38 _ _ _ => ?_)
          refine A_istore_n 2 (L' := [some (av_R (some 3)), some (av_I x1), some (av_I x38)]) d_Tokens_cutNumber_48 rfl (Nat.le_of_ble_eq_true rfl) rfl ?_
          refine A_aload_n 0 d_Tokens_cutNumber_49 rfl rfl ?_
          refine A_pc (pc' := 50) rfl ?_
          refine A_dupR d_Tokens_cutNumber_50 ?_
          refine A_getIv (z := x5) T_ok d_Tokens_cutNumber_51 f_Tokens_38 (xi_s k4.1 sf_3) ex5.symm ?_
          refine A_iconst d_Tokens_cutNumber_54 rfl ?_
          refine A_iaddv (z := (x5 + 1)) d_Tokens_cutNumber_55 (w32_to (by omega) (by unfold i32; omega)) ?_
          refine A_putIk (KR := kF FA s h) T_ok d_Tokens_cutNumber_56 f_Tokens_38 (xi_s k4.1 sf_3) fin_f (kF_j k4 (by decide) rgf_3_8 (by omega) (by omega)) (fun h40 k41 eh40 => ?_)
          refine A_goto (tgt := 7) d_Tokens_cutNumber_59 (by decide) ?_
          exact ih7 x38 h40 (by omega) (by omega) k41 (by omega)
  exact lp7 _ 0 h (by omega) (by omega) k0 (Nat.lt_succ_self _)
theorem s_Tokens_next {G : cx_T} {s : Nat} {h : ah_T} (hx : xi s h)   : con G 0 0 0 m_Tokens_next [av_R (some 3)] h (fun r h' => r = none ∧ kF FA s h h') := by
  refine con_of (L := [some (av_R (some 3))]) (by decide +kernel) (Nat.le_of_ble_eq_true rfl) rfl ?_
  have hS : isS s := hx.2.1
  have hs0 : s = 17 ∨ s = 80 := hS
  have k0 : kF FA s h h := kF_0 hx
  refine A_aload_n 0 d_Tokens_next_0 rfl rfl ?_
  refine A_getIn (lo := (-1)) (hi := 2000) T_ok d_Tokens_next_1 f_Tokens_48 (xi_s k0.1 sf_3) (xi_g k0.1 (by decide) rgf_3_5) (fun x1 ex1 _ _ => ?_)
  refine A_iconst d_Tokens_next_4 rfl ?_
  refine A_iaddv (z := (x1 + 1)) d_Tokens_next_5 (w32_to (by omega) (by unfold i32; omega)) ?_
  refine A_aload_n 0 d_Tokens_next_6 rfl rfl ?_
  refine A_pc (pc' := 7) rfl ?_
  refine A_getIn (lo := 0) (hi := 2001) T_ok d_Tokens_next_7 f_Tokens_41 (xi_s k0.1 sf_3) (xi_g k0.1 (by decide) rgf_3_4) (fun x2 ex2 _ _ => ?_)
  refine A_icmp_ge (tgt := 89) d_Tokens_next_10 (by decide) (fun c3 => ?_) (fun c3 => ?_)
  · exact A_vret d_Tokens_next_89 (by decide) rfl ⟨rfl, k0⟩
  · refine A_aload_n 0 d_Tokens_next_13 rfl rfl ?_
    refine A_getIv (z := x1) T_ok d_Tokens_next_14 f_Tokens_48 (xi_s k0.1 sf_3) ex1.symm ?_
    refine A_iconst d_Tokens_next_17 rfl ?_
    refine A_iaddv (z := (x1 + 1)) d_Tokens_next_18 (w32_to (by omega) (by unfold i32; omega)) ?_
    refine A_aload_n 0 d_Tokens_next_19 rfl rfl ?_
    refine A_pc (pc' := 20) rfl ?_
    refine A_getAv (z := some 4) T_ok d_Tokens_next_20 f_Tokens_9 (xi_s k0.1 sf_3) (xi_r k0.1 rff_3_0) ?_
    refine A_alenN d_Tokens_next_23 (xi_s k0.1 sf_4) (by decide) (by decide) ?_
    refine A_icmp_ge (tgt := 89) d_Tokens_next_24 (by decide) (fun c => False.elim (by omega)) (fun c6 => ?_)
    refine A_aload_n 0 d_Tokens_next_27 rfl rfl ?_
    refine A_dupR d_Tokens_next_28 ?_
    refine A_getIv (z := x1) T_ok d_Tokens_next_29 f_Tokens_48 (xi_s k0.1 sf_3) ex1.symm ?_
    refine A_iconst d_Tokens_next_32 rfl ?_
    refine A_iaddv (z := (x1 + 1)) d_Tokens_next_33 (w32_to (by omega) (by unfold i32; omega)) ?_
    refine A_pc (pc' := 34) rfl ?_
    refine A_putIk (KR := kF FA s h) T_ok d_Tokens_next_34 f_Tokens_48 (xi_s k0.1 sf_3) fin_f (kF_j k0 (by decide) rgf_3_5 (by omega) (by omega)) (fun h8 k9 eh8 => ?_)
    refine A_aload_n 0 d_Tokens_next_37 rfl rfl ?_
    refine A_aload_n 0 d_Tokens_next_38 rfl rfl ?_
    refine A_getAv (z := some 4) T_ok d_Tokens_next_39 f_Tokens_9 (xi_s k9.1 sf_3) (xi_r k9.1 rff_3_0) ?_
    refine A_aload_n 0 d_Tokens_next_42 rfl rfl ?_
    refine A_getIv (z := (x1 + 1)) T_ok d_Tokens_next_43 f_Tokens_48 (xi_s k9.1 sf_3) eh8.2 ?_
    refine A_pc (pc' := 46) rfl ?_
    refine A_ialoadf d_Tokens_next_46 (xi_s k9.1 sf_4) (by omega) (by omega) (fun x12 ex12 _ _ => ?_)
    refine A_putIk (KR := kF FA s h) T_ok d_Tokens_next_47 f_Tokens_54 (xi_s k9.1 sf_3) fin_f (kF_j k9 (by decide) rgf_3_9 (by omega) (by omega)) (fun h13 k14 eh13 => ?_)
    refine A_aload_n 0 d_Tokens_next_50 rfl rfl ?_
    refine A_aload_n 0 d_Tokens_next_51 rfl rfl ?_
    refine A_getAv (z := some 5) T_ok d_Tokens_next_52 f_Tokens_15 (xi_s k14.1 sf_3) (xi_r k14.1 rff_3_1) ?_
    refine A_aload_n 0 d_Tokens_next_55 rfl rfl ?_
    refine A_pc (pc' := 56) rfl ?_
    refine A_getIv (z := (x1 + 1)) T_ok d_Tokens_next_56 f_Tokens_48 (xi_s k14.1 sf_3) ((eh13.1 _ _ (fun _ => by decide)).trans eh8.2) ?_
    refine A_ialoadf d_Tokens_next_59 (xi_s k14.1 sf_5) (by omega) (by omega) (fun x17 ex17 _ _ => ?_)
    refine A_putIk (KR := kF FA s h) T_ok d_Tokens_next_60 f_Tokens_57 (xi_s k14.1 sf_3) fin_f (kF_j k14 (by decide) rgf_3_10 (by omega) (by omega)) (fun h18 k19 eh18 => ?_)
    refine A_aload_n 0 d_Tokens_next_63 rfl rfl ?_
    refine A_aload_n 0 d_Tokens_next_64 rfl rfl ?_
    refine A_getAv (z := some 6) T_ok d_Tokens_next_65 f_Tokens_18 (xi_s k19.1 sf_3) (xi_r k19.1 rff_3_2) ?_
    refine A_pc (pc' := 68) rfl ?_
    refine A_aload_n 0 d_Tokens_next_68 rfl rfl ?_
    refine A_getIv (z := (x1 + 1)) T_ok d_Tokens_next_69 f_Tokens_48 (xi_s k19.1 sf_3) ((eh18.1 _ _ (fun _ => by decide)).trans ((eh13.1 _ _ (fun _ => by decide)).trans eh8.2)) ?_
    refine A_laloadf d_Tokens_next_72 (xi_s k19.1 sf_6) (by omega) (by omega) (fun x22 ex22 _ _ => ?_)
    refine A_putLk (KR := kF FA s h) T_ok d_Tokens_next_73 f_Tokens_60 (xi_s k19.1 sf_3) fin_f (kF_l k19 (by decide)) (fun h23 k24 eh23 => ?_)
    refine A_aload_n 0 d_Tokens_next_76 rfl rfl ?_
    refine A_aload_n 0 d_Tokens_next_77 rfl rfl ?_
    refine A_pc (pc' := 78) rfl ?_
    refine A_getAv (z := some 7) T_ok d_Tokens_next_78 f_Tokens_22 (xi_s k24.1 sf_3) (xi_r k24.1 rff_3_3) ?_
    refine A_aload_n 0 d_Tokens_next_81 rfl rfl ?_
    refine A_getIv (z := (x1 + 1)) T_ok d_Tokens_next_82 f_Tokens_48 (xi_s k24.1 sf_3) ((congrFun (congrFun eh23 _) _).trans ((eh18.1 _ _ (fun _ => by decide)).trans ((eh13.1 _ _ (fun _ => by decide)).trans eh8.2))) ?_
    refine A_ialoadf d_Tokens_next_85 (xi_s k24.1 sf_7) (by omega) (by omega) (fun x27 ex27 _ _ => ?_)
    refine A_putIk (KR := kF FA s h) T_ok d_Tokens_next_86 f_Tokens_64 (xi_s k24.1 sf_3) fin_f (kF_j k24 (by decide) rgf_3_12 (by omega) (by omega)) (fun h28 k29 eh28 => ?_)
    exact A_vret d_Tokens_next_89 (by decide) rfl ⟨rfl, k29⟩
