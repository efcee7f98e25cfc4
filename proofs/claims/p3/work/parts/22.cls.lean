theorem s_JLong_compare {G : cx_T} {h : ah_T} {a0 : Int} {a1 : Int}  : con G 0 0 0 m_JLong_compare [av_L a0, av_L a1] h (fun r h' => ∃ z, r = some (av_I z) ∧ ((-1) ≤ z ∧ z ≤ 1) ∧ ((a0 < a1 → z = -1) ∧ (a0 = a1 → z = 0) ∧ (a1 < a0 → z = 1)) ∧ h = h') := by
  refine con_of (L := [some (av_L a0), none, some (av_L a1), none]) (by decide +kernel) (Nat.le_of_ble_eq_true rfl) rfl ?_
  refine A_locL 0 rfl (fun ra => ?_)
  obtain ⟨_, _⟩ := ra
  refine A_locL 2 rfl (fun ra => ?_)
  obtain ⟨_, _⟩ := ra
  refine A_lload_n 0 d_JLong_compare_0 rfl rfl ?_
  refine A_lload_n 2 d_JLong_compare_1 rfl rfl ?_
  refine A_lcmpn d_JLong_compare_2 (fun x1 lx1 ex1 gx1 _ _ => ?_)
  refine A_if_ge (tgt := 10) d_JLong_compare_3 (by decide) (fun c2 => ?_) (fun c2 => ?_)
  · have mc2 : (a0 - a1) ≥ 0 := by omega
    refine A_lload_n 0 d_JLong_compare_10 rfl rfl ?_
    refine A_lload_n 2 d_JLong_compare_11 rfl rfl ?_
    refine A_lcmpn d_JLong_compare_12 (fun x3 lx3 ex3 gx3 _ _ => ?_)
    refine A_if_ne (tgt := 20) d_JLong_compare_13 (by decide) (fun c4 => ?_) (fun c4 => ?_)
    · have mc4 : (a0 - a1) ≠ 0 := by omega
      refine A_iconst d_JLong_compare_20 rfl ?_
      exact A_iret d_JLong_compare_21 (by decide) rfl ⟨_, rfl, ⟨by omega, by omega⟩, ⟨fun _ => by omega, fun _ => by omega, fun _ => by omega⟩, rfl⟩
    · have mc4 : (a0 - a1) = 0 := by omega
      refine A_iconst d_JLong_compare_16 rfl ?_
      refine A_goto (tgt := 21) d_JLong_compare_17 (by decide) ?_
      exact A_iret d_JLong_compare_21 (by decide) rfl ⟨_, rfl, ⟨by omega, by omega⟩, ⟨fun _ => by omega, fun _ => by omega, fun _ => by omega⟩, rfl⟩
  · have mc2 : (a0 - a1) < 0 := by omega
    refine A_iconst d_JLong_compare_6 rfl ?_
    refine A_goto (tgt := 21) d_JLong_compare_7 (by decide) ?_
    exact A_iret d_JLong_compare_21 (by decide) rfl ⟨_, rfl, ⟨by omega, by omega⟩, ⟨fun _ => by omega, fun _ => by omega, fun _ => by omega⟩, rfl⟩
theorem s_Voice_pitchesOf {G : cx_T} {s : Nat} {h : ah_T} (hx : xi s h) {a0 : Nat} {a1 : Int} (ha0 : isV a0) (la1 : 0 ≤ a1) (ua1 : a1 ≤ 299) : con G 0 0 0 m_Voice_pitchesOf [av_R (some a0), av_I a1] h (fun r h' => ∃ z, r = some (av_I z) ∧ ((-300) ≤ z ∧ z ≤ 300) ∧ h = h') := by
  refine con_of (L := [some (av_R (some a0)), some (av_I a1), none]) (by decide +kernel) (Nat.le_of_ble_eq_true rfl) rfl ?_
  have hS : isS s := hx.2.1
  have hs0 : s = 17 ∨ s = 80 := hS
  have ga0 := lt_V ha0
  refine A_aload_n 0 d_Voice_pitchesOf_0 rfl rfl ?_
  refine A_getAv (z := some (a0 + 7)) T_ok d_Voice_pitchesOf_1 f_Voice_31 (xs_V hx ha0) (xr_V_8 hx ha0) ?_
  refine A_iload_n 1 d_Voice_pitchesOf_4 rfl rfl ?_
  refine A_ialoadn (lo := 0) (hi := 299) d_Voice_pitchesOf_5 (xs_V_8 hx ha0) (by omega) (by omega) (xi_g hx (lt2_V ha0 (by decide)) (rg_V_8 ha0 _)) (fun x2 ex2 _ _ => ?_)
  refine A_istore_n 2 (L' := [some (av_R (some a0)), some (av_I a1), some (av_I x2)]) d_Voice_pitchesOf_6 rfl (Nat.le_of_ble_eq_true rfl) rfl ?_
  refine A_pc (pc' := 7) rfl ?_
  refine A_aload_n 0 d_Voice_pitchesOf_7 rfl rfl ?_
  refine A_getAv (z := some (a0 + 3)) T_ok d_Voice_pitchesOf_8 f_Voice_18 (xs_V hx ha0) (xr_V_3 hx ha0) ?_
  refine A_iload_n 2 d_Voice_pitchesOf_11 rfl rfl ?_
  refine A_iconst d_Voice_pitchesOf_12 rfl ?_
  refine A_iaddv (z := (x2 + 1)) d_Voice_pitchesOf_13 (w32_id (by unfold i32; omega)) ?_
  refine A_ialoadn (lo := 0) (hi := 300) d_Voice_pitchesOf_14 (xs_V_3 hx ha0) (by omega) (by omega) (xi_g hx (lt2_V ha0 (by decide)) (rg_V_3 ha0 _)) (fun x4 ex4 _ _ => ?_)
  refine A_pc (pc' := 15) rfl ?_
  refine A_aload_n 0 d_Voice_pitchesOf_15 rfl rfl ?_
  refine A_getAv (z := some (a0 + 3)) T_ok d_Voice_pitchesOf_16 f_Voice_18 (xs_V hx ha0) (xr_V_3 hx ha0) ?_
  refine A_iload_n 2 d_Voice_pitchesOf_19 rfl rfl ?_
  refine A_ialoadn (lo := 0) (hi := 300) d_Voice_pitchesOf_20 (xs_V_3 hx ha0) (by omega) (by omega) (xi_g hx (lt2_V ha0 (by decide)) (rg_V_3 ha0 _)) (fun x6 ex6 _ _ => ?_)
  refine A_isubv (z := (x4 - x6)) d_Voice_pitchesOf_21 (w32_id (by unfold i32; omega)) ?_
  exact A_iret d_Voice_pitchesOf_22 (by decide) rfl ⟨_, rfl, ⟨by omega, by omega⟩, rfl⟩
theorem s_Voice_isRest {G : cx_T} {s : Nat} {h : ah_T} (hx : xi s h) {a0 : Nat} {a1 : Int} (ha0 : isV a0) (la1 : 0 ≤ a1) (ua1 : a1 ≤ 299) : con G 1 0 0 m_Voice_isRest [av_R (some a0), av_I a1] h (fun r h' => ∃ z, r = some (av_I z) ∧ (z = 0 ∨ z = 1) ∧ h = h') := by
  refine con_of (L := [some (av_R (some a0)), some (av_I a1)]) (by decide +kernel) (Nat.le_of_ble_eq_true rfl) rfl ?_
  have hS : isS s := hx.2.1
  have hs0 : s = 17 ∨ s = 80 := hS
  have ga0 := lt_V ha0
  refine A_aload_n 0 d_Voice_isRest_0 rfl rfl ?_
  refine A_iload_n 1 d_Voice_isRest_1 rfl rfl ?_
  refine A_callV1 m_Voice_pitchesOf T_ok d_Voice_isRest_2 l_Voice_80 k_Voice_pitchesOf (xs_V hx ha0) rfl (by decide) (by decide) (Nat.le_of_ble_eq_true rfl) (s_Voice_pitchesOf hx ha0 (by omega) (by omega)) (fun r h1 hq => ?_)
  obtain ⟨x3, rfl, ⟨_, _⟩, rfl⟩ := hq
  refine A_if_ne (tgt := 12) d_Voice_isRest_5 (by decide) (fun c4 => ?_) (fun c4 => ?_)
  · refine A_iconst d_Voice_isRest_12 rfl ?_
    exact A_zret d_Voice_isRest_13 (by decide) rfl (by omega) ⟨_, rfl, by omega, rfl⟩
  · refine A_iconst d_Voice_isRest_8 rfl ?_
    refine A_goto (tgt := 13) d_Voice_isRest_9 (by decide) ?_
    exact A_zret d_Voice_isRest_13 (by decide) rfl (by omega) ⟨_, rfl, by omega, rfl⟩
theorem s_Voice_keyOf {G : cx_T} {s : Nat} {h : ah_T} (hx : xi s h) {a0 : Nat} {a1 : Int} {a2 : Int} (ha0 : isV a0) (la1 : 0 ≤ a1) (ua1 : a1 ≤ 299) : con G 0 0 0 m_Voice_keyOf [av_R (some a0), av_I a1, av_I a2] h (fun r h' => ∃ z, r = some (av_I z) ∧ ((-2147483648) ≤ z ∧ z ≤ 2147483647) ∧ h = h') := by
  refine con_of (L := [some (av_R (some a0)), some (av_I a1), some (av_I a2), none]) (by decide +kernel) (Nat.le_of_ble_eq_true rfl) rfl ?_
  have hS : isS s := hx.2.1
  have hs0 : s = 17 ∨ s = 80 := hS
  have ga0 := lt_V ha0
  refine A_locI 2 rfl (fun ra => ?_)
  obtain ⟨_, _⟩ := ra
  refine A_aload_n 0 d_Voice_keyOf_0 rfl rfl ?_
  refine A_getAv (z := some (a0 + 3)) T_ok d_Voice_keyOf_1 f_Voice_18 (xs_V hx ha0) (xr_V_3 hx ha0) ?_
  refine A_aload_n 0 d_Voice_keyOf_4 rfl rfl ?_
  refine A_getAv (z := some (a0 + 7)) T_ok d_Voice_keyOf_5 f_Voice_31 (xs_V hx ha0) (xr_V_8 hx ha0) ?_
  refine A_iload_n 1 d_Voice_keyOf_8 rfl rfl ?_
  refine A_pc (pc' := 9) rfl ?_
  refine A_ialoadn (lo := 0) (hi := 299) d_Voice_keyOf_9 (xs_V_8 hx ha0) (by omega) (by omega) (xi_g hx (lt2_V ha0 (by decide)) (rg_V_8 ha0 _)) (fun x3 ex3 _ _ => ?_)
  refine A_ialoadn (lo := 0) (hi := 300) d_Voice_keyOf_10 (xs_V_3 hx ha0) (by omega) (by omega) (xi_g hx (lt2_V ha0 (by decide)) (rg_V_3 ha0 _)) (fun x4 ex4 _ _ => ?_)
  refine A_iload_n 2 d_Voice_keyOf_11 rfl rfl ?_
  refine A_iaddw d_Voice_keyOf_12 (fun x5 _ _ _ => ?_)
  refine A_istore_n 3 (L' := [some (av_R (some a0)), some (av_I a1), some (av_I a2), some (av_I x5)]) d_Voice_keyOf_13 rfl (Nat.le_of_ble_eq_true rfl) rfl ?_
  refine A_iload_n 3 d_Voice_keyOf_14 rfl rfl ?_
  refine A_pc (pc' := 15) rfl ?_
  refine A_if_lt (tgt := 36) d_Voice_keyOf_15 (by decide) (fun c6 => ?_) (fun c6 => ?_)
  · refine A_iconst d_Voice_keyOf_36 rfl ?_
    exact A_iret d_Voice_keyOf_37 (by decide) rfl ⟨_, rfl, ⟨by omega, by omega⟩, rfl⟩
  · refine A_iload_n 3 d_Voice_keyOf_18 rfl rfl ?_
    refine A_aload_n 0 d_Voice_keyOf_19 rfl rfl ?_
    refine A_getAv (z := some (a0 + 1)) T_ok d_Voice_keyOf_20 f_Voice_9 (xs_V hx ha0) (xr_V_0 hx ha0) ?_
    refine A_alenN d_Voice_keyOf_23 (xs_V_0 hx ha0) (by decide) (by decide) ?_
    refine A_icmp_ge (tgt := 36) d_Voice_keyOf_24 (by decide) (fun c8 => ?_) (fun c8 => ?_)
    · refine A_iconst d_Voice_keyOf_36 rfl ?_
      exact A_iret d_Voice_keyOf_37 (by decide) rfl ⟨_, rfl, ⟨by omega, by omega⟩, rfl⟩
    · refine A_aload_n 0 d_Voice_keyOf_27 rfl rfl ?_
      refine A_getAv (z := some (a0 + 1)) T_ok d_Voice_keyOf_28 f_Voice_9 (xs_V hx ha0) (xr_V_0 hx ha0) ?_
      refine A_iload_n 3 d_Voice_keyOf_31 rfl rfl ?_
      refine A_ialoadf d_Voice_keyOf_32 (xs_V_0 hx ha0) (by omega) (by omega) (fun x10 ex10 _ _ => ?_)
      refine A_goto (tgt := 37) d_Voice_keyOf_33 (by decide) ?_
      exact A_iret d_Voice_keyOf_37 (by decide) rfl ⟨_, rfl, ⟨by omega, by omega⟩, rfl⟩
theorem s_Voice_stepOf {G : cx_T} {s : Nat} {h : ah_T} (hx : xi s h) {a0 : Nat} {a1 : Int} {a2 : Int} (ha0 : isV a0) (la1 : 0 ≤ a1) (ua1 : a1 ≤ 299) : con G 0 0 0 m_Voice_stepOf [av_R (some a0), av_I a1, av_I a2] h (fun r h' => ∃ z, r = some (av_I z) ∧ ((-2147483648) ≤ z ∧ z ≤ 2147483647) ∧ h = h') := by
  refine con_of (L := [some (av_R (some a0)), some (av_I a1), some (av_I a2), none]) (by decide +kernel) (Nat.le_of_ble_eq_true rfl) rfl ?_
  have hS : isS s := hx.2.1
  have hs0 : s = 17 ∨ s = 80 := hS
  have ga0 := lt_V ha0
  refine A_locI 2 rfl (fun ra => ?_)
  obtain ⟨_, _⟩ := ra
  refine A_aload_n 0 d_Voice_stepOf_0 rfl rfl ?_
  refine A_getAv (z := some (a0 + 3)) T_ok d_Voice_stepOf_1 f_Voice_18 (xs_V hx ha0) (xr_V_3 hx ha0) ?_
  refine A_aload_n 0 d_Voice_stepOf_4 rfl rfl ?_
  refine A_getAv (z := some (a0 + 7)) T_ok d_Voice_stepOf_5 f_Voice_31 (xs_V hx ha0) (xr_V_8 hx ha0) ?_
  refine A_iload_n 1 d_Voice_stepOf_8 rfl rfl ?_
  refine A_pc (pc' := 9) rfl ?_
  refine A_ialoadn (lo := 0) (hi := 299) d_Voice_stepOf_9 (xs_V_8 hx ha0) (by omega) (by omega) (xi_g hx (lt2_V ha0 (by decide)) (rg_V_8 ha0 _)) (fun x3 ex3 _ _ => ?_)
  refine A_ialoadn (lo := 0) (hi := 300) d_Voice_stepOf_10 (xs_V_3 hx ha0) (by omega) (by omega) (xi_g hx (lt2_V ha0 (by decide)) (rg_V_3 ha0 _)) (fun x4 ex4 _ _ => ?_)
  refine A_iload_n 2 d_Voice_stepOf_11 rfl rfl ?_
  refine A_iaddw d_Voice_stepOf_12 (fun x5 _ _ _ => ?_)
  refine A_istore_n 3 (L' := [some (av_R (some a0)), some (av_I a1), some (av_I a2), some (av_I x5)]) d_Voice_stepOf_13 rfl (Nat.le_of_ble_eq_true rfl) rfl ?_
  refine A_iload_n 3 d_Voice_stepOf_14 rfl rfl ?_
  refine A_pc (pc' := 15) rfl ?_
  refine A_if_lt (tgt := 36) d_Voice_stepOf_15 (by decide) (fun c6 => ?_) (fun c6 => ?_)
  · refine A_iconst d_Voice_stepOf_36 rfl ?_
    exact A_iret d_Voice_stepOf_37 (by decide) rfl ⟨_, rfl, ⟨by omega, by omega⟩, rfl⟩
  · refine A_iload_n 3 d_Voice_stepOf_18 rfl rfl ?_
    refine A_aload_n 0 d_Voice_stepOf_19 rfl rfl ?_
    refine A_getAv (z := some (a0 + 2)) T_ok d_Voice_stepOf_20 f_Voice_15 (xs_V hx ha0) (xr_V_1 hx ha0) ?_
    refine A_alenN d_Voice_stepOf_23 (xs_V_1 hx ha0) (by decide) (by decide) ?_
    refine A_icmp_ge (tgt := 36) d_Voice_stepOf_24 (by decide) (fun c8 => ?_) (fun c8 => ?_)
    · refine A_iconst d_Voice_stepOf_36 rfl ?_
      exact A_iret d_Voice_stepOf_37 (by decide) rfl ⟨_, rfl, ⟨by omega, by omega⟩, rfl⟩
    · refine A_aload_n 0 d_Voice_stepOf_27 rfl rfl ?_
      refine A_getAv (z := some (a0 + 2)) T_ok d_Voice_stepOf_28 f_Voice_15 (xs_V hx ha0) (xr_V_1 hx ha0) ?_
      refine A_iload_n 3 d_Voice_stepOf_31 rfl rfl ?_
      refine A_ialoadf d_Voice_stepOf_32 (xs_V_1 hx ha0) (by omega) (by omega) (fun x10 ex10 _ _ => ?_)
      refine A_goto (tgt := 37) d_Voice_stepOf_33 (by decide) ?_
      exact A_iret d_Voice_stepOf_37 (by decide) rfl ⟨_, rfl, ⟨by omega, by omega⟩, rfl⟩
theorem s_Voice_lowestKey {G : cx_T} {s : Nat} {h : ah_T} (hx : xi s h) {a0 : Nat} {a1 : Int} (ha0 : isV a0) (la1 : 0 ≤ a1) (ua1 : a1 ≤ 299) : con G 1 0 0 m_Voice_lowestKey [av_R (some a0), av_I a1] h (fun r h' => ∃ z, r = some (av_I z) ∧ ((-2147483648) ≤ z ∧ z ≤ 2147483647) ∧ h = h') := by
  refine con_of (L := [some (av_R (some a0)), some (av_I a1)]) (by decide +kernel) (Nat.le_of_ble_eq_true rfl) rfl ?_
  have hS : isS s := hx.2.1
  have hs0 : s = 17 ∨ s = 80 := hS
  have ga0 := lt_V ha0
  refine A_aload_n 0 d_Voice_lowestKey_0 rfl rfl ?_
  refine A_iload_n 1 d_Voice_lowestKey_1 rfl rfl ?_
  refine A_iconst d_Voice_lowestKey_2 rfl ?_
  refine A_callV2 m_Voice_keyOf T_ok d_Voice_lowestKey_3 l_Voice_91 k_Voice_keyOf (xs_V hx ha0) rfl (by decide) (by decide) (Nat.le_of_ble_eq_true rfl) (s_Voice_keyOf hx ha0 (by omega) (by omega)) (fun r h1 hq => ?_)
  obtain ⟨x3, rfl, ⟨_, _⟩, rfl⟩ := hq
  exact A_iret d_Voice_lowestKey_6 (by decide) rfl ⟨_, rfl, ⟨by omega, by omega⟩, rfl⟩
theorem s_Voice_highestKey {G : cx_T} {s : Nat} {h : ah_T} (hx : xi s h) {a0 : Nat} {a1 : Int} (ha0 : isV a0) (la1 : 0 ≤ a1) (ua1 : a1 ≤ 299) : con G 1 0 0 m_Voice_highestKey [av_R (some a0), av_I a1] h (fun r h' => ∃ z, r = some (av_I z) ∧ ((-2147483648) ≤ z ∧ z ≤ 2147483647) ∧ h = h') := by
  refine con_of (L := [some (av_R (some a0)), some (av_I a1)]) (by decide +kernel) (Nat.le_of_ble_eq_true rfl) rfl ?_
  have hS : isS s := hx.2.1
  have hs0 : s = 17 ∨ s = 80 := hS
  have ga0 := lt_V ha0
  refine A_aload_n 0 d_Voice_highestKey_0 rfl rfl ?_
  refine A_iload_n 1 d_Voice_highestKey_1 rfl rfl ?_
  refine A_aload_n 0 d_Voice_highestKey_2 rfl rfl ?_
  refine A_iload_n 1 d_Voice_highestKey_3 rfl rfl ?_
  refine A_callV1 m_Voice_pitchesOf T_ok d_Voice_highestKey_4 l_Voice_80 k_Voice_pitchesOf (xs_V hx ha0) rfl (by decide) (by decide) (Nat.le_of_ble_eq_true rfl) (s_Voice_pitchesOf hx ha0 (by omega) (by omega)) (fun r h1 hq => ?_)
  obtain ⟨x3, rfl, ⟨_, _⟩, rfl⟩ := hq
  refine A_iconst d_Voice_highestKey_7 rfl ?_
  refine A_isubv (z := (x3 - 1)) d_Voice_highestKey_8 (w32_id (by unfold i32; omega)) ?_
  refine A_callV2 m_Voice_keyOf T_ok d_Voice_highestKey_9 l_Voice_91 k_Voice_keyOf (xs_V hx ha0) rfl (by decide) (by decide) (Nat.le_of_ble_eq_true rfl) (s_Voice_keyOf hx ha0 (by omega) (by omega)) (fun r h4 hq => ?_)
  obtain ⟨x6, rfl, ⟨_, _⟩, rfl⟩ := hq
  exact A_iret d_Voice_highestKey_12 (by decide) rfl ⟨_, rfl, ⟨by omega, by omega⟩, rfl⟩
theorem s_Voice_hasKey {G : cx_T} {s : Nat} {h : ah_T} (hx : xi s h) {a0 : Nat} {a1 : Int} {a2 : Int} (ha0 : isV a0) (la1 : 0 ≤ a1) (ua1 : a1 ≤ 299) : con G 1 0 0 m_Voice_hasKey [av_R (some a0), av_I a1, av_I a2] h (fun r h' => ∃ z, r = some (av_I z) ∧ (z = 0 ∨ z = 1) ∧ h = h') := by
  refine con_of (L := [some (av_R (some a0)), some (av_I a1), some (av_I a2), none]) (by decide +kernel) (Nat.le_of_ble_eq_true rfl) rfl ?_
  have hS : isS s := hx.2.1
  have hs0 : s = 17 ∨ s = 80 := hS
  have ga0 := lt_V ha0
  refine A_locI 2 rfl (fun ra => ?_)
  obtain ⟨_, _⟩ := ra
  refine A_iconst d_Voice_hasKey_0 rfl ?_
  refine A_istore_n 3 (L' := [some (av_R (some a0)), some (av_I a1), some (av_I a2), some (av_I 0)]) d_Voice_hasKey_1 rfl (Nat.le_of_ble_eq_true rfl) rfl ?_
  have lp2 : ∀ (n : Nat) (i1 : Int) , 0 ≤ i1 → i1 ≤ 300 → (301 - i1).toNat < n → aw G (rm_R 1 0 0) m_Voice_hasKey 0 0 2 [some (av_R (some a0)), some (av_I a1), some (av_I a2), some (av_I i1)] [] h (fun r h' => ∃ z, r = some (av_I z) ∧ (z = 0 ∨ z = 1) ∧ h = h') := by
    intro n
    induction n with
    | zero => intro i1 _ _ hm; omega
    | succ n ih2 =>
      intro i1 hl0 hl1 hm
      refine A_iload_n 3 d_Voice_hasKey_2 rfl rfl ?_
      refine A_aload_n 0 d_Voice_hasKey_3 rfl rfl ?_
      refine A_iload_n 1 d_Voice_hasKey_4 rfl rfl ?_
      refine A_callV1 m_Voice_pitchesOf T_ok d_Voice_hasKey_5 l_Voice_80 k_Voice_pitchesOf (xs_V hx ha0) rfl (by decide) (by decide) (Nat.le_of_ble_eq_true rfl) (s_Voice_pitchesOf hx ha0 (by omega) (by omega)) (fun r h2 hq => ?_)
      obtain ⟨x4, rfl, ⟨_, _⟩, rfl⟩ := hq
      refine A_icmp_ge (tgt := 29) d_Voice_hasKey_8 (by decide) (fun c5 => ?_) (fun c5 => ?_)
      · refine A_iconst d_Voice_hasKey_29 rfl ?_
        exact A_zret d_Voice_hasKey_30 (by decide) rfl (by omega) ⟨_, rfl, by omega, rfl⟩
      · refine A_aload_n 0 d_Voice_hasKey_11 rfl rfl ?_
        refine A_iload_n 1 d_Voice_hasKey_12 rfl rfl ?_
        refine A_iload_n 3 d_Voice_hasKey_13 rfl rfl ?_
        refine A_callV2 m_Voice_keyOf T_ok d_Voice_hasKey_14 l_Voice_91 k_Voice_keyOf (xs_V hx ha0) rfl (by decide) (by decide) (Nat.le_of_ble_eq_true rfl) (s_Voice_keyOf hx ha0 (by omega) (by omega)) (fun r h6 hq => ?_)
        obtain ⟨x8, rfl, ⟨_, _⟩, rfl⟩ := hq
        refine A_iload_n 2 d_Voice_hasKey_17 rfl rfl ?_
        refine A_icmp_ne (tgt := 23) d_Voice_hasKey_18 (by decide) (fun c9 => ?_) (fun c9 => ?_)
        · refine A_iincv (z := (i1 + 1)) (L' := [some (av_R (some a0)), some (av_I a1), some (av_I a2), some (av_I (i1 + 1))]) d_Voice_hasKey_23 rfl (w32_id (by unfold i32; omega)) rfl ?_
          refine A_goto (tgt := 2) d_Voice_hasKey_26 (by decide) ?_
          exact ih2 (i1 + 1) (by omega) (by omega) (by omega)
        · refine A_iconst d_Voice_hasKey_21 rfl ?_
          exact A_zret d_Voice_hasKey_22 (by decide) rfl (by omega) ⟨_, rfl, by omega, rfl⟩
  exact lp2 _ 0 (by omega) (by omega) (Nat.lt_succ_self _)
theorem s_Voice_numberOf {G : cx_T} {s : Nat} {h : ah_T} (hx : xi s h) {a0 : Nat} {a1 : Int} (ha0 : isV a0) (la1 : 0 ≤ a1) (ua1 : a1 ≤ 299) : con G 0 0 0 m_Voice_numberOf [av_R (some a0), av_I a1] h (fun r h' => ∃ z, r = some (av_I z) ∧ ((-2147483648) ≤ z ∧ z ≤ 2147483647) ∧ h = h') := by
  refine con_of (L := [some (av_R (some a0)), some (av_I a1)]) (by decide +kernel) (Nat.le_of_ble_eq_true rfl) rfl ?_
  have hS : isS s := hx.2.1
  have hs0 : s = 17 ∨ s = 80 := hS
  have ga0 := lt_V ha0
  refine A_aload_n 0 d_Voice_numberOf_0 rfl rfl ?_
  refine A_getAv (z := some (a0 + 4)) T_ok d_Voice_numberOf_1 f_Voice_21 (xs_V hx ha0) (xr_V_4 hx ha0) ?_
  refine A_aload_n 0 d_Voice_numberOf_4 rfl rfl ?_
  refine A_getAv (z := some (a0 + 7)) T_ok d_Voice_numberOf_5 f_Voice_31 (xs_V hx ha0) (xr_V_8 hx ha0) ?_
  refine A_iload_n 1 d_Voice_numberOf_8 rfl rfl ?_
  refine A_pc (pc' := 9) rfl ?_
  refine A_ialoadn (lo := 0) (hi := 299) d_Voice_numberOf_9 (xs_V_8 hx ha0) (by omega) (by omega) (xi_g hx (lt2_V ha0 (by decide)) (rg_V_8 ha0 _)) (fun x3 ex3 _ _ => ?_)
  refine A_ialoadf d_Voice_numberOf_10 (xs_V_4 hx ha0) (by omega) (by omega) (fun x4 ex4 _ _ => ?_)
  exact A_iret d_Voice_numberOf_11 (by decide) rfl ⟨_, rfl, ⟨by omega, by omega⟩, rfl⟩
theorem s_Voice_isTied {G : cx_T} {s : Nat} {h : ah_T} (hx : xi s h) {a0 : Nat} {a1 : Int} (ha0 : isV a0) (la1 : 0 ≤ a1) (ua1 : a1 ≤ 299) : con G 0 0 0 m_Voice_isTied [av_R (some a0), av_I a1] h (fun r h' => ∃ z, r = some (av_I z) ∧ (z = 0 ∨ z = 1) ∧ h = h') := by
  refine con_of (L := [some (av_R (some a0)), some (av_I a1)]) (by decide +kernel) (Nat.le_of_ble_eq_true rfl) rfl ?_
  have hS : isS s := hx.2.1
  have hs0 : s = 17 ∨ s = 80 := hS
  have ga0 := lt_V ha0
  refine A_aload_n 0 d_Voice_isTied_0 rfl rfl ?_
  refine A_getAv (z := some (a0 + 6)) T_ok d_Voice_isTied_1 f_Voice_27 (xs_V hx ha0) (xr_V_6 hx ha0) ?_
  refine A_aload_n 0 d_Voice_isTied_4 rfl rfl ?_
  refine A_getAv (z := some (a0 + 7)) T_ok d_Voice_isTied_5 f_Voice_31 (xs_V hx ha0) (xr_V_8 hx ha0) ?_
  refine A_iload_n 1 d_Voice_isTied_8 rfl rfl ?_
  refine A_pc (pc' := 9) rfl ?_
  refine A_ialoadn (lo := 0) (hi := 299) d_Voice_isTied_9 (xs_V_8 hx ha0) (by omega) (by omega) (xi_g hx (lt2_V ha0 (by decide)) (rg_V_8 ha0 _)) (fun x3 ex3 _ _ => ?_)
  refine A_zaloadn d_Voice_isTied_10 (xs_V_6 hx ha0) (by omega) (by omega) (fun x4 ex4 bx4 => ?_)
  exact A_zret d_Voice_isTied_11 (by decide) rfl (by omega) ⟨_, rfl, by omega, rfl⟩
theorem s_Voice_isShort {G : cx_T} {s : Nat} {h : ah_T} (hx : xi s h) {a0 : Nat} {a1 : Int} (ha0 : isV a0) (la1 : 0 ≤ a1) (ua1 : a1 ≤ 299) : con G 2 0 0 m_Voice_isShort [av_R (some a0), av_I a1] h (fun r h' => ∃ z, r = some (av_I z) ∧ (z = 0 ∨ z = 1) ∧ h = h') := by
  refine con_of (L := [some (av_R (some a0)), some (av_I a1)]) (by decide +kernel) (Nat.le_of_ble_eq_true rfl) rfl ?_
  have hS : isS s := hx.2.1
  have hs0 : s = 17 ∨ s = 80 := hS
  have ga0 := lt_V ha0
  refine A_aload_n 0 d_Voice_isShort_0 rfl rfl ?_
  refine A_iload_n 1 d_Voice_isShort_1 rfl rfl ?_
  refine A_callV1 m_Voice_isRest T_ok d_Voice_isShort_2 l_Voice_95 k_Voice_isRest (xs_V hx ha0) rfl (by decide) (by decide) (Nat.le_of_ble_eq_true rfl) (s_Voice_isRest hx ha0 (by omega) (by omega)) (fun r h1 hq => ?_)
  obtain ⟨x3, rfl, bx3, rfl⟩ := hq
  refine A_if_ne (tgt := 22) d_Voice_isShort_5 (by decide) (fun c4 => ?_) (fun c4 => ?_)
  · refine A_iconst d_Voice_isShort_22 rfl ?_
    exact A_zret d_Voice_isShort_23 (by decide) rfl (by omega) ⟨_, rfl, by omega, rfl⟩
  · refine A_aload_n 0 d_Voice_isShort_8 rfl rfl ?_
    refine A_iload_n 1 d_Voice_isShort_9 rfl rfl ?_
    refine A_callV1 m_Voice_numberOf T_ok d_Voice_isShort_10 l_Voice_88 k_Voice_numberOf (xs_V hx ha0) rfl (by decide) (by decide) (Nat.le_of_ble_eq_true rfl) (s_Voice_numberOf hx ha0 (by omega) (by omega)) (fun r h5 hq => ?_)
    obtain ⟨x7, rfl, ⟨_, _⟩, rfl⟩ := hq
    refine A_bipush d_Voice_isShort_13 rfl ?_
    refine A_icmp_lt (tgt := 22) d_Voice_isShort_15 (by decide) (fun c8 => ?_) (fun c8 => ?_)
    · refine A_iconst d_Voice_isShort_22 rfl ?_
      exact A_zret d_Voice_isShort_23 (by decide) rfl (by omega) ⟨_, rfl, by omega, rfl⟩
    · refine A_iconst d_Voice_isShort_18 rfl ?_
      refine A_goto (tgt := 23) d_Voice_isShort_19 (by decide) ?_
      exact A_zret d_Voice_isShort_23 (by decide) rfl (by omega) ⟨_, rfl, by omega, rfl⟩
theorem s_Voice_isReached {G : cx_T} {s : Nat} {h : ah_T} (hx : xi s h) {a0 : Nat} {a1 : Int} {a2 : Int} {a3 : Int} (ha0 : isV a0) (la1 : 0 ≤ a1) (ua1 : a1 ≤ 300) : con G 0 0 0 m_Voice_isReached [av_R (some a0), av_I a1, av_L a2, av_L a3] h (fun r h' => ∃ z, r = some (av_I z) ∧ (z = 0 ∨ z = 1) ∧ h = h') := by
  refine con_of (L := [some (av_R (some a0)), some (av_I a1), some (av_L a2), none, some (av_L a3), none]) (by decide +kernel) (Nat.le_of_ble_eq_true rfl) rfl ?_
  have hS : isS s := hx.2.1
  have hs0 : s = 17 ∨ s = 80 := hS
  have ga0 := lt_V ha0
  refine A_locL 2 rfl (fun ra => ?_)
  obtain ⟨_, _⟩ := ra
  refine A_locL 4 rfl (fun ra => ?_)
  obtain ⟨_, _⟩ := ra
  refine A_lload_n 2 d_Voice_isReached_0 rfl rfl ?_
  refine A_aload_n 0 d_Voice_isReached_1 rfl rfl ?_
  refine A_getAv (z := some (a0 + 10)) T_ok d_Voice_isReached_2 f_Voice_41 (xs_V hx ha0) (xr_V_11 hx ha0) ?_
  refine A_iload_n 1 d_Voice_isReached_5 rfl rfl ?_
  refine A_laloadf d_Voice_isReached_6 (xs_V_11 hx ha0) (by omega) (by omega) (fun x2 ex2 _ _ => ?_)
  refine A_pc (pc' := 7) rfl ?_
  refine A_lmulw d_Voice_isReached_7 (fun x3 _ _ _ => ?_)
  refine A_ldc2 (z := 2) d_Voice_isReached_8 cst_Voice_66 rfl ?_
  refine A_aload_n 0 d_Voice_isReached_11 rfl rfl ?_
  refine A_getAv (z := some (a0 + 9)) T_ok d_Voice_isReached_12 f_Voice_37 (xs_V hx ha0) (xr_V_10 hx ha0) ?_
  refine A_iload_n 1 d_Voice_isReached_15 rfl rfl ?_
  refine A_laloadf d_Voice_isReached_16 (xs_V_10 hx ha0) (by omega) (by omega) (fun x5 ex5 _ _ => ?_)
  refine A_pc (pc' := 17) rfl ?_
  refine A_lmulw d_Voice_isReached_17 (fun x6 _ _ _ => ?_)
  refine A_lload d_Voice_isReached_18 rfl ?_
  refine A_lmulw d_Voice_isReached_20 (fun x7 _ _ _ => ?_)
  refine A_lcmpn d_Voice_isReached_21 (fun x8 lx8 ex8 gx8 _ _ => ?_)
  refine A_if_lt (tgt := 29) d_Voice_isReached_22 (by decide) (fun c9 => ?_) (fun c9 => ?_)
  · have mc9 : (x3 - x7) < 0 := by omega
    refine A_iconst d_Voice_isReached_29 rfl ?_
    exact A_zret d_Voice_isReached_30 (by decide) rfl (by omega) ⟨_, rfl, by omega, rfl⟩
  · have mc9 : (x3 - x7) ≥ 0 := by omega
    refine A_iconst d_Voice_isReached_25 rfl ?_
    refine A_goto (tgt := 30) d_Voice_isReached_26 (by decide) ?_
    exact A_zret d_Voice_isReached_30 (by decide) rfl (by omega) ⟨_, rfl, by omega, rfl⟩
theorem s_Voice_sinceBarTop {G : cx_T} {s : Nat} {h : ah_T} (hx : xi s h) {a0 : Nat} {a1 : Int} {a2 : Int} (ha0 : isV a0) (la1 : 0 ≤ a1) (ua1 : a1 ≤ 101) (la2 : 0 ≤ a2) (ua2 : a2 ≤ 300) : con G 0 0 0 m_Voice_sinceBarTop [av_R (some a0), av_I a1, av_I a2] h (fun r h' => ∃ z, r = some (av_L z) ∧ ((-9223372036854775808) ≤ z ∧ z ≤ 9223372036854775807) ∧ h = h') := by
  refine con_of (L := [some (av_R (some a0)), some (av_I a1), some (av_I a2), none]) (by decide +kernel) (Nat.le_of_ble_eq_true rfl) rfl ?_
  have hS : isS s := hx.2.1
  have hs0 : s = 17 ∨ s = 80 := hS
  have ga0 := lt_V ha0
  refine A_aload_n 0 d_Voice_sinceBarTop_0 rfl rfl ?_
  refine A_getAv (z := some (a0 + 13)) T_ok d_Voice_sinceBarTop_1 f_Voice_50 (xs_V hx ha0) (xr_V_15 hx ha0) ?_
  refine A_iload_n 1 d_Voice_sinceBarTop_4 rfl rfl ?_
  refine A_ialoadn (lo := 0) (hi := 300) d_Voice_sinceBarTop_5 (xs_V_15 hx ha0) (by omega) (by omega) (xi_g hx (lt2_V ha0 (by decide)) (rg_V_15 ha0 _)) (fun x2 ex2 _ _ => ?_)
  refine A_istore_n 3 (L' := [some (av_R (some a0)), some (av_I a1), some (av_I a2), some (av_I x2)]) d_Voice_sinceBarTop_6 rfl (Nat.le_of_ble_eq_true rfl) rfl ?_
  refine A_pc (pc' := 7) rfl ?_
  refine A_aload_n 0 d_Voice_sinceBarTop_7 rfl rfl ?_
  refine A_getAv (z := some (a0 + 9)) T_ok d_Voice_sinceBarTop_8 f_Voice_37 (xs_V hx ha0) (xr_V_10 hx ha0) ?_
  refine A_iload_n 2 d_Voice_sinceBarTop_11 rfl rfl ?_
  refine A_laloadf d_Voice_sinceBarTop_12 (xs_V_10 hx ha0) (by omega) (by omega) (fun x4 ex4 _ _ => ?_)
  refine A_aload_n 0 d_Voice_sinceBarTop_13 rfl rfl ?_
  refine A_getAv (z := some (a0 + 10)) T_ok d_Voice_sinceBarTop_14 f_Voice_41 (xs_V hx ha0) (xr_V_11 hx ha0) ?_
  refine A_pc (pc' := 17) rfl ?_
  refine A_iload_n 3 d_Voice_sinceBarTop_17 rfl rfl ?_
  refine A_laloadf d_Voice_sinceBarTop_18 (xs_V_11 hx ha0) (by omega) (by omega) (fun x6 ex6 _ _ => ?_)
  refine A_lmulw d_Voice_sinceBarTop_19 (fun x7 _ _ _ => ?_)
  refine A_aload_n 0 d_Voice_sinceBarTop_20 rfl rfl ?_
  refine A_getAv (z := some (a0 + 9)) T_ok d_Voice_sinceBarTop_21 f_Voice_37 (xs_V hx ha0) (xr_V_10 hx ha0) ?_
  refine A_iload_n 3 d_Voice_sinceBarTop_24 rfl rfl ?_
  refine A_pc (pc' := 25) rfl ?_
  refine A_laloadf d_Voice_sinceBarTop_25 (xs_V_10 hx ha0) (by omega) (by omega) (fun x9 ex9 _ _ => ?_)
  refine A_aload_n 0 d_Voice_sinceBarTop_26 rfl rfl ?_
  refine A_getAv (z := some (a0 + 10)) T_ok d_Voice_sinceBarTop_27 f_Voice_41 (xs_V hx ha0) (xr_V_11 hx ha0) ?_
  refine A_iload_n 2 d_Voice_sinceBarTop_30 rfl rfl ?_
  refine A_laloadf d_Voice_sinceBarTop_31 (xs_V_11 hx ha0) (by omega) (by omega) (fun x11 ex11 _ _ => ?_)
  refine A_lmulw d_Voice_sinceBarTop_32 (fun x12 _ _ _ => ?_)
  refine A_pc (pc' := 33) rfl ?_
  refine A_lsubw d_Voice_sinceBarTop_33 (fun x13 _ _ _ => ?_)
  exact A_lret d_Voice_sinceBarTop_34 (by decide) rfl ⟨_, rfl, ⟨by omega, by omega⟩, rfl⟩
theorem s_Voice_sinceBarBottom {G : cx_T} {s : Nat} {h : ah_T} (hx : xi s h) {a0 : Nat} {a1 : Int} {a2 : Int} (ha0 : isV a0) (la1 : 0 ≤ a1) (ua1 : a1 ≤ 101) (la2 : 0 ≤ a2) (ua2 : a2 ≤ 300) : con G 0 0 0 m_Voice_sinceBarBottom [av_R (some a0), av_I a1, av_I a2] h (fun r h' => ∃ z, r = some (av_L z) ∧ ((-9223372036854775808) ≤ z ∧ z ≤ 9223372036854775807) ∧ h = h') := by
  refine con_of (L := [some (av_R (some a0)), some (av_I a1), some (av_I a2)]) (by decide +kernel) (Nat.le_of_ble_eq_true rfl) rfl ?_
  have hS : isS s := hx.2.1
  have hs0 : s = 17 ∨ s = 80 := hS
  have ga0 := lt_V ha0
  refine A_aload_n 0 d_Voice_sinceBarBottom_0 rfl rfl ?_
  refine A_getAv (z := some (a0 + 10)) T_ok d_Voice_sinceBarBottom_1 f_Voice_41 (xs_V hx ha0) (xr_V_11 hx ha0) ?_
  refine A_iload_n 2 d_Voice_sinceBarBottom_4 rfl rfl ?_
  refine A_laloadf d_Voice_sinceBarBottom_5 (xs_V_11 hx ha0) (by omega) (by omega) (fun x2 ex2 _ _ => ?_)
  refine A_aload_n 0 d_Voice_sinceBarBottom_6 rfl rfl ?_
  refine A_pc (pc' := 7) rfl ?_
  refine A_getAv (z := some (a0 + 10)) T_ok d_Voice_sinceBarBottom_7 f_Voice_41 (xs_V hx ha0) (xr_V_11 hx ha0) ?_
  refine A_aload_n 0 d_Voice_sinceBarBottom_10 rfl rfl ?_
  refine A_getAv (z := some (a0 + 13)) T_ok d_Voice_sinceBarBottom_11 f_Voice_50 (xs_V hx ha0) (xr_V_15 hx ha0) ?_
  refine A_iload_n 1 d_Voice_sinceBarBottom_14 rfl rfl ?_
  refine A_ialoadn (lo := 0) (hi := 300) d_Voice_sinceBarBottom_15 (xs_V_15 hx ha0) (by omega) (by omega) (xi_g hx (lt2_V ha0 (by decide)) (rg_V_15 ha0 _)) (fun x5 ex5 _ _ => ?_)
  refine A_laloadf d_Voice_sinceBarBottom_16 (xs_V_11 hx ha0) (by omega) (by omega) (fun x6 ex6 _ _ => ?_)
  refine A_pc (pc' := 17) rfl ?_
  refine A_lmulw d_Voice_sinceBarBottom_17 (fun x7 _ _ _ => ?_)
  exact A_lret d_Voice_sinceBarBottom_18 (by decide) rfl ⟨_, rfl, ⟨by omega, by omega⟩, rfl⟩
theorem s_Voice_compareBar {G : cx_T} {s : Nat} {h : ah_T} (hx : xi s h) {a0 : Nat} {a1 : Int} {a2 : Int} {a3 : Int} (ha0 : isV a0) (la1 : 0 ≤ a1) (ua1 : a1 ≤ 100) : con G 1 0 0 m_Voice_compareBar [av_R (some a0), av_I a1, av_I a2, av_I a3] h (fun r h' => ∃ z, r = some (av_I z) ∧ ((-1) ≤ z ∧ z ≤ 1) ∧ h = h') := by
  refine con_of (L := [some (av_R (some a0)), some (av_I a1), some (av_I a2), some (av_I a3), none]) (by decide +kernel) (Nat.le_of_ble_eq_true rfl) rfl ?_
  have hS : isS s := hx.2.1
  have hs0 : s = 17 ∨ s = 80 := hS
  have ga0 := lt_V ha0
  refine A_locI 2 rfl (fun ra => ?_)
  obtain ⟨_, _⟩ := ra
  refine A_locI 3 rfl (fun ra => ?_)
  obtain ⟨_, _⟩ := ra
  refine A_aload_n 0 d_Voice_compareBar_0 rfl rfl ?_
  refine A_getAv (z := some (a0 + 13)) T_ok d_Voice_compareBar_1 f_Voice_50 (xs_V hx ha0) (xr_V_15 hx ha0) ?_
  refine A_iload_n 1 d_Voice_compareBar_4 rfl rfl ?_
  refine A_iconst d_Voice_compareBar_5 rfl ?_
  refine A_iaddv (z := (a1 + 1)) d_Voice_compareBar_6 (w32_id (by unfold i32; omega)) ?_
  refine A_pc (pc' := 7) rfl ?_
  refine A_ialoadn (lo := 0) (hi := 300) d_Voice_compareBar_7 (xs_V_15 hx ha0) (by omega) (by omega) (xi_g hx (lt2_V ha0 (by decide)) (rg_V_15 ha0 _)) (fun x2 ex2 _ _ => ?_)
  refine A_istore (L' := [some (av_R (some a0)), some (av_I a1), some (av_I a2), some (av_I a3), some (av_I x2)]) d_Voice_compareBar_8 (Nat.le_of_ble_eq_true rfl) rfl ?_
  refine A_aload_n 0 d_Voice_compareBar_10 rfl rfl ?_
  refine A_iload_n 1 d_Voice_compareBar_11 rfl rfl ?_
  refine A_iload d_Voice_compareBar_12 rfl ?_
  refine A_callV2 m_Voice_sinceBarTop T_ok d_Voice_compareBar_14 l_Voice_115 k_Voice_sinceBarTop (xs_V hx ha0) rfl (by decide) (by decide) (Nat.le_of_ble_eq_true rfl) (s_Voice_sinceBarTop hx ha0 (by omega) (by omega) (by omega) (by omega)) (fun r h3 hq => ?_)
  obtain ⟨x5, rfl, ⟨_, _⟩, rfl⟩ := hq
  refine A_iload_n 3 d_Voice_compareBar_17 rfl rfl ?_
  refine A_i2l d_Voice_compareBar_18 ?_
  refine A_lmulw d_Voice_compareBar_19 (fun x6 _ _ _ => ?_)
  refine A_aload_n 0 d_Voice_compareBar_20 rfl rfl ?_
  refine A_iload_n 1 d_Voice_compareBar_21 rfl rfl ?_
  refine A_pc (pc' := 22) rfl ?_
  refine A_iload d_Voice_compareBar_22 rfl ?_
  refine A_callV2 m_Voice_sinceBarBottom T_ok d_Voice_compareBar_24 l_Voice_119 k_Voice_sinceBarBottom (xs_V hx ha0) rfl (by decide) (by decide) (Nat.le_of_ble_eq_true rfl) (s_Voice_sinceBarBottom hx ha0 (by omega) (by omega) (by omega) (by omega)) (fun r h7 hq => ?_)
  obtain ⟨x9, rfl, ⟨_, _⟩, rfl⟩ := hq
  refine A_iload_n 2 d_Voice_compareBar_27 rfl rfl ?_
  refine A_i2l d_Voice_compareBar_28 ?_
  refine A_lmulw d_Voice_compareBar_29 (fun x10 _ _ _ => ?_)
  refine A_callS2 m_JLong_compare d_Voice_compareBar_30 l_Voice_122 k_JLong_compare (by decide) (by decide) (Nat.le_of_ble_eq_true rfl) (s_JLong_compare  ) (fun r h11 hq => ?_)
  obtain ⟨x13, rfl, ⟨_, _⟩, xx13, rfl⟩ := hq
  exact A_iret d_Voice_compareBar_33 (by decide) rfl ⟨_, rfl, ⟨by omega, by omega⟩, rfl⟩
theorem s_Voice_timeOf {G : cx_T} {s : Nat} {h : ah_T} (hx : xi s h) {a0 : Nat} {a1 : Int} {a2 : Int} (ha0 : isV a0) (la1 : 0 ≤ a1) (ua1 : a1 ≤ 299) : con G 0 0 0 m_Voice_timeOf [av_R (some a0), av_I a1, av_I a2] h (fun r h' => ∃ z, r = some (av_L z) ∧ ((-9223372036854775808) ≤ z ∧ z ≤ 9223372036854775807) ∧ h = h') := by
  refine con_of (L := [some (av_R (some a0)), some (av_I a1), some (av_I a2)]) (by decide +kernel) (Nat.le_of_ble_eq_true rfl) rfl ?_
  have hS : isS s := hx.2.1
  have hs0 : s = 17 ∨ s = 80 := hS
  have ga0 := lt_V ha0
  refine A_locI 2 rfl (fun ra => ?_)
  obtain ⟨_, _⟩ := ra
  refine A_iload_n 2 d_Voice_timeOf_0 rfl rfl ?_
  rcases (by omega : a2 < 0 ∨ a2 = 0 ∨ a2 = 1 ∨ a2 = 2 ∨ 2 < a2) with c1 | c1 | c1 | c1 | c1
  · refine A_tabOut (tgt := 49) d_Voice_timeOf_1 (by omega) (by decide) ?_
    refine A_aload_n 0 d_Voice_timeOf_49 rfl rfl ?_
    refine A_getAv (z := some (a0 + 12)) T_ok d_Voice_timeOf_50 f_Voice_47 (xs_V hx ha0) (xr_V_13 hx ha0) ?_
    refine A_iload_n 1 d_Voice_timeOf_53 rfl rfl ?_
    refine A_laloadf d_Voice_timeOf_54 (xs_V_13 hx ha0) (by omega) (by omega) (fun x3 ex3 _ _ => ?_)
    exact A_lret d_Voice_timeOf_55 (by decide) rfl ⟨_, rfl, ⟨by omega, by omega⟩, rfl⟩
  · refine A_tabIn (tgt := 28) d_Voice_timeOf_1 (by omega) (by omega) (by rw [c1]; rfl) (by decide) ?_
    refine A_aload_n 0 d_Voice_timeOf_28 rfl rfl ?_
    refine A_getAv (z := some (a0 + 9)) T_ok d_Voice_timeOf_29 f_Voice_37 (xs_V hx ha0) (xr_V_10 hx ha0) ?_
    refine A_iload_n 1 d_Voice_timeOf_32 rfl rfl ?_
    refine A_laloadf d_Voice_timeOf_33 (xs_V_10 hx ha0) (by omega) (by omega) (fun x5 ex5 _ _ => ?_)
    exact A_lret d_Voice_timeOf_34 (by decide) rfl ⟨_, rfl, ⟨by omega, by omega⟩, rfl⟩
  · refine A_tabIn (tgt := 35) d_Voice_timeOf_1 (by omega) (by omega) (by rw [c1]; rfl) (by decide) ?_
    refine A_aload_n 0 d_Voice_timeOf_35 rfl rfl ?_
    refine A_getAv (z := some (a0 + 10)) T_ok d_Voice_timeOf_36 f_Voice_41 (xs_V hx ha0) (xr_V_11 hx ha0) ?_
    refine A_iload_n 1 d_Voice_timeOf_39 rfl rfl ?_
    refine A_laloadf d_Voice_timeOf_40 (xs_V_11 hx ha0) (by omega) (by omega) (fun x7 ex7 _ _ => ?_)
    exact A_lret d_Voice_timeOf_41 (by decide) rfl ⟨_, rfl, ⟨by omega, by omega⟩, rfl⟩
  · refine A_tabIn (tgt := 42) d_Voice_timeOf_1 (by omega) (by omega) (by rw [c1]; rfl) (by decide) ?_
    refine A_aload_n 0 d_Voice_timeOf_42 rfl rfl ?_
    refine A_getAv (z := some (a0 + 11)) T_ok d_Voice_timeOf_43 f_Voice_44 (xs_V hx ha0) (xr_V_12 hx ha0) ?_
    refine A_iload_n 1 d_Voice_timeOf_46 rfl rfl ?_
    refine A_laloadf d_Voice_timeOf_47 (xs_V_12 hx ha0) (by omega) (by omega) (fun x9 ex9 _ _ => ?_)
    exact A_lret d_Voice_timeOf_48 (by decide) rfl ⟨_, rfl, ⟨by omega, by omega⟩, rfl⟩
  · refine A_tabOut (tgt := 49) d_Voice_timeOf_1 (by omega) (by decide) ?_
    refine A_aload_n 0 d_Voice_timeOf_49 rfl rfl ?_
    refine A_getAv (z := some (a0 + 12)) T_ok d_Voice_timeOf_50 f_Voice_47 (xs_V hx ha0) (xr_V_13 hx ha0) ?_
    refine A_iload_n 1 d_Voice_timeOf_53 rfl rfl ?_
    refine A_laloadf d_Voice_timeOf_54 (xs_V_13 hx ha0) (by omega) (by omega) (fun x11 ex11 _ _ => ?_)
    exact A_lret d_Voice_timeOf_55 (by decide) rfl ⟨_, rfl, ⟨by omega, by omega⟩, rfl⟩
theorem s_Voice_writingOf {G : cx_T} {s : Nat} {h : ah_T} (hx : xi s h) {a0 : Nat} {a1 : Int} {a2 : Int} (ha0 : isV a0) (la1 : 0 ≤ a1) (ua1 : a1 ≤ 299) : con G 1 0 0 m_Voice_writingOf [av_R (some a0), av_I a1, av_I a2] h (fun r h' => ∃ z, r = some (av_I z) ∧ ((-2147483648) ≤ z ∧ z ≤ 2147483647) ∧ h = h') := by
  refine con_of (L := [some (av_R (some a0)), some (av_I a1), some (av_I a2)]) (by decide +kernel) (Nat.le_of_ble_eq_true rfl) rfl ?_
  have hS : isS s := hx.2.1
  have hs0 : s = 17 ∨ s = 80 := hS
  have ga0 := lt_V ha0
  refine A_locI 2 rfl (fun ra => ?_)
  obtain ⟨_, _⟩ := ra
  refine A_iload_n 2 d_Voice_writingOf_0 rfl rfl ?_
  rcases (by omega : a2 < 4 ∨ a2 = 4 ∨ a2 = 5 ∨ a2 = 6 ∨ a2 = 7 ∨ 7 < a2) with c1 | c1 | c1 | c1 | c1 | c1
  · refine A_tabOut (tgt := 65) d_Voice_writingOf_1 (by omega) (by decide) ?_
    refine A_aload_n 0 d_Voice_writingOf_65 rfl rfl ?_
    refine A_getAv (z := some (a0 + 5)) T_ok d_Voice_writingOf_66 f_Voice_24 (xs_V hx ha0) (xr_V_5 hx ha0) ?_
    refine A_aload_n 0 d_Voice_writingOf_69 rfl rfl ?_
    refine A_getAv (z := some (a0 + 7)) T_ok d_Voice_writingOf_70 f_Voice_31 (xs_V hx ha0) (xr_V_8 hx ha0) ?_
    refine A_iload_n 1 d_Voice_writingOf_73 rfl rfl ?_
    refine A_pc (pc' := 74) rfl ?_
    refine A_ialoadn (lo := 0) (hi := 299) d_Voice_writingOf_74 (xs_V_8 hx ha0) (by omega) (by omega) (xi_g hx (lt2_V ha0 (by decide)) (rg_V_8 ha0 _)) (fun x4 ex4 _ _ => ?_)
    refine A_ialoadf d_Voice_writingOf_75 (xs_V_5 hx ha0) (by omega) (by omega) (fun x5 ex5 _ _ => ?_)
    exact A_iret d_Voice_writingOf_76 (by decide) rfl ⟨_, rfl, ⟨by omega, by omega⟩, rfl⟩
  · refine A_tabIn (tgt := 32) d_Voice_writingOf_1 (by omega) (by omega) (by rw [c1]; rfl) (by decide) ?_
    refine A_aload_n 0 d_Voice_writingOf_32 rfl rfl ?_
    refine A_iload_n 1 d_Voice_writingOf_33 rfl rfl ?_
    refine A_callV1 m_Voice_pitchesOf T_ok d_Voice_writingOf_34 l_Voice_80 k_Voice_pitchesOf (xs_V hx ha0) rfl (by decide) (by decide) (Nat.le_of_ble_eq_true rfl) (s_Voice_pitchesOf hx ha0 (by omega) (by omega)) (fun r h6 hq => ?_)
    obtain ⟨x8, rfl, ⟨_, _⟩, rfl⟩ := hq
    exact A_iret d_Voice_writingOf_37 (by decide) rfl ⟨_, rfl, ⟨by omega, by omega⟩, rfl⟩
  · refine A_tabIn (tgt := 38) d_Voice_writingOf_1 (by omega) (by omega) (by rw [c1]; rfl) (by decide) ?_
    refine A_aload_n 0 d_Voice_writingOf_38 rfl rfl ?_
    refine A_iload_n 1 d_Voice_writingOf_39 rfl rfl ?_
    refine A_callV1 m_Voice_isTied T_ok d_Voice_writingOf_40 l_Voice_84 k_Voice_isTied (xs_V hx ha0) rfl (by decide) (by decide) (Nat.le_of_ble_eq_true rfl) (s_Voice_isTied hx ha0 (by omega) (by omega)) (fun r h9 hq => ?_)
    obtain ⟨x11, rfl, bx11, rfl⟩ := hq
    refine A_if_eq (tgt := 50) d_Voice_writingOf_43 (by decide) (fun c12 => ?_) (fun c12 => ?_)
    · refine A_iconst d_Voice_writingOf_50 rfl ?_
      exact A_iret d_Voice_writingOf_51 (by decide) rfl ⟨_, rfl, ⟨by omega, by omega⟩, rfl⟩
    · refine A_iconst d_Voice_writingOf_46 rfl ?_
      refine A_goto (tgt := 51) d_Voice_writingOf_47 (by decide) ?_
      exact A_iret d_Voice_writingOf_51 (by decide) rfl ⟨_, rfl, ⟨by omega, by omega⟩, rfl⟩
  · refine A_tabIn (tgt := 52) d_Voice_writingOf_1 (by omega) (by omega) (by rw [c1]; rfl) (by decide) ?_
    refine A_aload_n 0 d_Voice_writingOf_52 rfl rfl ?_
    refine A_getAv (z := some (a0 + 8)) T_ok d_Voice_writingOf_53 f_Voice_34 (xs_V hx ha0) (xr_V_9 hx ha0) ?_
    refine A_iload_n 1 d_Voice_writingOf_56 rfl rfl ?_
    refine A_ialoadf d_Voice_writingOf_57 (xs_V_9 hx ha0) (by omega) (by omega) (fun x14 ex14 _ _ => ?_)
    exact A_iret d_Voice_writingOf_58 (by decide) rfl ⟨_, rfl, ⟨by omega, by omega⟩, rfl⟩
  · refine A_tabIn (tgt := 59) d_Voice_writingOf_1 (by omega) (by omega) (by rw [c1]; rfl) (by decide) ?_
    refine A_aload_n 0 d_Voice_writingOf_59 rfl rfl ?_
    refine A_iload_n 1 d_Voice_writingOf_60 rfl rfl ?_
    refine A_callV1 m_Voice_numberOf T_ok d_Voice_writingOf_61 l_Voice_88 k_Voice_numberOf (xs_V hx ha0) rfl (by decide) (by decide) (Nat.le_of_ble_eq_true rfl) (s_Voice_numberOf hx ha0 (by omega) (by omega)) (fun r h15 hq => ?_)
    obtain ⟨x17, rfl, ⟨_, _⟩, rfl⟩ := hq
    exact A_iret d_Voice_writingOf_64 (by decide) rfl ⟨_, rfl, ⟨by omega, by omega⟩, rfl⟩
  · refine A_tabOut (tgt := 65) d_Voice_writingOf_1 (by omega) (by decide) ?_
    refine A_aload_n 0 d_Voice_writingOf_65 rfl rfl ?_
    refine A_getAv (z := some (a0 + 5)) T_ok d_Voice_writingOf_66 f_Voice_24 (xs_V hx ha0) (xr_V_5 hx ha0) ?_
    refine A_aload_n 0 d_Voice_writingOf_69 rfl rfl ?_
    refine A_getAv (z := some (a0 + 7)) T_ok d_Voice_writingOf_70 f_Voice_31 (xs_V hx ha0) (xr_V_8 hx ha0) ?_
    refine A_iload_n 1 d_Voice_writingOf_73 rfl rfl ?_
    refine A_pc (pc' := 74) rfl ?_
    refine A_ialoadn (lo := 0) (hi := 299) d_Voice_writingOf_74 (xs_V_8 hx ha0) (by omega) (by omega) (xi_g hx (lt2_V ha0 (by decide)) (rg_V_8 ha0 _)) (fun x20 ex20 _ _ => ?_)
    refine A_ialoadf d_Voice_writingOf_75 (xs_V_5 hx ha0) (by omega) (by omega) (fun x21 ex21 _ _ => ?_)
    exact A_iret d_Voice_writingOf_76 (by decide) rfl ⟨_, rfl, ⟨by omega, by omega⟩, rfl⟩
theorem s_Voice_clear {G : cx_T} {s : Nat} {h : ah_T} (hx : xi s h) {a0 : Nat} (ta0 : tV s a0) : con G 0 0 0 m_Voice_clear [av_R (some a0)] h (fun r h' => r = none ∧ kF (FB s) s h h') := by
  refine con_of (L := [some (av_R (some a0))]) (by decide +kernel) (Nat.le_of_ble_eq_true rfl) rfl ?_
  have hS : isS s := hx.2.1
  have hs0 : s = 17 ∨ s = 80 := hS
  have k0 : kF (FB s) s h h := kF_0 hx
  have ga0 : a0 = s + 7 ∨ a0 = s + 21 ∨ a0 = s + 35 ∨ a0 = s + 49 := ta0
  refine A_aload_n 0 d_Voice_clear_0 rfl rfl ?_
  refine A_iconst d_Voice_clear_1 rfl ?_
  refine A_putIk (KR := kF (FB s) s h) T_ok d_Voice_clear_2 f_Voice_53 (xs_V k0.1 (tV_V hS ta0)) fin_f (kF_j k0 (by omega) (rg_V_2 (tV_V hS ta0)) (by omega) (by omega)) (fun h1 k2 eh1 => ?_)
  refine A_aload_n 0 d_Voice_clear_5 rfl rfl ?_
  refine A_iconst d_Voice_clear_6 rfl ?_
  refine A_pc (pc' := 7) rfl ?_
  refine A_putIk (KR := kF (FB s) s h) T_ok d_Voice_clear_7 f_Voice_57 (xs_V k2.1 (tV_V hS ta0)) fin_f (kF_j k2 (by omega) (rg_V_7 (tV_V hS ta0)) (by omega) (by omega)) (fun h3 k4 eh3 => ?_)
  refine A_aload_n 0 d_Voice_clear_10 rfl rfl ?_
  refine A_getAv (z := some (a0 + 3)) T_ok d_Voice_clear_11 f_Voice_18 (xs_V k4.1 (tV_V hS ta0)) (xr_V_3 k4.1 (tV_V hS ta0)) ?_
  refine A_iconst d_Voice_clear_14 rfl ?_
  refine A_iconst d_Voice_clear_15 rfl ?_
  refine A_iastorek (KR := kF (FB s) s h) d_Voice_clear_16 (xs_V_3 k4.1 (tV_V hS ta0)) (by decide) (by decide) (kF_j k4 (by omega) (rg_V_3 (tV_V hS ta0) _) (by omega) (by omega)) (fun h6 k7 eh6 => ?_)
  refine A_pc (pc' := 17) rfl ?_
  exact A_vret d_Voice_clear_17 (by decide) rfl ⟨rfl, k7⟩
theorem s_Voice_addPitch {G : cx_T} {s : Nat} {h : ah_T} (hx : xi s h) {a0 : Nat} {a1 : Int} {a2 : Int} (ta0 : tV s a0) : con G 0 0 0 m_Voice_addPitch [av_R (some a0), av_I a1, av_I a2] h (fun r h' => r = none ∧ kF (FB s) s h h') := by
  refine con_of (L := [some (av_R (some a0)), some (av_I a1), some (av_I a2)]) (by decide +kernel) (Nat.le_of_ble_eq_true rfl) rfl ?_
  have hS : isS s := hx.2.1
  have hs0 : s = 17 ∨ s = 80 := hS
  have k0 : kF (FB s) s h h := kF_0 hx
  have ga0 : a0 = s + 7 ∨ a0 = s + 21 ∨ a0 = s + 35 ∨ a0 = s + 49 := ta0
  refine A_locI 1 rfl (fun ra => ?_)
  obtain ⟨_, _⟩ := ra
  refine A_locI 2 rfl (fun ra => ?_)
  obtain ⟨_, _⟩ := ra
  refine A_aload_n 0 d_Voice_addPitch_0 rfl rfl ?_
  refine A_getIn (lo := 0) (hi := 300) T_ok d_Voice_addPitch_1 f_Voice_53 (xs_V k0.1 (tV_V hS ta0)) (xi_g k0.1 (lt1_V (tV_V hS ta0)) (rg_V_2 (tV_V hS ta0))) (fun x1 ex1 _ _ => ?_)
  refine A_aload_n 0 d_Voice_addPitch_4 rfl rfl ?_
  refine A_getAv (z := some (a0 + 1)) T_ok d_Voice_addPitch_5 f_Voice_9 (xs_V k0.1 (tV_V hS ta0)) (xr_V_0 k0.1 (tV_V hS ta0)) ?_
  refine A_alenN d_Voice_addPitch_8 (xs_V_0 k0.1 (tV_V hS ta0)) (by decide) (by decide) ?_
  refine A_pc (pc' := 9) rfl ?_
  refine A_icmp_ge (tgt := 42) d_Voice_addPitch_9 (by decide) (fun c3 => ?_) (fun c3 => ?_)
  · exact A_vret d_Voice_addPitch_42 (by decide) rfl ⟨rfl, k0⟩
  · refine A_aload_n 0 d_Voice_addPitch_12 rfl rfl ?_
    refine A_getAv (z := some (a0 + 1)) T_ok d_Voice_addPitch_13 f_Voice_9 (xs_V k0.1 (tV_V hS ta0)) (xr_V_0 k0.1 (tV_V hS ta0)) ?_
    refine A_aload_n 0 d_Voice_addPitch_16 rfl rfl ?_
    refine A_getIv (z := x1) T_ok d_Voice_addPitch_17 f_Voice_53 (xs_V k0.1 (tV_V hS ta0)) ex1.symm ?_
    refine A_iload_n 1 d_Voice_addPitch_20 rfl rfl ?_
    refine A_pc (pc' := 21) rfl ?_
    refine A_iastorek (KR := kF (FB s) s h) d_Voice_addPitch_21 (xs_V_0 k0.1 (tV_V hS ta0)) (by omega) (by omega) (kF_j k0 (by omega) (rg_V_0 (tV_V hS ta0) _) (by omega) (by omega)) (fun h6 k7 eh6 => ?_)
    refine A_aload_n 0 d_Voice_addPitch_22 rfl rfl ?_
    refine A_getAv (z := some (a0 + 2)) T_ok d_Voice_addPitch_23 f_Voice_15 (xs_V k7.1 (tV_V hS ta0)) (xr_V_1 k7.1 (tV_V hS ta0)) ?_
    refine A_aload_n 0 d_Voice_addPitch_26 rfl rfl ?_
    refine A_getIv (z := x1) T_ok d_Voice_addPitch_27 f_Voice_53 (xs_V k7.1 (tV_V hS ta0)) ((eh6.1 _ _ (fun q => by omega)).trans ex1.symm) ?_
    refine A_iload_n 2 d_Voice_addPitch_30 rfl rfl ?_
    refine A_pc (pc' := 31) rfl ?_
    refine A_iastorek (KR := kF (FB s) s h) d_Voice_addPitch_31 (xs_V_1 k7.1 (tV_V hS ta0)) (by omega) (by omega) (kF_j k7 (by omega) (rg_V_1 (tV_V hS ta0) _) (by omega) (by omega)) (fun h10 k11 eh10 => ?_)
    refine A_aload_n 0 d_Voice_addPitch_32 rfl rfl ?_
    refine A_dupR d_Voice_addPitch_33 ?_
    refine A_getIv (z := x1) T_ok d_Voice_addPitch_34 f_Voice_53 (xs_V k11.1 (tV_V hS ta0)) ((eh10.1 _ _ (fun q => by omega)).trans ((eh6.1 _ _ (fun q => by omega)).trans ex1.symm)) ?_
    refine A_iconst d_Voice_addPitch_37 rfl ?_
    refine A_iaddv (z := (x1 + 1)) d_Voice_addPitch_38 (w32_id (by unfold i32; omega)) ?_
    refine A_pc (pc' := 39) rfl ?_
    refine A_putIk (KR := kF (FB s) s h) T_ok d_Voice_addPitch_39 f_Voice_53 (xs_V k11.1 (tV_V hS ta0)) fin_f (kF_j k11 (by omega) (rg_V_2 (tV_V hS ta0)) (by omega) (by omega)) (fun h13 k14 eh13 => ?_)
    exact A_vret d_Voice_addPitch_42 (by decide) rfl ⟨rfl, k14⟩
theorem s_Voice_endSound {G : cx_T} {s : Nat} {h : ah_T} (hx : xi s h) {a0 : Nat} {a1 : Int} {a2 : Int} {a3 : Int} (ta0 : tV s a0) (ba3 : a3 = 0 ∨ a3 = 1) : con G 0 0 0 m_Voice_endSound [av_R (some a0), av_I a1, av_I a2, av_I a3] h (fun r h' => ∃ z, r = some (av_I z) ∧ ((-1) ≤ z ∧ z ≤ 299) ∧ kF (FB s) s h h') := by
  refine con_of (L := [some (av_R (some a0)), some (av_I a1), some (av_I a2), some (av_I a3)]) (by decide +kernel) (Nat.le_of_ble_eq_true rfl) rfl ?_
  have hS : isS s := hx.2.1
  have hs0 : s = 17 ∨ s = 80 := hS
  have k0 : kF (FB s) s h h := kF_0 hx
  have ga0 : a0 = s + 7 ∨ a0 = s + 21 ∨ a0 = s + 35 ∨ a0 = s + 49 := ta0
  refine A_locI 1 rfl (fun ra => ?_)
  obtain ⟨_, _⟩ := ra
  refine A_locI 2 rfl (fun ra => ?_)
  obtain ⟨_, _⟩ := ra
  refine A_aload_n 0 d_Voice_endSound_0 rfl rfl ?_
  refine A_getIn (lo := 0) (hi := 300) T_ok d_Voice_endSound_1 f_Voice_57 (xs_V k0.1 (tV_V hS ta0)) (xi_g k0.1 (lt1_V (tV_V hS ta0)) (rg_V_7 (tV_V hS ta0))) (fun x1 ex1 _ _ => ?_)
  refine A_aload_n 0 d_Voice_endSound_4 rfl rfl ?_
  refine A_getAv (z := some (a0 + 4)) T_ok d_Voice_endSound_5 f_Voice_21 (xs_V k0.1 (tV_V hS ta0)) (xr_V_4 k0.1 (tV_V hS ta0)) ?_
  refine A_alenN d_Voice_endSound_8 (xs_V_4 k0.1 (tV_V hS ta0)) (by decide) (by decide) ?_
  refine A_pc (pc' := 9) rfl ?_
  refine A_icmp_lt (tgt := 14) d_Voice_endSound_9 (by decide) (fun c3 => ?_) (fun c3 => ?_)
  · refine A_aload_n 0 d_Voice_endSound_14 rfl rfl ?_
    refine A_getAv (z := some (a0 + 4)) T_ok d_Voice_endSound_15 f_Voice_21 (xs_V k0.1 (tV_V hS ta0)) (xr_V_4 k0.1 (tV_V hS ta0)) ?_
    refine A_aload_n 0 d_Voice_endSound_18 rfl rfl ?_
    refine A_getIv (z := x1) T_ok d_Voice_endSound_19 f_Voice_57 (xs_V k0.1 (tV_V hS ta0)) ex1.symm ?_
    refine A_iload_n 1 d_Voice_endSound_22 rfl rfl ?_
    refine A_pc (pc' := 23) rfl ?_
    refine A_iastorek (KR := kF (FB s) s h) d_Voice_endSound_23 (xs_V_4 k0.1 (tV_V hS ta0)) (by omega) (by omega) (kF_j k0 (by omega) (rg_V_4 (tV_V hS ta0) _) (by omega) (by omega)) (fun h6 k7 eh6 => ?_)
    refine A_aload_n 0 d_Voice_endSound_24 rfl rfl ?_
    refine A_getAv (z := some (a0 + 5)) T_ok d_Voice_endSound_25 f_Voice_24 (xs_V k7.1 (tV_V hS ta0)) (xr_V_5 k7.1 (tV_V hS ta0)) ?_
    refine A_aload_n 0 d_Voice_endSound_28 rfl rfl ?_
    refine A_getIv (z := x1) T_ok d_Voice_endSound_29 f_Voice_57 (xs_V k7.1 (tV_V hS ta0)) ((eh6.1 _ _ (fun q => by omega)).trans ex1.symm) ?_
    refine A_iload_n 2 d_Voice_endSound_32 rfl rfl ?_
    refine A_pc (pc' := 33) rfl ?_
    refine A_iastorek (KR := kF (FB s) s h) d_Voice_endSound_33 (xs_V_5 k7.1 (tV_V hS ta0)) (by omega) (by omega) (kF_j k7 (by omega) (rg_V_5 (tV_V hS ta0) _) (by omega) (by omega)) (fun h10 k11 eh10 => ?_)
    refine A_aload_n 0 d_Voice_endSound_34 rfl rfl ?_
    refine A_getAv (z := some (a0 + 6)) T_ok d_Voice_endSound_35 f_Voice_27 (xs_V k11.1 (tV_V hS ta0)) (xr_V_6 k11.1 (tV_V hS ta0)) ?_
    refine A_aload_n 0 d_Voice_endSound_38 rfl rfl ?_
    refine A_getIv (z := x1) T_ok d_Voice_endSound_39 f_Voice_57 (xs_V k11.1 (tV_V hS ta0)) ((eh10.1 _ _ (fun q => by omega)).trans ((eh6.1 _ _ (fun q => by omega)).trans ex1.symm)) ?_
    refine A_iload_n 3 d_Voice_endSound_42 rfl rfl ?_
    refine A_pc (pc' := 43) rfl ?_
    refine A_zastorek (KR := kF (FB s) s h) d_Voice_endSound_43 (xs_V_6 k11.1 (tV_V hS ta0)) (by omega) (by omega) (by omega) (kF_j k11 (by omega) (rg_V_6 (tV_V hS ta0) _) (by omega) (by omega)) (fun h14 k15 eh14 => ?_)
    refine A_aload_n 0 d_Voice_endSound_44 rfl rfl ?_
    refine A_dupR d_Voice_endSound_45 ?_
    refine A_getIv (z := x1) T_ok d_Voice_endSound_46 f_Voice_57 (xs_V k15.1 (tV_V hS ta0)) ((eh14.1 _ _ (fun q => by omega)).trans ((eh10.1 _ _ (fun q => by omega)).trans ((eh6.1 _ _ (fun q => by omega)).trans ex1.symm))) ?_
    refine A_iconst d_Voice_endSound_49 rfl ?_
    refine A_iaddv (z := (x1 + 1)) d_Voice_endSound_50 (w32_id (by unfold i32; omega)) ?_
    refine A_pc (pc' := 51) rfl ?_
    refine A_putIk (KR := kF (FB s) s h) T_ok d_Voice_endSound_51 f_Voice_57 (xs_V k15.1 (tV_V hS ta0)) fin_f (kF_j k15 (by omega) (rg_V_7 (tV_V hS ta0)) (by omega) (by omega)) (fun h17 k18 eh17 => ?_)
    refine A_aload_n 0 d_Voice_endSound_54 rfl rfl ?_
    refine A_getAv (z := some (a0 + 3)) T_ok d_Voice_endSound_55 f_Voice_18 (xs_V k18.1 (tV_V hS ta0)) (xr_V_3 k18.1 (tV_V hS ta0)) ?_
    refine A_aload_n 0 d_Voice_endSound_58 rfl rfl ?_
    refine A_getIv (z := (x1 + 1)) T_ok d_Voice_endSound_59 f_Voice_57 (xs_V k18.1 (tV_V hS ta0)) eh17.2 ?_
    refine A_aload_n 0 d_Voice_endSound_62 rfl rfl ?_
    refine A_pc (pc' := 63) rfl ?_
    refine A_getIn (lo := 0) (hi := 300) T_ok d_Voice_endSound_63 f_Voice_53 (xs_V k18.1 (tV_V hS ta0)) (xi_g k18.1 (lt1_V (tV_V hS ta0)) (rg_V_2 (tV_V hS ta0))) (fun x21 ex21 _ _ => ?_)
    refine A_iastorek (KR := kF (FB s) s h) d_Voice_endSound_66 (xs_V_3 k18.1 (tV_V hS ta0)) (by omega) (by omega) (kF_j k18 (by omega) (rg_V_3 (tV_V hS ta0) _) (by omega) (by omega)) (fun h22 k23 eh22 => ?_)
    refine A_aload_n 0 d_Voice_endSound_67 rfl rfl ?_
    refine A_getIv (z := (x1 + 1)) T_ok d_Voice_endSound_68 f_Voice_57 (xs_V k23.1 (tV_V hS ta0)) ((eh22.1 _ _ (fun q => by omega)).trans eh17.2) ?_
    refine A_iconst d_Voice_endSound_71 rfl ?_
    refine A_isubv (z := x1) d_Voice_endSound_72 (w32_id (by unfold i32; omega)) ?_
    refine A_pc (pc' := 73) rfl ?_
    exact A_iret d_Voice_endSound_73 (by decide) rfl ⟨_, rfl, ⟨by omega, by omega⟩, k23⟩
  · refine A_iconst d_Voice_endSound_12 rfl ?_
    exact A_iret d_Voice_endSound_13 (by decide) rfl ⟨_, rfl, ⟨by omega, by omega⟩, k0⟩
theorem s_Voice_beginWalk {G : cx_T} {s : Nat} {h : ah_T} (hx : xi s h) {a0 : Nat} (ta0 : tV s a0) : con G 0 0 0 m_Voice_beginWalk [av_R (some a0)] h (fun r h' => r = none ∧ kF (FB s) s h h') := by
  refine con_of (L := [some (av_R (some a0))]) (by decide +kernel) (Nat.le_of_ble_eq_true rfl) rfl ?_
  have hS : isS s := hx.2.1
  have hs0 : s = 17 ∨ s = 80 := hS
  have k0 : kF (FB s) s h h := kF_0 hx
  have ga0 : a0 = s + 7 ∨ a0 = s + 21 ∨ a0 = s + 35 ∨ a0 = s + 49 := ta0
  refine A_aload_n 0 d_Voice_beginWalk_0 rfl rfl ?_
  refine A_iconst d_Voice_beginWalk_1 rfl ?_
  refine A_putIk (KR := kF (FB s) s h) T_ok d_Voice_beginWalk_2 f_Voice_60 (xs_V k0.1 (tV_V hS ta0)) fin_f (kF_j k0 (by omega) (rg_V_14 (tV_V hS ta0)) (by omega) (by omega)) (fun h1 k2 eh1 => ?_)
  refine A_aload_n 0 d_Voice_beginWalk_5 rfl rfl ?_
  refine A_getAv (z := some (a0 + 9)) T_ok d_Voice_beginWalk_6 f_Voice_37 (xs_V k2.1 (tV_V hS ta0)) (xr_V_10 k2.1 (tV_V hS ta0)) ?_
  refine A_pc (pc' := 9) rfl ?_
  refine A_iconst d_Voice_beginWalk_9 rfl ?_
  refine A_lconst_0 d_Voice_beginWalk_10 ?_
  refine A_lastorek (KR := kF (FB s) s h) d_Voice_beginWalk_11 (xs_V_10 k2.1 (tV_V hS ta0)) (by decide) (by decide) (kF_l k2 (by omega)) (fun h4 k5 eh4 => ?_)
  refine A_aload_n 0 d_Voice_beginWalk_12 rfl rfl ?_
  refine A_getAv (z := some (a0 + 10)) T_ok d_Voice_beginWalk_13 f_Voice_41 (xs_V k5.1 (tV_V hS ta0)) (xr_V_11 k5.1 (tV_V hS ta0)) ?_
  refine A_iconst d_Voice_beginWalk_16 rfl ?_
  refine A_pc (pc' := 17) rfl ?_
  refine A_lconst_1 d_Voice_beginWalk_17 ?_
  refine A_lastorek (KR := kF (FB s) s h) d_Voice_beginWalk_18 (xs_V_11 k5.1 (tV_V hS ta0)) (by decide) (by decide) (kF_l k5 (by omega)) (fun h7 k8 eh7 => ?_)
  refine A_aload_n 0 d_Voice_beginWalk_19 rfl rfl ?_
  refine A_getAv (z := some (a0 + 13)) T_ok d_Voice_beginWalk_20 f_Voice_50 (xs_V k8.1 (tV_V hS ta0)) (xr_V_15 k8.1 (tV_V hS ta0)) ?_
  refine A_iconst d_Voice_beginWalk_23 rfl ?_
  refine A_iconst d_Voice_beginWalk_24 rfl ?_
  refine A_pc (pc' := 25) rfl ?_
  refine A_iastorek (KR := kF (FB s) s h) d_Voice_beginWalk_25 (xs_V_15 k8.1 (tV_V hS ta0)) (by decide) (by decide) (kF_j k8 (by omega) (rg_V_15 (tV_V hS ta0) _) (by omega) (by omega)) (fun h10 k11 eh10 => ?_)
  refine A_aload_n 0 d_Voice_beginWalk_26 rfl rfl ?_
  refine A_iconst d_Voice_beginWalk_27 rfl ?_
  refine A_putIk (KR := kF (FB s) s h) T_ok d_Voice_beginWalk_28 f_Voice_63 (xs_V k11.1 (tV_V hS ta0)) fin_f (kF_j k11 (by omega) (rg_V_16 (tV_V hS ta0)) (by omega) (by omega)) (fun h12 k13 eh12 => ?_)
  exact A_vret d_Voice_beginWalk_31 (by decide) rfl ⟨rfl, k13⟩
theorem s_Voice_endWalk {G : cx_T} {s : Nat} {h : ah_T} (hx : xi s h) {a0 : Nat} (ta0 : tV s a0) : con G 0 0 0 m_Voice_endWalk [av_R (some a0)] h (fun r h' => r = none ∧ kF (FB s) s h h') := by
  refine con_of (L := [some (av_R (some a0))]) (by decide +kernel) (Nat.le_of_ble_eq_true rfl) rfl ?_
  have hS : isS s := hx.2.1
  have hs0 : s = 17 ∨ s = 80 := hS
  have k0 : kF (FB s) s h h := kF_0 hx
  have ga0 : a0 = s + 7 ∨ a0 = s + 21 ∨ a0 = s + 35 ∨ a0 = s + 49 := ta0
  refine A_aload_n 0 d_Voice_endWalk_0 rfl rfl ?_
  refine A_getIn (lo := 0) (hi := 101) T_ok d_Voice_endWalk_1 f_Voice_63 (xs_V k0.1 (tV_V hS ta0)) (xi_g k0.1 (lt1_V (tV_V hS ta0)) (rg_V_16 (tV_V hS ta0))) (fun x1 ex1 _ _ => ?_)
  refine A_aload_n 0 d_Voice_endWalk_4 rfl rfl ?_
  refine A_getAv (z := some (a0 + 13)) T_ok d_Voice_endWalk_5 f_Voice_50 (xs_V k0.1 (tV_V hS ta0)) (xr_V_15 k0.1 (tV_V hS ta0)) ?_
  refine A_alenN d_Voice_endWalk_8 (xs_V_15 k0.1 (tV_V hS ta0)) (by decide) (by decide) ?_
  refine A_pc (pc' := 9) rfl ?_
  refine A_icmp_ge (tgt := 25) d_Voice_endWalk_9 (by decide) (fun c => False.elim (by omega)) (fun c3 => ?_)
  refine A_aload_n 0 d_Voice_endWalk_12 rfl rfl ?_
  refine A_getAv (z := some (a0 + 13)) T_ok d_Voice_endWalk_13 f_Voice_50 (xs_V k0.1 (tV_V hS ta0)) (xr_V_15 k0.1 (tV_V hS ta0)) ?_
  refine A_aload_n 0 d_Voice_endWalk_16 rfl rfl ?_
  refine A_getIv (z := x1) T_ok d_Voice_endWalk_17 f_Voice_63 (xs_V k0.1 (tV_V hS ta0)) ex1.symm ?_
  refine A_aload_n 0 d_Voice_endWalk_20 rfl rfl ?_
  refine A_pc (pc' := 21) rfl ?_
  refine A_getIn (lo := 0) (hi := 300) T_ok d_Voice_endWalk_21 f_Voice_60 (xs_V k0.1 (tV_V hS ta0)) (xi_g k0.1 (lt1_V (tV_V hS ta0)) (rg_V_14 (tV_V hS ta0))) (fun x6 ex6 _ _ => ?_)
  refine A_iastorek (KR := kF (FB s) s h) d_Voice_endWalk_24 (xs_V_15 k0.1 (tV_V hS ta0)) (by omega) (by omega) (kF_j k0 (by omega) (rg_V_15 (tV_V hS ta0) _) (by omega) (by omega)) (fun h7 k8 eh7 => ?_)
  exact A_vret d_Voice_endWalk_25 (by decide) rfl ⟨rfl, k8⟩
