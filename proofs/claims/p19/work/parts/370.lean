/-! ===== the reference's methods, 370 ===== -/
def m_MD_byRule : mr_T := (⟨"PlainMusicModel", "byRule", "(IIII)J"⟩, prog_14_method_84_code, 5, some .long)
theorem d_MD_byRule_0 : decode prog_14_method_84_code 0 = .ok (.aload_n 0, 1) := by decide +kernel
theorem d_MD_byRule_1 : decode prog_14_method_84_code 1 = .ok (.getfield 41, 3) := by decide +kernel
theorem d_MD_byRule_4 : decode prog_14_method_84_code 4 = .ok (.iload_n 1, 1) := by decide +kernel
theorem d_MD_byRule_5 : decode prog_14_method_84_code 5 = .ok (.iaload, 1) := by decide +kernel
theorem d_MD_byRule_6 : decode prog_14_method_84_code 6 = .ok (.ifCond .ge 29, 3) := by decide +kernel
theorem d_MD_byRule_35 : decode prog_14_method_84_code 35 = .ok (.aload_n 0, 1) := by decide +kernel
theorem d_MD_byRule_36 : decode prog_14_method_84_code 36 = .ok (.aload_n 0, 1) := by decide +kernel
theorem d_MD_byRule_37 : decode prog_14_method_84_code 37 = .ok (.getfield 196, 3) := by decide +kernel
theorem rfm_99 : (99, 231) ∈ mf_L := by decide +kernel
theorem d_MD_byRule_40 : decode prog_14_method_84_code 40 = .ok (.aload_n 0, 1) := by decide +kernel
theorem d_MD_byRule_41 : decode prog_14_method_84_code 41 = .ok (.aload_n 0, 1) := by decide +kernel
theorem d_MD_byRule_42 : decode prog_14_method_84_code 42 = .ok (.getfield 38, 3) := by decide +kernel
theorem d_MD_byRule_45 : decode prog_14_method_84_code 45 = .ok (.iload_n 1, 1) := by decide +kernel
theorem d_MD_byRule_46 : decode prog_14_method_84_code 46 = .ok (.iaload, 1) := by decide +kernel
theorem d_MD_byRule_47 : decode prog_14_method_84_code 47 = .ok (.iload_n 2, 1) := by decide +kernel
theorem d_MD_byRule_48 : decode prog_14_method_84_code 48 = .ok (.iload 4, 2) := by decide +kernel
theorem d_MD_byRule_50 : decode prog_14_method_84_code 50 = .ok (.invokevirtual 583, 3) := by decide +kernel
theorem k_MD_treeAt : mt_OK m_MD_treeAt 3 1 := ⟨gwi_2159, gwi_146, ⟨by decide +kernel, by decide +kernel, by decide +kernel⟩, fun h => absurd h (by decide), fun _ => ⟨gwi_2158, gwi_124⟩, fun h => absurd h (by decide)⟩
theorem l_MD_583 : ml_OK "PlainMusicModel" 583 ⟨"PlainMusicModel", "treeAt", "(III)I"⟩ := Or.inl gwi_2156
theorem d_MD_byRule_53 : decode prog_14_method_84_code 53 = .ok (.laload, 1) := by decide +kernel
theorem sf_231 : sh_L[231]? = some (1, 2704) := by decide +kernel
theorem mq_231 (k : Nat) : mq 231 k = (0, 1000001) := rfl
theorem d_MD_byRule_54 : decode prog_14_method_84_code 54 = .ok (.aload_n 0, 1) := by decide +kernel
theorem d_MD_byRule_55 : decode prog_14_method_84_code 55 = .ok (.getfield 196, 3) := by decide +kernel
theorem d_MD_byRule_58 : decode prog_14_method_84_code 58 = .ok (.aload_n 0, 1) := by decide +kernel
theorem d_MD_byRule_59 : decode prog_14_method_84_code 59 = .ok (.aload_n 0, 1) := by decide +kernel
theorem d_MD_byRule_60 : decode prog_14_method_84_code 60 = .ok (.getfield 41, 3) := by decide +kernel
theorem d_MD_byRule_63 : decode prog_14_method_84_code 63 = .ok (.iload_n 1, 1) := by decide +kernel
theorem d_MD_byRule_64 : decode prog_14_method_84_code 64 = .ok (.iaload, 1) := by decide +kernel
theorem d_MD_byRule_65 : decode prog_14_method_84_code 65 = .ok (.iload_n 2, 1) := by decide +kernel
theorem d_MD_byRule_66 : decode prog_14_method_84_code 66 = .ok (.iload 4, 2) := by decide +kernel
theorem d_MD_byRule_68 : decode prog_14_method_84_code 68 = .ok (.iadd, 1) := by decide +kernel
theorem d_MD_byRule_69 : decode prog_14_method_84_code 69 = .ok (.iload_n 3, 1) := by decide +kernel
theorem d_MD_byRule_70 : decode prog_14_method_84_code 70 = .ok (.iload 4, 2) := by decide +kernel
theorem d_MD_byRule_72 : decode prog_14_method_84_code 72 = .ok (.isub, 1) := by decide +kernel
theorem d_MD_byRule_73 : decode prog_14_method_84_code 73 = .ok (.invokevirtual 583, 3) := by decide +kernel
theorem d_MD_byRule_76 : decode prog_14_method_84_code 76 = .ok (.laload, 1) := by decide +kernel
theorem d_MD_byRule_77 : decode prog_14_method_84_code 77 = .ok (.lmul, 1) := by decide +kernel
theorem d_MD_byRule_78 : decode prog_14_method_84_code 78 = .ok (.invokevirtual 587, 3) := by decide +kernel
theorem k_MD_capped : mt_OK m_MD_capped 1 1 := ⟨gwi_2163, gwi_146, ⟨by decide +kernel, by decide +kernel, by decide +kernel⟩, fun h => absurd h (by decide), fun _ => ⟨gwi_2162, gwi_125⟩, fun h => absurd h (by decide)⟩
theorem l_MD_587 : ml_OK "PlainMusicModel" 587 ⟨"PlainMusicModel", "capped", "(J)J"⟩ := Or.inl gwi_2160
theorem d_MD_byRule_81 : decode prog_14_method_84_code 81 = .ok (.lreturn, 1) := by decide +kernel
theorem d_MD_byRule_9 : decode prog_14_method_84_code 9 = .ok (.iload_n 3, 1) := by decide +kernel
theorem d_MD_byRule_10 : decode prog_14_method_84_code 10 = .ok (.iconst 1, 1) := by decide +kernel
theorem d_MD_byRule_11 : decode prog_14_method_84_code 11 = .ok (.if_icmp .ne 22, 3) := by decide +kernel
theorem d_MD_byRule_33 : decode prog_14_method_84_code 33 = .ok (.lconst 0, 1) := by decide +kernel
theorem d_MD_byRule_34 : decode prog_14_method_84_code 34 = .ok (.lreturn, 1) := by decide +kernel
theorem d_MD_byRule_14 : decode prog_14_method_84_code 14 = .ok (.aload_n 0, 1) := by decide +kernel
theorem d_MD_byRule_15 : decode prog_14_method_84_code 15 = .ok (.getfield 47, 3) := by decide +kernel
theorem d_MD_byRule_18 : decode prog_14_method_84_code 18 = .ok (.iload_n 2, 1) := by decide +kernel
theorem d_MD_byRule_19 : decode prog_14_method_84_code 19 = .ok (.iaload, 1) := by decide +kernel
theorem d_MD_byRule_20 : decode prog_14_method_84_code 20 = .ok (.aload_n 0, 1) := by decide +kernel
theorem d_MD_byRule_21 : decode prog_14_method_84_code 21 = .ok (.getfield 38, 3) := by decide +kernel
theorem d_MD_byRule_24 : decode prog_14_method_84_code 24 = .ok (.iload_n 1, 1) := by decide +kernel
theorem d_MD_byRule_25 : decode prog_14_method_84_code 25 = .ok (.iaload, 1) := by decide +kernel
theorem d_MD_byRule_26 : decode prog_14_method_84_code 26 = .ok (.if_icmp .ne 7, 3) := by decide +kernel
theorem d_MD_byRule_29 : decode prog_14_method_84_code 29 = .ok (.lconst 1, 1) := by decide +kernel
theorem d_MD_byRule_30 : decode prog_14_method_84_code 30 = .ok (.goto 4, 3) := by decide +kernel
theorem s_MD_byRule {G : cx_T} {h : ah_T} (hx : mi h) {a1 : Int} {a2 : Int} {a3 : Int} {a4 : Int} (la1 : 0 ≤ a1) (ua1 : a1 ≤ 23) (la2 : 0 ≤ a2) (ua2 : a2 ≤ 11) (la3 : 1 ≤ a3) (ua3 : a3 ≤ 12) (la4 : 0 ≤ a4) (ua4 : a4 ≤ 12) (hrl : 0 ≤ h.2.1 179 a1.toNat) (hbl : 0 ≤ h.2.1 180 a1.toNat → 1 ≤ a4 ∧ a4 ≤ a3 - 1) (hfn : a2 + a3 ≤ 12) : con G 1 0 0 m_MD_byRule [av_R (some 170), av_I a1, av_I a2, av_I a3, av_I a4] h (fun r h' => ∃ z, r = some (av_L z) ∧ (0 ≤ z ∧ z ≤ 1000001) ∧ (z = BR h a1.toNat a2 a3 a4) ∧ h = h') := by
  refine con_of (L := [some (av_R (some 170)), some (av_I a1), some (av_I a2), some (av_I a3), some (av_I a4)]) (by decide +kernel) (Nat.le_of_ble_eq_true rfl) rfl ?_
  refine A_aload_n 0 d_MD_byRule_0 rfl rfl ?_
  refine A_getAv (z := some 180) T_ok d_MD_byRule_1 f_MD_41 (mi_s hx sf_170) (mi_r hx rfm_22) ?_
  refine A_iload_n 1 d_MD_byRule_4 rfl rfl ?_
  refine A_ialoadn (lo := (-2)) (hi := 15) d_MD_byRule_5 (mi_s hx sf_180) (by omega) (by omega) (mi_g hx (by decide) (mr_180 _)) (fun x2 ex2 _ _ => ?_)
  refine A_if_ge (tgt := 35) d_MD_byRule_6 (by decide) (fun c3 => ?_) (fun c3 => ?_)
  · have yl : 1 ≤ a4 ∧ a4 ≤ a3 - 1 := hbl (by omega)
    refine A_aload_n 0 d_MD_byRule_35 rfl rfl ?_
    refine A_aload_n 0 d_MD_byRule_36 rfl rfl ?_
    refine A_getAv (z := some 231) T_ok d_MD_byRule_37 f_MD_196 (mi_s hx sf_170) (mi_r hx rfm_99) ?_
    refine A_aload_n 0 d_MD_byRule_40 rfl rfl ?_
    refine A_aload_n 0 d_MD_byRule_41 rfl rfl ?_
    refine A_pc (pc' := 42) rfl ?_
    refine A_getAv (z := some 179) T_ok d_MD_byRule_42 f_MD_38 (mi_s hx sf_170) (mi_r hx rfm_21) ?_
    refine A_iload_n 1 d_MD_byRule_45 rfl rfl ?_
    refine A_ialoadn (lo := (-2)) (hi := 15) d_MD_byRule_46 (mi_s hx sf_179) (by omega) (by omega) (mi_g hx (by decide) (mr_179 _)) (fun x6 ex6 _ _ => ?_)
    have yx6 : 0 ≤ x6 := (by omega)
    refine A_iload_n 2 d_MD_byRule_47 rfl rfl ?_
    refine A_iload d_MD_byRule_48 rfl ?_
    refine A_callV3 m_MD_treeAt T_ok d_MD_byRule_50 l_MD_583 k_MD_treeAt (mi_s hx sf_170) rfl (by decide +kernel) (by decide) (Nat.le_of_ble_eq_true rfl) (s_MD_treeAt  (by omega) (by omega) (by omega) (by omega) (by omega) (by omega)) (fun r h7 hq => ?_)
    obtain ⟨x9, rfl, ⟨_, _⟩, xx9, rfl⟩ := hq
    refine A_laloadn (lo := 0) (hi := 1000001) d_MD_byRule_53 (mi_s hx sf_231) (by omega) (by omega) (mi_l hx (by decide) (mq_231 _)) (fun x10 ex10 _ _ => ?_)
    refine A_aload_n 0 d_MD_byRule_54 rfl rfl ?_
    refine A_getAv (z := some 231) T_ok d_MD_byRule_55 f_MD_196 (mi_s hx sf_170) (mi_r hx rfm_99) ?_
    refine A_aload_n 0 d_MD_byRule_58 rfl rfl ?_
    refine A_aload_n 0 d_MD_byRule_59 rfl rfl ?_
    refine A_pc (pc' := 60) rfl ?_
    refine A_getAv (z := some 180) T_ok d_MD_byRule_60 f_MD_41 (mi_s hx sf_170) (mi_r hx rfm_22) ?_
    refine A_iload_n 1 d_MD_byRule_63 rfl rfl ?_
    refine A_ialoadv (z := x2) d_MD_byRule_64 (mi_s hx sf_180) (by omega) (by omega) ex2.symm ?_
    refine A_iload_n 2 d_MD_byRule_65 rfl rfl ?_
    refine A_iload d_MD_byRule_66 rfl ?_
    refine A_iaddv (z := (a2 + a4)) d_MD_byRule_68 (w32_to (by omega) (by unfold i32; omega)) ?_
    refine A_pc (pc' := 69) rfl ?_
    refine A_iload_n 3 d_MD_byRule_69 rfl rfl ?_
    refine A_iload d_MD_byRule_70 rfl ?_
    refine A_isubv (z := (a3 - a4)) d_MD_byRule_72 (w32_to (by omega) (by unfold i32; omega)) ?_
    refine A_callV3 m_MD_treeAt T_ok d_MD_byRule_73 l_MD_583 k_MD_treeAt (mi_s hx sf_170) rfl (by decide +kernel) (by decide) (Nat.le_of_ble_eq_true rfl) (s_MD_treeAt  (by omega) (by omega) (by omega) (by omega) (by omega) (by omega)) (fun r h14 hq => ?_)
    obtain ⟨x16, rfl, ⟨_, _⟩, xx16, rfl⟩ := hq
    refine A_laloadn (lo := 0) (hi := 1000001) d_MD_byRule_76 (mi_s hx sf_231) (by omega) (by omega) (mi_l hx (by decide) (mq_231 _)) (fun x17 ex17 _ _ => ?_)
    refine A_lmulw d_MD_byRule_77 (fun x18 ex18 _ _ => ?_)
    have cx18 := mul_nn64 (ux := 1000001) (uy := 1000001) ex18 (by omega) (by omega) (by omega) (by omega) (by decide)
    have bx18 := mul_b64 (ux := 1000001) (uy := 1000001) ex18 (by omega) (by omega) (by omega) (by omega) (by decide)
    refine A_callV1 m_MD_capped T_ok d_MD_byRule_78 l_MD_587 k_MD_capped (mi_s hx sf_170) rfl (by decide +kernel) (by decide) (Nat.le_of_ble_eq_true rfl) (s_MD_capped  (by omega) (by omega)) (fun r h19 hq => ?_)
    obtain ⟨x21, rfl, ⟨_, _⟩, xx21, rfl⟩ := hq
    exact A_lret d_MD_byRule_81 (by decide) rfl ⟨_, rfl, ⟨by omega, by omega⟩, (by have q1 : tix x6 a2 a4 = (x9).toNat := (by unfold tix; rw [xx9]); have q2 : tix x2 (a2 + a4) (a3 - a4) = (x16).toNat := (by unfold tix; rw [xx16]); unfold BR; rw [if_neg (by omega), ← ex6, ← ex2, q1, q2, ← ex10, ← ex17, ← bx18.2.2]; exact xx21), rfl⟩
  · refine A_iload_n 3 d_MD_byRule_9 rfl rfl ?_
    refine A_iconst d_MD_byRule_10 rfl ?_
    refine A_icmp_ne (tgt := 33) d_MD_byRule_11 (by decide) (fun c22 => ?_) (fun c22 => ?_)
    · refine A_lconst_0 d_MD_byRule_33 ?_
      exact A_lret d_MD_byRule_34 (by decide) rfl ⟨_, rfl, ⟨by omega, by omega⟩, (by unfold BR; rw [if_pos (by omega), if_neg (by omega)]), rfl⟩
    · refine A_aload_n 0 d_MD_byRule_14 rfl rfl ?_
      refine A_getAv (z := some 182) T_ok d_MD_byRule_15 f_MD_47 (mi_s hx sf_170) (mi_r hx rfm_24) ?_
      refine A_iload_n 2 d_MD_byRule_18 rfl rfl ?_
      refine A_ialoadn (lo := 0) (hi := 15) d_MD_byRule_19 (mi_s hx sf_182) (by omega) (by omega) (mi_g hx (by decide) (mr_182 _)) (fun x24 ex24 _ _ => ?_)
      refine A_aload_n 0 d_MD_byRule_20 rfl rfl ?_
      refine A_pc (pc' := 21) rfl ?_
      refine A_getAv (z := some 179) T_ok d_MD_byRule_21 f_MD_38 (mi_s hx sf_170) (mi_r hx rfm_21) ?_
      refine A_iload_n 1 d_MD_byRule_24 rfl rfl ?_
      refine A_ialoadn (lo := (-2)) (hi := 15) d_MD_byRule_25 (mi_s hx sf_179) (by omega) (by omega) (mi_g hx (by decide) (mr_179 _)) (fun x26 ex26 _ _ => ?_)
      have yx26 : 0 ≤ x26 := (by omega)
      refine A_icmp_ne (tgt := 33) d_MD_byRule_26 (by decide) (fun c27 => ?_) (fun c27 => ?_)
      · refine A_lconst_0 d_MD_byRule_33 ?_
        exact A_lret d_MD_byRule_34 (by decide) rfl ⟨_, rfl, ⟨by omega, by omega⟩, (by unfold BR; rw [if_pos (by omega), if_neg (by omega)]), rfl⟩
      · refine A_lconst_1 d_MD_byRule_29 ?_
        refine A_goto (tgt := 34) d_MD_byRule_30 (by decide) ?_
        exact A_lret d_MD_byRule_34 (by decide) rfl ⟨_, rfl, ⟨by omega, by omega⟩, (by unfold BR; rw [if_pos (by omega), if_pos ⟨by omega, by omega⟩]), rfl⟩
