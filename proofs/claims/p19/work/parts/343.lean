/-! ===== the reference's methods, 343 ===== -/
def m_MD_isFirstTime : mr_T := (⟨"PlainMusicModel", "isFirstTime", "(III)Z"⟩, prog_14_method_73_code, 11, some .boolean)
theorem d_MD_isFirstTime_0 : decode prog_14_method_73_code 0 = .ok (.aload_n 0, 1) := by decide +kernel
theorem d_MD_isFirstTime_1 : decode prog_14_method_73_code 1 = .ok (.aload_n 0, 1) := by decide +kernel
theorem d_MD_isFirstTime_2 : decode prog_14_method_73_code 2 = .ok (.getfield 63, 3) := by decide +kernel
theorem d_MD_isFirstTime_5 : decode prog_14_method_73_code 5 = .ok (.iload_n 2, 1) := by decide +kernel
theorem d_MD_isFirstTime_6 : decode prog_14_method_73_code 6 = .ok (.laload, 1) := by decide +kernel
theorem d_MD_isFirstTime_7 : decode prog_14_method_73_code 7 = .ok (.aload_n 0, 1) := by decide +kernel
theorem d_MD_isFirstTime_8 : decode prog_14_method_73_code 8 = .ok (.getfield 66, 3) := by decide +kernel
theorem d_MD_isFirstTime_11 : decode prog_14_method_73_code 11 = .ok (.iload_n 2, 1) := by decide +kernel
theorem d_MD_isFirstTime_12 : decode prog_14_method_73_code 12 = .ok (.laload, 1) := by decide +kernel
theorem d_MD_isFirstTime_13 : decode prog_14_method_73_code 13 = .ok (.aload_n 0, 1) := by decide +kernel
theorem d_MD_isFirstTime_14 : decode prog_14_method_73_code 14 = .ok (.getfield 100, 3) := by decide +kernel
theorem d_MD_isFirstTime_17 : decode prog_14_method_73_code 17 = .ok (.bipush 102, 2) := by decide +kernel
theorem d_MD_isFirstTime_19 : decode prog_14_method_73_code 19 = .ok (.iload_n 1, 1) := by decide +kernel
theorem d_MD_isFirstTime_20 : decode prog_14_method_73_code 20 = .ok (.imul, 1) := by decide +kernel
theorem d_MD_isFirstTime_21 : decode prog_14_method_73_code 21 = .ok (.iload_n 3, 1) := by decide +kernel
theorem d_MD_isFirstTime_22 : decode prog_14_method_73_code 22 = .ok (.iadd, 1) := by decide +kernel
theorem d_MD_isFirstTime_23 : decode prog_14_method_73_code 23 = .ok (.laload, 1) := by decide +kernel
theorem d_MD_isFirstTime_24 : decode prog_14_method_73_code 24 = .ok (.lneg, 1) := by decide +kernel
theorem d_MD_isFirstTime_25 : decode prog_14_method_73_code 25 = .ok (.aload_n 0, 1) := by decide +kernel
theorem d_MD_isFirstTime_26 : decode prog_14_method_73_code 26 = .ok (.getfield 103, 3) := by decide +kernel
theorem d_MD_isFirstTime_29 : decode prog_14_method_73_code 29 = .ok (.bipush 102, 2) := by decide +kernel
theorem d_MD_isFirstTime_31 : decode prog_14_method_73_code 31 = .ok (.iload_n 1, 1) := by decide +kernel
theorem d_MD_isFirstTime_32 : decode prog_14_method_73_code 32 = .ok (.imul, 1) := by decide +kernel
theorem d_MD_isFirstTime_33 : decode prog_14_method_73_code 33 = .ok (.iload_n 3, 1) := by decide +kernel
theorem d_MD_isFirstTime_34 : decode prog_14_method_73_code 34 = .ok (.iadd, 1) := by decide +kernel
theorem d_MD_isFirstTime_35 : decode prog_14_method_73_code 35 = .ok (.laload, 1) := by decide +kernel
theorem d_MD_isFirstTime_36 : decode prog_14_method_73_code 36 = .ok (.invokevirtual 458, 3) := by decide +kernel
theorem d_MD_isFirstTime_39 : decode prog_14_method_73_code 39 = .ok (.aload_n 0, 1) := by decide +kernel
theorem d_MD_isFirstTime_40 : decode prog_14_method_73_code 40 = .ok (.getfield 385, 3) := by decide +kernel
theorem d_MD_isFirstTime_43 : decode prog_14_method_73_code 43 = .ok (.lstore 4, 2) := by decide +kernel
theorem d_MD_isFirstTime_45 : decode prog_14_method_73_code 45 = .ok (.aload_n 0, 1) := by decide +kernel
theorem d_MD_isFirstTime_46 : decode prog_14_method_73_code 46 = .ok (.getfield 388, 3) := by decide +kernel
theorem d_MD_isFirstTime_49 : decode prog_14_method_73_code 49 = .ok (.lstore 6, 2) := by decide +kernel
theorem d_MD_isFirstTime_51 : decode prog_14_method_73_code 51 = .ok (.iconst 0, 1) := by decide +kernel
theorem d_MD_isFirstTime_52 : decode prog_14_method_73_code 52 = .ok (.istore 8, 2) := by decide +kernel
theorem d_MD_isFirstTime_54 : decode prog_14_method_73_code 54 = .ok (.iload 8, 2) := by decide +kernel
theorem d_MD_isFirstTime_56 : decode prog_14_method_73_code 56 = .ok (.iload_n 1, 1) := by decide +kernel
theorem d_MD_isFirstTime_57 : decode prog_14_method_73_code 57 = .ok (.if_icmp .ge 120, 3) := by decide +kernel
theorem d_MD_isFirstTime_177 : decode prog_14_method_73_code 177 = .ok (.iconst 1, 1) := by decide +kernel
theorem d_MD_isFirstTime_178 : decode prog_14_method_73_code 178 = .ok (.ireturn, 1) := by decide +kernel
theorem d_MD_isFirstTime_60 : decode prog_14_method_73_code 60 = .ok (.iconst 0, 1) := by decide +kernel
theorem d_MD_isFirstTime_61 : decode prog_14_method_73_code 61 = .ok (.istore 9, 2) := by decide +kernel
theorem d_MD_isFirstTime_63 : decode prog_14_method_73_code 63 = .ok (.iload 9, 2) := by decide +kernel
theorem d_MD_isFirstTime_65 : decode prog_14_method_73_code 65 = .ok (.aload_n 0, 1) := by decide +kernel
theorem d_MD_isFirstTime_66 : decode prog_14_method_73_code 66 = .ok (.getfield 57, 3) := by decide +kernel
theorem d_MD_isFirstTime_69 : decode prog_14_method_73_code 69 = .ok (.iload 8, 2) := by decide +kernel
theorem d_MD_isFirstTime_71 : decode prog_14_method_73_code 71 = .ok (.iaload, 1) := by decide +kernel
theorem d_MD_isFirstTime_72 : decode prog_14_method_73_code 72 = .ok (.if_icmp .ge 99, 3) := by decide +kernel
theorem d_MD_isFirstTime_171 : decode prog_14_method_73_code 171 = .ok (.iinc 8 1, 3) := by decide +kernel
theorem d_MD_isFirstTime_174 : decode prog_14_method_73_code 174 = .ok (.goto (-120), 3) := by decide +kernel
theorem d_MD_isFirstTime_75 : decode prog_14_method_73_code 75 = .ok (.sipush 300, 3) := by decide +kernel
theorem d_MD_isFirstTime_78 : decode prog_14_method_73_code 78 = .ok (.iload 8, 2) := by decide +kernel
theorem d_MD_isFirstTime_80 : decode prog_14_method_73_code 80 = .ok (.imul, 1) := by decide +kernel
theorem d_MD_isFirstTime_81 : decode prog_14_method_73_code 81 = .ok (.iload 9, 2) := by decide +kernel
theorem d_MD_isFirstTime_83 : decode prog_14_method_73_code 83 = .ok (.iadd, 1) := by decide +kernel
theorem d_MD_isFirstTime_84 : decode prog_14_method_73_code 84 = .ok (.istore 10, 2) := by decide +kernel
theorem d_MD_isFirstTime_86 : decode prog_14_method_73_code 86 = .ok (.aload_n 0, 1) := by decide +kernel
theorem d_MD_isFirstTime_87 : decode prog_14_method_73_code 87 = .ok (.getfield 91, 3) := by decide +kernel
theorem d_MD_isFirstTime_90 : decode prog_14_method_73_code 90 = .ok (.iload 10, 2) := by decide +kernel
theorem d_MD_isFirstTime_92 : decode prog_14_method_73_code 92 = .ok (.iaload, 1) := by decide +kernel
theorem d_MD_isFirstTime_93 : decode prog_14_method_73_code 93 = .ok (.iload_n 3, 1) := by decide +kernel
theorem d_MD_isFirstTime_94 : decode prog_14_method_73_code 94 = .ok (.if_icmp .eq 6, 3) := by decide +kernel
theorem d_MD_isFirstTime_100 : decode prog_14_method_73_code 100 = .ok (.aload_n 0, 1) := by decide +kernel
theorem d_MD_isFirstTime_101 : decode prog_14_method_73_code 101 = .ok (.aload_n 0, 1) := by decide +kernel
theorem d_MD_isFirstTime_102 : decode prog_14_method_73_code 102 = .ok (.getfield 63, 3) := by decide +kernel
theorem d_MD_isFirstTime_105 : decode prog_14_method_73_code 105 = .ok (.iload 10, 2) := by decide +kernel
theorem d_MD_isFirstTime_107 : decode prog_14_method_73_code 107 = .ok (.laload, 1) := by decide +kernel
theorem d_MD_isFirstTime_108 : decode prog_14_method_73_code 108 = .ok (.aload_n 0, 1) := by decide +kernel
theorem d_MD_isFirstTime_109 : decode prog_14_method_73_code 109 = .ok (.getfield 66, 3) := by decide +kernel
theorem d_MD_isFirstTime_112 : decode prog_14_method_73_code 112 = .ok (.iload 10, 2) := by decide +kernel
theorem d_MD_isFirstTime_114 : decode prog_14_method_73_code 114 = .ok (.laload, 1) := by decide +kernel
theorem d_MD_isFirstTime_115 : decode prog_14_method_73_code 115 = .ok (.aload_n 0, 1) := by decide +kernel
theorem d_MD_isFirstTime_116 : decode prog_14_method_73_code 116 = .ok (.getfield 100, 3) := by decide +kernel
theorem d_MD_isFirstTime_119 : decode prog_14_method_73_code 119 = .ok (.bipush 102, 2) := by decide +kernel
theorem d_MD_isFirstTime_121 : decode prog_14_method_73_code 121 = .ok (.iload 8, 2) := by decide +kernel
theorem d_MD_isFirstTime_123 : decode prog_14_method_73_code 123 = .ok (.imul, 1) := by decide +kernel
theorem d_MD_isFirstTime_124 : decode prog_14_method_73_code 124 = .ok (.iload_n 3, 1) := by decide +kernel
theorem d_MD_isFirstTime_125 : decode prog_14_method_73_code 125 = .ok (.iadd, 1) := by decide +kernel
theorem d_MD_isFirstTime_126 : decode prog_14_method_73_code 126 = .ok (.laload, 1) := by decide +kernel
theorem d_MD_isFirstTime_127 : decode prog_14_method_73_code 127 = .ok (.lneg, 1) := by decide +kernel
theorem d_MD_isFirstTime_128 : decode prog_14_method_73_code 128 = .ok (.aload_n 0, 1) := by decide +kernel
theorem d_MD_isFirstTime_129 : decode prog_14_method_73_code 129 = .ok (.getfield 103, 3) := by decide +kernel
theorem d_MD_isFirstTime_132 : decode prog_14_method_73_code 132 = .ok (.bipush 102, 2) := by decide +kernel
theorem d_MD_isFirstTime_134 : decode prog_14_method_73_code 134 = .ok (.iload 8, 2) := by decide +kernel
theorem d_MD_isFirstTime_136 : decode prog_14_method_73_code 136 = .ok (.imul, 1) := by decide +kernel
theorem d_MD_isFirstTime_137 : decode prog_14_method_73_code 137 = .ok (.iload_n 3, 1) := by decide +kernel
theorem d_MD_isFirstTime_138 : decode prog_14_method_73_code 138 = .ok (.iadd, 1) := by decide +kernel
theorem d_MD_isFirstTime_139 : decode prog_14_method_73_code 139 = .ok (.laload, 1) := by decide +kernel
theorem d_MD_isFirstTime_140 : decode prog_14_method_73_code 140 = .ok (.invokevirtual 458, 3) := by decide +kernel
theorem d_MD_isFirstTime_143 : decode prog_14_method_73_code 143 = .ok (.aload_n 0, 1) := by decide +kernel
theorem d_MD_isFirstTime_144 : decode prog_14_method_73_code 144 = .ok (.getfield 385, 3) := by decide +kernel
theorem d_MD_isFirstTime_147 : decode prog_14_method_73_code 147 = .ok (.lload 4, 2) := by decide +kernel
theorem d_MD_isFirstTime_149 : decode prog_14_method_73_code 149 = .ok (.lcmp, 1) := by decide +kernel
theorem d_MD_isFirstTime_150 : decode prog_14_method_73_code 150 = .ok (.ifCond .ne 15, 3) := by decide +kernel
theorem d_MD_isFirstTime_165 : decode prog_14_method_73_code 165 = .ok (.iinc 9 1, 3) := by decide +kernel
theorem d_MD_isFirstTime_168 : decode prog_14_method_73_code 168 = .ok (.goto (-105), 3) := by decide +kernel
theorem d_MD_isFirstTime_153 : decode prog_14_method_73_code 153 = .ok (.aload_n 0, 1) := by decide +kernel
theorem d_MD_isFirstTime_154 : decode prog_14_method_73_code 154 = .ok (.getfield 388, 3) := by decide +kernel
theorem d_MD_isFirstTime_157 : decode prog_14_method_73_code 157 = .ok (.lload 6, 2) := by decide +kernel
theorem d_MD_isFirstTime_159 : decode prog_14_method_73_code 159 = .ok (.lcmp, 1) := by decide +kernel
theorem d_MD_isFirstTime_160 : decode prog_14_method_73_code 160 = .ok (.ifCond .ne 5, 3) := by decide +kernel
theorem d_MD_isFirstTime_163 : decode prog_14_method_73_code 163 = .ok (.iconst 0, 1) := by decide +kernel
theorem d_MD_isFirstTime_164 : decode prog_14_method_73_code 164 = .ok (.ireturn, 1) := by decide +kernel
theorem d_MD_isFirstTime_97 : decode prog_14_method_73_code 97 = .ok (.goto 68, 3) := by decide +kernel
theorem s_MD_isFirstTime {G : cx_T} {h : ah_T} (hx : mi h) {a1 : Int} {a2 : Int} {a3 : Int} (la1 : 0 ≤ a1) (ua1 : a1 ≤ 3) (la2 : 0 ≤ a2) (ua2 : a2 ≤ 1199) (la3 : 0 ≤ a3) (ua3 : a3 ≤ 100) (hKS : KS h) (hKO : KO h) (hv : a1 < h.2.1 172 0) (hb : a3 < h.2.1 186 a1.toNat) (he : EV h a2.toNat) : con G 3 0 0 m_MD_isFirstTime [av_R (some 170), av_I a1, av_I a2, av_I a3] h (fun r h' => ∃ z, r = some (av_I z) ∧ (z = 0 ∨ z = 1) ∧ kM (pm [65, 66] []) h h') := by
  refine con_of (L := [some (av_R (some 170)), some (av_I a1), some (av_I a2), some (av_I a3), none, none, none, none, none, none, none]) (by decide +kernel) (Nat.le_of_ble_eq_true rfl) rfl ?_
  have k0 : kM (pm [65, 66] []) h h := kM_0 hx
  refine A_aload_n 0 d_MD_isFirstTime_0 rfl rfl ?_
  refine A_aload_n 0 d_MD_isFirstTime_1 rfl rfl ?_
  refine A_getAv (z := some 187) T_ok d_MD_isFirstTime_2 f_MD_63 (mi_s k0.1 sf_170) (mi_r k0.1 rfm_29) ?_
  refine A_iload_n 2 d_MD_isFirstTime_5 rfl rfl ?_
  refine A_laloadn (lo := 0) (hi := 2000000000000000) d_MD_isFirstTime_6 (mi_s k0.1 sf_187) (by omega) (by omega) (mi_l k0.1 (by decide) (mq_187 _)) (fun x2 ex2 _ _ => ?_)
  have yx2 : EV h (a2).toNat := he
  unfold EV at yx2
  refine A_pc (pc' := 7) rfl ?_
  refine A_aload_n 0 d_MD_isFirstTime_7 rfl rfl ?_
  refine A_getAv (z := some 188) T_ok d_MD_isFirstTime_8 f_MD_66 (mi_s k0.1 sf_170) (mi_r k0.1 rfm_30) ?_
  refine A_iload_n 2 d_MD_isFirstTime_11 rfl rfl ?_
  refine A_laloadn (lo := 0) (hi := 1000000000000) d_MD_isFirstTime_12 (mi_s k0.1 sf_188) (by omega) (by omega) (mi_l k0.1 (by decide) (mq_188 _)) (fun x4 ex4 _ _ => ?_)
  have yx4 : EV h (a2).toNat := he
  unfold EV at yx4
  refine A_aload_n 0 d_MD_isFirstTime_13 rfl rfl ?_
  refine A_getAv (z := some 199) T_ok d_MD_isFirstTime_14 f_MD_100 (mi_s k0.1 sf_170) (mi_r k0.1 rfm_41) ?_
  refine A_pc (pc' := 17) rfl ?_
  refine A_bipush d_MD_isFirstTime_17 rfl ?_
  refine A_iload_n 1 d_MD_isFirstTime_19 rfl rfl ?_
  refine A_imulv (z := (102 * a1)) d_MD_isFirstTime_20 (w32_to (by omega) (by unfold i32; omega)) ?_
  refine A_iload_n 3 d_MD_isFirstTime_21 rfl rfl ?_
  refine A_iaddv (z := (102 * a1 + a3)) d_MD_isFirstTime_22 (w32_to (by omega) (by unfold i32; omega)) ?_
  refine A_laloadn (lo := 0) (hi := 2000000000000000) d_MD_isFirstTime_23 (mi_s k0.1 sf_199) (by omega) (by omega) (mi_l k0.1 (by decide) (mq_199 _)) (fun x6 ex6 _ _ => ?_)
  have yx6 : BV h ((102 * a1 + a3)).toNat := (hKS (a1).toNat (by omega)).2 _ (by omega) (by omega)
  unfold BV at yx6
  refine A_pc (pc' := 24) rfl ?_
  refine A_lnegv (z := (-x6)) d_MD_isFirstTime_24 (w64_to (by omega) (by unfold i64; omega)) ?_
  refine A_aload_n 0 d_MD_isFirstTime_25 rfl rfl ?_
  refine A_getAv (z := some 200) T_ok d_MD_isFirstTime_26 f_MD_103 (mi_s k0.1 sf_170) (mi_r k0.1 rfm_42) ?_
  refine A_bipush d_MD_isFirstTime_29 rfl ?_
  refine A_iload_n 1 d_MD_isFirstTime_31 rfl rfl ?_
  refine A_imulv (z := (102 * a1)) d_MD_isFirstTime_32 (w32_to (by omega) (by unfold i32; omega)) ?_
  refine A_pc (pc' := 33) rfl ?_
  refine A_iload_n 3 d_MD_isFirstTime_33 rfl rfl ?_
  refine A_iaddv (z := (102 * a1 + a3)) d_MD_isFirstTime_34 (w32_to (by omega) (by unfold i32; omega)) ?_
  refine A_laloadn (lo := 0) (hi := 1000000000000) d_MD_isFirstTime_35 (mi_s k0.1 sf_200) (by omega) (by omega) (mi_l k0.1 (by decide) (mq_200 _)) (fun x8 ex8 _ _ => ?_)
  have yx8 : BV h ((102 * a1 + a3)).toNat := (hKS (a1).toNat (by omega)).2 _ (by omega) (by omega)
  unfold BV at yx8
  refine A_callV4 m_MD_sum T_ok d_MD_isFirstTime_36 l_MD_458 k_MD_sum (mi_s k0.1 sf_170) rfl (by decide +kernel) (by decide) (Nat.le_of_ble_eq_true rfl) (s_MD_sum k0.1 (by omega) (by omega) (by omega) (by omega) (by omega) (by omega) (by omega) (by omega)) (fun r h9 hq => ?_)
  obtain ⟨rfl, xk10, k10⟩ := hq
  have k11 := kM_t k0 k10 (pm_s (by decide) (by decide))
  refine A_aload_n 0 d_MD_isFirstTime_39 rfl rfl ?_
  refine A_getLf T_ok d_MD_isFirstTime_40 f_MD_385 (mi_s k11.1 sf_170) (fun x12 ex12 _ _ => ?_)
  refine A_lstore (L' := [some (av_R (some 170)), some (av_I a1), some (av_I a2), some (av_I a3), some (av_L x12), none, none, none, none, none, none]) d_MD_isFirstTime_43 (Nat.le_of_ble_eq_true rfl) rfl ?_
  refine A_aload_n 0 d_MD_isFirstTime_45 rfl rfl ?_
  refine A_getLf T_ok d_MD_isFirstTime_46 f_MD_388 (mi_s k11.1 sf_170) (fun x13 ex13 _ _ => ?_)
  refine A_pc (pc' := 49) rfl ?_
  refine A_lstore (L' := [some (av_R (some 170)), some (av_I a1), some (av_I a2), some (av_I a3), some (av_L x12), none, some (av_L x13), none, none, none, none]) d_MD_isFirstTime_49 (Nat.le_of_ble_eq_true rfl) rfl ?_
  refine A_iconst d_MD_isFirstTime_51 rfl ?_
  refine A_istore (L' := [some (av_R (some 170)), some (av_I a1), some (av_I a2), some (av_I a3), some (av_L x12), none, some (av_L x13), none, some (av_I 0), none, none]) d_MD_isFirstTime_52 (Nat.le_of_ble_eq_true rfl) rfl ?_
  have lp54 : ∀ (n : Nat) (i14 : Int) (h15 : ah_T) , 0 ≤ i14 → i14 ≤ 3 → kM (pm [65, 66] []) h h15 → (4 - i14).toNat < n → aw G (rm_R 3 0 0) m_MD_isFirstTime 0 0 54 [some (av_R (some 170)), some (av_I a1), some (av_I a2), some (av_I a3), some (av_L x12), none, some (av_L x13), none, some (av_I i14), none, none] [] h15 (fun r h' => ∃ z, r = some (av_I z) ∧ (z = 0 ∨ z = 1) ∧ kM (pm [65, 66] []) h h') := by
    intro n
    induction n with
    | zero => intro i14 h15 _ _ _ hm; omega
    | succ n ih54 =>
      intro i14 h15 hl0 hl1 k16 hm
      refine A_iload d_MD_isFirstTime_54 rfl ?_
      refine A_iload_n 1 d_MD_isFirstTime_56 rfl rfl ?_
      refine A_icmp_ge (tgt := 177) d_MD_isFirstTime_57 (by decide) (fun c17 => ?_) (fun c17 => ?_)
      · refine A_iconst d_MD_isFirstTime_177 rfl ?_
        exact A_zret d_MD_isFirstTime_178 (by decide) rfl (by omega) ⟨_, rfl, by omega, k16⟩
      · refine A_iconst d_MD_isFirstTime_60 rfl ?_
        refine A_istore (L' := [some (av_R (some 170)), some (av_I a1), some (av_I a2), some (av_I a3), some (av_L x12), none, some (av_L x13), none, some (av_I i14), some (av_I 0), none]) d_MD_isFirstTime_61 (Nat.le_of_ble_eq_true rfl) rfl ?_
        have lp63 : ∀ (n : Nat) (i18 : Int) (h19 : ah_T) , 0 ≤ i18 → i18 ≤ 300 → kM (pm [65, 66] []) h h19 → (301 - i18).toNat < n → aw G (rm_R 3 0 0) m_MD_isFirstTime 0 0 63 [some (av_R (some 170)), some (av_I a1), some (av_I a2), some (av_I a3), some (av_L x12), none, some (av_L x13), none, some (av_I i14), some (av_I i18), none] [] h19 (fun r h' => ∃ z, r = some (av_I z) ∧ (z = 0 ∨ z = 1) ∧ kM (pm [65, 66] []) h h') := by
          intro n
          induction n with
          | zero => intro i18 h19 _ _ _ hm; omega
          | succ n ih63 =>
            intro i18 h19 hl0 hl1 k20 hm
            refine A_iload d_MD_isFirstTime_63 rfl ?_
            refine A_aload_n 0 d_MD_isFirstTime_65 rfl rfl ?_
            refine A_getAv (z := some 185) T_ok d_MD_isFirstTime_66 f_MD_57 (mi_s k20.1 sf_170) (mi_r k20.1 rfm_27) ?_
            refine A_iload d_MD_isFirstTime_69 rfl ?_
            refine A_ialoadn (lo := 0) (hi := 300) d_MD_isFirstTime_71 (mi_s k20.1 sf_185) (by omega) (by omega) (mi_g k20.1 (by decide) (mr_185 _)) (fun x22 ex22 _ _ => ?_)
            have fx22 := ex22.trans (k20.2.2.1 185 _ rfl)
            refine A_pc (pc' := 72) rfl ?_
            refine A_icmp_ge (tgt := 171) d_MD_isFirstTime_72 (by decide) (fun c23 => ?_) (fun c23 => ?_)
            · refine A_iincv (z := (i14 + 1)) (L' := [some (av_R (some 170)), some (av_I a1), some (av_I a2), some (av_I a3), some (av_L x12), none, some (av_L x13), none, some (av_I (i14 + 1)), some (av_I i18), none]) d_MD_isFirstTime_171 rfl (w32_to (by omega) (by unfold i32; omega)) rfl ?_
              refine A_goto (tgt := 54) d_MD_isFirstTime_174 (by decide) ?_
              refine A_free (L' := [some (av_R (some 170)), some (av_I a1), some (av_I a2), some (av_I a3), some (av_L x12), none, some (av_L x13), none, some (av_I (i14 + 1)), none, none]) (And.intro rfl (And.intro rfl (And.intro rfl (And.intro rfl (And.intro rfl (And.intro rfl (And.intro rfl trivial))))))) ?_
              exact ih54 (i14 + 1) h19 (by omega) (by omega) k20 (by omega)
            · refine A_sipush d_MD_isFirstTime_75 rfl ?_
              refine A_iload d_MD_isFirstTime_78 rfl ?_
              refine A_imulv (z := (300 * i14)) d_MD_isFirstTime_80 (w32_to (by omega) (by unfold i32; omega)) ?_
              refine A_iload d_MD_isFirstTime_81 rfl ?_
              refine A_iaddv (z := (300 * i14 + i18)) d_MD_isFirstTime_83 (w32_to (by omega) (by unfold i32; omega)) ?_
              refine A_pc (pc' := 84) rfl ?_
              refine A_istore (L' := [some (av_R (some 170)), some (av_I a1), some (av_I a2), some (av_I a3), some (av_L x12), none, some (av_L x13), none, some (av_I i14), some (av_I i18), some (av_I (300 * i14 + i18))]) d_MD_isFirstTime_84 (Nat.le_of_ble_eq_true rfl) rfl ?_
              refine A_aload_n 0 d_MD_isFirstTime_86 rfl rfl ?_
              refine A_getAv (z := some 196) T_ok d_MD_isFirstTime_87 f_MD_91 (mi_s k20.1 sf_170) (mi_r k20.1 rfm_38) ?_
              refine A_iload d_MD_isFirstTime_90 rfl ?_
              refine A_ialoadn (lo := 0) (hi := 101) d_MD_isFirstTime_92 (mi_s k20.1 sf_196) (by omega) (by omega) (mi_g k20.1 (by decide) (mr_196 _)) (fun x25 ex25 _ _ => ?_)
              have fx25 := ex25.trans (k20.2.2.1 196 _ rfl)
              have yx25 := hKO (i14).toNat (by omega) ((300 * i14 + i18)).toNat (by omega) (by omega)
              refine A_iload_n 3 d_MD_isFirstTime_93 rfl rfl ?_
              refine A_pc (pc' := 94) rfl ?_
              refine A_icmp_eq (tgt := 100) d_MD_isFirstTime_94 (by decide) (fun c26 => ?_) (fun c26 => ?_)
              · refine A_aload_n 0 d_MD_isFirstTime_100 rfl rfl ?_
                refine A_aload_n 0 d_MD_isFirstTime_101 rfl rfl ?_
                refine A_getAv (z := some 187) T_ok d_MD_isFirstTime_102 f_MD_63 (mi_s k20.1 sf_170) (mi_r k20.1 rfm_29) ?_
                refine A_iload d_MD_isFirstTime_105 rfl ?_
                refine A_laloadn (lo := 0) (hi := 2000000000000000) d_MD_isFirstTime_107 (mi_s k20.1 sf_187) (by omega) (by omega) (mi_l k20.1 (by decide) (mq_187 _)) (fun x28 ex28 _ _ => ?_)
                have fx28 := ex28.trans (k20.2.2.2 187 _ rfl)
                have yx28 : EV h ((300 * i14 + i18)).toNat := ((hKS (i14).toNat (by omega)).1 _ (by omega) (by omega))
                unfold EV at yx28
                refine A_pc (pc' := 108) rfl ?_
                refine A_aload_n 0 d_MD_isFirstTime_108 rfl rfl ?_
                refine A_getAv (z := some 188) T_ok d_MD_isFirstTime_109 f_MD_66 (mi_s k20.1 sf_170) (mi_r k20.1 rfm_30) ?_
                refine A_iload d_MD_isFirstTime_112 rfl ?_
                refine A_laloadn (lo := 0) (hi := 1000000000000) d_MD_isFirstTime_114 (mi_s k20.1 sf_188) (by omega) (by omega) (mi_l k20.1 (by decide) (mq_188 _)) (fun x30 ex30 _ _ => ?_)
                have fx30 := ex30.trans (k20.2.2.2 188 _ rfl)
                have yx30 : EV h ((300 * i14 + i18)).toNat := ((hKS (i14).toNat (by omega)).1 _ (by omega) (by omega))
                unfold EV at yx30
                refine A_aload_n 0 d_MD_isFirstTime_115 rfl rfl ?_
                refine A_getAv (z := some 199) T_ok d_MD_isFirstTime_116 f_MD_100 (mi_s k20.1 sf_170) (mi_r k20.1 rfm_41) ?_
                refine A_pc (pc' := 119) rfl ?_
                refine A_bipush d_MD_isFirstTime_119 rfl ?_
                refine A_iload d_MD_isFirstTime_121 rfl ?_
                refine A_imulv (z := (102 * i14)) d_MD_isFirstTime_123 (w32_to (by omega) (by unfold i32; omega)) ?_
                refine A_iload_n 3 d_MD_isFirstTime_124 rfl rfl ?_
                refine A_iaddv (z := (102 * i14 + a3)) d_MD_isFirstTime_125 (w32_to (by omega) (by unfold i32; omega)) ?_
                refine A_laloadn (lo := 0) (hi := 2000000000000000) d_MD_isFirstTime_126 (mi_s k20.1 sf_199) (by omega) (by omega) (mi_l k20.1 (by decide) (mq_199 _)) (fun x32 ex32 _ _ => ?_)
                have fx32 := ex32.trans (k20.2.2.2 199 _ rfl)
                have yx32 : BV h ((102 * i14 + a3)).toNat := (hKS (i14).toNat (by omega)).2 _ (by omega) (by omega)
                unfold BV at yx32
                refine A_pc (pc' := 127) rfl ?_
                refine A_lnegv (z := (-x32)) d_MD_isFirstTime_127 (w64_to (by omega) (by unfold i64; omega)) ?_
                refine A_aload_n 0 d_MD_isFirstTime_128 rfl rfl ?_
                refine A_getAv (z := some 200) T_ok d_MD_isFirstTime_129 f_MD_103 (mi_s k20.1 sf_170) (mi_r k20.1 rfm_42) ?_
                refine A_bipush d_MD_isFirstTime_132 rfl ?_
                refine A_iload d_MD_isFirstTime_134 rfl ?_
                refine A_imulv (z := (102 * i14)) d_MD_isFirstTime_136 (w32_to (by omega) (by unfold i32; omega)) ?_
                refine A_pc (pc' := 137) rfl ?_
                refine A_iload_n 3 d_MD_isFirstTime_137 rfl rfl ?_
                refine A_iaddv (z := (102 * i14 + a3)) d_MD_isFirstTime_138 (w32_to (by omega) (by unfold i32; omega)) ?_
                refine A_laloadn (lo := 0) (hi := 1000000000000) d_MD_isFirstTime_139 (mi_s k20.1 sf_200) (by omega) (by omega) (mi_l k20.1 (by decide) (mq_200 _)) (fun x34 ex34 _ _ => ?_)
                have fx34 := ex34.trans (k20.2.2.2 200 _ rfl)
                have yx34 : BV h ((102 * i14 + a3)).toNat := (hKS (i14).toNat (by omega)).2 _ (by omega) (by omega)
                unfold BV at yx34
                refine A_callV4 m_MD_sum T_ok d_MD_isFirstTime_140 l_MD_458 k_MD_sum (mi_s k20.1 sf_170) rfl (by decide +kernel) (by decide) (Nat.le_of_ble_eq_true rfl) (s_MD_sum k20.1 (by omega) (by omega) (by omega) (by omega) (by omega) (by omega) (by omega) (by omega)) (fun r h35 hq => ?_)
                obtain ⟨rfl, xk36, k36⟩ := hq
                have k37 := kM_t k20 k36 (pm_s (by decide) (by decide))
                refine A_aload_n 0 d_MD_isFirstTime_143 rfl rfl ?_
                refine A_getLf T_ok d_MD_isFirstTime_144 f_MD_385 (mi_s k37.1 sf_170) (fun x38 ex38 _ _ => ?_)
                refine A_lload d_MD_isFirstTime_147 rfl ?_
                refine A_lcmpn d_MD_isFirstTime_149 (fun x39 lx39 ex39 gx39 _ _ => ?_)
                refine A_if_ne (tgt := 165) d_MD_isFirstTime_150 (by decide) (fun c40 => ?_) (fun c40 => ?_)
                · have mc40 : (x38 - x12) ≠ 0 := by omega
                  refine A_iincv (z := (i18 + 1)) (L' := [some (av_R (some 170)), some (av_I a1), some (av_I a2), some (av_I a3), some (av_L x12), none, some (av_L x13), none, some (av_I i14), some (av_I (i18 + 1)), some (av_I (300 * i14 + i18))]) d_MD_isFirstTime_165 rfl (w32_to (by omega) (by unfold i32; omega)) rfl ?_
                  refine A_goto (tgt := 63) d_MD_isFirstTime_168 (by decide) ?_
                  refine A_free (L' := [some (av_R (some 170)), some (av_I a1), some (av_I a2), some (av_I a3), some (av_L x12), none, some (av_L x13), none, some (av_I i14), some (av_I (i18 + 1)), none]) (And.intro rfl (And.intro rfl (And.intro rfl (And.intro rfl (And.intro rfl (And.intro rfl (And.intro rfl (And.intro rfl trivial)))))))) ?_
                  exact ih63 (i18 + 1) h35 (by omega) (by omega) k37 (by omega)
                · have mc40 : (x38 - x12) = 0 := by omega
                  refine A_aload_n 0 d_MD_isFirstTime_153 rfl rfl ?_
                  refine A_getLf T_ok d_MD_isFirstTime_154 f_MD_388 (mi_s k37.1 sf_170) (fun x41 ex41 _ _ => ?_)
                  refine A_lload d_MD_isFirstTime_157 rfl ?_
                  refine A_lcmpn d_MD_isFirstTime_159 (fun x42 lx42 ex42 gx42 _ _ => ?_)
                  refine A_if_ne (tgt := 165) d_MD_isFirstTime_160 (by decide) (fun c43 => ?_) (fun c43 => ?_)
                  · have mc43 : (x41 - x13) ≠ 0 := by omega
                    refine A_iincv (z := (i18 + 1)) (L' := [some (av_R (some 170)), some (av_I a1), some (av_I a2), some (av_I a3), some (av_L x12), none, some (av_L x13), none, some (av_I i14), some (av_I (i18 + 1)), some (av_I (300 * i14 + i18))]) d_MD_isFirstTime_165 rfl (w32_to (by omega) (by unfold i32; omega)) rfl ?_
                    refine A_goto (tgt := 63) d_MD_isFirstTime_168 (by decide) ?_
                    refine A_free (L' := [some (av_R (some 170)), some (av_I a1), some (av_I a2), some (av_I a3), some (av_L x12), none, some (av_L x13), none, some (av_I i14), some (av_I (i18 + 1)), none]) (And.intro rfl (And.intro rfl (And.intro rfl (And.intro rfl (And.intro rfl (And.intro rfl (And.intro rfl (And.intro rfl trivial)))))))) ?_
                    exact ih63 (i18 + 1) h35 (by omega) (by omega) k37 (by omega)
                  · have mc43 : (x41 - x13) = 0 := by omega
                    refine A_iconst d_MD_isFirstTime_163 rfl ?_
                    exact A_zret d_MD_isFirstTime_164 (by decide) rfl (by omega) ⟨_, rfl, by omega, k37⟩
              · refine A_goto (tgt := 165) d_MD_isFirstTime_97 (by decide) ?_
                refine A_iincv (z := (i18 + 1)) (L' := [some (av_R (some 170)), some (av_I a1), some (av_I a2), some (av_I a3), some (av_L x12), none, some (av_L x13), none, some (av_I i14), some (av_I (i18 + 1)), some (av_I (300 * i14 + i18))]) d_MD_isFirstTime_165 rfl (w32_to (by omega) (by unfold i32; omega)) rfl ?_
                refine A_goto (tgt := 63) d_MD_isFirstTime_168 (by decide) ?_
                refine A_free (L' := [some (av_R (some 170)), some (av_I a1), some (av_I a2), some (av_I a3), some (av_L x12), none, some (av_L x13), none, some (av_I i14), some (av_I (i18 + 1)), none]) (And.intro rfl (And.intro rfl (And.intro rfl (And.intro rfl (And.intro rfl (And.intro rfl (And.intro rfl (And.intro rfl trivial)))))))) ?_
                exact ih63 (i18 + 1) h19 (by omega) (by omega) k20 (by omega)
        exact lp63 _ 0 h15 (by omega) (by omega) k16 (Nat.lt_succ_self _)
  exact lp54 _ 0 h9 (by omega) (by omega) k11 (Nat.lt_succ_self _)
