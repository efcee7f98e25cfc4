/-! ===== the reference's methods, 342 ===== -/
def m_MD_groupCost : mr_T := (⟨"PlainMusicModel", "groupCost", "(IIII)I"⟩, prog_14_method_70_code, 10, some .int)
theorem d_MD_groupCost_0 : decode prog_14_method_70_code 0 = .ok (.iload 4, 2) := by decide +kernel
theorem d_MD_groupCost_2 : decode prog_14_method_70_code 2 = .ok (.iconst 1, 1) := by decide +kernel
theorem d_MD_groupCost_3 : decode prog_14_method_70_code 3 = .ok (.if_icmp .ne 5, 3) := by decide +kernel
theorem d_MD_groupCost_8 : decode prog_14_method_70_code 8 = .ok (.iconst 1, 1) := by decide +kernel
theorem d_MD_groupCost_9 : decode prog_14_method_70_code 9 = .ok (.istore 5, 2) := by decide +kernel
theorem d_MD_groupCost_11 : decode prog_14_method_70_code 11 = .ok (.bipush 102, 2) := by decide +kernel
theorem d_MD_groupCost_13 : decode prog_14_method_70_code 13 = .ok (.iload_n 1, 1) := by decide +kernel
theorem d_MD_groupCost_14 : decode prog_14_method_70_code 14 = .ok (.imul, 1) := by decide +kernel
theorem d_MD_groupCost_15 : decode prog_14_method_70_code 15 = .ok (.iload_n 2, 1) := by decide +kernel
theorem d_MD_groupCost_16 : decode prog_14_method_70_code 16 = .ok (.iadd, 1) := by decide +kernel
theorem d_MD_groupCost_17 : decode prog_14_method_70_code 17 = .ok (.istore 6, 2) := by decide +kernel
theorem d_MD_groupCost_19 : decode prog_14_method_70_code 19 = .ok (.iload_n 3, 1) := by decide +kernel
theorem d_MD_groupCost_20 : decode prog_14_method_70_code 20 = .ok (.iconst 1, 1) := by decide +kernel
theorem d_MD_groupCost_21 : decode prog_14_method_70_code 21 = .ok (.iadd, 1) := by decide +kernel
theorem d_MD_groupCost_22 : decode prog_14_method_70_code 22 = .ok (.istore 7, 2) := by decide +kernel
theorem d_MD_groupCost_24 : decode prog_14_method_70_code 24 = .ok (.iload 7, 2) := by decide +kernel
theorem d_MD_groupCost_26 : decode prog_14_method_70_code 26 = .ok (.iload_n 3, 1) := by decide +kernel
theorem d_MD_groupCost_27 : decode prog_14_method_70_code 27 = .ok (.iload 4, 2) := by decide +kernel
theorem d_MD_groupCost_29 : decode prog_14_method_70_code 29 = .ok (.iadd, 1) := by decide +kernel
theorem d_MD_groupCost_30 : decode prog_14_method_70_code 30 = .ok (.if_icmp .ge 177, 3) := by decide +kernel
theorem d_MD_groupCost_207 : decode prog_14_method_70_code 207 = .ok (.iload 5, 2) := by decide +kernel
theorem d_MD_groupCost_209 : decode prog_14_method_70_code 209 = .ok (.ireturn, 1) := by decide +kernel
theorem d_MD_groupCost_33 : decode prog_14_method_70_code 33 = .ok (.sipush 300, 3) := by decide +kernel
theorem d_MD_groupCost_36 : decode prog_14_method_70_code 36 = .ok (.iload_n 1, 1) := by decide +kernel
theorem d_MD_groupCost_37 : decode prog_14_method_70_code 37 = .ok (.imul, 1) := by decide +kernel
theorem d_MD_groupCost_38 : decode prog_14_method_70_code 38 = .ok (.iload 7, 2) := by decide +kernel
theorem d_MD_groupCost_40 : decode prog_14_method_70_code 40 = .ok (.iadd, 1) := by decide +kernel
theorem d_MD_groupCost_41 : decode prog_14_method_70_code 41 = .ok (.istore 8, 2) := by decide +kernel
theorem d_MD_groupCost_43 : decode prog_14_method_70_code 43 = .ok (.aload_n 0, 1) := by decide +kernel
theorem d_MD_groupCost_44 : decode prog_14_method_70_code 44 = .ok (.aload_n 0, 1) := by decide +kernel
theorem d_MD_groupCost_45 : decode prog_14_method_70_code 45 = .ok (.getfield 63, 3) := by decide +kernel
theorem d_MD_groupCost_48 : decode prog_14_method_70_code 48 = .ok (.iload 8, 2) := by decide +kernel
theorem d_MD_groupCost_50 : decode prog_14_method_70_code 50 = .ok (.laload, 1) := by decide +kernel
theorem d_MD_groupCost_51 : decode prog_14_method_70_code 51 = .ok (.aload_n 0, 1) := by decide +kernel
theorem d_MD_groupCost_52 : decode prog_14_method_70_code 52 = .ok (.getfield 66, 3) := by decide +kernel
theorem d_MD_groupCost_55 : decode prog_14_method_70_code 55 = .ok (.iload 8, 2) := by decide +kernel
theorem d_MD_groupCost_57 : decode prog_14_method_70_code 57 = .ok (.laload, 1) := by decide +kernel
theorem d_MD_groupCost_58 : decode prog_14_method_70_code 58 = .ok (.aload_n 0, 1) := by decide +kernel
theorem d_MD_groupCost_59 : decode prog_14_method_70_code 59 = .ok (.getfield 100, 3) := by decide +kernel
theorem d_MD_groupCost_62 : decode prog_14_method_70_code 62 = .ok (.iload 6, 2) := by decide +kernel
theorem d_MD_groupCost_64 : decode prog_14_method_70_code 64 = .ok (.laload, 1) := by decide +kernel
theorem d_MD_groupCost_65 : decode prog_14_method_70_code 65 = .ok (.lneg, 1) := by decide +kernel
theorem d_MD_groupCost_66 : decode prog_14_method_70_code 66 = .ok (.aload_n 0, 1) := by decide +kernel
theorem d_MD_groupCost_67 : decode prog_14_method_70_code 67 = .ok (.getfield 103, 3) := by decide +kernel
theorem d_MD_groupCost_70 : decode prog_14_method_70_code 70 = .ok (.iload 6, 2) := by decide +kernel
theorem d_MD_groupCost_72 : decode prog_14_method_70_code 72 = .ok (.laload, 1) := by decide +kernel
theorem d_MD_groupCost_73 : decode prog_14_method_70_code 73 = .ok (.invokevirtual 458, 3) := by decide +kernel
theorem d_MD_groupCost_76 : decode prog_14_method_70_code 76 = .ok (.aload_n 0, 1) := by decide +kernel
theorem d_MD_groupCost_77 : decode prog_14_method_70_code 77 = .ok (.aload_n 0, 1) := by decide +kernel
theorem d_MD_groupCost_78 : decode prog_14_method_70_code 78 = .ok (.getfield 385, 3) := by decide +kernel
theorem d_MD_groupCost_81 : decode prog_14_method_70_code 81 = .ok (.aload_n 0, 1) := by decide +kernel
theorem d_MD_groupCost_82 : decode prog_14_method_70_code 82 = .ok (.getfield 23, 3) := by decide +kernel
theorem d_MD_groupCost_85 : decode prog_14_method_70_code 85 = .ok (.iconst 0, 1) := by decide +kernel
theorem d_MD_groupCost_86 : decode prog_14_method_70_code 86 = .ok (.iaload, 1) := by decide +kernel
theorem d_MD_groupCost_87 : decode prog_14_method_70_code 87 = .ok (.i2l, 1) := by decide +kernel
theorem d_MD_groupCost_88 : decode prog_14_method_70_code 88 = .ok (.lmul, 1) := by decide +kernel
theorem d_MD_groupCost_89 : decode prog_14_method_70_code 89 = .ok (.aload_n 0, 1) := by decide +kernel
theorem d_MD_groupCost_90 : decode prog_14_method_70_code 90 = .ok (.getfield 388, 3) := by decide +kernel
theorem d_MD_groupCost_93 : decode prog_14_method_70_code 93 = .ok (.invokevirtual 391, 3) := by decide +kernel
theorem d_MD_groupCost_96 : decode prog_14_method_70_code 96 = .ok (.iload 5, 2) := by decide +kernel
theorem d_MD_groupCost_98 : decode prog_14_method_70_code 98 = .ok (.aload_n 0, 1) := by decide +kernel
theorem d_MD_groupCost_99 : decode prog_14_method_70_code 99 = .ok (.getfield 388, 3) := by decide +kernel
theorem d_MD_groupCost_102 : decode prog_14_method_70_code 102 = .ok (.lconst 1, 1) := by decide +kernel
theorem d_MD_groupCost_103 : decode prog_14_method_70_code 103 = .ok (.lcmp, 1) := by decide +kernel
theorem d_MD_groupCost_104 : decode prog_14_method_70_code 104 = .ok (.ifCond .ne 7, 3) := by decide +kernel
theorem d_MD_groupCost_111 : decode prog_14_method_70_code 111 = .ok (.iconst 0, 1) := by decide +kernel
theorem d_MD_groupCost_112 : decode prog_14_method_70_code 112 = .ok (.iadd, 1) := by decide +kernel
theorem d_MD_groupCost_113 : decode prog_14_method_70_code 113 = .ok (.istore 5, 2) := by decide +kernel
theorem d_MD_groupCost_115 : decode prog_14_method_70_code 115 = .ok (.iload 5, 2) := by decide +kernel
theorem d_MD_groupCost_117 : decode prog_14_method_70_code 117 = .ok (.aload_n 0, 1) := by decide +kernel
theorem d_MD_groupCost_118 : decode prog_14_method_70_code 118 = .ok (.getfield 94, 3) := by decide +kernel
theorem d_MD_groupCost_121 : decode prog_14_method_70_code 121 = .ok (.iload 8, 2) := by decide +kernel
theorem d_MD_groupCost_123 : decode prog_14_method_70_code 123 = .ok (.iaload, 1) := by decide +kernel
theorem d_MD_groupCost_124 : decode prog_14_method_70_code 124 = .ok (.aload_n 0, 1) := by decide +kernel
theorem d_MD_groupCost_125 : decode prog_14_method_70_code 125 = .ok (.getfield 94, 3) := by decide +kernel
theorem d_MD_groupCost_128 : decode prog_14_method_70_code 128 = .ok (.iload 8, 2) := by decide +kernel
theorem d_MD_groupCost_130 : decode prog_14_method_70_code 130 = .ok (.iconst 1, 1) := by decide +kernel
theorem d_MD_groupCost_131 : decode prog_14_method_70_code 131 = .ok (.isub, 1) := by decide +kernel
theorem d_MD_groupCost_132 : decode prog_14_method_70_code 132 = .ok (.iaload, 1) := by decide +kernel
theorem d_MD_groupCost_133 : decode prog_14_method_70_code 133 = .ok (.if_icmp .eq 7, 3) := by decide +kernel
theorem d_MD_groupCost_140 : decode prog_14_method_70_code 140 = .ok (.iconst 0, 1) := by decide +kernel
theorem d_MD_groupCost_141 : decode prog_14_method_70_code 141 = .ok (.iadd, 1) := by decide +kernel
theorem d_MD_groupCost_142 : decode prog_14_method_70_code 142 = .ok (.istore 5, 2) := by decide +kernel
theorem d_MD_groupCost_144 : decode prog_14_method_70_code 144 = .ok (.aload_n 0, 1) := by decide +kernel
theorem d_MD_groupCost_145 : decode prog_14_method_70_code 145 = .ok (.getfield 81, 3) := by decide +kernel
theorem d_MD_groupCost_148 : decode prog_14_method_70_code 148 = .ok (.iconst 4, 1) := by decide +kernel
theorem d_MD_groupCost_149 : decode prog_14_method_70_code 149 = .ok (.iload 8, 2) := by decide +kernel
theorem d_MD_groupCost_151 : decode prog_14_method_70_code 151 = .ok (.imul, 1) := by decide +kernel
theorem d_MD_groupCost_152 : decode prog_14_method_70_code 152 = .ok (.iaload, 1) := by decide +kernel
theorem d_MD_groupCost_153 : decode prog_14_method_70_code 153 = .ok (.aload_n 0, 1) := by decide +kernel
theorem d_MD_groupCost_154 : decode prog_14_method_70_code 154 = .ok (.getfield 81, 3) := by decide +kernel
theorem d_MD_groupCost_157 : decode prog_14_method_70_code 157 = .ok (.iconst 4, 1) := by decide +kernel
theorem d_MD_groupCost_158 : decode prog_14_method_70_code 158 = .ok (.iload 8, 2) := by decide +kernel
theorem d_MD_groupCost_160 : decode prog_14_method_70_code 160 = .ok (.imul, 1) := by decide +kernel
theorem d_MD_groupCost_161 : decode prog_14_method_70_code 161 = .ok (.iconst 4, 1) := by decide +kernel
theorem d_MD_groupCost_162 : decode prog_14_method_70_code 162 = .ok (.isub, 1) := by decide +kernel
theorem d_MD_groupCost_163 : decode prog_14_method_70_code 163 = .ok (.iaload, 1) := by decide +kernel
theorem d_MD_groupCost_164 : decode prog_14_method_70_code 164 = .ok (.isub, 1) := by decide +kernel
theorem d_MD_groupCost_165 : decode prog_14_method_70_code 165 = .ok (.istore 9, 2) := by decide +kernel
theorem d_MD_groupCost_167 : decode prog_14_method_70_code 167 = .ok (.iload 9, 2) := by decide +kernel
theorem d_MD_groupCost_169 : decode prog_14_method_70_code 169 = .ok (.ifCond .ge 9, 3) := by decide +kernel
theorem d_MD_groupCost_178 : decode prog_14_method_70_code 178 = .ok (.iload 9, 2) := by decide +kernel
theorem d_MD_groupCost_180 : decode prog_14_method_70_code 180 = .ok (.istore 9, 2) := by decide +kernel
theorem d_MD_groupCost_182 : decode prog_14_method_70_code 182 = .ok (.iload 5, 2) := by decide +kernel
theorem d_MD_groupCost_184 : decode prog_14_method_70_code 184 = .ok (.iload 9, 2) := by decide +kernel
theorem d_MD_groupCost_186 : decode prog_14_method_70_code 186 = .ok (.iconst 4, 1) := by decide +kernel
theorem d_MD_groupCost_187 : decode prog_14_method_70_code 187 = .ok (.if_icmp .le 10, 3) := by decide +kernel
theorem d_MD_groupCost_197 : decode prog_14_method_70_code 197 = .ok (.iconst 0, 1) := by decide +kernel
theorem d_MD_groupCost_198 : decode prog_14_method_70_code 198 = .ok (.iadd, 1) := by decide +kernel
theorem d_MD_groupCost_199 : decode prog_14_method_70_code 199 = .ok (.istore 5, 2) := by decide +kernel
theorem d_MD_groupCost_201 : decode prog_14_method_70_code 201 = .ok (.iinc 7 1, 3) := by decide +kernel
theorem d_MD_groupCost_204 : decode prog_14_method_70_code 204 = .ok (.goto (-180), 3) := by decide +kernel
theorem d_MD_groupCost_190 : decode prog_14_method_70_code 190 = .ok (.iload 9, 2) := by decide +kernel
theorem d_MD_groupCost_192 : decode prog_14_method_70_code 192 = .ok (.iconst 4, 1) := by decide +kernel
theorem d_MD_groupCost_193 : decode prog_14_method_70_code 193 = .ok (.isub, 1) := by decide +kernel
theorem d_MD_groupCost_194 : decode prog_14_method_70_code 194 = .ok (.goto 4, 3) := by decide +kernel
theorem d_MD_groupCost_172 : decode prog_14_method_70_code 172 = .ok (.iload 9, 2) := by decide +kernel
theorem d_MD_groupCost_174 : decode prog_14_method_70_code 174 = .ok (.ineg, 1) := by decide +kernel
theorem d_MD_groupCost_175 : decode prog_14_method_70_code 175 = .ok (.goto 5, 3) := by decide +kernel
theorem d_MD_groupCost_136 : decode prog_14_method_70_code 136 = .ok (.iconst 1, 1) := by decide +kernel
theorem d_MD_groupCost_137 : decode prog_14_method_70_code 137 = .ok (.goto 4, 3) := by decide +kernel
theorem d_MD_groupCost_107 : decode prog_14_method_70_code 107 = .ok (.iconst 2, 1) := by decide +kernel
theorem d_MD_groupCost_108 : decode prog_14_method_70_code 108 = .ok (.goto 4, 3) := by decide +kernel
theorem d_MD_groupCost_6 : decode prog_14_method_70_code 6 = .ok (.iconst 3, 1) := by decide +kernel
theorem d_MD_groupCost_7 : decode prog_14_method_70_code 7 = .ok (.ireturn, 1) := by decide +kernel
set_option maxHeartbeats 8000000 in
theorem s_MD_groupCost {G : cx_T} {h : ah_T} (hx : mi h) {a1 : Int} {a2 : Int} {a3 : Int} {a4 : Int} (la1 : 0 ≤ a1) (ua1 : a1 ≤ 3) (la2 : 0 ≤ a2) (ua2 : a2 ≤ 100) (la3 : 0 ≤ a3) (ua3 : a3 ≤ 299) (la4 : 1 ≤ a4) (ua4 : a4 ≤ 6) (hKS : KS h) (hv : a1 < h.2.1 172 0) (hb : a2 < h.2.1 186 a1.toNat) (hin : a3 + a4 ≤ h.2.1 185 a1.toNat) (hc3 : h.2.1 185 a1.toNat ≤ 300) : con G 3 0 0 m_MD_groupCost [av_R (some 170), av_I a1, av_I a2, av_I a3, av_I a4] h (fun r h' => ∃ z, r = some (av_I z) ∧ ((-2147483648) ≤ z ∧ z ≤ 2147483647) ∧ kM (pm [65, 66] []) h h') := by
  refine con_of (L := [some (av_R (some 170)), some (av_I a1), some (av_I a2), some (av_I a3), some (av_I a4), none, none, none, none, none]) (by decide +kernel) (Nat.le_of_ble_eq_true rfl) rfl ?_
  have k0 : kM (pm [65, 66] []) h h := kM_0 hx
  refine A_iload d_MD_groupCost_0 rfl ?_
  refine A_iconst d_MD_groupCost_2 rfl ?_
  refine A_icmp_ne (tgt := 8) d_MD_groupCost_3 (by decide) (fun c1 => ?_) (fun c1 => ?_)
  · refine A_iconst d_MD_groupCost_8 rfl ?_
    refine A_istore (L' := [some (av_R (some 170)), some (av_I a1), some (av_I a2), some (av_I a3), some (av_I a4), some (av_I 1), none, none, none, none]) d_MD_groupCost_9 (Nat.le_of_ble_eq_true rfl) rfl ?_
    refine A_bipush d_MD_groupCost_11 rfl ?_
    refine A_iload_n 1 d_MD_groupCost_13 rfl rfl ?_
    refine A_imulv (z := (102 * a1)) d_MD_groupCost_14 (w32_to (by omega) (by unfold i32; omega)) ?_
    refine A_pc (pc' := 15) rfl ?_
    refine A_iload_n 2 d_MD_groupCost_15 rfl rfl ?_
    refine A_iaddv (z := (102 * a1 + a2)) d_MD_groupCost_16 (w32_to (by omega) (by unfold i32; omega)) ?_
    refine A_istore (L' := [some (av_R (some 170)), some (av_I a1), some (av_I a2), some (av_I a3), some (av_I a4), some (av_I 1), some (av_I (102 * a1 + a2)), none, none, none]) d_MD_groupCost_17 (Nat.le_of_ble_eq_true rfl) rfl ?_
    refine A_iload_n 3 d_MD_groupCost_19 rfl rfl ?_
    refine A_iconst d_MD_groupCost_20 rfl ?_
    refine A_iaddv (z := (a3 + 1)) d_MD_groupCost_21 (w32_to (by omega) (by unfold i32; omega)) ?_
    refine A_pc (pc' := 22) rfl ?_
    refine A_istore (L' := [some (av_R (some 170)), some (av_I a1), some (av_I a2), some (av_I a3), some (av_I a4), some (av_I 1), some (av_I (102 * a1 + a2)), some (av_I (a3 + 1)), none, none]) d_MD_groupCost_22 (Nat.le_of_ble_eq_true rfl) rfl ?_
    have lp24 : ∀ (n : Nat) (i2 i3 : Int) (h4 : ah_T) , (-2147483648) ≤ i2 → i2 ≤ 2147483647 → 1 ≤ i3 → i3 ≤ 304 → kM (pm [65, 66] []) h h4 → (305 - i3).toNat < n → aw G (rm_R 3 0 0) m_MD_groupCost 0 0 24 [some (av_R (some 170)), some (av_I a1), some (av_I a2), some (av_I a3), some (av_I a4), some (av_I i2), some (av_I (102 * a1 + a2)), some (av_I i3), none, none] [] h4 (fun r h' => ∃ z, r = some (av_I z) ∧ ((-2147483648) ≤ z ∧ z ≤ 2147483647) ∧ kM (pm [65, 66] []) h h') := by
      intro n
      induction n with
      | zero => intro i2 i3 h4 _ _ _ _ _ hm; omega
      | succ n ih24 =>
        intro i2 i3 h4 hl0 hl1 hl2 hl3 k5 hm
        refine A_iload d_MD_groupCost_24 rfl ?_
        refine A_iload_n 3 d_MD_groupCost_26 rfl rfl ?_
        refine A_iload d_MD_groupCost_27 rfl ?_
        refine A_iaddv (z := (a3 + a4)) d_MD_groupCost_29 (w32_to (by omega) (by unfold i32; omega)) ?_
        refine A_icmp_ge (tgt := 207) d_MD_groupCost_30 (by decide) (fun c6 => ?_) (fun c6 => ?_)
        · refine A_iload d_MD_groupCost_207 rfl ?_
          exact A_iret d_MD_groupCost_209 (by decide) rfl ⟨_, rfl, ⟨by omega, by omega⟩, k5⟩
        · refine A_sipush d_MD_groupCost_33 rfl ?_
          refine A_iload_n 1 d_MD_groupCost_36 rfl rfl ?_
          refine A_imulv (z := (300 * a1)) d_MD_groupCost_37 (w32_to (by omega) (by unfold i32; omega)) ?_
          refine A_iload d_MD_groupCost_38 rfl ?_
          refine A_iaddv (z := (300 * a1 + i3)) d_MD_groupCost_40 (w32_to (by omega) (by unfold i32; omega)) ?_
          refine A_pc (pc' := 41) rfl ?_
          refine A_istore (L' := [some (av_R (some 170)), some (av_I a1), some (av_I a2), some (av_I a3), some (av_I a4), some (av_I i2), some (av_I (102 * a1 + a2)), some (av_I i3), some (av_I (300 * a1 + i3)), none]) d_MD_groupCost_41 (Nat.le_of_ble_eq_true rfl) rfl ?_
          refine A_aload_n 0 d_MD_groupCost_43 rfl rfl ?_
          refine A_aload_n 0 d_MD_groupCost_44 rfl rfl ?_
          refine A_getAv (z := some 187) T_ok d_MD_groupCost_45 f_MD_63 (mi_s k5.1 sf_170) (mi_r k5.1 rfm_29) ?_
          refine A_iload d_MD_groupCost_48 rfl ?_
          refine A_laloadn (lo := 0) (hi := 2000000000000000) d_MD_groupCost_50 (mi_s k5.1 sf_187) (by omega) (by omega) (mi_l k5.1 (by decide) (mq_187 _)) (fun x8 ex8 _ _ => ?_)
          have fx8 := ex8.trans (k5.2.2.2 187 _ rfl)
          have yx8 : EV h ((300 * a1 + i3)).toNat := ((hKS a1.toNat (by omega)).1 _ (by omega) (by omega))
          unfold EV at yx8
          refine A_pc (pc' := 51) rfl ?_
          refine A_aload_n 0 d_MD_groupCost_51 rfl rfl ?_
          refine A_getAv (z := some 188) T_ok d_MD_groupCost_52 f_MD_66 (mi_s k5.1 sf_170) (mi_r k5.1 rfm_30) ?_
          refine A_iload d_MD_groupCost_55 rfl ?_
          refine A_laloadn (lo := 0) (hi := 1000000000000) d_MD_groupCost_57 (mi_s k5.1 sf_188) (by omega) (by omega) (mi_l k5.1 (by decide) (mq_188 _)) (fun x10 ex10 _ _ => ?_)
          have fx10 := ex10.trans (k5.2.2.2 188 _ rfl)
          have yx10 : EV h ((300 * a1 + i3)).toNat := ((hKS a1.toNat (by omega)).1 _ (by omega) (by omega))
          unfold EV at yx10
          refine A_aload_n 0 d_MD_groupCost_58 rfl rfl ?_
          refine A_getAv (z := some 199) T_ok d_MD_groupCost_59 f_MD_100 (mi_s k5.1 sf_170) (mi_r k5.1 rfm_41) ?_
          refine A_pc (pc' := 62) rfl ?_
          refine A_iload d_MD_groupCost_62 rfl ?_
          refine A_laloadn (lo := 0) (hi := 2000000000000000) d_MD_groupCost_64 (mi_s k5.1 sf_199) (by omega) (by omega) (mi_l k5.1 (by decide) (mq_199 _)) (fun x12 ex12 _ _ => ?_)
          have fx12 := ex12.trans (k5.2.2.2 199 _ rfl)
          have yx12 : BV h ((102 * a1 + a2)).toNat := (hKS (a1).toNat (by omega)).2 _ (by omega) (by omega)
          unfold BV at yx12
          refine A_lnegv (z := (-x12)) d_MD_groupCost_65 (w64_to (by omega) (by unfold i64; omega)) ?_
          refine A_aload_n 0 d_MD_groupCost_66 rfl rfl ?_
          refine A_getAv (z := some 200) T_ok d_MD_groupCost_67 f_MD_103 (mi_s k5.1 sf_170) (mi_r k5.1 rfm_42) ?_
          refine A_iload d_MD_groupCost_70 rfl ?_
          refine A_pc (pc' := 72) rfl ?_
          refine A_laloadn (lo := 0) (hi := 1000000000000) d_MD_groupCost_72 (mi_s k5.1 sf_200) (by omega) (by omega) (mi_l k5.1 (by decide) (mq_200 _)) (fun x14 ex14 _ _ => ?_)
          have fx14 := ex14.trans (k5.2.2.2 200 _ rfl)
          have yx14 : BV h ((102 * a1 + a2)).toNat := (hKS (a1).toNat (by omega)).2 _ (by omega) (by omega)
          unfold BV at yx14
          refine A_callV4 m_MD_sum T_ok d_MD_groupCost_73 l_MD_458 k_MD_sum (mi_s k5.1 sf_170) rfl (by decide +kernel) (by decide) (Nat.le_of_ble_eq_true rfl) (s_MD_sum k5.1 (by omega) (by omega) (by omega) (by omega) (by omega) (by omega) (by omega) (by omega)) (fun r h15 hq => ?_)
          obtain ⟨rfl, xk16, k16⟩ := hq
          have k17 := kM_t k5 k16 (pm_s (by decide) (by decide))
          refine A_aload_n 0 d_MD_groupCost_76 rfl rfl ?_
          refine A_aload_n 0 d_MD_groupCost_77 rfl rfl ?_
          refine A_getLf T_ok d_MD_groupCost_78 f_MD_385 (mi_s k17.1 sf_170) (fun x18 ex18 _ _ => ?_)
          refine A_aload_n 0 d_MD_groupCost_81 rfl rfl ?_
          refine A_getAv (z := some 174) T_ok d_MD_groupCost_82 f_MD_23 (mi_s k17.1 sf_170) (mi_r k17.1 rfm_16) ?_
          refine A_pc (pc' := 85) rfl ?_
          refine A_iconst d_MD_groupCost_85 rfl ?_
          refine A_ialoadn (lo := 0) (hi := 32) d_MD_groupCost_86 (mi_s k17.1 sf_174) (by decide) (by decide) (mi_g k17.1 (by decide) (mr_174 _)) (fun x20 ex20 _ _ => ?_)
          refine A_i2l d_MD_groupCost_87 ?_
          refine A_lmulw d_MD_groupCost_88 (fun x21 ex21 _ _ => ?_)
          have bx21 := mul_b64 (ux := 8000000000000000) (uy := 32) ex21 (by omega) (by omega) (by omega) (by omega) (by decide)
          refine A_aload_n 0 d_MD_groupCost_89 rfl rfl ?_
          refine A_getLf T_ok d_MD_groupCost_90 f_MD_388 (mi_s k17.1 sf_170) (fun x22 ex22 _ _ => ?_)
          refine A_pc (pc' := 93) rfl ?_
          refine A_callV2 m_MD_fraction T_ok d_MD_groupCost_93 l_MD_391 k_MD_fraction (mi_s k17.1 sf_170) rfl (by decide +kernel) (by decide) (Nat.le_of_ble_eq_true rfl) (s_MD_fraction k17.1 (by omega) (by omega) (by omega) (by omega)) (fun r h23 hq => ?_)
          obtain ⟨rfl, xk24, k24⟩ := hq
          have k25 := kM_t k17 k24 (pm_s (by decide) (by decide))
          refine A_iload d_MD_groupCost_96 rfl ?_
          refine A_aload_n 0 d_MD_groupCost_98 rfl rfl ?_
          refine A_getLf T_ok d_MD_groupCost_99 f_MD_388 (mi_s k25.1 sf_170) (fun x26 ex26 _ _ => ?_)
          refine A_lconst_1 d_MD_groupCost_102 ?_
          refine A_lcmpn d_MD_groupCost_103 (fun x27 lx27 ex27 gx27 _ _ => ?_)
          refine A_pc (pc' := 104) rfl ?_
          refine A_if_ne (tgt := 111) d_MD_groupCost_104 (by decide) (fun c28 => ?_) (fun c28 => ?_)
          · have mc28 : (x26 - 1) ≠ 0 := by omega
            refine A_iconst d_MD_groupCost_111 rfl ?_
            refine A_iaddv (z := i2) d_MD_groupCost_112 (w32_to (by omega) (by unfold i32; omega)) ?_
            refine A_istore (L' := [some (av_R (some 170)), some (av_I a1), some (av_I a2), some (av_I a3), some (av_I a4), some (av_I i2), some (av_I (102 * a1 + a2)), some (av_I i3), some (av_I (300 * a1 + i3)), none]) d_MD_groupCost_113 (Nat.le_of_ble_eq_true rfl) rfl ?_
            refine A_iload d_MD_groupCost_115 rfl ?_
            refine A_aload_n 0 d_MD_groupCost_117 rfl rfl ?_
            refine A_pc (pc' := 118) rfl ?_
            refine A_getAv (z := some 197) T_ok d_MD_groupCost_118 f_MD_94 (mi_s k25.1 sf_170) (mi_r k25.1 rfm_39) ?_
            refine A_iload d_MD_groupCost_121 rfl ?_
            refine A_ialoadn (lo := 0) (hi := 64) d_MD_groupCost_123 (mi_s k25.1 sf_197) (by omega) (by omega) (mi_g k25.1 (by decide) (mr_197 _)) (fun x30 ex30 _ _ => ?_)
            refine A_aload_n 0 d_MD_groupCost_124 rfl rfl ?_
            refine A_getAv (z := some 197) T_ok d_MD_groupCost_125 f_MD_94 (mi_s k25.1 sf_170) (mi_r k25.1 rfm_39) ?_
            refine A_iload d_MD_groupCost_128 rfl ?_
            refine A_pc (pc' := 130) rfl ?_
            refine A_iconst d_MD_groupCost_130 rfl ?_
            refine A_isubv (z := (300 * a1 + i3 - 1)) d_MD_groupCost_131 (w32_to (by omega) (by unfold i32; omega)) ?_
            refine A_ialoadn (lo := 0) (hi := 64) d_MD_groupCost_132 (mi_s k25.1 sf_197) (by omega) (by omega) (mi_g k25.1 (by decide) (mr_197 _)) (fun x32 ex32 _ _ => ?_)
            refine A_icmp_eq (tgt := 140) d_MD_groupCost_133 (by decide) (fun c33 => ?_) (fun c33 => ?_)
            · refine A_iconst d_MD_groupCost_140 rfl ?_
              refine A_iaddv (z := i2) d_MD_groupCost_141 (w32_to (by omega) (by unfold i32; omega)) ?_
              refine A_istore (L' := [some (av_R (some 170)), some (av_I a1), some (av_I a2), some (av_I a3), some (av_I a4), some (av_I i2), some (av_I (102 * a1 + a2)), some (av_I i3), some (av_I (300 * a1 + i3)), none]) d_MD_groupCost_142 (Nat.le_of_ble_eq_true rfl) rfl ?_
              refine A_aload_n 0 d_MD_groupCost_144 rfl rfl ?_
              refine A_getAv (z := some 193) T_ok d_MD_groupCost_145 f_MD_81 (mi_s k25.1 sf_170) (mi_r k25.1 rfm_35) ?_
              refine A_pc (pc' := 148) rfl ?_
              refine A_iconst d_MD_groupCost_148 rfl ?_
              refine A_iload d_MD_groupCost_149 rfl ?_
              refine A_imulv (z := (1200 * a1 + 4 * i3)) d_MD_groupCost_151 (w32_to (by omega) (by unfold i32; omega)) ?_
              refine A_ialoadn (lo := 0) (hi := 62) d_MD_groupCost_152 (mi_s k25.1 sf_193) (by omega) (by omega) (mi_g k25.1 (by decide) (mr_193 _)) (fun x35 ex35 _ _ => ?_)
              refine A_aload_n 0 d_MD_groupCost_153 rfl rfl ?_
              refine A_getAv (z := some 193) T_ok d_MD_groupCost_154 f_MD_81 (mi_s k25.1 sf_170) (mi_r k25.1 rfm_35) ?_
              refine A_pc (pc' := 157) rfl ?_
              refine A_iconst d_MD_groupCost_157 rfl ?_
              refine A_iload d_MD_groupCost_158 rfl ?_
              refine A_imulv (z := (1200 * a1 + 4 * i3)) d_MD_groupCost_160 (w32_to (by omega) (by unfold i32; omega)) ?_
              refine A_iconst d_MD_groupCost_161 rfl ?_
              refine A_isubv (z := (1200 * a1 + 4 * i3 - 4)) d_MD_groupCost_162 (w32_to (by omega) (by unfold i32; omega)) ?_
              refine A_ialoadn (lo := 0) (hi := 62) d_MD_groupCost_163 (mi_s k25.1 sf_193) (by omega) (by omega) (mi_g k25.1 (by decide) (mr_193 _)) (fun x37 ex37 _ _ => ?_)
              refine A_pc (pc' := 164) rfl ?_
              refine A_isubv (z := (x35 - x37)) d_MD_groupCost_164 (w32_to (by omega) (by unfold i32; omega)) ?_
              refine A_istore (L' := [some (av_R (some 170)), some (av_I a1), some (av_I a2), some (av_I a3), some (av_I a4), some (av_I i2), some (av_I (102 * a1 + a2)), some (av_I i3), some (av_I (300 * a1 + i3)), some (av_I (x35 - x37))]) d_MD_groupCost_165 (Nat.le_of_ble_eq_true rfl) rfl ?_
              refine A_iload d_MD_groupCost_167 rfl ?_
              refine A_if_ge (tgt := 178) d_MD_groupCost_169 (by decide) (fun c38 => ?_) (fun c38 => ?_)
              · refine A_iload d_MD_groupCost_178 rfl ?_
                refine A_istore (L' := [some (av_R (some 170)), some (av_I a1), some (av_I a2), some (av_I a3), some (av_I a4), some (av_I i2), some (av_I (102 * a1 + a2)), some (av_I i3), some (av_I (300 * a1 + i3)), some (av_I (x35 - x37))]) d_MD_groupCost_180 (Nat.le_of_ble_eq_true rfl) rfl ?_
                refine A_iload d_MD_groupCost_182 rfl ?_
                refine A_iload d_MD_groupCost_184 rfl ?_
                refine A_iconst d_MD_groupCost_186 rfl ?_
                refine A_pc (pc' := 187) rfl ?_
                refine A_icmp_le (tgt := 197) d_MD_groupCost_187 (by decide) (fun c39 => ?_) (fun c39 => ?_)
                · refine A_iconst d_MD_groupCost_197 rfl ?_
                  refine A_iaddv (z := i2) d_MD_groupCost_198 (w32_to (by omega) (by unfold i32; omega)) ?_
                  refine A_istore (L' := [some (av_R (some 170)), some (av_I a1), some (av_I a2), some (av_I a3), some (av_I a4), some (av_I i2), some (av_I (102 * a1 + a2)), some (av_I i3), some (av_I (300 * a1 + i3)), some (av_I (x35 - x37))]) d_MD_groupCost_199 (Nat.le_of_ble_eq_true rfl) rfl ?_
                  refine A_iincv (z := (i3 + 1)) (L' := [some (av_R (some 170)), some (av_I a1), some (av_I a2), some (av_I a3), some (av_I a4), some (av_I i2), some (av_I (102 * a1 + a2)), some (av_I (i3 + 1)), some (av_I (300 * a1 + i3)), some (av_I (x35 - x37))]) d_MD_groupCost_201 rfl (w32_to (by omega) (by unfold i32; omega)) rfl ?_
                  refine A_goto (tgt := 24) d_MD_groupCost_204 (by decide) ?_
                  refine A_free (L' := [some (av_R (some 170)), some (av_I a1), some (av_I a2), some (av_I a3), some (av_I a4), some (av_I i2), some (av_I (102 * a1 + a2)), some (av_I (i3 + 1)), none, none]) (And.intro rfl (And.intro rfl (And.intro rfl (And.intro rfl (And.intro rfl (And.intro rfl (And.intro rfl (And.intro rfl trivial)))))))) ?_
                  exact ih24 i2 (i3 + 1) h23 (by omega) (by omega) (by omega) (by omega) k25 (by omega)
                · refine A_iload d_MD_groupCost_190 rfl ?_
                  refine A_iconst d_MD_groupCost_192 rfl ?_
                  refine A_isubv (z := (x35 - x37 - 4)) d_MD_groupCost_193 (w32_to (by omega) (by unfold i32; omega)) ?_
                  refine A_goto (tgt := 198) d_MD_groupCost_194 (by decide) ?_
                  refine A_iaddw d_MD_groupCost_198 (fun x40 _ _ _ => ?_)
                  refine A_istore (L' := [some (av_R (some 170)), some (av_I a1), some (av_I a2), some (av_I a3), some (av_I a4), some (av_I x40), some (av_I (102 * a1 + a2)), some (av_I i3), some (av_I (300 * a1 + i3)), some (av_I (x35 - x37))]) d_MD_groupCost_199 (Nat.le_of_ble_eq_true rfl) rfl ?_
                  refine A_iincv (z := (i3 + 1)) (L' := [some (av_R (some 170)), some (av_I a1), some (av_I a2), some (av_I a3), some (av_I a4), some (av_I x40), some (av_I (102 * a1 + a2)), some (av_I (i3 + 1)), some (av_I (300 * a1 + i3)), some (av_I (x35 - x37))]) d_MD_groupCost_201 rfl (w32_to (by omega) (by unfold i32; omega)) rfl ?_
                  refine A_goto (tgt := 24) d_MD_groupCost_204 (by decide) ?_
                  refine A_free (L' := [some (av_R (some 170)), some (av_I a1), some (av_I a2), some (av_I a3), some (av_I a4), some (av_I x40), some (av_I (102 * a1 + a2)), some (av_I (i3 + 1)), none, none]) (And.intro rfl (And.intro rfl (And.intro rfl (And.intro rfl (And.intro rfl (And.intro rfl (And.intro rfl (And.intro rfl trivial)))))))) ?_
                  exact ih24 x40 (i3 + 1) h23 (by omega) (by omega) (by omega) (by omega) k25 (by omega)
              · refine A_iload d_MD_groupCost_172 rfl ?_
                refine A_inegv (z := (-x35 + x37)) d_MD_groupCost_174 (w32_to (by omega) (by unfold i32; omega)) ?_
                refine A_goto (tgt := 180) d_MD_groupCost_175 (by decide) ?_
                refine A_istore (L' := [some (av_R (some 170)), some (av_I a1), some (av_I a2), some (av_I a3), some (av_I a4), some (av_I i2), some (av_I (102 * a1 + a2)), some (av_I i3), some (av_I (300 * a1 + i3)), some (av_I (-x35 + x37))]) d_MD_groupCost_180 (Nat.le_of_ble_eq_true rfl) rfl ?_
                refine A_iload d_MD_groupCost_182 rfl ?_
                refine A_iload d_MD_groupCost_184 rfl ?_
                refine A_iconst d_MD_groupCost_186 rfl ?_
                refine A_icmp_le (tgt := 197) d_MD_groupCost_187 (by decide) (fun c41 => ?_) (fun c41 => ?_)
                · refine A_iconst d_MD_groupCost_197 rfl ?_
                  refine A_iaddv (z := i2) d_MD_groupCost_198 (w32_to (by omega) (by unfold i32; omega)) ?_
                  refine A_istore (L' := [some (av_R (some 170)), some (av_I a1), some (av_I a2), some (av_I a3), some (av_I a4), some (av_I i2), some (av_I (102 * a1 + a2)), some (av_I i3), some (av_I (300 * a1 + i3)), some (av_I (-x35 + x37))]) d_MD_groupCost_199 (Nat.le_of_ble_eq_true rfl) rfl ?_
                  refine A_iincv (z := (i3 + 1)) (L' := [some (av_R (some 170)), some (av_I a1), some (av_I a2), some (av_I a3), some (av_I a4), some (av_I i2), some (av_I (102 * a1 + a2)), some (av_I (i3 + 1)), some (av_I (300 * a1 + i3)), some (av_I (-x35 + x37))]) d_MD_groupCost_201 rfl (w32_to (by omega) (by unfold i32; omega)) rfl ?_
                  refine A_goto (tgt := 24) d_MD_groupCost_204 (by decide) ?_
                  refine A_free (L' := [some (av_R (some 170)), some (av_I a1), some (av_I a2), some (av_I a3), some (av_I a4), some (av_I i2), some (av_I (102 * a1 + a2)), some (av_I (i3 + 1)), none, none]) (And.intro rfl (And.intro rfl (And.intro rfl (And.intro rfl (And.intro rfl (And.intro rfl (And.intro rfl (And.intro rfl trivial)))))))) ?_
                  exact ih24 i2 (i3 + 1) h23 (by omega) (by omega) (by omega) (by omega) k25 (by omega)
                · refine A_iload d_MD_groupCost_190 rfl ?_
                  refine A_iconst d_MD_groupCost_192 rfl ?_
                  refine A_isubv (z := (-x35 + x37 - 4)) d_MD_groupCost_193 (w32_to (by omega) (by unfold i32; omega)) ?_
                  refine A_goto (tgt := 198) d_MD_groupCost_194 (by decide) ?_
                  refine A_iaddw d_MD_groupCost_198 (fun x42 _ _ _ => ?_)
                  refine A_istore (L' := [some (av_R (some 170)), some (av_I a1), some (av_I a2), some (av_I a3), some (av_I a4), some (av_I x42), some (av_I (102 * a1 + a2)), some (av_I i3), some (av_I (300 * a1 + i3)), some (av_I (-x35 + x37))]) d_MD_groupCost_199 (Nat.le_of_ble_eq_true rfl) rfl ?_
                  refine A_iincv (z := (i3 + 1)) (L' := [some (av_R (some 170)), some (av_I a1), some (av_I a2), some (av_I a3), some (av_I a4), some (av_I x42), some (av_I (102 * a1 + a2)), some (av_I (i3 + 1)), some (av_I (300 * a1 + i3)), some (av_I (-x35 + x37))]) d_MD_groupCost_201 rfl (w32_to (by omega) (by unfold i32; omega)) rfl ?_
                  refine A_goto (tgt := 24) d_MD_groupCost_204 (by decide) ?_
                  refine A_free (L' := [some (av_R (some 170)), some (av_I a1), some (av_I a2), some (av_I a3), some (av_I a4), some (av_I x42), some (av_I (102 * a1 + a2)), some (av_I (i3 + 1)), none, none]) (And.intro rfl (And.intro rfl (And.intro rfl (And.intro rfl (And.intro rfl (And.intro rfl (And.intro rfl (And.intro rfl trivial)))))))) ?_
                  exact ih24 x42 (i3 + 1) h23 (by omega) (by omega) (by omega) (by omega) k25 (by omega)
            · refine A_iconst d_MD_groupCost_136 rfl ?_
              refine A_goto (tgt := 141) d_MD_groupCost_137 (by decide) ?_
              refine A_iaddw d_MD_groupCost_141 (fun x43 _ _ _ => ?_)
              refine A_istore (L' := [some (av_R (some 170)), some (av_I a1), some (av_I a2), some (av_I a3), some (av_I a4), some (av_I x43), some (av_I (102 * a1 + a2)), some (av_I i3), some (av_I (300 * a1 + i3)), none]) d_MD_groupCost_142 (Nat.le_of_ble_eq_true rfl) rfl ?_
              refine A_aload_n 0 d_MD_groupCost_144 rfl rfl ?_
              refine A_getAv (z := some 193) T_ok d_MD_groupCost_145 f_MD_81 (mi_s k25.1 sf_170) (mi_r k25.1 rfm_35) ?_
              refine A_iconst d_MD_groupCost_148 rfl ?_
              refine A_pc (pc' := 149) rfl ?_
              refine A_iload d_MD_groupCost_149 rfl ?_
              refine A_imulv (z := (1200 * a1 + 4 * i3)) d_MD_groupCost_151 (w32_to (by omega) (by unfold i32; omega)) ?_
              refine A_ialoadn (lo := 0) (hi := 62) d_MD_groupCost_152 (mi_s k25.1 sf_193) (by omega) (by omega) (mi_g k25.1 (by decide) (mr_193 _)) (fun x45 ex45 _ _ => ?_)
              refine A_aload_n 0 d_MD_groupCost_153 rfl rfl ?_
              refine A_getAv (z := some 193) T_ok d_MD_groupCost_154 f_MD_81 (mi_s k25.1 sf_170) (mi_r k25.1 rfm_35) ?_
              refine A_iconst d_MD_groupCost_157 rfl ?_
              refine A_pc (pc' := 158) rfl ?_
              refine A_iload d_MD_groupCost_158 rfl ?_
              refine A_imulv (z := (1200 * a1 + 4 * i3)) d_MD_groupCost_160 (w32_to (by omega) (by unfold i32; omega)) ?_
              refine A_iconst d_MD_groupCost_161 rfl ?_
              refine A_isubv (z := (1200 * a1 + 4 * i3 - 4)) d_MD_groupCost_162 (w32_to (by omega) (by unfold i32; omega)) ?_
              refine A_ialoadn (lo := 0) (hi := 62) d_MD_groupCost_163 (mi_s k25.1 sf_193) (by omega) (by omega) (mi_g k25.1 (by decide) (mr_193 _)) (fun x47 ex47 _ _ => ?_)
              refine A_isubv (z := (x45 - x47)) d_MD_groupCost_164 (w32_to (by omega) (by unfold i32; omega)) ?_
              refine A_pc (pc' := 165) rfl ?_
              refine A_istore (L' := [some (av_R (some 170)), some (av_I a1), some (av_I a2), some (av_I a3), some (av_I a4), some (av_I x43), some (av_I (102 * a1 + a2)), some (av_I i3), some (av_I (300 * a1 + i3)), some (av_I (x45 - x47))]) d_MD_groupCost_165 (Nat.le_of_ble_eq_true rfl) rfl ?_
              refine A_iload d_MD_groupCost_167 rfl ?_
              refine A_if_ge (tgt := 178) d_MD_groupCost_169 (by decide) (fun c48 => ?_) (fun c48 => ?_)
              · refine A_iload d_MD_groupCost_178 rfl ?_
                refine A_istore (L' := [some (av_R (some 170)), some (av_I a1), some (av_I a2), some (av_I a3), some (av_I a4), some (av_I x43), some (av_I (102 * a1 + a2)), some (av_I i3), some (av_I (300 * a1 + i3)), some (av_I (x45 - x47))]) d_MD_groupCost_180 (Nat.le_of_ble_eq_true rfl) rfl ?_
                refine A_iload d_MD_groupCost_182 rfl ?_
                refine A_iload d_MD_groupCost_184 rfl ?_
                refine A_iconst d_MD_groupCost_186 rfl ?_
                refine A_pc (pc' := 187) rfl ?_
                refine A_icmp_le (tgt := 197) d_MD_groupCost_187 (by decide) (fun c49 => ?_) (fun c49 => ?_)
                · refine A_iconst d_MD_groupCost_197 rfl ?_
                  refine A_iaddv (z := x43) d_MD_groupCost_198 (w32_to (by omega) (by unfold i32; omega)) ?_
                  refine A_istore (L' := [some (av_R (some 170)), some (av_I a1), some (av_I a2), some (av_I a3), some (av_I a4), some (av_I x43), some (av_I (102 * a1 + a2)), some (av_I i3), some (av_I (300 * a1 + i3)), some (av_I (x45 - x47))]) d_MD_groupCost_199 (Nat.le_of_ble_eq_true rfl) rfl ?_
                  refine A_iincv (z := (i3 + 1)) (L' := [some (av_R (some 170)), some (av_I a1), some (av_I a2), some (av_I a3), some (av_I a4), some (av_I x43), some (av_I (102 * a1 + a2)), some (av_I (i3 + 1)), some (av_I (300 * a1 + i3)), some (av_I (x45 - x47))]) d_MD_groupCost_201 rfl (w32_to (by omega) (by unfold i32; omega)) rfl ?_
                  refine A_goto (tgt := 24) d_MD_groupCost_204 (by decide) ?_
                  refine A_free (L' := [some (av_R (some 170)), some (av_I a1), some (av_I a2), some (av_I a3), some (av_I a4), some (av_I x43), some (av_I (102 * a1 + a2)), some (av_I (i3 + 1)), none, none]) (And.intro rfl (And.intro rfl (And.intro rfl (And.intro rfl (And.intro rfl (And.intro rfl (And.intro rfl (And.intro rfl trivial)))))))) ?_
                  exact ih24 x43 (i3 + 1) h23 (by omega) (by omega) (by omega) (by omega) k25 (by omega)
                · refine A_iload d_MD_groupCost_190 rfl ?_
                  refine A_iconst d_MD_groupCost_192 rfl ?_
                  refine A_isubv (z := (x45 - x47 - 4)) d_MD_groupCost_193 (w32_to (by omega) (by unfold i32; omega)) ?_
                  refine A_goto (tgt := 198) d_MD_groupCost_194 (by decide) ?_
                  refine A_iaddw d_MD_groupCost_198 (fun x50 _ _ _ => ?_)
                  refine A_istore (L' := [some (av_R (some 170)), some (av_I a1), some (av_I a2), some (av_I a3), some (av_I a4), some (av_I x50), some (av_I (102 * a1 + a2)), some (av_I i3), some (av_I (300 * a1 + i3)), some (av_I (x45 - x47))]) d_MD_groupCost_199 (Nat.le_of_ble_eq_true rfl) rfl ?_
                  refine A_iincv (z := (i3 + 1)) (L' := [some (av_R (some 170)), some (av_I a1), some (av_I a2), some (av_I a3), some (av_I a4), some (av_I x50), some (av_I (102 * a1 + a2)), some (av_I (i3 + 1)), some (av_I (300 * a1 + i3)), some (av_I (x45 - x47))]) d_MD_groupCost_201 rfl (w32_to (by omega) (by unfold i32; omega)) rfl ?_
                  refine A_goto (tgt := 24) d_MD_groupCost_204 (by decide) ?_
                  refine A_free (L' := [some (av_R (some 170)), some (av_I a1), some (av_I a2), some (av_I a3), some (av_I a4), some (av_I x50), some (av_I (102 * a1 + a2)), some (av_I (i3 + 1)), none, none]) (And.intro rfl (And.intro rfl (And.intro rfl (And.intro rfl (And.intro rfl (And.intro rfl (And.intro rfl (And.intro rfl trivial)))))))) ?_
                  exact ih24 x50 (i3 + 1) h23 (by omega) (by omega) (by omega) (by omega) k25 (by omega)
              · refine A_iload d_MD_groupCost_172 rfl ?_
                refine A_inegv (z := (-x45 + x47)) d_MD_groupCost_174 (w32_to (by omega) (by unfold i32; omega)) ?_
                refine A_goto (tgt := 180) d_MD_groupCost_175 (by decide) ?_
                refine A_istore (L' := [some (av_R (some 170)), some (av_I a1), some (av_I a2), some (av_I a3), some (av_I a4), some (av_I x43), some (av_I (102 * a1 + a2)), some (av_I i3), some (av_I (300 * a1 + i3)), some (av_I (-x45 + x47))]) d_MD_groupCost_180 (Nat.le_of_ble_eq_true rfl) rfl ?_
                refine A_iload d_MD_groupCost_182 rfl ?_
                refine A_iload d_MD_groupCost_184 rfl ?_
                refine A_iconst d_MD_groupCost_186 rfl ?_
                refine A_icmp_le (tgt := 197) d_MD_groupCost_187 (by decide) (fun c51 => ?_) (fun c51 => ?_)
                · refine A_iconst d_MD_groupCost_197 rfl ?_
                  refine A_iaddv (z := x43) d_MD_groupCost_198 (w32_to (by omega) (by unfold i32; omega)) ?_
                  refine A_istore (L' := [some (av_R (some 170)), some (av_I a1), some (av_I a2), some (av_I a3), some (av_I a4), some (av_I x43), some (av_I (102 * a1 + a2)), some (av_I i3), some (av_I (300 * a1 + i3)), some (av_I (-x45 + x47))]) d_MD_groupCost_199 (Nat.le_of_ble_eq_true rfl) rfl ?_
                  refine A_iincv (z := (i3 + 1)) (L' := [some (av_R (some 170)), some (av_I a1), some (av_I a2), some (av_I a3), some (av_I a4), some (av_I x43), some (av_I (102 * a1 + a2)), some (av_I (i3 + 1)), some (av_I (300 * a1 + i3)), some (av_I (-x45 + x47))]) d_MD_groupCost_201 rfl (w32_to (by omega) (by unfold i32; omega)) rfl ?_
                  refine A_goto (tgt := 24) d_MD_groupCost_204 (by decide) ?_
                  refine A_free (L' := [some (av_R (some 170)), some (av_I a1), some (av_I a2), some (av_I a3), some (av_I a4), some (av_I x43), some (av_I (102 * a1 + a2)), some (av_I (i3 + 1)), none, none]) (And.intro rfl (And.intro rfl (And.intro rfl (And.intro rfl (And.intro rfl (And.intro rfl (And.intro rfl (And.intro rfl trivial)))))))) ?_
                  exact ih24 x43 (i3 + 1) h23 (by omega) (by omega) (by omega) (by omega) k25 (by omega)
                · refine A_iload d_MD_groupCost_190 rfl ?_
                  refine A_iconst d_MD_groupCost_192 rfl ?_
                  refine A_isubv (z := (-x45 + x47 - 4)) d_MD_groupCost_193 (w32_to (by omega) (by unfold i32; omega)) ?_
                  refine A_goto (tgt := 198) d_MD_groupCost_194 (by decide) ?_
                  refine A_iaddw d_MD_groupCost_198 (fun x52 _ _ _ => ?_)
                  refine A_istore (L' := [some (av_R (some 170)), some (av_I a1), some (av_I a2), some (av_I a3), some (av_I a4), some (av_I x52), some (av_I (102 * a1 + a2)), some (av_I i3), some (av_I (300 * a1 + i3)), some (av_I (-x45 + x47))]) d_MD_groupCost_199 (Nat.le_of_ble_eq_true rfl) rfl ?_
                  refine A_iincv (z := (i3 + 1)) (L' := [some (av_R (some 170)), some (av_I a1), some (av_I a2), some (av_I a3), some (av_I a4), some (av_I x52), some (av_I (102 * a1 + a2)), some (av_I (i3 + 1)), some (av_I (300 * a1 + i3)), some (av_I (-x45 + x47))]) d_MD_groupCost_201 rfl (w32_to (by omega) (by unfold i32; omega)) rfl ?_
                  refine A_goto (tgt := 24) d_MD_groupCost_204 (by decide) ?_
                  refine A_free (L' := [some (av_R (some 170)), some (av_I a1), some (av_I a2), some (av_I a3), some (av_I a4), some (av_I x52), some (av_I (102 * a1 + a2)), some (av_I (i3 + 1)), none, none]) (And.intro rfl (And.intro rfl (And.intro rfl (And.intro rfl (And.intro rfl (And.intro rfl (And.intro rfl (And.intro rfl trivial)))))))) ?_
                  exact ih24 x52 (i3 + 1) h23 (by omega) (by omega) (by omega) (by omega) k25 (by omega)
          · have mc28 : (x26 - 1) = 0 := by omega
            refine A_iconst d_MD_groupCost_107 rfl ?_
            refine A_goto (tgt := 112) d_MD_groupCost_108 (by decide) ?_
            refine A_iaddw d_MD_groupCost_112 (fun x53 _ _ _ => ?_)
            refine A_istore (L' := [some (av_R (some 170)), some (av_I a1), some (av_I a2), some (av_I a3), some (av_I a4), some (av_I x53), some (av_I (102 * a1 + a2)), some (av_I i3), some (av_I (300 * a1 + i3)), none]) d_MD_groupCost_113 (Nat.le_of_ble_eq_true rfl) rfl ?_
            refine A_iload d_MD_groupCost_115 rfl ?_
            refine A_aload_n 0 d_MD_groupCost_117 rfl rfl ?_
            refine A_getAv (z := some 197) T_ok d_MD_groupCost_118 f_MD_94 (mi_s k25.1 sf_170) (mi_r k25.1 rfm_39) ?_
            refine A_pc (pc' := 121) rfl ?_
            refine A_iload d_MD_groupCost_121 rfl ?_
            refine A_ialoadn (lo := 0) (hi := 64) d_MD_groupCost_123 (mi_s k25.1 sf_197) (by omega) (by omega) (mi_g k25.1 (by decide) (mr_197 _)) (fun x55 ex55 _ _ => ?_)
            refine A_aload_n 0 d_MD_groupCost_124 rfl rfl ?_
            refine A_getAv (z := some 197) T_ok d_MD_groupCost_125 f_MD_94 (mi_s k25.1 sf_170) (mi_r k25.1 rfm_39) ?_
            refine A_iload d_MD_groupCost_128 rfl ?_
            refine A_iconst d_MD_groupCost_130 rfl ?_
            refine A_pc (pc' := 131) rfl ?_
            refine A_isubv (z := (300 * a1 + i3 - 1)) d_MD_groupCost_131 (w32_to (by omega) (by unfold i32; omega)) ?_
            refine A_ialoadn (lo := 0) (hi := 64) d_MD_groupCost_132 (mi_s k25.1 sf_197) (by omega) (by omega) (mi_g k25.1 (by decide) (mr_197 _)) (fun x57 ex57 _ _ => ?_)
            refine A_icmp_eq (tgt := 140) d_MD_groupCost_133 (by decide) (fun c58 => ?_) (fun c58 => ?_)
            · refine A_iconst d_MD_groupCost_140 rfl ?_
              refine A_iaddv (z := x53) d_MD_groupCost_141 (w32_to (by omega) (by unfold i32; omega)) ?_
              refine A_istore (L' := [some (av_R (some 170)), some (av_I a1), some (av_I a2), some (av_I a3), some (av_I a4), some (av_I x53), some (av_I (102 * a1 + a2)), some (av_I i3), some (av_I (300 * a1 + i3)), none]) d_MD_groupCost_142 (Nat.le_of_ble_eq_true rfl) rfl ?_
              refine A_aload_n 0 d_MD_groupCost_144 rfl rfl ?_
              refine A_getAv (z := some 193) T_ok d_MD_groupCost_145 f_MD_81 (mi_s k25.1 sf_170) (mi_r k25.1 rfm_35) ?_
              refine A_pc (pc' := 148) rfl ?_
              refine A_iconst d_MD_groupCost_148 rfl ?_
              refine A_iload d_MD_groupCost_149 rfl ?_
              refine A_imulv (z := (1200 * a1 + 4 * i3)) d_MD_groupCost_151 (w32_to (by omega) (by unfold i32; omega)) ?_
              refine A_ialoadn (lo := 0) (hi := 62) d_MD_groupCost_152 (mi_s k25.1 sf_193) (by omega) (by omega) (mi_g k25.1 (by decide) (mr_193 _)) (fun x60 ex60 _ _ => ?_)
              refine A_aload_n 0 d_MD_groupCost_153 rfl rfl ?_
              refine A_getAv (z := some 193) T_ok d_MD_groupCost_154 f_MD_81 (mi_s k25.1 sf_170) (mi_r k25.1 rfm_35) ?_
              refine A_pc (pc' := 157) rfl ?_
              refine A_iconst d_MD_groupCost_157 rfl ?_
              refine A_iload d_MD_groupCost_158 rfl ?_
              refine A_imulv (z := (1200 * a1 + 4 * i3)) d_MD_groupCost_160 (w32_to (by omega) (by unfold i32; omega)) ?_
              refine A_iconst d_MD_groupCost_161 rfl ?_
              refine A_isubv (z := (1200 * a1 + 4 * i3 - 4)) d_MD_groupCost_162 (w32_to (by omega) (by unfold i32; omega)) ?_
              refine A_ialoadn (lo := 0) (hi := 62) d_MD_groupCost_163 (mi_s k25.1 sf_193) (by omega) (by omega) (mi_g k25.1 (by decide) (mr_193 _)) (fun x62 ex62 _ _ => ?_)
              refine A_pc (pc' := 164) rfl ?_
              refine A_isubv (z := (x60 - x62)) d_MD_groupCost_164 (w32_to (by omega) (by unfold i32; omega)) ?_
              refine A_istore (L' := [some (av_R (some 170)), some (av_I a1), some (av_I a2), some (av_I a3), some (av_I a4), some (av_I x53), some (av_I (102 * a1 + a2)), some (av_I i3), some (av_I (300 * a1 + i3)), some (av_I (x60 - x62))]) d_MD_groupCost_165 (Nat.le_of_ble_eq_true rfl) rfl ?_
              refine A_iload d_MD_groupCost_167 rfl ?_
              refine A_if_ge (tgt := 178) d_MD_groupCost_169 (by decide) (fun c63 => ?_) (fun c63 => ?_)
              · refine A_iload d_MD_groupCost_178 rfl ?_
                refine A_istore (L' := [some (av_R (some 170)), some (av_I a1), some (av_I a2), some (av_I a3), some (av_I a4), some (av_I x53), some (av_I (102 * a1 + a2)), some (av_I i3), some (av_I (300 * a1 + i3)), some (av_I (x60 - x62))]) d_MD_groupCost_180 (Nat.le_of_ble_eq_true rfl) rfl ?_
                refine A_iload d_MD_groupCost_182 rfl ?_
                refine A_iload d_MD_groupCost_184 rfl ?_
                refine A_iconst d_MD_groupCost_186 rfl ?_
                refine A_pc (pc' := 187) rfl ?_
                refine A_icmp_le (tgt := 197) d_MD_groupCost_187 (by decide) (fun c64 => ?_) (fun c64 => ?_)
                · refine A_iconst d_MD_groupCost_197 rfl ?_
                  refine A_iaddv (z := x53) d_MD_groupCost_198 (w32_to (by omega) (by unfold i32; omega)) ?_
                  refine A_istore (L' := [some (av_R (some 170)), some (av_I a1), some (av_I a2), some (av_I a3), some (av_I a4), some (av_I x53), some (av_I (102 * a1 + a2)), some (av_I i3), some (av_I (300 * a1 + i3)), some (av_I (x60 - x62))]) d_MD_groupCost_199 (Nat.le_of_ble_eq_true rfl) rfl ?_
                  refine A_iincv (z := (i3 + 1)) (L' := [some (av_R (some 170)), some (av_I a1), some (av_I a2), some (av_I a3), some (av_I a4), some (av_I x53), some (av_I (102 * a1 + a2)), some (av_I (i3 + 1)), some (av_I (300 * a1 + i3)), some (av_I (x60 - x62))]) d_MD_groupCost_201 rfl (w32_to (by omega) (by unfold i32; omega)) rfl ?_
                  refine A_goto (tgt := 24) d_MD_groupCost_204 (by decide) ?_
                  refine A_free (L' := [some (av_R (some 170)), some (av_I a1), some (av_I a2), some (av_I a3), some (av_I a4), some (av_I x53), some (av_I (102 * a1 + a2)), some (av_I (i3 + 1)), none, none]) (And.intro rfl (And.intro rfl (And.intro rfl (And.intro rfl (And.intro rfl (And.intro rfl (And.intro rfl (And.intro rfl trivial)))))))) ?_
                  exact ih24 x53 (i3 + 1) h23 (by omega) (by omega) (by omega) (by omega) k25 (by omega)
                · refine A_iload d_MD_groupCost_190 rfl ?_
                  refine A_iconst d_MD_groupCost_192 rfl ?_
                  refine A_isubv (z := (x60 - x62 - 4)) d_MD_groupCost_193 (w32_to (by omega) (by unfold i32; omega)) ?_
                  refine A_goto (tgt := 198) d_MD_groupCost_194 (by decide) ?_
                  refine A_iaddw d_MD_groupCost_198 (fun x65 _ _ _ => ?_)
                  refine A_istore (L' := [some (av_R (some 170)), some (av_I a1), some (av_I a2), some (av_I a3), some (av_I a4), some (av_I x65), some (av_I (102 * a1 + a2)), some (av_I i3), some (av_I (300 * a1 + i3)), some (av_I (x60 - x62))]) d_MD_groupCost_199 (Nat.le_of_ble_eq_true rfl) rfl ?_
                  refine A_iincv (z := (i3 + 1)) (L' := [some (av_R (some 170)), some (av_I a1), some (av_I a2), some (av_I a3), some (av_I a4), some (av_I x65), some (av_I (102 * a1 + a2)), some (av_I (i3 + 1)), some (av_I (300 * a1 + i3)), some (av_I (x60 - x62))]) d_MD_groupCost_201 rfl (w32_to (by omega) (by unfold i32; omega)) rfl ?_
                  refine A_goto (tgt := 24) d_MD_groupCost_204 (by decide) ?_
                  refine A_free (L' := [some (av_R (some 170)), some (av_I a1), some (av_I a2), some (av_I a3), some (av_I a4), some (av_I x65), some (av_I (102 * a1 + a2)), some (av_I (i3 + 1)), none, none]) (And.intro rfl (And.intro rfl (And.intro rfl (And.intro rfl (And.intro rfl (And.intro rfl (And.intro rfl (And.intro rfl trivial)))))))) ?_
                  exact ih24 x65 (i3 + 1) h23 (by omega) (by omega) (by omega) (by omega) k25 (by omega)
              · refine A_iload d_MD_groupCost_172 rfl ?_
                refine A_inegv (z := (-x60 + x62)) d_MD_groupCost_174 (w32_to (by omega) (by unfold i32; omega)) ?_
                refine A_goto (tgt := 180) d_MD_groupCost_175 (by decide) ?_
                refine A_istore (L' := [some (av_R (some 170)), some (av_I a1), some (av_I a2), some (av_I a3), some (av_I a4), some (av_I x53), some (av_I (102 * a1 + a2)), some (av_I i3), some (av_I (300 * a1 + i3)), some (av_I (-x60 + x62))]) d_MD_groupCost_180 (Nat.le_of_ble_eq_true rfl) rfl ?_
                refine A_iload d_MD_groupCost_182 rfl ?_
                refine A_iload d_MD_groupCost_184 rfl ?_
                refine A_iconst d_MD_groupCost_186 rfl ?_
                refine A_icmp_le (tgt := 197) d_MD_groupCost_187 (by decide) (fun c66 => ?_) (fun c66 => ?_)
                · refine A_iconst d_MD_groupCost_197 rfl ?_
                  refine A_iaddv (z := x53) d_MD_groupCost_198 (w32_to (by omega) (by unfold i32; omega)) ?_
                  refine A_istore (L' := [some (av_R (some 170)), some (av_I a1), some (av_I a2), some (av_I a3), some (av_I a4), some (av_I x53), some (av_I (102 * a1 + a2)), some (av_I i3), some (av_I (300 * a1 + i3)), some (av_I (-x60 + x62))]) d_MD_groupCost_199 (Nat.le_of_ble_eq_true rfl) rfl ?_
                  refine A_iincv (z := (i3 + 1)) (L' := [some (av_R (some 170)), some (av_I a1), some (av_I a2), some (av_I a3), some (av_I a4), some (av_I x53), some (av_I (102 * a1 + a2)), some (av_I (i3 + 1)), some (av_I (300 * a1 + i3)), some (av_I (-x60 + x62))]) d_MD_groupCost_201 rfl (w32_to (by omega) (by unfold i32; omega)) rfl ?_
                  refine A_goto (tgt := 24) d_MD_groupCost_204 (by decide) ?_
                  refine A_free (L' := [some (av_R (some 170)), some (av_I a1), some (av_I a2), some (av_I a3), some (av_I a4), some (av_I x53), some (av_I (102 * a1 + a2)), some (av_I (i3 + 1)), none, none]) (And.intro rfl (And.intro rfl (And.intro rfl (And.intro rfl (And.intro rfl (And.intro rfl (And.intro rfl (And.intro rfl trivial)))))))) ?_
                  exact ih24 x53 (i3 + 1) h23 (by omega) (by omega) (by omega) (by omega) k25 (by omega)
                · refine A_iload d_MD_groupCost_190 rfl ?_
                  refine A_iconst d_MD_groupCost_192 rfl ?_
                  refine A_isubv (z := (-x60 + x62 - 4)) d_MD_groupCost_193 (w32_to (by omega) (by unfold i32; omega)) ?_
                  refine A_goto (tgt := 198) d_MD_groupCost_194 (by decide) ?_
                  refine A_iaddw d_MD_groupCost_198 (fun x67 _ _ _ => ?_)
                  refine A_istore (L' := [some (av_R (some 170)), some (av_I a1), some (av_I a2), some (av_I a3), some (av_I a4), some (av_I x67), some (av_I (102 * a1 + a2)), some (av_I i3), some (av_I (300 * a1 + i3)), some (av_I (-x60 + x62))]) d_MD_groupCost_199 (Nat.le_of_ble_eq_true rfl) rfl ?_
                  refine A_iincv (z := (i3 + 1)) (L' := [some (av_R (some 170)), some (av_I a1), some (av_I a2), some (av_I a3), some (av_I a4), some (av_I x67), some (av_I (102 * a1 + a2)), some (av_I (i3 + 1)), some (av_I (300 * a1 + i3)), some (av_I (-x60 + x62))]) d_MD_groupCost_201 rfl (w32_to (by omega) (by unfold i32; omega)) rfl ?_
                  refine A_goto (tgt := 24) d_MD_groupCost_204 (by decide) ?_
                  refine A_free (L' := [some (av_R (some 170)), some (av_I a1), some (av_I a2), some (av_I a3), some (av_I a4), some (av_I x67), some (av_I (102 * a1 + a2)), some (av_I (i3 + 1)), none, none]) (And.intro rfl (And.intro rfl (And.intro rfl (And.intro rfl (And.intro rfl (And.intro rfl (And.intro rfl (And.intro rfl trivial)))))))) ?_
                  exact ih24 x67 (i3 + 1) h23 (by omega) (by omega) (by omega) (by omega) k25 (by omega)
            · refine A_iconst d_MD_groupCost_136 rfl ?_
              refine A_goto (tgt := 141) d_MD_groupCost_137 (by decide) ?_
              refine A_iaddw d_MD_groupCost_141 (fun x68 _ _ _ => ?_)
              refine A_istore (L' := [some (av_R (some 170)), some (av_I a1), some (av_I a2), some (av_I a3), some (av_I a4), some (av_I x68), some (av_I (102 * a1 + a2)), some (av_I i3), some (av_I (300 * a1 + i3)), none]) d_MD_groupCost_142 (Nat.le_of_ble_eq_true rfl) rfl ?_
              refine A_aload_n 0 d_MD_groupCost_144 rfl rfl ?_
              refine A_getAv (z := some 193) T_ok d_MD_groupCost_145 f_MD_81 (mi_s k25.1 sf_170) (mi_r k25.1 rfm_35) ?_
              refine A_iconst d_MD_groupCost_148 rfl ?_
              refine A_pc (pc' := 149) rfl ?_
              refine A_iload d_MD_groupCost_149 rfl ?_
              refine A_imulv (z := (1200 * a1 + 4 * i3)) d_MD_groupCost_151 (w32_to (by omega) (by unfold i32; omega)) ?_
              refine A_ialoadn (lo := 0) (hi := 62) d_MD_groupCost_152 (mi_s k25.1 sf_193) (by omega) (by omega) (mi_g k25.1 (by decide) (mr_193 _)) (fun x70 ex70 _ _ => ?_)
              refine A_aload_n 0 d_MD_groupCost_153 rfl rfl ?_
              refine A_getAv (z := some 193) T_ok d_MD_groupCost_154 f_MD_81 (mi_s k25.1 sf_170) (mi_r k25.1 rfm_35) ?_
              refine A_iconst d_MD_groupCost_157 rfl ?_
              refine A_pc (pc' := 158) rfl ?_
              refine A_iload d_MD_groupCost_158 rfl ?_
              refine A_imulv (z := (1200 * a1 + 4 * i3)) d_MD_groupCost_160 (w32_to (by omega) (by unfold i32; omega)) ?_
              refine A_iconst d_MD_groupCost_161 rfl ?_
              refine A_isubv (z := (1200 * a1 + 4 * i3 - 4)) d_MD_groupCost_162 (w32_to (by omega) (by unfold i32; omega)) ?_
              refine A_ialoadn (lo := 0) (hi := 62) d_MD_groupCost_163 (mi_s k25.1 sf_193) (by omega) (by omega) (mi_g k25.1 (by decide) (mr_193 _)) (fun x72 ex72 _ _ => ?_)
              refine A_isubv (z := (x70 - x72)) d_MD_groupCost_164 (w32_to (by omega) (by unfold i32; omega)) ?_
              refine A_pc (pc' := 165) rfl ?_
              refine A_istore (L' := [some (av_R (some 170)), some (av_I a1), some (av_I a2), some (av_I a3), some (av_I a4), some (av_I x68), some (av_I (102 * a1 + a2)), some (av_I i3), some (av_I (300 * a1 + i3)), some (av_I (x70 - x72))]) d_MD_groupCost_165 (Nat.le_of_ble_eq_true rfl) rfl ?_
              refine A_iload d_MD_groupCost_167 rfl ?_
              refine A_if_ge (tgt := 178) d_MD_groupCost_169 (by decide) (fun c73 => ?_) (fun c73 => ?_)
              · refine A_iload d_MD_groupCost_178 rfl ?_
                refine A_istore (L' := [some (av_R (some 170)), some (av_I a1), some (av_I a2), some (av_I a3), some (av_I a4), some (av_I x68), some (av_I (102 * a1 + a2)), some (av_I i3), some (av_I (300 * a1 + i3)), some (av_I (x70 - x72))]) d_MD_groupCost_180 (Nat.le_of_ble_eq_true rfl) rfl ?_
                refine A_iload d_MD_groupCost_182 rfl ?_
                refine A_iload d_MD_groupCost_184 rfl ?_
                refine A_iconst d_MD_groupCost_186 rfl ?_
                refine A_pc (pc' := 187) rfl ?_
                refine A_icmp_le (tgt := 197) d_MD_groupCost_187 (by decide) (fun c74 => ?_) (fun c74 => ?_)
                · refine A_iconst d_MD_groupCost_197 rfl ?_
                  refine A_iaddv (z := x68) d_MD_groupCost_198 (w32_to (by omega) (by unfold i32; omega)) ?_
                  refine A_istore (L' := [some (av_R (some 170)), some (av_I a1), some (av_I a2), some (av_I a3), some (av_I a4), some (av_I x68), some (av_I (102 * a1 + a2)), some (av_I i3), some (av_I (300 * a1 + i3)), some (av_I (x70 - x72))]) d_MD_groupCost_199 (Nat.le_of_ble_eq_true rfl) rfl ?_
                  refine A_iincv (z := (i3 + 1)) (L' := [some (av_R (some 170)), some (av_I a1), some (av_I a2), some (av_I a3), some (av_I a4), some (av_I x68), some (av_I (102 * a1 + a2)), some (av_I (i3 + 1)), some (av_I (300 * a1 + i3)), some (av_I (x70 - x72))]) d_MD_groupCost_201 rfl (w32_to (by omega) (by unfold i32; omega)) rfl ?_
                  refine A_goto (tgt := 24) d_MD_groupCost_204 (by decide) ?_
                  refine A_free (L' := [some (av_R (some 170)), some (av_I a1), some (av_I a2), some (av_I a3), some (av_I a4), some (av_I x68), some (av_I (102 * a1 + a2)), some (av_I (i3 + 1)), none, none]) (And.intro rfl (And.intro rfl (And.intro rfl (And.intro rfl (And.intro rfl (And.intro rfl (And.intro rfl (And.intro rfl trivial)))))))) ?_
                  exact ih24 x68 (i3 + 1) h23 (by omega) (by omega) (by omega) (by omega) k25 (by omega)
                · refine A_iload d_MD_groupCost_190 rfl ?_
                  refine A_iconst d_MD_groupCost_192 rfl ?_
                  refine A_isubv (z := (x70 - x72 - 4)) d_MD_groupCost_193 (w32_to (by omega) (by unfold i32; omega)) ?_
                  refine A_goto (tgt := 198) d_MD_groupCost_194 (by decide) ?_
                  refine A_iaddw d_MD_groupCost_198 (fun x75 _ _ _ => ?_)
                  refine A_istore (L' := [some (av_R (some 170)), some (av_I a1), some (av_I a2), some (av_I a3), some (av_I a4), some (av_I x75), some (av_I (102 * a1 + a2)), some (av_I i3), some (av_I (300 * a1 + i3)), some (av_I (x70 - x72))]) d_MD_groupCost_199 (Nat.le_of_ble_eq_true rfl) rfl ?_
                  refine A_iincv (z := (i3 + 1)) (L' := [some (av_R (some 170)), some (av_I a1), some (av_I a2), some (av_I a3), some (av_I a4), some (av_I x75), some (av_I (102 * a1 + a2)), some (av_I (i3 + 1)), some (av_I (300 * a1 + i3)), some (av_I (x70 - x72))]) d_MD_groupCost_201 rfl (w32_to (by omega) (by unfold i32; omega)) rfl ?_
                  refine A_goto (tgt := 24) d_MD_groupCost_204 (by decide) ?_
                  refine A_free (L' := [some (av_R (some 170)), some (av_I a1), some (av_I a2), some (av_I a3), some (av_I a4), some (av_I x75), some (av_I (102 * a1 + a2)), some (av_I (i3 + 1)), none, none]) (And.intro rfl (And.intro rfl (And.intro rfl (And.intro rfl (And.intro rfl (And.intro rfl (And.intro rfl (And.intro rfl trivial)))))))) ?_
                  exact ih24 x75 (i3 + 1) h23 (by omega) (by omega) (by omega) (by omega) k25 (by omega)
              · refine A_iload d_MD_groupCost_172 rfl ?_
                refine A_inegv (z := (-x70 + x72)) d_MD_groupCost_174 (w32_to (by omega) (by unfold i32; omega)) ?_
                refine A_goto (tgt := 180) d_MD_groupCost_175 (by decide) ?_
                refine A_istore (L' := [some (av_R (some 170)), some (av_I a1), some (av_I a2), some (av_I a3), some (av_I a4), some (av_I x68), some (av_I (102 * a1 + a2)), some (av_I i3), some (av_I (300 * a1 + i3)), some (av_I (-x70 + x72))]) d_MD_groupCost_180 (Nat.le_of_ble_eq_true rfl) rfl ?_
                refine A_iload d_MD_groupCost_182 rfl ?_
                refine A_iload d_MD_groupCost_184 rfl ?_
                refine A_iconst d_MD_groupCost_186 rfl ?_
                refine A_icmp_le (tgt := 197) d_MD_groupCost_187 (by decide) (fun c76 => ?_) (fun c76 => ?_)
                · refine A_iconst d_MD_groupCost_197 rfl ?_
                  refine A_iaddv (z := x68) d_MD_groupCost_198 (w32_to (by omega) (by unfold i32; omega)) ?_
                  refine A_istore (L' := [some (av_R (some 170)), some (av_I a1), some (av_I a2), some (av_I a3), some (av_I a4), some (av_I x68), some (av_I (102 * a1 + a2)), some (av_I i3), some (av_I (300 * a1 + i3)), some (av_I (-x70 + x72))]) d_MD_groupCost_199 (Nat.le_of_ble_eq_true rfl) rfl ?_
                  refine A_iincv (z := (i3 + 1)) (L' := [some (av_R (some 170)), some (av_I a1), some (av_I a2), some (av_I a3), some (av_I a4), some (av_I x68), some (av_I (102 * a1 + a2)), some (av_I (i3 + 1)), some (av_I (300 * a1 + i3)), some (av_I (-x70 + x72))]) d_MD_groupCost_201 rfl (w32_to (by omega) (by unfold i32; omega)) rfl ?_
                  refine A_goto (tgt := 24) d_MD_groupCost_204 (by decide) ?_
                  refine A_free (L' := [some (av_R (some 170)), some (av_I a1), some (av_I a2), some (av_I a3), some (av_I a4), some (av_I x68), some (av_I (102 * a1 + a2)), some (av_I (i3 + 1)), none, none]) (And.intro rfl (And.intro rfl (And.intro rfl (And.intro rfl (And.intro rfl (And.intro rfl (And.intro rfl (And.intro rfl trivial)))))))) ?_
                  exact ih24 x68 (i3 + 1) h23 (by omega) (by omega) (by omega) (by omega) k25 (by omega)
                · refine A_iload d_MD_groupCost_190 rfl ?_
                  refine A_iconst d_MD_groupCost_192 rfl ?_
                  refine A_isubv (z := (-x70 + x72 - 4)) d_MD_groupCost_193 (w32_to (by omega) (by unfold i32; omega)) ?_
                  refine A_goto (tgt := 198) d_MD_groupCost_194 (by decide) ?_
                  refine A_iaddw d_MD_groupCost_198 (fun x77 _ _ _ => ?_)
                  refine A_istore (L' := [some (av_R (some 170)), some (av_I a1), some (av_I a2), some (av_I a3), some (av_I a4), some (av_I x77), some (av_I (102 * a1 + a2)), some (av_I i3), some (av_I (300 * a1 + i3)), some (av_I (-x70 + x72))]) d_MD_groupCost_199 (Nat.le_of_ble_eq_true rfl) rfl ?_
                  refine A_iincv (z := (i3 + 1)) (L' := [some (av_R (some 170)), some (av_I a1), some (av_I a2), some (av_I a3), some (av_I a4), some (av_I x77), some (av_I (102 * a1 + a2)), some (av_I (i3 + 1)), some (av_I (300 * a1 + i3)), some (av_I (-x70 + x72))]) d_MD_groupCost_201 rfl (w32_to (by omega) (by unfold i32; omega)) rfl ?_
                  refine A_goto (tgt := 24) d_MD_groupCost_204 (by decide) ?_
                  refine A_free (L' := [some (av_R (some 170)), some (av_I a1), some (av_I a2), some (av_I a3), some (av_I a4), some (av_I x77), some (av_I (102 * a1 + a2)), some (av_I (i3 + 1)), none, none]) (And.intro rfl (And.intro rfl (And.intro rfl (And.intro rfl (And.intro rfl (And.intro rfl (And.intro rfl (And.intro rfl trivial)))))))) ?_
                  exact ih24 x77 (i3 + 1) h23 (by omega) (by omega) (by omega) (by omega) k25 (by omega)
    exact lp24 _ 1 (a3 + 1) h (by omega) (by omega) (by omega) (by omega) k0 (Nat.lt_succ_self _)
  · refine A_iconst d_MD_groupCost_6 rfl ?_
    exact A_iret d_MD_groupCost_7 (by decide) rfl ⟨_, rfl, ⟨by omega, by omega⟩, k0⟩
