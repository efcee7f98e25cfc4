/-! ===== the reference's methods, 371 ===== -/
def m_MD_readings : mr_T := (⟨"PlainMusicModel", "readings", "()I"⟩, prog_14_method_85_code, 8, some .int)
theorem d_MD_readings_0 : decode prog_14_method_85_code 0 = .ok (.aload_n 0, 1) := by decide +kernel
theorem d_MD_readings_1 : decode prog_14_method_85_code 1 = .ok (.getfield 32, 3) := by decide +kernel
theorem d_MD_readings_4 : decode prog_14_method_85_code 4 = .ok (.iconst 0, 1) := by decide +kernel
theorem d_MD_readings_5 : decode prog_14_method_85_code 5 = .ok (.iaload, 1) := by decide +kernel
theorem d_MD_readings_6 : decode prog_14_method_85_code 6 = .ok (.ifCond .eq 12, 3) := by decide +kernel
theorem d_MD_readings_18 : decode prog_14_method_85_code 18 = .ok (.bipush (-2), 2) := by decide +kernel
theorem d_MD_readings_20 : decode prog_14_method_85_code 20 = .ok (.ireturn, 1) := by decide +kernel
theorem d_MD_readings_9 : decode prog_14_method_85_code 9 = .ok (.aload_n 0, 1) := by decide +kernel
theorem d_MD_readings_10 : decode prog_14_method_85_code 10 = .ok (.getfield 44, 3) := by decide +kernel
theorem d_MD_readings_13 : decode prog_14_method_85_code 13 = .ok (.iconst 0, 1) := by decide +kernel
theorem d_MD_readings_14 : decode prog_14_method_85_code 14 = .ok (.iaload, 1) := by decide +kernel
theorem d_MD_readings_15 : decode prog_14_method_85_code 15 = .ok (.ifCond .ne 6, 3) := by decide +kernel
theorem d_MD_readings_21 : decode prog_14_method_85_code 21 = .ok (.iconst 1, 1) := by decide +kernel
theorem d_MD_readings_22 : decode prog_14_method_85_code 22 = .ok (.istore_n 1, 1) := by decide +kernel
theorem d_MD_readings_23 : decode prog_14_method_85_code 23 = .ok (.iload_n 1, 1) := by decide +kernel
theorem d_MD_readings_24 : decode prog_14_method_85_code 24 = .ok (.aload_n 0, 1) := by decide +kernel
theorem d_MD_readings_25 : decode prog_14_method_85_code 25 = .ok (.getfield 44, 3) := by decide +kernel
theorem d_MD_readings_28 : decode prog_14_method_85_code 28 = .ok (.iconst 0, 1) := by decide +kernel
theorem d_MD_readings_29 : decode prog_14_method_85_code 29 = .ok (.iaload, 1) := by decide +kernel
theorem d_MD_readings_30 : decode prog_14_method_85_code 30 = .ok (.if_icmp .gt 166, 3) := by decide +kernel
theorem d_MD_readings_196 : decode prog_14_method_85_code 196 = .ok (.aload_n 0, 1) := by decide +kernel
theorem d_MD_readings_197 : decode prog_14_method_85_code 197 = .ok (.getfield 196, 3) := by decide +kernel
theorem d_MD_readings_200 : decode prog_14_method_85_code 200 = .ok (.aload_n 0, 1) := by decide +kernel
theorem d_MD_readings_201 : decode prog_14_method_85_code 201 = .ok (.aload_n 0, 1) := by decide +kernel
theorem d_MD_readings_202 : decode prog_14_method_85_code 202 = .ok (.getfield 35, 3) := by decide +kernel
theorem d_MD_readings_205 : decode prog_14_method_85_code 205 = .ok (.iconst 0, 1) := by decide +kernel
theorem d_MD_readings_206 : decode prog_14_method_85_code 206 = .ok (.iaload, 1) := by decide +kernel
theorem d_MD_readings_207 : decode prog_14_method_85_code 207 = .ok (.iconst 0, 1) := by decide +kernel
theorem d_MD_readings_208 : decode prog_14_method_85_code 208 = .ok (.aload_n 0, 1) := by decide +kernel
theorem d_MD_readings_209 : decode prog_14_method_85_code 209 = .ok (.getfield 44, 3) := by decide +kernel
theorem d_MD_readings_212 : decode prog_14_method_85_code 212 = .ok (.iconst 0, 1) := by decide +kernel
theorem d_MD_readings_213 : decode prog_14_method_85_code 213 = .ok (.iaload, 1) := by decide +kernel
theorem d_MD_readings_214 : decode prog_14_method_85_code 214 = .ok (.invokevirtual 583, 3) := by decide +kernel
theorem d_MD_readings_217 : decode prog_14_method_85_code 217 = .ok (.laload, 1) := by decide +kernel
theorem d_MD_readings_218 : decode prog_14_method_85_code 218 = .ok (.lstore_n 1, 1) := by decide +kernel
theorem d_MD_readings_219 : decode prog_14_method_85_code 219 = .ok (.lload_n 1, 1) := by decide +kernel
theorem d_MD_readings_220 : decode prog_14_method_85_code 220 = .ok (.ldc2_w 397, 3) := by decide +kernel
theorem d_MD_readings_223 : decode prog_14_method_85_code 223 = .ok (.lcmp, 1) := by decide +kernel
theorem d_MD_readings_224 : decode prog_14_method_85_code 224 = .ok (.ifCond .le 6, 3) := by decide +kernel
theorem d_MD_readings_230 : decode prog_14_method_85_code 230 = .ok (.aload_n 0, 1) := by decide +kernel
theorem d_MD_readings_231 : decode prog_14_method_85_code 231 = .ok (.lload_n 1, 1) := by decide +kernel
theorem d_MD_readings_232 : decode prog_14_method_85_code 232 = .ok (.l2i, 1) := by decide +kernel
theorem d_MD_readings_233 : decode prog_14_method_85_code 233 = .ok (.putfield 483, 3) := by decide +kernel
theorem d_MD_readings_236 : decode prog_14_method_85_code 236 = .ok (.aload_n 0, 1) := by decide +kernel
theorem d_MD_readings_237 : decode prog_14_method_85_code 237 = .ok (.getfield 483, 3) := by decide +kernel
theorem d_MD_readings_240 : decode prog_14_method_85_code 240 = .ok (.ireturn, 1) := by decide +kernel
theorem d_MD_readings_227 : decode prog_14_method_85_code 227 = .ok (.bipush (-4), 2) := by decide +kernel
theorem d_MD_readings_229 : decode prog_14_method_85_code 229 = .ok (.ireturn, 1) := by decide +kernel
theorem d_MD_readings_33 : decode prog_14_method_85_code 33 = .ok (.iconst 0, 1) := by decide +kernel
theorem d_MD_readings_34 : decode prog_14_method_85_code 34 = .ok (.istore_n 2, 1) := by decide +kernel
theorem d_MD_readings_35 : decode prog_14_method_85_code 35 = .ok (.iload_n 2, 1) := by decide +kernel
theorem d_MD_readings_36 : decode prog_14_method_85_code 36 = .ok (.iload_n 1, 1) := by decide +kernel
theorem d_MD_readings_37 : decode prog_14_method_85_code 37 = .ok (.iadd, 1) := by decide +kernel
theorem d_MD_readings_38 : decode prog_14_method_85_code 38 = .ok (.aload_n 0, 1) := by decide +kernel
theorem d_MD_readings_39 : decode prog_14_method_85_code 39 = .ok (.getfield 44, 3) := by decide +kernel
theorem d_MD_readings_42 : decode prog_14_method_85_code 42 = .ok (.iconst 0, 1) := by decide +kernel
theorem d_MD_readings_43 : decode prog_14_method_85_code 43 = .ok (.iaload, 1) := by decide +kernel
theorem d_MD_readings_44 : decode prog_14_method_85_code 44 = .ok (.if_icmp .gt 146, 3) := by decide +kernel
theorem d_MD_readings_190 : decode prog_14_method_85_code 190 = .ok (.iinc 1 1, 3) := by decide +kernel
theorem d_MD_readings_193 : decode prog_14_method_85_code 193 = .ok (.goto (-170), 3) := by decide +kernel
theorem d_MD_readings_47 : decode prog_14_method_85_code 47 = .ok (.iconst 0, 1) := by decide +kernel
theorem d_MD_readings_48 : decode prog_14_method_85_code 48 = .ok (.istore_n 3, 1) := by decide +kernel
theorem d_MD_readings_49 : decode prog_14_method_85_code 49 = .ok (.iload_n 3, 1) := by decide +kernel
theorem d_MD_readings_50 : decode prog_14_method_85_code 50 = .ok (.bipush 16, 2) := by decide +kernel
theorem d_MD_readings_52 : decode prog_14_method_85_code 52 = .ok (.if_icmp .ge 132, 3) := by decide +kernel
theorem d_MD_readings_184 : decode prog_14_method_85_code 184 = .ok (.iinc 2 1, 3) := by decide +kernel
theorem d_MD_readings_187 : decode prog_14_method_85_code 187 = .ok (.goto (-152), 3) := by decide +kernel
theorem d_MD_readings_55 : decode prog_14_method_85_code 55 = .ok (.lconst 0, 1) := by decide +kernel
theorem d_MD_readings_56 : decode prog_14_method_85_code 56 = .ok (.lstore 4, 2) := by decide +kernel
theorem d_MD_readings_58 : decode prog_14_method_85_code 58 = .ok (.iconst 0, 1) := by decide +kernel
theorem d_MD_readings_59 : decode prog_14_method_85_code 59 = .ok (.istore 6, 2) := by decide +kernel
theorem d_MD_readings_61 : decode prog_14_method_85_code 61 = .ok (.iload 6, 2) := by decide +kernel
theorem d_MD_readings_63 : decode prog_14_method_85_code 63 = .ok (.aload_n 0, 1) := by decide +kernel
theorem d_MD_readings_64 : decode prog_14_method_85_code 64 = .ok (.getfield 32, 3) := by decide +kernel
theorem d_MD_readings_67 : decode prog_14_method_85_code 67 = .ok (.iconst 0, 1) := by decide +kernel
theorem d_MD_readings_68 : decode prog_14_method_85_code 68 = .ok (.iaload, 1) := by decide +kernel
theorem d_MD_readings_69 : decode prog_14_method_85_code 69 = .ok (.if_icmp .ge 95, 3) := by decide +kernel
theorem d_MD_readings_164 : decode prog_14_method_85_code 164 = .ok (.aload_n 0, 1) := by decide +kernel
theorem d_MD_readings_165 : decode prog_14_method_85_code 165 = .ok (.getfield 196, 3) := by decide +kernel
theorem d_MD_readings_168 : decode prog_14_method_85_code 168 = .ok (.aload_n 0, 1) := by decide +kernel
theorem d_MD_readings_169 : decode prog_14_method_85_code 169 = .ok (.iload_n 3, 1) := by decide +kernel
theorem d_MD_readings_170 : decode prog_14_method_85_code 170 = .ok (.iload_n 2, 1) := by decide +kernel
theorem d_MD_readings_171 : decode prog_14_method_85_code 171 = .ok (.iload_n 1, 1) := by decide +kernel
theorem d_MD_readings_172 : decode prog_14_method_85_code 172 = .ok (.invokevirtual 583, 3) := by decide +kernel
theorem d_MD_readings_175 : decode prog_14_method_85_code 175 = .ok (.lload 4, 2) := by decide +kernel
theorem d_MD_readings_177 : decode prog_14_method_85_code 177 = .ok (.lastore, 1) := by decide +kernel
theorem d_MD_readings_178 : decode prog_14_method_85_code 178 = .ok (.iinc 3 1, 3) := by decide +kernel
theorem d_MD_readings_181 : decode prog_14_method_85_code 181 = .ok (.goto (-132), 3) := by decide +kernel
theorem d_MD_readings_72 : decode prog_14_method_85_code 72 = .ok (.aload_n 0, 1) := by decide +kernel
theorem d_MD_readings_73 : decode prog_14_method_85_code 73 = .ok (.getfield 35, 3) := by decide +kernel
theorem d_MD_readings_76 : decode prog_14_method_85_code 76 = .ok (.iload 6, 2) := by decide +kernel
theorem d_MD_readings_78 : decode prog_14_method_85_code 78 = .ok (.iaload, 1) := by decide +kernel
theorem d_MD_readings_79 : decode prog_14_method_85_code 79 = .ok (.iload_n 3, 1) := by decide +kernel
theorem d_MD_readings_80 : decode prog_14_method_85_code 80 = .ok (.if_icmp .eq 6, 3) := by decide +kernel
theorem d_MD_readings_86 : decode prog_14_method_85_code 86 = .ok (.aload_n 0, 1) := by decide +kernel
theorem d_MD_readings_87 : decode prog_14_method_85_code 87 = .ok (.getfield 41, 3) := by decide +kernel
theorem d_MD_readings_90 : decode prog_14_method_85_code 90 = .ok (.iload 6, 2) := by decide +kernel
theorem d_MD_readings_92 : decode prog_14_method_85_code 92 = .ok (.iaload, 1) := by decide +kernel
theorem d_MD_readings_93 : decode prog_14_method_85_code 93 = .ok (.ifCond .ge 21, 3) := by decide +kernel
theorem d_MD_readings_114 : decode prog_14_method_85_code 114 = .ok (.iconst 1, 1) := by decide +kernel
theorem d_MD_readings_115 : decode prog_14_method_85_code 115 = .ok (.istore 7, 2) := by decide +kernel
theorem d_MD_readings_117 : decode prog_14_method_85_code 117 = .ok (.iload 7, 2) := by decide +kernel
theorem d_MD_readings_119 : decode prog_14_method_85_code 119 = .ok (.iload_n 1, 1) := by decide +kernel
theorem d_MD_readings_120 : decode prog_14_method_85_code 120 = .ok (.if_icmp .ge 38, 3) := by decide +kernel
theorem d_MD_readings_158 : decode prog_14_method_85_code 158 = .ok (.iinc 6 1, 3) := by decide +kernel
theorem d_MD_readings_161 : decode prog_14_method_85_code 161 = .ok (.goto (-100), 3) := by decide +kernel
theorem d_MD_readings_123 : decode prog_14_method_85_code 123 = .ok (.aload_n 0, 1) := by decide +kernel
theorem d_MD_readings_124 : decode prog_14_method_85_code 124 = .ok (.getfield 41, 3) := by decide +kernel
theorem d_MD_readings_127 : decode prog_14_method_85_code 127 = .ok (.iload 6, 2) := by decide +kernel
theorem d_MD_readings_129 : decode prog_14_method_85_code 129 = .ok (.iaload, 1) := by decide +kernel
theorem d_MD_readings_130 : decode prog_14_method_85_code 130 = .ok (.ifCond .lt 28, 3) := by decide +kernel
theorem d_MD_readings_133 : decode prog_14_method_85_code 133 = .ok (.aload_n 0, 1) := by decide +kernel
theorem d_MD_readings_134 : decode prog_14_method_85_code 134 = .ok (.lload 4, 2) := by decide +kernel
theorem d_MD_readings_136 : decode prog_14_method_85_code 136 = .ok (.aload_n 0, 1) := by decide +kernel
theorem d_MD_readings_137 : decode prog_14_method_85_code 137 = .ok (.iload 6, 2) := by decide +kernel
theorem d_MD_readings_139 : decode prog_14_method_85_code 139 = .ok (.iload_n 2, 1) := by decide +kernel
theorem d_MD_readings_140 : decode prog_14_method_85_code 140 = .ok (.iload_n 1, 1) := by decide +kernel
theorem d_MD_readings_141 : decode prog_14_method_85_code 141 = .ok (.iload 7, 2) := by decide +kernel
theorem d_MD_readings_143 : decode prog_14_method_85_code 143 = .ok (.invokevirtual 591, 3) := by decide +kernel
theorem k_MD_byRule : mt_OK m_MD_byRule 4 1 := ⟨gwi_2155, gwi_146, ⟨by decide +kernel, by decide +kernel, by decide +kernel⟩, fun h => absurd h (by decide), fun _ => ⟨gwi_2154, gwi_123⟩, fun h => absurd h (by decide)⟩
theorem l_MD_591 : ml_OK "PlainMusicModel" 591 ⟨"PlainMusicModel", "byRule", "(IIII)J"⟩ := Or.inl gwi_2152
theorem d_MD_readings_146 : decode prog_14_method_85_code 146 = .ok (.ladd, 1) := by decide +kernel
theorem d_MD_readings_147 : decode prog_14_method_85_code 147 = .ok (.invokevirtual 587, 3) := by decide +kernel
theorem d_MD_readings_150 : decode prog_14_method_85_code 150 = .ok (.lstore 4, 2) := by decide +kernel
theorem d_MD_readings_152 : decode prog_14_method_85_code 152 = .ok (.iinc 7 1, 3) := by decide +kernel
theorem d_MD_readings_155 : decode prog_14_method_85_code 155 = .ok (.goto (-38), 3) := by decide +kernel
theorem d_MD_readings_96 : decode prog_14_method_85_code 96 = .ok (.aload_n 0, 1) := by decide +kernel
theorem d_MD_readings_97 : decode prog_14_method_85_code 97 = .ok (.lload 4, 2) := by decide +kernel
theorem d_MD_readings_99 : decode prog_14_method_85_code 99 = .ok (.aload_n 0, 1) := by decide +kernel
theorem d_MD_readings_100 : decode prog_14_method_85_code 100 = .ok (.iload 6, 2) := by decide +kernel
theorem d_MD_readings_102 : decode prog_14_method_85_code 102 = .ok (.iload_n 2, 1) := by decide +kernel
theorem d_MD_readings_103 : decode prog_14_method_85_code 103 = .ok (.iload_n 1, 1) := by decide +kernel
theorem d_MD_readings_104 : decode prog_14_method_85_code 104 = .ok (.iconst 0, 1) := by decide +kernel
theorem d_MD_readings_105 : decode prog_14_method_85_code 105 = .ok (.invokevirtual 591, 3) := by decide +kernel
theorem d_MD_readings_108 : decode prog_14_method_85_code 108 = .ok (.ladd, 1) := by decide +kernel
theorem d_MD_readings_109 : decode prog_14_method_85_code 109 = .ok (.invokevirtual 587, 3) := by decide +kernel
theorem d_MD_readings_112 : decode prog_14_method_85_code 112 = .ok (.lstore 4, 2) := by decide +kernel
theorem d_MD_readings_83 : decode prog_14_method_85_code 83 = .ok (.goto 75, 3) := by decide +kernel
theorem s_MD_readings {G : cx_T} {h : ah_T} (hx : mi h)  (hRL : RL h) (hTP : TP h) : con G 2 0 0 m_MD_readings [av_R (some 170)] h (fun r h' => ∃ z, r = some (av_I z) ∧ ((-2147483648) ≤ z ∧ z ≤ 2147483647) ∧ (TP h') ∧ kM (pm [98] [231]) h h') := by
  refine con_of (L := [some (av_R (some 170)), none, none, none, none, none, none, none]) (by decide +kernel) (Nat.le_of_ble_eq_true rfl) rfl ?_
  have k0 : kM (pm [98] [231]) h h := kM_0 hx
  refine A_aload_n 0 d_MD_readings_0 rfl rfl ?_
  refine A_getAv (z := some 177) T_ok d_MD_readings_1 f_MD_32 (mi_s k0.1 sf_170) (mi_r k0.1 rfm_19) ?_
  refine A_iconst d_MD_readings_4 rfl ?_
  refine A_ialoadn (lo := 0) (hi := 24) d_MD_readings_5 (mi_s k0.1 sf_177) (by decide) (by decide) (mi_g k0.1 (by decide) (mr_177 _)) (fun x2 ex2 _ _ => ?_)
  replace ex2 : x2 = h.2.1 177 0 := ex2
  refine A_if_eq (tgt := 18) d_MD_readings_6 (by decide) (fun c3 => ?_) (fun c3 => ?_)
  · refine A_bipush d_MD_readings_18 rfl ?_
    exact A_iret d_MD_readings_20 (by decide) rfl ⟨_, rfl, ⟨by omega, by omega⟩, hTP, k0⟩
  · refine A_aload_n 0 d_MD_readings_9 rfl rfl ?_
    refine A_getAv (z := some 181) T_ok d_MD_readings_10 f_MD_44 (mi_s k0.1 sf_170) (mi_r k0.1 rfm_23) ?_
    refine A_iconst d_MD_readings_13 rfl ?_
    refine A_ialoadn (lo := 0) (hi := 12) d_MD_readings_14 (mi_s k0.1 sf_181) (by decide) (by decide) (mi_g k0.1 (by decide) (mr_181 _)) (fun x5 ex5 _ _ => ?_)
    replace ex5 : x5 = h.2.1 181 0 := ex5
    refine A_if_ne (tgt := 21) d_MD_readings_15 (by decide) (fun c6 => ?_) (fun c6 => ?_)
    · refine A_iconst d_MD_readings_21 rfl ?_
      refine A_istore_n 1 (L' := [some (av_R (some 170)), some (av_I 1), none, none, none, none, none, none]) d_MD_readings_22 rfl (Nat.le_of_ble_eq_true rfl) rfl ?_
      have lp23 : ∀ (n : Nat) (i7 : Int) (h8 : ah_T) , 1 ≤ i7 → i7 ≤ 13 → TB h8 i7 0 0 → kM (pm [98] [231]) h h8 → (14 - i7).toNat < n → aw G (rm_R 2 0 0) m_MD_readings 0 0 23 [some (av_R (some 170)), some (av_I i7), none, none, none, none, none, none] [] h8 (fun r h' => ∃ z, r = some (av_I z) ∧ ((-2147483648) ≤ z ∧ z ≤ 2147483647) ∧ (TP h') ∧ kM (pm [98] [231]) h h') := by
        intro n
        induction n with
        | zero => intro i7 h8 _ _ _ _ hm; omega
        | succ n ih23 =>
          intro i7 h8 hl0 hl1 hinv k9 hm
          refine A_iload_n 1 d_MD_readings_23 rfl rfl ?_
          refine A_aload_n 0 d_MD_readings_24 rfl rfl ?_
          refine A_getAv (z := some 181) T_ok d_MD_readings_25 f_MD_44 (mi_s k9.1 sf_170) (mi_r k9.1 rfm_23) ?_
          refine A_iconst d_MD_readings_28 rfl ?_
          refine A_ialoadn (lo := 0) (hi := 12) d_MD_readings_29 (mi_s k9.1 sf_181) (by decide) (by decide) (mi_g k9.1 (by decide) (mr_181 _)) (fun x11 ex11 _ _ => ?_)
          replace ex11 : x11 = h8.2.1 181 0 := ex11
          have fx11 := ex11.trans (k9.2.2.1 181 _ rfl)
          refine A_pc (pc' := 30) rfl ?_
          refine A_icmp_gt (tgt := 196) d_MD_readings_30 (by decide) (fun c12 => ?_) (fun c12 => ?_)
          · have yT : TT h8 := TB_z hinv (by omega)
            have yR : RL h8 := RL_e hRL (k9.2.2.1 177 0 rfl) (fun k => k9.2.2.1 178 k rfl) (fun k => k9.2.2.1 179 k rfl)
            have y0 : 0 ≤ h8.2.1 178 0 := (yR 0 (by have q1 := k9.2.2.1 177 0 rfl; omega)).1
            refine A_aload_n 0 d_MD_readings_196 rfl rfl ?_
            refine A_getAv (z := some 231) T_ok d_MD_readings_197 f_MD_196 (mi_s k9.1 sf_170) (mi_r k9.1 rfm_99) ?_
            refine A_aload_n 0 d_MD_readings_200 rfl rfl ?_
            refine A_aload_n 0 d_MD_readings_201 rfl rfl ?_
            refine A_getAv (z := some 178) T_ok d_MD_readings_202 f_MD_35 (mi_s k9.1 sf_170) (mi_r k9.1 rfm_20) ?_
            refine A_pc (pc' := 205) rfl ?_
            refine A_iconst d_MD_readings_205 rfl ?_
            refine A_ialoadn (lo := (-2)) (hi := 15) d_MD_readings_206 (mi_s k9.1 sf_178) (by decide) (by decide) (mi_g k9.1 (by decide) (mr_178 _)) (fun x15 ex15 _ _ => ?_)
            replace ex15 : x15 = h8.2.1 178 0 := ex15
            have yx15 : 0 ≤ x15 := (by omega)
            refine A_iconst d_MD_readings_207 rfl ?_
            refine A_aload_n 0 d_MD_readings_208 rfl rfl ?_
            refine A_getAv (z := some 181) T_ok d_MD_readings_209 f_MD_44 (mi_s k9.1 sf_170) (mi_r k9.1 rfm_23) ?_
            refine A_iconst d_MD_readings_212 rfl ?_
            refine A_pc (pc' := 213) rfl ?_
            refine A_ialoadv (z := x11) d_MD_readings_213 (mi_s k9.1 sf_181) (by decide) (by decide) ex11.symm ?_
            refine A_callV3 m_MD_treeAt T_ok d_MD_readings_214 l_MD_583 k_MD_treeAt (mi_s k9.1 sf_170) rfl (by decide +kernel) (by decide) (Nat.le_of_ble_eq_true rfl) (s_MD_treeAt  (by omega) (by omega) (by omega) (by omega) (by omega) (by omega)) (fun r h18 hq => ?_)
            obtain ⟨x20, rfl, ⟨_, _⟩, xx20, rfl⟩ := hq
            refine A_laloadn (lo := 0) (hi := 1000001) d_MD_readings_217 (mi_s k9.1 sf_231) (by omega) (by omega) (mi_l k9.1 (by decide) (mq_231 _)) (fun x21 ex21 _ _ => ?_)
            refine A_lstore_n 1 (L' := [some (av_R (some 170)), some (av_L x21), none, none, none, none, none, none]) d_MD_readings_218 rfl (Nat.le_of_ble_eq_true rfl) rfl ?_
            refine A_lload_n 1 d_MD_readings_219 rfl rfl ?_
            refine A_ldc2 (z := 1000000) d_MD_readings_220 cst_MD_397 rfl ?_
            refine A_lcmpn d_MD_readings_223 (fun x22 lx22 ex22 gx22 _ _ => ?_)
            refine A_pc (pc' := 224) rfl ?_
            refine A_if_le (tgt := 230) d_MD_readings_224 (by decide) (fun c23 => ?_) (fun c23 => ?_)
            · have mc23 : (x21 - 1000000) ≤ 0 := by omega
              refine A_aload_n 0 d_MD_readings_230 rfl rfl ?_
              refine A_lload_n 1 d_MD_readings_231 rfl rfl ?_
              refine A_l2iv (z := x21) d_MD_readings_232 (w32_id (by unfold i32; omega)) ?_
              refine A_putIk (KR := kM (pm [98] [231]) h) T_ok d_MD_readings_233 f_MD_483 (mi_s k9.1 sf_170) fin_f (kM_i k9 (by decide) (by decide) mr_170_98 (by omega) (by omega)) (fun h24 k25 eh24 => ?_)
              refine A_aload_n 0 d_MD_readings_236 rfl rfl ?_
              refine A_pc (pc' := 237) rfl ?_
              refine A_getIv (z := x21) T_ok d_MD_readings_237 f_MD_483 (mi_s k25.1 sf_170) eh24.2.1 ?_
              exact A_iret d_MD_readings_240 (by decide) rfl ⟨_, rfl, ⟨by omega, by omega⟩, (TP_r yT (by have q1 := k9.2.2.1 177 0 rfl; omega) (by have q1 := k9.2.2.1 181 0 rfl; omega) ⟨(eh24.1 172 0 (fun q => absurd q (by decide))), fun k _ => ⟨(eh24.1 178 k (fun q => absurd q (by decide))), (eh24.1 179 k (fun q => absurd q (by decide))), (eh24.1 180 k (fun q => absurd q (by decide)))⟩, (eh24.1 177 0 (fun q => absurd q (by decide))), fun k _ => (eh24.1 182 k (fun q => absurd q (by decide))), (eh24.1 181 0 (fun q => absurd q (by decide)))⟩ (funext (fun k => (congrFun (congrFun eh24.2.2 231) k))) k9.1 (by have q3 := eh24.2.1; have q4 : h24.2.1 170 98 ≤ h8.2.2.1 231 (tix (h8.2.1 178 0) 0 (h8.2.1 181 0)) := (by have q1 : h8.2.2.1 231 (tix (h8.2.1 178 0) 0 (h8.2.1 181 0)) = x21 := (by unfold tix; rw [ex21, xx20, ex15, ex11]); rw [q1, q3]; omega); exact q4)), k25⟩
            · have mc23 : (x21 - 1000000) > 0 := by omega
              refine A_bipush d_MD_readings_227 rfl ?_
              exact A_iret d_MD_readings_229 (by decide) rfl ⟨_, rfl, ⟨by omega, by omega⟩, (fun _ => ⟨(by have q1 := k9.2.2.1 177 0 rfl; omega), (by have q1 := k9.2.2.1 181 0 rfl; omega), (by have q2 := mi_g k9.1 (by decide) (rfl : mr 170 98 = (0, 1000000)); exact Int.le_trans q2.2 (by have q1 : h8.2.2.1 231 (tix (h8.2.1 178 0) 0 (h8.2.1 181 0)) = x21 := (by unfold tix; rw [ex21, xx20, ex15, ex11]); rw [q1]; omega)), yT⟩), k9⟩
          · refine A_iconst d_MD_readings_33 rfl ?_
            refine A_istore_n 2 (L' := [some (av_R (some 170)), some (av_I i7), some (av_I 0), none, none, none, none, none]) d_MD_readings_34 rfl (Nat.le_of_ble_eq_true rfl) rfl ?_
            have lp35 : ∀ (n : Nat) (i27 : Int) (h28 : ah_T) , 0 ≤ i27 → i27 ≤ 12 → TB h28 i7 i27 0 → kM (pm [98] [231]) h h28 → (13 - i27).toNat < n → aw G (rm_R 2 0 0) m_MD_readings 0 0 35 [some (av_R (some 170)), some (av_I i7), some (av_I i27), none, none, none, none, none] [] h28 (fun r h' => ∃ z, r = some (av_I z) ∧ ((-2147483648) ≤ z ∧ z ≤ 2147483647) ∧ (TP h') ∧ kM (pm [98] [231]) h h') := by
              intro n
              induction n with
              | zero => intro i27 h28 _ _ _ _ hm; omega
              | succ n ih35 =>
                intro i27 h28 hl0 hl1 hinv k29 hm
                refine A_iload_n 2 d_MD_readings_35 rfl rfl ?_
                refine A_iload_n 1 d_MD_readings_36 rfl rfl ?_
                refine A_iaddv (z := (i27 + i7)) d_MD_readings_37 (w32_to (by omega) (by unfold i32; omega)) ?_
                refine A_aload_n 0 d_MD_readings_38 rfl rfl ?_
                refine A_getAv (z := some 181) T_ok d_MD_readings_39 f_MD_44 (mi_s k29.1 sf_170) (mi_r k29.1 rfm_23) ?_
                refine A_pc (pc' := 42) rfl ?_
                refine A_iconst d_MD_readings_42 rfl ?_
                refine A_ialoadn (lo := 0) (hi := 12) d_MD_readings_43 (mi_s k29.1 sf_181) (by decide) (by decide) (mi_g k29.1 (by decide) (mr_181 _)) (fun x31 ex31 _ _ => ?_)
                replace ex31 : x31 = h28.2.1 181 0 := ex31
                have fx31 := ex31.trans (k29.2.2.1 181 _ rfl)
                refine A_icmp_gt (tgt := 190) d_MD_readings_44 (by decide) (fun c32 => ?_) (fun c32 => ?_)
                · refine A_iincv (z := (i7 + 1)) (L' := [some (av_R (some 170)), some (av_I (i7 + 1)), some (av_I i27), none, none, none, none, none]) d_MD_readings_190 rfl (w32_to (by omega) (by unfold i32; omega)) rfl ?_
                  refine A_goto (tgt := 23) d_MD_readings_193 (by decide) ?_
                  refine A_free (L' := [some (av_R (some 170)), some (av_I (i7 + 1)), none, none, none, none, none, none]) (And.intro rfl (And.intro rfl trivial)) ?_
                  exact ih23 (i7 + 1) h28 (by omega) (by omega) (TB_f hinv (by omega)) k29 (by omega)
                · refine A_iconst d_MD_readings_47 rfl ?_
                  refine A_istore_n 3 (L' := [some (av_R (some 170)), some (av_I i7), some (av_I i27), some (av_I 0), none, none, none, none]) d_MD_readings_48 rfl (Nat.le_of_ble_eq_true rfl) rfl ?_
                  have lp49 : ∀ (n : Nat) (i33 : Int) (h34 : ah_T) , 0 ≤ i33 → i33 ≤ 16 → TB h34 i7 i27 i33 → kM (pm [98] [231]) h h34 → (17 - i33).toNat < n → aw G (rm_R 2 0 0) m_MD_readings 0 0 49 [some (av_R (some 170)), some (av_I i7), some (av_I i27), some (av_I i33), none, none, none, none] [] h34 (fun r h' => ∃ z, r = some (av_I z) ∧ ((-2147483648) ≤ z ∧ z ≤ 2147483647) ∧ (TP h') ∧ kM (pm [98] [231]) h h') := by
                    intro n
                    induction n with
                    | zero => intro i33 h34 _ _ _ _ hm; omega
                    | succ n ih49 =>
                      intro i33 h34 hl0 hl1 hinv k35 hm
                      refine A_iload_n 3 d_MD_readings_49 rfl rfl ?_
                      refine A_bipush d_MD_readings_50 rfl ?_
                      have yR : RL h34 := RL_e hRL (k35.2.2.1 177 0 rfl) (fun k => k35.2.2.1 178 k rfl) (fun k => k35.2.2.1 179 k rfl)
                      have hinvT := hinv
                      have y181 : h34.2.1 181 0 = h.2.1 181 0 := k35.2.2.1 181 0 rfl
                      have y177 := mi_g k35.1 (by decide) (rfl : mr 177 0 = (0, 24))
                      refine A_icmp_ge (tgt := 184) d_MD_readings_52 (by decide) (fun c36 => ?_) (fun c36 => ?_)
                      · refine A_iincv (z := (i27 + 1)) (L' := [some (av_R (some 170)), some (av_I i7), some (av_I (i27 + 1)), some (av_I i33), none, none, none, none]) d_MD_readings_184 rfl (w32_to (by omega) (by unfold i32; omega)) rfl ?_
                        refine A_goto (tgt := 35) d_MD_readings_187 (by decide) ?_
                        refine A_free (L' := [some (av_R (some 170)), some (av_I i7), some (av_I (i27 + 1)), none, none, none, none, none]) (And.intro rfl (And.intro rfl (And.intro rfl trivial))) ?_
                        exact ih35 (i27 + 1) h34 (by omega) (by omega) (TB_a hinv (by omega)) k35 (by omega)
                      · refine A_lconst_0 d_MD_readings_55 ?_
                        refine A_lstore (L' := [some (av_R (some 170)), some (av_I i7), some (av_I i27), some (av_I i33), some (av_L 0), none, none, none]) d_MD_readings_56 (Nat.le_of_ble_eq_true rfl) rfl ?_
                        refine A_iconst d_MD_readings_58 rfl ?_
                        refine A_istore (L' := [some (av_R (some 170)), some (av_I i7), some (av_I i27), some (av_I i33), some (av_L 0), none, some (av_I 0), none]) d_MD_readings_59 (Nat.le_of_ble_eq_true rfl) rfl ?_
                        have lp61 : ∀ (n : Nat) (i37 i38 : Int) , 0 ≤ i37 → i37 ≤ 1000001 → 0 ≤ i38 → i38 ≤ 24 → (i37 ≤ RS h34 i33 i27 i7 (i38).toNat ∧ i38 ≤ h34.2.1 177 0) → (25 - i38).toNat < n → aw G (rm_R 2 0 0) m_MD_readings 0 0 61 [some (av_R (some 170)), some (av_I i7), some (av_I i27), some (av_I i33), some (av_L i37), none, some (av_I i38), none] [] h34 (fun r h' => ∃ z, r = some (av_I z) ∧ ((-2147483648) ≤ z ∧ z ≤ 2147483647) ∧ (TP h') ∧ kM (pm [98] [231]) h h') := by
                          intro n
                          induction n with
                          | zero => intro i37 i38 _ _ _ _ _ hm; omega
                          | succ n ih61 =>
                            intro i37 i38 hl0 hl1 hl2 hl3 hinv hm
                            refine A_iload d_MD_readings_61 rfl ?_
                            refine A_aload_n 0 d_MD_readings_63 rfl rfl ?_
                            refine A_getAv (z := some 177) T_ok d_MD_readings_64 f_MD_32 (mi_s k35.1 sf_170) (mi_r k35.1 rfm_19) ?_
                            refine A_iconst d_MD_readings_67 rfl ?_
                            refine A_ialoadn (lo := 0) (hi := 24) d_MD_readings_68 (mi_s k35.1 sf_177) (by decide) (by decide) (mi_g k35.1 (by decide) (mr_177 _)) (fun x40 ex40 _ _ => ?_)
                            replace ex40 : x40 = h34.2.1 177 0 := ex40
                            have fx40 := ex40.trans (k35.2.2.1 177 _ rfl)
                            refine A_pc (pc' := 69) rfl ?_
                            refine A_icmp_ge (tgt := 164) d_MD_readings_69 (by decide) (fun c41 => ?_) (fun c41 => ?_)
                            · have yS : i37 ≤ RS h34 i33 i27 i7 (h34.2.1 177 0).toNat := (by have q1 := hinv.1; have q2 : h34.2.1 177 0 = i38 := (by omega); rw [q2]; exact q1)
                              refine A_aload_n 0 d_MD_readings_164 rfl rfl ?_
                              refine A_getAv (z := some 231) T_ok d_MD_readings_165 f_MD_196 (mi_s k35.1 sf_170) (mi_r k35.1 rfm_99) ?_
                              refine A_aload_n 0 d_MD_readings_168 rfl rfl ?_
                              refine A_iload_n 3 d_MD_readings_169 rfl rfl ?_
                              refine A_iload_n 2 d_MD_readings_170 rfl rfl ?_
                              refine A_pc (pc' := 171) rfl ?_
                              refine A_iload_n 1 d_MD_readings_171 rfl rfl ?_
                              refine A_callV3 m_MD_treeAt T_ok d_MD_readings_172 l_MD_583 k_MD_treeAt (mi_s k35.1 sf_170) rfl (by decide +kernel) (by decide) (Nat.le_of_ble_eq_true rfl) (s_MD_treeAt  (by omega) (by omega) (by omega) (by omega) (by omega) (by omega)) (fun r h43 hq => ?_)
                              obtain ⟨x45, rfl, ⟨_, _⟩, xx45, rfl⟩ := hq
                              refine A_lload d_MD_readings_175 rfl ?_
                              refine A_lastorek (KR := kM (pm [98] [231]) h) d_MD_readings_177 (mi_s k35.1 sf_231) (by omega) (by omega) (kM_l k35 (by decide) rfl (mq_231 _) (by omega) (by omega)) (fun h46 k47 eh46 => ?_)
                              refine A_iincv (z := (i33 + 1)) (L' := [some (av_R (some 170)), some (av_I i7), some (av_I i27), some (av_I (i33 + 1)), some (av_L i37), none, some (av_I i38), none]) d_MD_readings_178 rfl (w32_to (by omega) (by unfold i32; omega)) rfl ?_
                              refine A_goto (tgt := 49) d_MD_readings_181 (by decide) ?_
                              refine A_free (L' := [some (av_R (some 170)), some (av_I i7), some (av_I i27), some (av_I (i33 + 1)), none, none, none, none]) (And.intro rfl (And.intro rfl (And.intro rfl (And.intro rfl trivial)))) ?_
                              exact ih49 (i33 + 1) h46 (by omega) (by omega) (TB_w k35.1 yR hinvT ⟨(congrFun (congrFun eh46.1 172) 0), fun k _ => ⟨(congrFun (congrFun eh46.1 178) k), (congrFun (congrFun eh46.1 179) k), (congrFun (congrFun eh46.1 180) k)⟩, (congrFun (congrFun eh46.1 177) 0), fun k _ => (congrFun (congrFun eh46.1 182) k), (congrFun (congrFun eh46.1 181) 0)⟩ (fun k hk => (eh46.2.1 231 k (fun _ => hk))) eh46.2.2 (by unfold tix; rw [xx45]) (by omega) (by omega) (by omega) (by omega) yS) k47 (by omega)
                            · have yq : i38 < h34.2.1 177 0 := (by omega)
                              have yn9 := yR (i38).toNat (by omega)
                              refine A_aload_n 0 d_MD_readings_72 rfl rfl ?_
                              refine A_getAv (z := some 178) T_ok d_MD_readings_73 f_MD_35 (mi_s k35.1 sf_170) (mi_r k35.1 rfm_20) ?_
                              refine A_iload d_MD_readings_76 rfl ?_
                              refine A_ialoadn (lo := (-2)) (hi := 15) d_MD_readings_78 (mi_s k35.1 sf_178) (by omega) (by omega) (mi_g k35.1 (by decide) (mr_178 _)) (fun x49 ex49 _ _ => ?_)
                              refine A_iload_n 3 d_MD_readings_79 rfl rfl ?_
                              refine A_pc (pc' := 80) rfl ?_
                              refine A_icmp_eq (tgt := 86) d_MD_readings_80 (by decide) (fun c50 => ?_) (fun c50 => ?_)
                              · refine A_aload_n 0 d_MD_readings_86 rfl rfl ?_
                                refine A_getAv (z := some 180) T_ok d_MD_readings_87 f_MD_41 (mi_s k35.1 sf_170) (mi_r k35.1 rfm_22) ?_
                                refine A_iload d_MD_readings_90 rfl ?_
                                refine A_ialoadn (lo := (-2)) (hi := 15) d_MD_readings_92 (mi_s k35.1 sf_180) (by omega) (by omega) (mi_g k35.1 (by decide) (mr_180 _)) (fun x52 ex52 _ _ => ?_)
                                refine A_if_ge (tgt := 114) d_MD_readings_93 (by decide) (fun c53 => ?_) (fun c53 => ?_)
                                · refine A_iconst d_MD_readings_114 rfl ?_
                                  refine A_istore (L' := [some (av_R (some 170)), some (av_I i7), some (av_I i27), some (av_I i33), some (av_L i37), none, some (av_I i38), some (av_I 1)]) d_MD_readings_115 (Nat.le_of_ble_eq_true rfl) rfl ?_
                                  have lp117 : ∀ (n : Nat) (i54 i55 : Int) , 0 ≤ i54 → i54 ≤ 1000001 → 1 ≤ i55 → i55 ≤ 12 → (i54 ≤ RS h34 i33 i27 i7 (i38).toNat + CS h34 (i38).toNat i27 i7 (i55 - 1).toNat ∧ 1 ≤ i55 ∧ (i55 ≤ i7)) → (13 - i55).toNat < n → aw G (rm_R 2 0 0) m_MD_readings 0 0 117 [some (av_R (some 170)), some (av_I i7), some (av_I i27), some (av_I i33), some (av_L i54), none, some (av_I i38), some (av_I i55)] [] h34 (fun r h' => ∃ z, r = some (av_I z) ∧ ((-2147483648) ≤ z ∧ z ≤ 2147483647) ∧ (TP h') ∧ kM (pm [98] [231]) h h') := by
                                    intro n
                                    induction n with
                                    | zero => intro i54 i55 _ _ _ _ _ hm; omega
                                    | succ n ih117 =>
                                      intro i54 i55 hl0 hl1 hl2 hl3 hinv hm
                                      refine A_iload d_MD_readings_117 rfl ?_
                                      refine A_iload_n 1 d_MD_readings_119 rfl rfl ?_
                                      refine A_icmp_ge (tgt := 158) d_MD_readings_120 (by decide) (fun c56 => ?_) (fun c56 => ?_)
                                      · have yQ : i54 ≤ RS h34 i33 i27 i7 (i38).toNat + CS h34 (i38).toNat i27 i7 (cuts h34 (i38).toNat i7).toNat := (by have q1 := hinv.1; rw [cuts_p (by omega)]; rw [show i55 - 1 = i7 - 1 by omega] at q1; exact q1)
                                        refine A_iincv (z := (i38 + 1)) (L' := [some (av_R (some 170)), some (av_I i7), some (av_I i27), some (av_I i33), some (av_L i54), none, some (av_I (i38 + 1)), some (av_I i55)]) d_MD_readings_158 rfl (w32_to (by omega) (by unfold i32; omega)) rfl ?_
                                        refine A_goto (tgt := 61) d_MD_readings_161 (by decide) ?_
                                        refine A_free (L' := [some (av_R (some 170)), some (av_I i7), some (av_I i27), some (av_I i33), some (av_L i54), none, some (av_I (i38 + 1)), none]) (And.intro rfl (And.intro rfl (And.intro rfl (And.intro rfl (And.intro rfl (And.intro rfl trivial)))))) ?_
                                        exact ih61 i54 (i38 + 1) (by omega) (by omega) (by omega) (by omega) ⟨by rw [RS_y (r := (i38).toNat) (by omega) (by omega)]; exact yQ, by omega⟩ (by omega)
                                      · refine A_aload_n 0 d_MD_readings_123 rfl rfl ?_
                                        refine A_getAv (z := some 180) T_ok d_MD_readings_124 f_MD_41 (mi_s k35.1 sf_170) (mi_r k35.1 rfm_22) ?_
                                        refine A_iload d_MD_readings_127 rfl ?_
                                        refine A_ialoadv (z := x52) d_MD_readings_129 (mi_s k35.1 sf_180) (by omega) (by omega) ex52.symm ?_
                                        refine A_if_lt (tgt := 158) d_MD_readings_130 (by decide) (fun c => False.elim (by omega)) (fun c59 => ?_)
                                        refine A_aload_n 0 d_MD_readings_133 rfl rfl ?_
                                        refine A_lload d_MD_readings_134 rfl ?_
                                        refine A_aload_n 0 d_MD_readings_136 rfl rfl ?_
                                        refine A_iload d_MD_readings_137 rfl ?_
                                        refine A_iload_n 2 d_MD_readings_139 rfl rfl ?_
                                        refine A_pc (pc' := 140) rfl ?_
                                        refine A_iload_n 1 d_MD_readings_140 rfl rfl ?_
                                        refine A_iload d_MD_readings_141 rfl ?_
                                        refine A_callV4 m_MD_byRule T_ok d_MD_readings_143 l_MD_591 k_MD_byRule (mi_s k35.1 sf_170) rfl (by decide +kernel) (by decide) (Nat.le_of_ble_eq_true rfl) (s_MD_byRule k35.1 (by omega) (by omega) (by omega) (by omega) (by omega) (by omega) (by omega) (by omega) (yR (i38).toNat (by omega)).2 (fun q => by omega) (by omega)) (fun r h60 hq => ?_)
                                        obtain ⟨x62, rfl, ⟨_, _⟩, xx62, rfl⟩ := hq
                                        refine A_laddv (z := (i54 + x62)) d_MD_readings_146 (w64_to (by omega) (by unfold i64; omega)) ?_
                                        refine A_callV1 m_MD_capped T_ok d_MD_readings_147 l_MD_587 k_MD_capped (mi_s k35.1 sf_170) rfl (by decide +kernel) (by decide) (Nat.le_of_ble_eq_true rfl) (s_MD_capped  (by omega) (by omega)) (fun r h63 hq => ?_)
                                        obtain ⟨x65, rfl, ⟨_, _⟩, xx65, rfl⟩ := hq
                                        refine A_lstore (L' := [some (av_R (some 170)), some (av_I i7), some (av_I i27), some (av_I i33), some (av_L x65), none, some (av_I i38), some (av_I i55)]) d_MD_readings_150 (Nat.le_of_ble_eq_true rfl) rfl ?_
                                        refine A_iincv (z := (i55 + 1)) (L' := [some (av_R (some 170)), some (av_I i7), some (av_I i27), some (av_I i33), some (av_L x65), none, some (av_I i38), some (av_I (i55 + 1))]) d_MD_readings_152 rfl (w32_to (by omega) (by unfold i32; omega)) rfl ?_
                                        refine A_goto (tgt := 117) d_MD_readings_155 (by decide) ?_
                                        exact ih117 x65 (i55 + 1) (by omega) (by omega) (by omega) (by omega) ⟨by rw [CS_n (c := (i55 - 1).toNat) (l := i55) (by omega) (by omega)]; have q1 := xx65; have q2 := cap_le ((i54 + x62)); have q3 := xx62; have q4 := hinv.1; omega, by omega, by omega⟩ (by omega)
                                  exact lp117 _ i37 1 (by omega) (by omega) (by omega) (by omega) ⟨by show _ ≤ _ + CS _ _ _ _ (((1 : Int)) - 1).toNat; rw [show (((1 : Int)) - 1).toNat = 0 from rfl]; show _ ≤ _ + (0 : Int); have q1 := hinv.1; omega, by omega, by omega⟩ (Nat.lt_succ_self _)
                                · refine A_aload_n 0 d_MD_readings_96 rfl rfl ?_
                                  refine A_lload d_MD_readings_97 rfl ?_
                                  refine A_aload_n 0 d_MD_readings_99 rfl rfl ?_
                                  refine A_iload d_MD_readings_100 rfl ?_
                                  refine A_iload_n 2 d_MD_readings_102 rfl rfl ?_
                                  refine A_pc (pc' := 103) rfl ?_
                                  refine A_iload_n 1 d_MD_readings_103 rfl rfl ?_
                                  refine A_iconst d_MD_readings_104 rfl ?_
                                  refine A_callV4 m_MD_byRule T_ok d_MD_readings_105 l_MD_591 k_MD_byRule (mi_s k35.1 sf_170) rfl (by decide +kernel) (by decide) (Nat.le_of_ble_eq_true rfl) (s_MD_byRule k35.1 (by omega) (by omega) (by omega) (by omega) (by omega) (by omega) (by omega) (by omega) (yR (i38).toNat (by omega)).2 (fun q => by omega) (by omega)) (fun r h66 hq => ?_)
                                  obtain ⟨x68, rfl, ⟨_, _⟩, xx68, rfl⟩ := hq
                                  refine A_laddv (z := (i37 + x68)) d_MD_readings_108 (w64_to (by omega) (by unfold i64; omega)) ?_
                                  refine A_callV1 m_MD_capped T_ok d_MD_readings_109 l_MD_587 k_MD_capped (mi_s k35.1 sf_170) rfl (by decide +kernel) (by decide) (Nat.le_of_ble_eq_true rfl) (s_MD_capped  (by omega) (by omega)) (fun r h69 hq => ?_)
                                  obtain ⟨x71, rfl, ⟨_, _⟩, xx71, rfl⟩ := hq
                                  refine A_lstore (L' := [some (av_R (some 170)), some (av_I i7), some (av_I i27), some (av_I i33), some (av_L x71), none, some (av_I i38), none]) d_MD_readings_112 (Nat.le_of_ble_eq_true rfl) rfl ?_
                                  have yQ : x71 ≤ RS h34 i33 i27 i7 (i38).toNat + CS h34 (i38).toNat i27 i7 (cuts h34 (i38).toNat i7).toNat := (by rw [CS_1 (l := 0) (by omega)]; have q1 := xx71; have q2 := cap_le ((i37 + x68)); have q3 := xx68; have q4 := hinv.1; omega)
                                  refine A_iconst d_MD_readings_114 rfl ?_
                                  refine A_istore (L' := [some (av_R (some 170)), some (av_I i7), some (av_I i27), some (av_I i33), some (av_L x71), none, some (av_I i38), some (av_I 1)]) d_MD_readings_115 (Nat.le_of_ble_eq_true rfl) rfl ?_
                                  have lp117 : ∀ (n : Nat) (i72 i73 : Int) , 0 ≤ i72 → i72 ≤ 1000001 → 1 ≤ i73 → i73 ≤ 12 → (i72 ≤ RS h34 i33 i27 i7 (i38).toNat + CS h34 (i38).toNat i27 i7 (cuts h34 (i38).toNat i7).toNat ∧ i73 = 1) → (13 - i73).toNat < n → aw G (rm_R 2 0 0) m_MD_readings 0 0 117 [some (av_R (some 170)), some (av_I i7), some (av_I i27), some (av_I i33), some (av_L i72), none, some (av_I i38), some (av_I i73)] [] h34 (fun r h' => ∃ z, r = some (av_I z) ∧ ((-2147483648) ≤ z ∧ z ≤ 2147483647) ∧ (TP h') ∧ kM (pm [98] [231]) h h') := by
                                    intro n
                                    induction n with
                                    | zero => intro i72 i73 _ _ _ _ _ hm; omega
                                    | succ n ih117 =>
                                      intro i72 i73 hl0 hl1 hl2 hl3 hinv hm
                                      refine A_iload d_MD_readings_117 rfl ?_
                                      refine A_iload_n 1 d_MD_readings_119 rfl rfl ?_
                                      refine A_icmp_ge (tgt := 158) d_MD_readings_120 (by decide) (fun c74 => ?_) (fun c74 => ?_)
                                      · have yQ := hinv.1
                                        refine A_iincv (z := (i38 + 1)) (L' := [some (av_R (some 170)), some (av_I i7), some (av_I i27), some (av_I i33), some (av_L i72), none, some (av_I (i38 + 1)), some (av_I i73)]) d_MD_readings_158 rfl (w32_to (by omega) (by unfold i32; omega)) rfl ?_
                                        refine A_goto (tgt := 61) d_MD_readings_161 (by decide) ?_
                                        refine A_free (L' := [some (av_R (some 170)), some (av_I i7), some (av_I i27), some (av_I i33), some (av_L i72), none, some (av_I (i38 + 1)), none]) (And.intro rfl (And.intro rfl (And.intro rfl (And.intro rfl (And.intro rfl (And.intro rfl trivial)))))) ?_
                                        exact ih61 i72 (i38 + 1) (by omega) (by omega) (by omega) (by omega) ⟨by rw [RS_y (r := (i38).toNat) (by omega) (by omega)]; exact yQ, by omega⟩ (by omega)
                                      · refine A_aload_n 0 d_MD_readings_123 rfl rfl ?_
                                        refine A_getAv (z := some 180) T_ok d_MD_readings_124 f_MD_41 (mi_s k35.1 sf_170) (mi_r k35.1 rfm_22) ?_
                                        refine A_iload d_MD_readings_127 rfl ?_
                                        refine A_ialoadv (z := x52) d_MD_readings_129 (mi_s k35.1 sf_180) (by omega) (by omega) ex52.symm ?_
                                        refine A_if_lt (tgt := 158) d_MD_readings_130 (by decide) (fun c77 => ?_) (fun c => False.elim (by omega))
                                        have yQ := hinv.1
                                        refine A_iincv (z := (i38 + 1)) (L' := [some (av_R (some 170)), some (av_I i7), some (av_I i27), some (av_I i33), some (av_L i72), none, some (av_I (i38 + 1)), some (av_I i73)]) d_MD_readings_158 rfl (w32_to (by omega) (by unfold i32; omega)) rfl ?_
                                        refine A_goto (tgt := 61) d_MD_readings_161 (by decide) ?_
                                        refine A_free (L' := [some (av_R (some 170)), some (av_I i7), some (av_I i27), some (av_I i33), some (av_L i72), none, some (av_I (i38 + 1)), none]) (And.intro rfl (And.intro rfl (And.intro rfl (And.intro rfl (And.intro rfl (And.intro rfl trivial)))))) ?_
                                        exact ih61 i72 (i38 + 1) (by omega) (by omega) (by omega) (by omega) ⟨by rw [RS_y (r := (i38).toNat) (by omega) (by omega)]; exact yQ, by omega⟩ (by omega)
                                  exact lp117 _ x71 1 (by omega) (by omega) (by omega) (by omega) ⟨yQ, by omega⟩ (Nat.lt_succ_self _)
                              · refine A_goto (tgt := 158) d_MD_readings_83 (by decide) ?_
                                refine A_iincv (z := (i38 + 1)) (L' := [some (av_R (some 170)), some (av_I i7), some (av_I i27), some (av_I i33), some (av_L i37), none, some (av_I (i38 + 1)), none]) d_MD_readings_158 rfl (w32_to (by omega) (by unfold i32; omega)) rfl ?_
                                refine A_goto (tgt := 61) d_MD_readings_161 (by decide) ?_
                                exact ih61 i37 (i38 + 1) (by omega) (by omega) (by omega) (by omega) ⟨by rw [RS_n (r := (i38).toNat) (by omega) (by omega)]; exact hinv.1, by omega⟩ (by omega)
                        exact lp61 _ 0 0 (by omega) (by omega) (by omega) (by omega) ⟨by show (0 : Int) ≤ RS _ _ _ _ ((0 : Int)).toNat; exact Int.le_refl _, by omega⟩ (Nat.lt_succ_self _)
                  exact lp49 _ 0 h28 (by omega) (by omega) hinv k29 (Nat.lt_succ_self _)
            exact lp35 _ 0 h8 (by omega) (by omega) hinv k9 (Nat.lt_succ_self _)
      exact lp23 _ 1 h (by omega) (by omega) TB_0 k0 (Nat.lt_succ_self _)
    · refine A_bipush d_MD_readings_18 rfl ?_
      exact A_iret d_MD_readings_20 (by decide) rfl ⟨_, rfl, ⟨by omega, by omega⟩, hTP, k0⟩
