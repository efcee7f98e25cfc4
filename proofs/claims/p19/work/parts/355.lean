/-! ===== the reference's methods, 355 ===== -/
def m_MD_cell : mr_T := (⟨"PlainMusicModel", "cell", "(IIII)V"⟩, prog_14_method_90_code, 12, none)
theorem d_MD_cell_0 : decode prog_14_method_90_code 0 = .ok (.bipush 81, 2) := by decide +kernel
theorem d_MD_cell_2 : decode prog_14_method_90_code 2 = .ok (.iload_n 1, 1) := by decide +kernel
theorem d_MD_cell_3 : decode prog_14_method_90_code 3 = .ok (.imul, 1) := by decide +kernel
theorem d_MD_cell_4 : decode prog_14_method_90_code 4 = .ok (.iload_n 2, 1) := by decide +kernel
theorem d_MD_cell_5 : decode prog_14_method_90_code 5 = .ok (.iadd, 1) := by decide +kernel
theorem d_MD_cell_6 : decode prog_14_method_90_code 6 = .ok (.istore 5, 2) := by decide +kernel
theorem d_MD_cell_8 : decode prog_14_method_90_code 8 = .ok (.iload_n 1, 1) := by decide +kernel
theorem d_MD_cell_9 : decode prog_14_method_90_code 9 = .ok (.iload_n 3, 1) := by decide +kernel
theorem d_MD_cell_10 : decode prog_14_method_90_code 10 = .ok (.if_icmp .ne 26, 3) := by decide +kernel
theorem d_MD_cell_36 : decode prog_14_method_90_code 36 = .ok (.iload_n 1, 1) := by decide +kernel
theorem d_MD_cell_37 : decode prog_14_method_90_code 37 = .ok (.iload_n 3, 1) := by decide +kernel
theorem d_MD_cell_38 : decode prog_14_method_90_code 38 = .ok (.if_icmp .ge 39, 3) := by decide +kernel
theorem d_MD_cell_77 : decode prog_14_method_90_code 77 = .ok (.ldc_w 605, 3) := by decide +kernel
theorem cst_MD_605 : Cond.constant "PlainMusicModel" 605 (Int32.ofInt 1000000) ∈ gw := gwi_2185
theorem d_MD_cell_80 : decode prog_14_method_90_code 80 = .ok (.istore 6, 2) := by decide +kernel
theorem d_MD_cell_82 : decode prog_14_method_90_code 82 = .ok (.iload_n 1, 1) := by decide +kernel
theorem d_MD_cell_83 : decode prog_14_method_90_code 83 = .ok (.iload_n 3, 1) := by decide +kernel
theorem d_MD_cell_84 : decode prog_14_method_90_code 84 = .ok (.if_icmp .ge 18, 3) := by decide +kernel
theorem d_MD_cell_102 : decode prog_14_method_90_code 102 = .ok (.ldc_w 605, 3) := by decide +kernel
theorem d_MD_cell_105 : decode prog_14_method_90_code 105 = .ok (.istore 7, 2) := by decide +kernel
theorem d_MD_cell_107 : decode prog_14_method_90_code 107 = .ok (.iload_n 2, 1) := by decide +kernel
theorem d_MD_cell_108 : decode prog_14_method_90_code 108 = .ok (.iload 4, 2) := by decide +kernel
theorem d_MD_cell_110 : decode prog_14_method_90_code 110 = .ok (.if_icmp .ge 17, 3) := by decide +kernel
theorem d_MD_cell_127 : decode prog_14_method_90_code 127 = .ok (.ldc_w 605, 3) := by decide +kernel
theorem d_MD_cell_130 : decode prog_14_method_90_code 130 = .ok (.istore 8, 2) := by decide +kernel
theorem d_MD_cell_132 : decode prog_14_method_90_code 132 = .ok (.iload 6, 2) := by decide +kernel
theorem d_MD_cell_134 : decode prog_14_method_90_code 134 = .ok (.iload 7, 2) := by decide +kernel
theorem d_MD_cell_136 : decode prog_14_method_90_code 136 = .ok (.if_icmp .ge 8, 3) := by decide +kernel
theorem d_MD_cell_144 : decode prog_14_method_90_code 144 = .ok (.iload 7, 2) := by decide +kernel
theorem d_MD_cell_146 : decode prog_14_method_90_code 146 = .ok (.istore 9, 2) := by decide +kernel
theorem d_MD_cell_148 : decode prog_14_method_90_code 148 = .ok (.iload 8, 2) := by decide +kernel
theorem d_MD_cell_150 : decode prog_14_method_90_code 150 = .ok (.iload 9, 2) := by decide +kernel
theorem d_MD_cell_152 : decode prog_14_method_90_code 152 = .ok (.if_icmp .ge 8, 3) := by decide +kernel
theorem d_MD_cell_160 : decode prog_14_method_90_code 160 = .ok (.iload 9, 2) := by decide +kernel
theorem d_MD_cell_162 : decode prog_14_method_90_code 162 = .ok (.istore 9, 2) := by decide +kernel
theorem d_MD_cell_164 : decode prog_14_method_90_code 164 = .ok (.aload_n 0, 1) := by decide +kernel
theorem d_MD_cell_165 : decode prog_14_method_90_code 165 = .ok (.getfield 220, 3) := by decide +kernel
theorem rfm_109 : (109, 239) ∈ mf_L := by decide +kernel
theorem d_MD_cell_168 : decode prog_14_method_90_code 168 = .ok (.iload 5, 2) := by decide +kernel
theorem d_MD_cell_170 : decode prog_14_method_90_code 170 = .ok (.iload 9, 2) := by decide +kernel
theorem d_MD_cell_172 : decode prog_14_method_90_code 172 = .ok (.iastore, 1) := by decide +kernel
theorem sf_239 : sh_L[239]? = some (0, 6561) := by decide +kernel
theorem mr_239 (k : Nat) : mr 239 k = ((-2147483648), 2147483647) := rfl
theorem d_MD_cell_173 : decode prog_14_method_90_code 173 = .ok (.lconst 0, 1) := by decide +kernel
theorem d_MD_cell_174 : decode prog_14_method_90_code 174 = .ok (.lstore 10, 2) := by decide +kernel
theorem d_MD_cell_176 : decode prog_14_method_90_code 176 = .ok (.iload 6, 2) := by decide +kernel
theorem d_MD_cell_178 : decode prog_14_method_90_code 178 = .ok (.iload 9, 2) := by decide +kernel
theorem d_MD_cell_180 : decode prog_14_method_90_code 180 = .ok (.if_icmp .ne 18, 3) := by decide +kernel
theorem d_MD_cell_183 : decode prog_14_method_90_code 183 = .ok (.lload 10, 2) := by decide +kernel
theorem d_MD_cell_185 : decode prog_14_method_90_code 185 = .ok (.aload_n 0, 1) := by decide +kernel
theorem d_MD_cell_186 : decode prog_14_method_90_code 186 = .ok (.getfield 223, 3) := by decide +kernel
theorem rfm_110 : (110, 240) ∈ mf_L := by decide +kernel
theorem d_MD_cell_189 : decode prog_14_method_90_code 189 = .ok (.iload 5, 2) := by decide +kernel
theorem d_MD_cell_191 : decode prog_14_method_90_code 191 = .ok (.bipush 82, 2) := by decide +kernel
theorem d_MD_cell_193 : decode prog_14_method_90_code 193 = .ok (.iadd, 1) := by decide +kernel
theorem d_MD_cell_194 : decode prog_14_method_90_code 194 = .ok (.laload, 1) := by decide +kernel
theorem sf_240 : sh_L[240]? = some (1, 6561) := by decide +kernel
theorem mq_240 (k : Nat) : mq 240 k = ((-9223372036854775808), 9223372036854775807) := rfl
theorem d_MD_cell_195 : decode prog_14_method_90_code 195 = .ok (.ladd, 1) := by decide +kernel
theorem d_MD_cell_196 : decode prog_14_method_90_code 196 = .ok (.lstore 10, 2) := by decide +kernel
theorem d_MD_cell_198 : decode prog_14_method_90_code 198 = .ok (.iload 7, 2) := by decide +kernel
theorem d_MD_cell_200 : decode prog_14_method_90_code 200 = .ok (.iload 9, 2) := by decide +kernel
theorem d_MD_cell_202 : decode prog_14_method_90_code 202 = .ok (.if_icmp .ne 18, 3) := by decide +kernel
theorem d_MD_cell_205 : decode prog_14_method_90_code 205 = .ok (.lload 10, 2) := by decide +kernel
theorem d_MD_cell_207 : decode prog_14_method_90_code 207 = .ok (.aload_n 0, 1) := by decide +kernel
theorem d_MD_cell_208 : decode prog_14_method_90_code 208 = .ok (.getfield 223, 3) := by decide +kernel
theorem d_MD_cell_211 : decode prog_14_method_90_code 211 = .ok (.iload 5, 2) := by decide +kernel
theorem d_MD_cell_213 : decode prog_14_method_90_code 213 = .ok (.bipush 81, 2) := by decide +kernel
theorem d_MD_cell_215 : decode prog_14_method_90_code 215 = .ok (.iadd, 1) := by decide +kernel
theorem d_MD_cell_216 : decode prog_14_method_90_code 216 = .ok (.laload, 1) := by decide +kernel
theorem d_MD_cell_217 : decode prog_14_method_90_code 217 = .ok (.ladd, 1) := by decide +kernel
theorem d_MD_cell_218 : decode prog_14_method_90_code 218 = .ok (.lstore 10, 2) := by decide +kernel
theorem d_MD_cell_220 : decode prog_14_method_90_code 220 = .ok (.iload 8, 2) := by decide +kernel
theorem d_MD_cell_222 : decode prog_14_method_90_code 222 = .ok (.iload 9, 2) := by decide +kernel
theorem d_MD_cell_224 : decode prog_14_method_90_code 224 = .ok (.if_icmp .ne 17, 3) := by decide +kernel
theorem d_MD_cell_227 : decode prog_14_method_90_code 227 = .ok (.lload 10, 2) := by decide +kernel
theorem d_MD_cell_229 : decode prog_14_method_90_code 229 = .ok (.aload_n 0, 1) := by decide +kernel
theorem d_MD_cell_230 : decode prog_14_method_90_code 230 = .ok (.getfield 223, 3) := by decide +kernel
theorem d_MD_cell_233 : decode prog_14_method_90_code 233 = .ok (.iload 5, 2) := by decide +kernel
theorem d_MD_cell_235 : decode prog_14_method_90_code 235 = .ok (.iconst 1, 1) := by decide +kernel
theorem d_MD_cell_236 : decode prog_14_method_90_code 236 = .ok (.iadd, 1) := by decide +kernel
theorem d_MD_cell_237 : decode prog_14_method_90_code 237 = .ok (.laload, 1) := by decide +kernel
theorem d_MD_cell_238 : decode prog_14_method_90_code 238 = .ok (.ladd, 1) := by decide +kernel
theorem d_MD_cell_239 : decode prog_14_method_90_code 239 = .ok (.lstore 10, 2) := by decide +kernel
theorem d_MD_cell_241 : decode prog_14_method_90_code 241 = .ok (.aload_n 0, 1) := by decide +kernel
theorem d_MD_cell_242 : decode prog_14_method_90_code 242 = .ok (.getfield 223, 3) := by decide +kernel
theorem d_MD_cell_245 : decode prog_14_method_90_code 245 = .ok (.iload 5, 2) := by decide +kernel
theorem d_MD_cell_247 : decode prog_14_method_90_code 247 = .ok (.lload 10, 2) := by decide +kernel
theorem d_MD_cell_249 : decode prog_14_method_90_code 249 = .ok (.ldc2_w 606, 3) := by decide +kernel
theorem cst_MD_606 : Cond.constantLong "PlainMusicModel" 606 (Int64.ofInt 1000000007) ∈ gw := gwi_2186
theorem d_MD_cell_252 : decode prog_14_method_90_code 252 = .ok (.lrem, 1) := by decide +kernel
theorem d_MD_cell_253 : decode prog_14_method_90_code 253 = .ok (.lastore, 1) := by decide +kernel
theorem d_MD_cell_254 : decode prog_14_method_90_code 254 = .ok (.return_, 1) := by decide +kernel
theorem d_MD_cell_113 : decode prog_14_method_90_code 113 = .ok (.iconst 5, 1) := by decide +kernel
theorem d_MD_cell_114 : decode prog_14_method_90_code 114 = .ok (.aload_n 0, 1) := by decide +kernel
theorem d_MD_cell_115 : decode prog_14_method_90_code 115 = .ok (.getfield 220, 3) := by decide +kernel
theorem d_MD_cell_118 : decode prog_14_method_90_code 118 = .ok (.iload 5, 2) := by decide +kernel
theorem d_MD_cell_120 : decode prog_14_method_90_code 120 = .ok (.iconst 1, 1) := by decide +kernel
theorem d_MD_cell_121 : decode prog_14_method_90_code 121 = .ok (.iadd, 1) := by decide +kernel
theorem d_MD_cell_122 : decode prog_14_method_90_code 122 = .ok (.iaload, 1) := by decide +kernel
theorem d_MD_cell_123 : decode prog_14_method_90_code 123 = .ok (.iadd, 1) := by decide +kernel
theorem d_MD_cell_124 : decode prog_14_method_90_code 124 = .ok (.goto 6, 3) := by decide +kernel
theorem d_MD_cell_155 : decode prog_14_method_90_code 155 = .ok (.iload 8, 2) := by decide +kernel
theorem d_MD_cell_157 : decode prog_14_method_90_code 157 = .ok (.goto 5, 3) := by decide +kernel
theorem d_MD_cell_41 : decode prog_14_method_90_code 41 = .ok (.iload_n 2, 1) := by decide +kernel
theorem d_MD_cell_42 : decode prog_14_method_90_code 42 = .ok (.iload 4, 2) := by decide +kernel
theorem d_MD_cell_44 : decode prog_14_method_90_code 44 = .ok (.if_icmp .ge 33, 3) := by decide +kernel
theorem d_MD_cell_87 : decode prog_14_method_90_code 87 = .ok (.iconst 5, 1) := by decide +kernel
theorem d_MD_cell_88 : decode prog_14_method_90_code 88 = .ok (.aload_n 0, 1) := by decide +kernel
theorem d_MD_cell_89 : decode prog_14_method_90_code 89 = .ok (.getfield 220, 3) := by decide +kernel
theorem d_MD_cell_92 : decode prog_14_method_90_code 92 = .ok (.iload 5, 2) := by decide +kernel
theorem d_MD_cell_94 : decode prog_14_method_90_code 94 = .ok (.bipush 81, 2) := by decide +kernel
theorem d_MD_cell_96 : decode prog_14_method_90_code 96 = .ok (.iadd, 1) := by decide +kernel
theorem d_MD_cell_97 : decode prog_14_method_90_code 97 = .ok (.iaload, 1) := by decide +kernel
theorem d_MD_cell_98 : decode prog_14_method_90_code 98 = .ok (.iadd, 1) := by decide +kernel
theorem d_MD_cell_99 : decode prog_14_method_90_code 99 = .ok (.goto 6, 3) := by decide +kernel
theorem d_MD_cell_47 : decode prog_14_method_90_code 47 = .ok (.aload_n 0, 1) := by decide +kernel
theorem d_MD_cell_48 : decode prog_14_method_90_code 48 = .ok (.aload_n 0, 1) := by decide +kernel
theorem d_MD_cell_49 : decode prog_14_method_90_code 49 = .ok (.getfield 214, 3) := by decide +kernel
theorem d_MD_cell_52 : decode prog_14_method_90_code 52 = .ok (.iload_n 1, 1) := by decide +kernel
theorem d_MD_cell_53 : decode prog_14_method_90_code 53 = .ok (.iaload, 1) := by decide +kernel
theorem d_MD_cell_54 : decode prog_14_method_90_code 54 = .ok (.aload_n 0, 1) := by decide +kernel
theorem d_MD_cell_55 : decode prog_14_method_90_code 55 = .ok (.getfield 217, 3) := by decide +kernel
theorem d_MD_cell_58 : decode prog_14_method_90_code 58 = .ok (.iload_n 2, 1) := by decide +kernel
theorem d_MD_cell_59 : decode prog_14_method_90_code 59 = .ok (.iaload, 1) := by decide +kernel
theorem d_MD_cell_60 : decode prog_14_method_90_code 60 = .ok (.invokevirtual 602, 3) := by decide +kernel
theorem k_MD_pairCost : mt_OK m_MD_pairCost 2 1 := ⟨gwi_2184, gwi_146, ⟨by decide +kernel, by decide +kernel, by decide +kernel⟩, fun h => absurd h (by decide), fun _ => ⟨gwi_2183, gwi_128⟩, fun h => absurd h (by decide)⟩
theorem l_MD_602 : ml_OK "PlainMusicModel" 602 ⟨"PlainMusicModel", "pairCost", "(II)I"⟩ := Or.inl gwi_2181
theorem d_MD_cell_63 : decode prog_14_method_90_code 63 = .ok (.aload_n 0, 1) := by decide +kernel
theorem d_MD_cell_64 : decode prog_14_method_90_code 64 = .ok (.getfield 220, 3) := by decide +kernel
theorem d_MD_cell_67 : decode prog_14_method_90_code 67 = .ok (.iload 5, 2) := by decide +kernel
theorem d_MD_cell_69 : decode prog_14_method_90_code 69 = .ok (.bipush 82, 2) := by decide +kernel
theorem d_MD_cell_71 : decode prog_14_method_90_code 71 = .ok (.iadd, 1) := by decide +kernel
theorem d_MD_cell_72 : decode prog_14_method_90_code 72 = .ok (.iaload, 1) := by decide +kernel
theorem d_MD_cell_73 : decode prog_14_method_90_code 73 = .ok (.iadd, 1) := by decide +kernel
theorem d_MD_cell_74 : decode prog_14_method_90_code 74 = .ok (.goto 6, 3) := by decide +kernel
theorem d_MD_cell_139 : decode prog_14_method_90_code 139 = .ok (.iload 6, 2) := by decide +kernel
theorem d_MD_cell_141 : decode prog_14_method_90_code 141 = .ok (.goto 5, 3) := by decide +kernel
theorem d_MD_cell_13 : decode prog_14_method_90_code 13 = .ok (.iload_n 2, 1) := by decide +kernel
theorem d_MD_cell_14 : decode prog_14_method_90_code 14 = .ok (.iload 4, 2) := by decide +kernel
theorem d_MD_cell_16 : decode prog_14_method_90_code 16 = .ok (.if_icmp .ne 20, 3) := by decide +kernel
theorem d_MD_cell_19 : decode prog_14_method_90_code 19 = .ok (.aload_n 0, 1) := by decide +kernel
theorem d_MD_cell_20 : decode prog_14_method_90_code 20 = .ok (.getfield 220, 3) := by decide +kernel
theorem d_MD_cell_23 : decode prog_14_method_90_code 23 = .ok (.iload 5, 2) := by decide +kernel
theorem d_MD_cell_25 : decode prog_14_method_90_code 25 = .ok (.iconst 0, 1) := by decide +kernel
theorem d_MD_cell_26 : decode prog_14_method_90_code 26 = .ok (.iastore, 1) := by decide +kernel
theorem d_MD_cell_27 : decode prog_14_method_90_code 27 = .ok (.aload_n 0, 1) := by decide +kernel
theorem d_MD_cell_28 : decode prog_14_method_90_code 28 = .ok (.getfield 223, 3) := by decide +kernel
theorem d_MD_cell_31 : decode prog_14_method_90_code 31 = .ok (.iload 5, 2) := by decide +kernel
theorem d_MD_cell_33 : decode prog_14_method_90_code 33 = .ok (.lconst 1, 1) := by decide +kernel
theorem d_MD_cell_34 : decode prog_14_method_90_code 34 = .ok (.lastore, 1) := by decide +kernel
theorem d_MD_cell_35 : decode prog_14_method_90_code 35 = .ok (.return_, 1) := by decide +kernel
set_option maxHeartbeats 8000000 in
theorem s_MD_cell {G : cx_T} {h : ah_T} (hx : mi h) {a1 : Int} {a2 : Int} {a3 : Int} {a4 : Int} (la1 : 0 ≤ a1) (ua1 : a1 ≤ 80) (la2 : 0 ≤ a2) (ua2 : a2 ≤ 80) (la3 : 0 ≤ a3) (ua3 : a3 ≤ 80) (la4 : 0 ≤ a4) (ua4 : a4 ≤ 80) (hi : a1 ≤ a3) (hj : a2 ≤ a4) (hc1 : a1 < a3 → 0 ≤ h.2.1 239 (81 * a1 + a2 + 81).toNat ∧ h.2.1 239 (81 * a1 + a2 + 81).toNat ≤ 5 * ((a3 - a1) + (a4 - a2) - 1)) (hc2 : a2 < a4 → 0 ≤ h.2.1 239 (81 * a1 + a2 + 1).toNat ∧ h.2.1 239 (81 * a1 + a2 + 1).toNat ≤ 5 * ((a3 - a1) + (a4 - a2) - 1)) (hc3 : a1 < a3 → a2 < a4 → 0 ≤ h.2.1 239 (81 * a1 + a2 + 82).toNat ∧ h.2.1 239 (81 * a1 + a2 + 82).toNat ≤ 5 * ((a3 - a1) + (a4 - a2) - 2)) : con G 2 0 0 m_MD_cell [av_R (some 170), av_I a1, av_I a2, av_I a3, av_I a4] h (fun r h' => r = none ∧ (CX h h' a1 a2 a3 a4 ∧ 0 ≤ h'.2.1 239 (81 * a1 + a2).toNat ∧ h'.2.1 239 (81 * a1 + a2).toNat ≤ 5 * ((a3 - a1) + (a4 - a2))) ∧ kM (pm [] [239, 240]) h h') := by
  refine con_of (L := [some (av_R (some 170)), some (av_I a1), some (av_I a2), some (av_I a3), some (av_I a4), none, none, none, none, none, none, none]) (by decide +kernel) (Nat.le_of_ble_eq_true rfl) rfl ?_
  have k0 : kM (pm [] [239, 240]) h h := kM_0 hx
  refine A_bipush d_MD_cell_0 rfl ?_
  refine A_iload_n 1 d_MD_cell_2 rfl rfl ?_
  refine A_imulv (z := (81 * a1)) d_MD_cell_3 (w32_to (by omega) (by unfold i32; omega)) ?_
  refine A_iload_n 2 d_MD_cell_4 rfl rfl ?_
  refine A_iaddv (z := (81 * a1 + a2)) d_MD_cell_5 (w32_to (by omega) (by unfold i32; omega)) ?_
  refine A_pc (pc' := 6) rfl ?_
  refine A_istore (L' := [some (av_R (some 170)), some (av_I a1), some (av_I a2), some (av_I a3), some (av_I a4), some (av_I (81 * a1 + a2)), none, none, none, none, none, none]) d_MD_cell_6 (Nat.le_of_ble_eq_true rfl) rfl ?_
  refine A_iload_n 1 d_MD_cell_8 rfl rfl ?_
  refine A_iload_n 3 d_MD_cell_9 rfl rfl ?_
  refine A_icmp_ne (tgt := 36) d_MD_cell_10 (by decide) (fun c1 => ?_) (fun c1 => ?_)
  · refine A_iload_n 1 d_MD_cell_36 rfl rfl ?_
    refine A_iload_n 3 d_MD_cell_37 rfl rfl ?_
    refine A_icmp_ge (tgt := 77) d_MD_cell_38 (by decide) (fun c2 => ?_) (fun c2 => ?_)
    · refine A_ldcw (z := 1000000) d_MD_cell_77 cst_MD_605 rfl ?_
      refine A_istore (L' := [some (av_R (some 170)), some (av_I a1), some (av_I a2), some (av_I a3), some (av_I a4), some (av_I (81 * a1 + a2)), some (av_I 1000000), none, none, none, none, none]) d_MD_cell_80 (Nat.le_of_ble_eq_true rfl) rfl ?_
      refine A_iload_n 1 d_MD_cell_82 rfl rfl ?_
      refine A_iload_n 3 d_MD_cell_83 rfl rfl ?_
      refine A_icmp_ge (tgt := 102) d_MD_cell_84 (by decide) (fun c3 => ?_) (fun c => False.elim (by omega))
      refine A_ldcw (z := 1000000) d_MD_cell_102 cst_MD_605 rfl ?_
      refine A_istore (L' := [some (av_R (some 170)), some (av_I a1), some (av_I a2), some (av_I a3), some (av_I a4), some (av_I (81 * a1 + a2)), some (av_I 1000000), some (av_I 1000000), none, none, none, none]) d_MD_cell_105 (Nat.le_of_ble_eq_true rfl) rfl ?_
      refine A_iload_n 2 d_MD_cell_107 rfl rfl ?_
      refine A_iload d_MD_cell_108 rfl ?_
      refine A_icmp_ge (tgt := 127) d_MD_cell_110 (by decide) (fun c4 => ?_) (fun c4 => ?_)
      · refine A_ldcw (z := 1000000) d_MD_cell_127 cst_MD_605 rfl ?_
        refine A_istore (L' := [some (av_R (some 170)), some (av_I a1), some (av_I a2), some (av_I a3), some (av_I a4), some (av_I (81 * a1 + a2)), some (av_I 1000000), some (av_I 1000000), some (av_I 1000000), none, none, none]) d_MD_cell_130 (Nat.le_of_ble_eq_true rfl) rfl ?_
        refine A_iload d_MD_cell_132 rfl ?_
        refine A_iload d_MD_cell_134 rfl ?_
        refine A_icmp_ge (tgt := 144) d_MD_cell_136 (by decide) (fun _ => ?_) (fun c => absurd c (by decide))
        refine A_iload d_MD_cell_144 rfl ?_
        refine A_istore (L' := [some (av_R (some 170)), some (av_I a1), some (av_I a2), some (av_I a3), some (av_I a4), some (av_I (81 * a1 + a2)), some (av_I 1000000), some (av_I 1000000), some (av_I 1000000), some (av_I 1000000), none, none]) d_MD_cell_146 (Nat.le_of_ble_eq_true rfl) rfl ?_
        refine A_iload d_MD_cell_148 rfl ?_
        refine A_iload d_MD_cell_150 rfl ?_
        refine A_icmp_ge (tgt := 160) d_MD_cell_152 (by decide) (fun _ => ?_) (fun c => absurd c (by decide))
        refine A_iload d_MD_cell_160 rfl ?_
        refine A_istore (L' := [some (av_R (some 170)), some (av_I a1), some (av_I a2), some (av_I a3), some (av_I a4), some (av_I (81 * a1 + a2)), some (av_I 1000000), some (av_I 1000000), some (av_I 1000000), some (av_I 1000000), none, none]) d_MD_cell_162 (Nat.le_of_ble_eq_true rfl) rfl ?_
        refine A_aload_n 0 d_MD_cell_164 rfl rfl ?_
        refine A_getAv (z := some 239) T_ok d_MD_cell_165 f_MD_220 (mi_s k0.1 sf_170) (mi_r k0.1 rfm_109) ?_
        refine A_iload d_MD_cell_168 rfl ?_
        refine A_pc (pc' := 170) rfl ?_
        refine A_iload d_MD_cell_170 rfl ?_
        refine A_iastorek (KR := kM (pm [] [239, 240]) h) d_MD_cell_172 (mi_s k0.1 sf_239) (by omega) (by omega) (kM_i k0 (by decide) rfl (mr_239 _) (by omega) (by omega)) (fun h8 k9 eh8 => ?_)
        refine A_lconst_0 d_MD_cell_173 ?_
        refine A_lstore (L' := [some (av_R (some 170)), some (av_I a1), some (av_I a2), some (av_I a3), some (av_I a4), some (av_I (81 * a1 + a2)), some (av_I 1000000), some (av_I 1000000), some (av_I 1000000), some (av_I 1000000), some (av_L 0), none]) d_MD_cell_174 (Nat.le_of_ble_eq_true rfl) rfl ?_
        refine A_iload d_MD_cell_176 rfl ?_
        refine A_iload d_MD_cell_178 rfl ?_
        refine A_icmp_ne (tgt := 198) d_MD_cell_180 (by decide) (fun c => absurd c (by decide)) (fun _ => ?_)
        refine A_lload d_MD_cell_183 rfl ?_
        refine A_aload_n 0 d_MD_cell_185 rfl rfl ?_
        refine A_getAv (z := some 240) T_ok d_MD_cell_186 f_MD_223 (mi_s k9.1 sf_170) (mi_r k9.1 rfm_110) ?_
        refine A_iload d_MD_cell_189 rfl ?_
        refine A_bipush d_MD_cell_191 rfl ?_
        refine A_pc (pc' := 193) rfl ?_
        refine A_iaddv (z := (81 * a1 + a2 + 82)) d_MD_cell_193 (w32_to (by omega) (by unfold i32; omega)) ?_
        refine A_laloadf d_MD_cell_194 (mi_s k9.1 sf_240) (by omega) (by omega) (fun x12 ex12 _ _ => ?_)
        refine A_laddv (z := x12) d_MD_cell_195 (w64_to (by omega) (by unfold i64; omega)) ?_
        refine A_lstore (L' := [some (av_R (some 170)), some (av_I a1), some (av_I a2), some (av_I a3), some (av_I a4), some (av_I (81 * a1 + a2)), some (av_I 1000000), some (av_I 1000000), some (av_I 1000000), some (av_I 1000000), some (av_L x12), none]) d_MD_cell_196 (Nat.le_of_ble_eq_true rfl) rfl ?_
        refine A_iload d_MD_cell_198 rfl ?_
        refine A_iload d_MD_cell_200 rfl ?_
        refine A_icmp_ne (tgt := 220) d_MD_cell_202 (by decide) (fun c => absurd c (by decide)) (fun _ => ?_)
        refine A_lload d_MD_cell_205 rfl ?_
        refine A_aload_n 0 d_MD_cell_207 rfl rfl ?_
        refine A_getAv (z := some 240) T_ok d_MD_cell_208 f_MD_223 (mi_s k9.1 sf_170) (mi_r k9.1 rfm_110) ?_
        refine A_iload d_MD_cell_211 rfl ?_
        refine A_bipush d_MD_cell_213 rfl ?_
        refine A_pc (pc' := 215) rfl ?_
        refine A_iaddv (z := (81 * a1 + a2 + 81)) d_MD_cell_215 (w32_to (by omega) (by unfold i32; omega)) ?_
        refine A_laloadf d_MD_cell_216 (mi_s k9.1 sf_240) (by omega) (by omega) (fun x15 ex15 _ _ => ?_)
        refine A_laddw d_MD_cell_217 (fun x16 _ _ _ => ?_)
        refine A_lstore (L' := [some (av_R (some 170)), some (av_I a1), some (av_I a2), some (av_I a3), some (av_I a4), some (av_I (81 * a1 + a2)), some (av_I 1000000), some (av_I 1000000), some (av_I 1000000), some (av_I 1000000), some (av_L x16), none]) d_MD_cell_218 (Nat.le_of_ble_eq_true rfl) rfl ?_
        refine A_iload d_MD_cell_220 rfl ?_
        refine A_iload d_MD_cell_222 rfl ?_
        refine A_icmp_ne (tgt := 241) d_MD_cell_224 (by decide) (fun c => absurd c (by decide)) (fun _ => ?_)
        refine A_lload d_MD_cell_227 rfl ?_
        refine A_aload_n 0 d_MD_cell_229 rfl rfl ?_
        refine A_getAv (z := some 240) T_ok d_MD_cell_230 f_MD_223 (mi_s k9.1 sf_170) (mi_r k9.1 rfm_110) ?_
        refine A_iload d_MD_cell_233 rfl ?_
        refine A_iconst d_MD_cell_235 rfl ?_
        refine A_pc (pc' := 236) rfl ?_
        refine A_iaddv (z := (81 * a1 + a2 + 1)) d_MD_cell_236 (w32_to (by omega) (by unfold i32; omega)) ?_
        refine A_laloadf d_MD_cell_237 (mi_s k9.1 sf_240) (by omega) (by omega) (fun x19 ex19 _ _ => ?_)
        refine A_laddw d_MD_cell_238 (fun x20 _ _ _ => ?_)
        refine A_lstore (L' := [some (av_R (some 170)), some (av_I a1), some (av_I a2), some (av_I a3), some (av_I a4), some (av_I (81 * a1 + a2)), some (av_I 1000000), some (av_I 1000000), some (av_I 1000000), some (av_I 1000000), some (av_L x20), none]) d_MD_cell_239 (Nat.le_of_ble_eq_true rfl) rfl ?_
        refine A_aload_n 0 d_MD_cell_241 rfl rfl ?_
        refine A_getAv (z := some 240) T_ok d_MD_cell_242 f_MD_223 (mi_s k9.1 sf_170) (mi_r k9.1 rfm_110) ?_
        refine A_pc (pc' := 245) rfl ?_
        refine A_iload d_MD_cell_245 rfl ?_
        refine A_lload d_MD_cell_247 rfl ?_
        refine A_ldc2 (z := 1000000007) d_MD_cell_249 cst_MD_606 rfl ?_
        refine A_lremc d_MD_cell_252 (by decide) (fun x22 ex22 _ _ => ?_)
        have bx22 := rem_c ex22 (by decide)
        refine A_lastorek (KR := kM (pm [] [239, 240]) h) d_MD_cell_253 (mi_s k9.1 sf_240) (by omega) (by omega) (kM_l k9 (by decide) rfl (mq_240 _) (by omega) (by omega)) (fun h23 k24 eh23 => ?_)
        exact A_vret d_MD_cell_254 (by decide) rfl ⟨rfl, ⟨⟨fun _ _ => (by have q1 := ((congrFun (congrFun eh23.1 _) _).trans eh8.2.1); omega), fun _ _ _ _ => (by have q1 := ((congrFun (congrFun eh23.1 _) _).trans eh8.2.1); omega), (fun k hk => ((congrFun (congrFun eh23.1 239) k).trans (eh8.1 239 k (fun _ => hk))))⟩, (by have q1 := ((congrFun (congrFun eh23.1 _) _).trans eh8.2.1); omega), (by have q1 := ((congrFun (congrFun eh23.1 _) _).trans eh8.2.1); omega)⟩, k24⟩
      · refine A_iconst d_MD_cell_113 rfl ?_
        refine A_aload_n 0 d_MD_cell_114 rfl rfl ?_
        refine A_getAv (z := some 239) T_ok d_MD_cell_115 f_MD_220 (mi_s k0.1 sf_170) (mi_r k0.1 rfm_109) ?_
        refine A_iload d_MD_cell_118 rfl ?_
        refine A_iconst d_MD_cell_120 rfl ?_
        refine A_pc (pc' := 121) rfl ?_
        refine A_iaddv (z := (81 * a1 + a2 + 1)) d_MD_cell_121 (w32_to (by omega) (by unfold i32; omega)) ?_
        refine A_ialoadf d_MD_cell_122 (mi_s k0.1 sf_239) (by omega) (by omega) (fun x26 ex26 _ _ => ?_)
        have yx26 : 0 ≤ x26 ∧ x26 ≤ 800 := (by omega)
        refine A_iaddv (z := (x26 + 5)) d_MD_cell_123 (w32_to (by omega) (by unfold i32; omega)) ?_
        refine A_goto (tgt := 130) d_MD_cell_124 (by decide) ?_
        refine A_istore (L' := [some (av_R (some 170)), some (av_I a1), some (av_I a2), some (av_I a3), some (av_I a4), some (av_I (81 * a1 + a2)), some (av_I 1000000), some (av_I 1000000), some (av_I (x26 + 5)), none, none, none]) d_MD_cell_130 (Nat.le_of_ble_eq_true rfl) rfl ?_
        refine A_iload d_MD_cell_132 rfl ?_
        refine A_iload d_MD_cell_134 rfl ?_
        refine A_icmp_ge (tgt := 144) d_MD_cell_136 (by decide) (fun _ => ?_) (fun c => absurd c (by decide))
        refine A_iload d_MD_cell_144 rfl ?_
        refine A_istore (L' := [some (av_R (some 170)), some (av_I a1), some (av_I a2), some (av_I a3), some (av_I a4), some (av_I (81 * a1 + a2)), some (av_I 1000000), some (av_I 1000000), some (av_I (x26 + 5)), some (av_I 1000000), none, none]) d_MD_cell_146 (Nat.le_of_ble_eq_true rfl) rfl ?_
        refine A_iload d_MD_cell_148 rfl ?_
        refine A_iload d_MD_cell_150 rfl ?_
        refine A_icmp_ge (tgt := 160) d_MD_cell_152 (by decide) (fun c => False.elim (by omega)) (fun c28 => ?_)
        refine A_iload d_MD_cell_155 rfl ?_
        refine A_goto (tgt := 162) d_MD_cell_157 (by decide) ?_
        refine A_istore (L' := [some (av_R (some 170)), some (av_I a1), some (av_I a2), some (av_I a3), some (av_I a4), some (av_I (81 * a1 + a2)), some (av_I 1000000), some (av_I 1000000), some (av_I (x26 + 5)), some (av_I (x26 + 5)), none, none]) d_MD_cell_162 (Nat.le_of_ble_eq_true rfl) rfl ?_
        refine A_aload_n 0 d_MD_cell_164 rfl rfl ?_
        refine A_getAv (z := some 239) T_ok d_MD_cell_165 f_MD_220 (mi_s k0.1 sf_170) (mi_r k0.1 rfm_109) ?_
        refine A_iload d_MD_cell_168 rfl ?_
        refine A_iload d_MD_cell_170 rfl ?_
        refine A_pc (pc' := 172) rfl ?_
        refine A_iastorek (KR := kM (pm [] [239, 240]) h) d_MD_cell_172 (mi_s k0.1 sf_239) (by omega) (by omega) (kM_i k0 (by decide) rfl (mr_239 _) (by omega) (by omega)) (fun h30 k31 eh30 => ?_)
        refine A_lconst_0 d_MD_cell_173 ?_
        refine A_lstore (L' := [some (av_R (some 170)), some (av_I a1), some (av_I a2), some (av_I a3), some (av_I a4), some (av_I (81 * a1 + a2)), some (av_I 1000000), some (av_I 1000000), some (av_I (x26 + 5)), some (av_I (x26 + 5)), some (av_L 0), none]) d_MD_cell_174 (Nat.le_of_ble_eq_true rfl) rfl ?_
        refine A_iload d_MD_cell_176 rfl ?_
        refine A_iload d_MD_cell_178 rfl ?_
        refine A_icmp_ne (tgt := 198) d_MD_cell_180 (by decide) (fun c32 => ?_) (fun c => False.elim (by omega))
        refine A_iload d_MD_cell_198 rfl ?_
        refine A_iload d_MD_cell_200 rfl ?_
        refine A_icmp_ne (tgt := 220) d_MD_cell_202 (by decide) (fun c33 => ?_) (fun c => False.elim (by omega))
        refine A_iload d_MD_cell_220 rfl ?_
        refine A_iload d_MD_cell_222 rfl ?_
        refine A_icmp_ne (tgt := 241) d_MD_cell_224 (by decide) (fun c => False.elim (by omega)) (fun _ => ?_)
        refine A_lload d_MD_cell_227 rfl ?_
        refine A_aload_n 0 d_MD_cell_229 rfl rfl ?_
        refine A_getAv (z := some 240) T_ok d_MD_cell_230 f_MD_223 (mi_s k31.1 sf_170) (mi_r k31.1 rfm_110) ?_
        refine A_iload d_MD_cell_233 rfl ?_
        refine A_iconst d_MD_cell_235 rfl ?_
        refine A_pc (pc' := 236) rfl ?_
        refine A_iaddv (z := (81 * a1 + a2 + 1)) d_MD_cell_236 (w32_to (by omega) (by unfold i32; omega)) ?_
        refine A_laloadf d_MD_cell_237 (mi_s k31.1 sf_240) (by omega) (by omega) (fun x36 ex36 _ _ => ?_)
        refine A_laddv (z := x36) d_MD_cell_238 (w64_to (by omega) (by unfold i64; omega)) ?_
        refine A_lstore (L' := [some (av_R (some 170)), some (av_I a1), some (av_I a2), some (av_I a3), some (av_I a4), some (av_I (81 * a1 + a2)), some (av_I 1000000), some (av_I 1000000), some (av_I (x26 + 5)), some (av_I (x26 + 5)), some (av_L x36), none]) d_MD_cell_239 (Nat.le_of_ble_eq_true rfl) rfl ?_
        refine A_aload_n 0 d_MD_cell_241 rfl rfl ?_
        refine A_getAv (z := some 240) T_ok d_MD_cell_242 f_MD_223 (mi_s k31.1 sf_170) (mi_r k31.1 rfm_110) ?_
        refine A_pc (pc' := 245) rfl ?_
        refine A_iload d_MD_cell_245 rfl ?_
        refine A_lload d_MD_cell_247 rfl ?_
        refine A_ldc2 (z := 1000000007) d_MD_cell_249 cst_MD_606 rfl ?_
        refine A_lremc d_MD_cell_252 (by decide) (fun x38 ex38 _ _ => ?_)
        have bx38 := rem_c ex38 (by decide)
        refine A_lastorek (KR := kM (pm [] [239, 240]) h) d_MD_cell_253 (mi_s k31.1 sf_240) (by omega) (by omega) (kM_l k31 (by decide) rfl (mq_240 _) (by omega) (by omega)) (fun h39 k40 eh39 => ?_)
        exact A_vret d_MD_cell_254 (by decide) rfl ⟨rfl, ⟨⟨fun _ _ => (by have q1 := ((congrFun (congrFun eh39.1 _) _).trans eh30.2.1); omega), fun _ _ _ _ => (by have q1 := ((congrFun (congrFun eh39.1 _) _).trans eh30.2.1); omega), (fun k hk => ((congrFun (congrFun eh39.1 239) k).trans (eh30.1 239 k (fun _ => hk))))⟩, (by have q1 := ((congrFun (congrFun eh39.1 _) _).trans eh30.2.1); omega), (by have q1 := ((congrFun (congrFun eh39.1 _) _).trans eh30.2.1); omega)⟩, k40⟩
    · refine A_iload_n 2 d_MD_cell_41 rfl rfl ?_
      refine A_iload d_MD_cell_42 rfl ?_
      refine A_icmp_ge (tgt := 77) d_MD_cell_44 (by decide) (fun c41 => ?_) (fun c41 => ?_)
      · refine A_ldcw (z := 1000000) d_MD_cell_77 cst_MD_605 rfl ?_
        refine A_istore (L' := [some (av_R (some 170)), some (av_I a1), some (av_I a2), some (av_I a3), some (av_I a4), some (av_I (81 * a1 + a2)), some (av_I 1000000), none, none, none, none, none]) d_MD_cell_80 (Nat.le_of_ble_eq_true rfl) rfl ?_
        refine A_iload_n 1 d_MD_cell_82 rfl rfl ?_
        refine A_iload_n 3 d_MD_cell_83 rfl rfl ?_
        refine A_icmp_ge (tgt := 102) d_MD_cell_84 (by decide) (fun c => False.elim (by omega)) (fun c42 => ?_)
        refine A_iconst d_MD_cell_87 rfl ?_
        refine A_aload_n 0 d_MD_cell_88 rfl rfl ?_
        refine A_getAv (z := some 239) T_ok d_MD_cell_89 f_MD_220 (mi_s k0.1 sf_170) (mi_r k0.1 rfm_109) ?_
        refine A_iload d_MD_cell_92 rfl ?_
        refine A_bipush d_MD_cell_94 rfl ?_
        refine A_pc (pc' := 96) rfl ?_
        refine A_iaddv (z := (81 * a1 + a2 + 81)) d_MD_cell_96 (w32_to (by omega) (by unfold i32; omega)) ?_
        refine A_ialoadf d_MD_cell_97 (mi_s k0.1 sf_239) (by omega) (by omega) (fun x44 ex44 _ _ => ?_)
        have yx44 : 0 ≤ x44 ∧ x44 ≤ 800 := (by omega)
        refine A_iaddv (z := (x44 + 5)) d_MD_cell_98 (w32_to (by omega) (by unfold i32; omega)) ?_
        refine A_goto (tgt := 105) d_MD_cell_99 (by decide) ?_
        refine A_istore (L' := [some (av_R (some 170)), some (av_I a1), some (av_I a2), some (av_I a3), some (av_I a4), some (av_I (81 * a1 + a2)), some (av_I 1000000), some (av_I (x44 + 5)), none, none, none, none]) d_MD_cell_105 (Nat.le_of_ble_eq_true rfl) rfl ?_
        refine A_iload_n 2 d_MD_cell_107 rfl rfl ?_
        refine A_iload d_MD_cell_108 rfl ?_
        refine A_icmp_ge (tgt := 127) d_MD_cell_110 (by decide) (fun c45 => ?_) (fun c => False.elim (by omega))
        refine A_ldcw (z := 1000000) d_MD_cell_127 cst_MD_605 rfl ?_
        refine A_istore (L' := [some (av_R (some 170)), some (av_I a1), some (av_I a2), some (av_I a3), some (av_I a4), some (av_I (81 * a1 + a2)), some (av_I 1000000), some (av_I (x44 + 5)), some (av_I 1000000), none, none, none]) d_MD_cell_130 (Nat.le_of_ble_eq_true rfl) rfl ?_
        refine A_iload d_MD_cell_132 rfl ?_
        refine A_iload d_MD_cell_134 rfl ?_
        refine A_icmp_ge (tgt := 144) d_MD_cell_136 (by decide) (fun c46 => ?_) (fun c => False.elim (by omega))
        refine A_iload d_MD_cell_144 rfl ?_
        refine A_istore (L' := [some (av_R (some 170)), some (av_I a1), some (av_I a2), some (av_I a3), some (av_I a4), some (av_I (81 * a1 + a2)), some (av_I 1000000), some (av_I (x44 + 5)), some (av_I 1000000), some (av_I (x44 + 5)), none, none]) d_MD_cell_146 (Nat.le_of_ble_eq_true rfl) rfl ?_
        refine A_iload d_MD_cell_148 rfl ?_
        refine A_iload d_MD_cell_150 rfl ?_
        refine A_icmp_ge (tgt := 160) d_MD_cell_152 (by decide) (fun c47 => ?_) (fun c => False.elim (by omega))
        refine A_iload d_MD_cell_160 rfl ?_
        refine A_istore (L' := [some (av_R (some 170)), some (av_I a1), some (av_I a2), some (av_I a3), some (av_I a4), some (av_I (81 * a1 + a2)), some (av_I 1000000), some (av_I (x44 + 5)), some (av_I 1000000), some (av_I (x44 + 5)), none, none]) d_MD_cell_162 (Nat.le_of_ble_eq_true rfl) rfl ?_
        refine A_aload_n 0 d_MD_cell_164 rfl rfl ?_
        refine A_getAv (z := some 239) T_ok d_MD_cell_165 f_MD_220 (mi_s k0.1 sf_170) (mi_r k0.1 rfm_109) ?_
        refine A_iload d_MD_cell_168 rfl ?_
        refine A_pc (pc' := 170) rfl ?_
        refine A_iload d_MD_cell_170 rfl ?_
        refine A_iastorek (KR := kM (pm [] [239, 240]) h) d_MD_cell_172 (mi_s k0.1 sf_239) (by omega) (by omega) (kM_i k0 (by decide) rfl (mr_239 _) (by omega) (by omega)) (fun h49 k50 eh49 => ?_)
        refine A_lconst_0 d_MD_cell_173 ?_
        refine A_lstore (L' := [some (av_R (some 170)), some (av_I a1), some (av_I a2), some (av_I a3), some (av_I a4), some (av_I (81 * a1 + a2)), some (av_I 1000000), some (av_I (x44 + 5)), some (av_I 1000000), some (av_I (x44 + 5)), some (av_L 0), none]) d_MD_cell_174 (Nat.le_of_ble_eq_true rfl) rfl ?_
        refine A_iload d_MD_cell_176 rfl ?_
        refine A_iload d_MD_cell_178 rfl ?_
        refine A_icmp_ne (tgt := 198) d_MD_cell_180 (by decide) (fun c51 => ?_) (fun c => False.elim (by omega))
        refine A_iload d_MD_cell_198 rfl ?_
        refine A_iload d_MD_cell_200 rfl ?_
        refine A_icmp_ne (tgt := 220) d_MD_cell_202 (by decide) (fun c => False.elim (by omega)) (fun _ => ?_)
        refine A_lload d_MD_cell_205 rfl ?_
        refine A_aload_n 0 d_MD_cell_207 rfl rfl ?_
        refine A_getAv (z := some 240) T_ok d_MD_cell_208 f_MD_223 (mi_s k50.1 sf_170) (mi_r k50.1 rfm_110) ?_
        refine A_iload d_MD_cell_211 rfl ?_
        refine A_bipush d_MD_cell_213 rfl ?_
        refine A_pc (pc' := 215) rfl ?_
        refine A_iaddv (z := (81 * a1 + a2 + 81)) d_MD_cell_215 (w32_to (by omega) (by unfold i32; omega)) ?_
        refine A_laloadf d_MD_cell_216 (mi_s k50.1 sf_240) (by omega) (by omega) (fun x54 ex54 _ _ => ?_)
        refine A_laddv (z := x54) d_MD_cell_217 (w64_to (by omega) (by unfold i64; omega)) ?_
        refine A_lstore (L' := [some (av_R (some 170)), some (av_I a1), some (av_I a2), some (av_I a3), some (av_I a4), some (av_I (81 * a1 + a2)), some (av_I 1000000), some (av_I (x44 + 5)), some (av_I 1000000), some (av_I (x44 + 5)), some (av_L x54), none]) d_MD_cell_218 (Nat.le_of_ble_eq_true rfl) rfl ?_
        refine A_iload d_MD_cell_220 rfl ?_
        refine A_iload d_MD_cell_222 rfl ?_
        refine A_icmp_ne (tgt := 241) d_MD_cell_224 (by decide) (fun c55 => ?_) (fun c => False.elim (by omega))
        refine A_aload_n 0 d_MD_cell_241 rfl rfl ?_
        refine A_getAv (z := some 240) T_ok d_MD_cell_242 f_MD_223 (mi_s k50.1 sf_170) (mi_r k50.1 rfm_110) ?_
        refine A_iload d_MD_cell_245 rfl ?_
        refine A_lload d_MD_cell_247 rfl ?_
        refine A_ldc2 (z := 1000000007) d_MD_cell_249 cst_MD_606 rfl ?_
        refine A_pc (pc' := 252) rfl ?_
        refine A_lremc d_MD_cell_252 (by decide) (fun x57 ex57 _ _ => ?_)
        have bx57 := rem_c ex57 (by decide)
        refine A_lastorek (KR := kM (pm [] [239, 240]) h) d_MD_cell_253 (mi_s k50.1 sf_240) (by omega) (by omega) (kM_l k50 (by decide) rfl (mq_240 _) (by omega) (by omega)) (fun h58 k59 eh58 => ?_)
        exact A_vret d_MD_cell_254 (by decide) rfl ⟨rfl, ⟨⟨fun _ _ => (by have q1 := ((congrFun (congrFun eh58.1 _) _).trans eh49.2.1); omega), fun _ _ _ _ => (by have q1 := ((congrFun (congrFun eh58.1 _) _).trans eh49.2.1); omega), (fun k hk => ((congrFun (congrFun eh58.1 239) k).trans (eh49.1 239 k (fun _ => hk))))⟩, (by have q1 := ((congrFun (congrFun eh58.1 _) _).trans eh49.2.1); omega), (by have q1 := ((congrFun (congrFun eh58.1 _) _).trans eh49.2.1); omega)⟩, k59⟩
      · refine A_aload_n 0 d_MD_cell_47 rfl rfl ?_
        refine A_aload_n 0 d_MD_cell_48 rfl rfl ?_
        refine A_getAv (z := some 237) T_ok d_MD_cell_49 f_MD_214 (mi_s k0.1 sf_170) (mi_r k0.1 rfm_107) ?_
        refine A_iload_n 1 d_MD_cell_52 rfl rfl ?_
        refine A_ialoadn (lo := 0) (hi := 1199) d_MD_cell_53 (mi_s k0.1 sf_237) (by omega) (by omega) (mi_g k0.1 (by decide) (mr_237 _)) (fun x61 ex61 _ _ => ?_)
        refine A_pc (pc' := 54) rfl ?_
        refine A_aload_n 0 d_MD_cell_54 rfl rfl ?_
        refine A_getAv (z := some 238) T_ok d_MD_cell_55 f_MD_217 (mi_s k0.1 sf_170) (mi_r k0.1 rfm_108) ?_
        refine A_iload_n 2 d_MD_cell_58 rfl rfl ?_
        refine A_ialoadn (lo := 0) (hi := 1199) d_MD_cell_59 (mi_s k0.1 sf_238) (by omega) (by omega) (mi_g k0.1 (by decide) (mr_238 _)) (fun x63 ex63 _ _ => ?_)
        refine A_callV2 m_MD_pairCost T_ok d_MD_cell_60 l_MD_602 k_MD_pairCost (mi_s k0.1 sf_170) rfl (by decide +kernel) (by decide) (Nat.le_of_ble_eq_true rfl) (s_MD_pairCost k0.1 (by omega) (by omega) (by omega) (by omega)) (fun r h64 hq => ?_)
        obtain ⟨x66, rfl, ⟨_, _⟩, rfl⟩ := hq
        refine A_aload_n 0 d_MD_cell_63 rfl rfl ?_
        refine A_getAv (z := some 239) T_ok d_MD_cell_64 f_MD_220 (mi_s k0.1 sf_170) (mi_r k0.1 rfm_109) ?_
        refine A_iload d_MD_cell_67 rfl ?_
        refine A_bipush d_MD_cell_69 rfl ?_
        refine A_iaddv (z := (81 * a1 + a2 + 82)) d_MD_cell_71 (w32_to (by omega) (by unfold i32; omega)) ?_
        refine A_pc (pc' := 72) rfl ?_
        refine A_ialoadf d_MD_cell_72 (mi_s k0.1 sf_239) (by omega) (by omega) (fun x68 ex68 _ _ => ?_)
        have yx68 : 0 ≤ x68 ∧ x68 ≤ 800 := (by omega)
        refine A_iaddv (z := (x66 + x68)) d_MD_cell_73 (w32_to (by omega) (by unfold i32; omega)) ?_
        refine A_goto (tgt := 80) d_MD_cell_74 (by decide) ?_
        refine A_istore (L' := [some (av_R (some 170)), some (av_I a1), some (av_I a2), some (av_I a3), some (av_I a4), some (av_I (81 * a1 + a2)), some (av_I (x66 + x68)), none, none, none, none, none]) d_MD_cell_80 (Nat.le_of_ble_eq_true rfl) rfl ?_
        refine A_iload_n 1 d_MD_cell_82 rfl rfl ?_
        refine A_iload_n 3 d_MD_cell_83 rfl rfl ?_
        refine A_icmp_ge (tgt := 102) d_MD_cell_84 (by decide) (fun c => False.elim (by omega)) (fun c69 => ?_)
        refine A_iconst d_MD_cell_87 rfl ?_
        refine A_aload_n 0 d_MD_cell_88 rfl rfl ?_
        refine A_getAv (z := some 239) T_ok d_MD_cell_89 f_MD_220 (mi_s k0.1 sf_170) (mi_r k0.1 rfm_109) ?_
        refine A_iload d_MD_cell_92 rfl ?_
        refine A_bipush d_MD_cell_94 rfl ?_
        refine A_pc (pc' := 96) rfl ?_
        refine A_iaddv (z := (81 * a1 + a2 + 81)) d_MD_cell_96 (w32_to (by omega) (by unfold i32; omega)) ?_
        refine A_ialoadf d_MD_cell_97 (mi_s k0.1 sf_239) (by omega) (by omega) (fun x71 ex71 _ _ => ?_)
        have yx71 : 0 ≤ x71 ∧ x71 ≤ 800 := (by omega)
        refine A_iaddv (z := (x71 + 5)) d_MD_cell_98 (w32_to (by omega) (by unfold i32; omega)) ?_
        refine A_goto (tgt := 105) d_MD_cell_99 (by decide) ?_
        refine A_istore (L' := [some (av_R (some 170)), some (av_I a1), some (av_I a2), some (av_I a3), some (av_I a4), some (av_I (81 * a1 + a2)), some (av_I (x66 + x68)), some (av_I (x71 + 5)), none, none, none, none]) d_MD_cell_105 (Nat.le_of_ble_eq_true rfl) rfl ?_
        refine A_iload_n 2 d_MD_cell_107 rfl rfl ?_
        refine A_iload d_MD_cell_108 rfl ?_
        refine A_icmp_ge (tgt := 127) d_MD_cell_110 (by decide) (fun c => False.elim (by omega)) (fun c72 => ?_)
        refine A_iconst d_MD_cell_113 rfl ?_
        refine A_aload_n 0 d_MD_cell_114 rfl rfl ?_
        refine A_getAv (z := some 239) T_ok d_MD_cell_115 f_MD_220 (mi_s k0.1 sf_170) (mi_r k0.1 rfm_109) ?_
        refine A_iload d_MD_cell_118 rfl ?_
        refine A_iconst d_MD_cell_120 rfl ?_
        refine A_pc (pc' := 121) rfl ?_
        refine A_iaddv (z := (81 * a1 + a2 + 1)) d_MD_cell_121 (w32_to (by omega) (by unfold i32; omega)) ?_
        refine A_ialoadf d_MD_cell_122 (mi_s k0.1 sf_239) (by omega) (by omega) (fun x74 ex74 _ _ => ?_)
        have yx74 : 0 ≤ x74 ∧ x74 ≤ 800 := (by omega)
        refine A_iaddv (z := (x74 + 5)) d_MD_cell_123 (w32_to (by omega) (by unfold i32; omega)) ?_
        refine A_goto (tgt := 130) d_MD_cell_124 (by decide) ?_
        refine A_istore (L' := [some (av_R (some 170)), some (av_I a1), some (av_I a2), some (av_I a3), some (av_I a4), some (av_I (81 * a1 + a2)), some (av_I (x66 + x68)), some (av_I (x71 + 5)), some (av_I (x74 + 5)), none, none, none]) d_MD_cell_130 (Nat.le_of_ble_eq_true rfl) rfl ?_
        refine A_iload d_MD_cell_132 rfl ?_
        refine A_iload d_MD_cell_134 rfl ?_
        refine A_icmp_ge (tgt := 144) d_MD_cell_136 (by decide) (fun c75 => ?_) (fun c75 => ?_)
        · refine A_iload d_MD_cell_144 rfl ?_
          refine A_istore (L' := [some (av_R (some 170)), some (av_I a1), some (av_I a2), some (av_I a3), some (av_I a4), some (av_I (81 * a1 + a2)), some (av_I (x66 + x68)), some (av_I (x71 + 5)), some (av_I (x74 + 5)), some (av_I (x71 + 5)), none, none]) d_MD_cell_146 (Nat.le_of_ble_eq_true rfl) rfl ?_
          refine A_iload d_MD_cell_148 rfl ?_
          refine A_iload d_MD_cell_150 rfl ?_
          refine A_icmp_ge (tgt := 160) d_MD_cell_152 (by decide) (fun c76 => ?_) (fun c76 => ?_)
          · refine A_iload d_MD_cell_160 rfl ?_
            refine A_istore (L' := [some (av_R (some 170)), some (av_I a1), some (av_I a2), some (av_I a3), some (av_I a4), some (av_I (81 * a1 + a2)), some (av_I (x66 + x68)), some (av_I (x71 + 5)), some (av_I (x74 + 5)), some (av_I (x71 + 5)), none, none]) d_MD_cell_162 (Nat.le_of_ble_eq_true rfl) rfl ?_
            refine A_aload_n 0 d_MD_cell_164 rfl rfl ?_
            refine A_getAv (z := some 239) T_ok d_MD_cell_165 f_MD_220 (mi_s k0.1 sf_170) (mi_r k0.1 rfm_109) ?_
            refine A_iload d_MD_cell_168 rfl ?_
            refine A_pc (pc' := 170) rfl ?_
            refine A_iload d_MD_cell_170 rfl ?_
            refine A_iastorek (KR := kM (pm [] [239, 240]) h) d_MD_cell_172 (mi_s k0.1 sf_239) (by omega) (by omega) (kM_i k0 (by decide) rfl (mr_239 _) (by omega) (by omega)) (fun h78 k79 eh78 => ?_)
            refine A_lconst_0 d_MD_cell_173 ?_
            refine A_lstore (L' := [some (av_R (some 170)), some (av_I a1), some (av_I a2), some (av_I a3), some (av_I a4), some (av_I (81 * a1 + a2)), some (av_I (x66 + x68)), some (av_I (x71 + 5)), some (av_I (x74 + 5)), some (av_I (x71 + 5)), some (av_L 0), none]) d_MD_cell_174 (Nat.le_of_ble_eq_true rfl) rfl ?_
            refine A_iload d_MD_cell_176 rfl ?_
            refine A_iload d_MD_cell_178 rfl ?_
            have jp198 : ∀ (j80 : Int) , (-9223372036854775808) ≤ j80 → j80 ≤ 9223372036854775807 → aw G (rm_R 2 0 0) m_MD_cell 0 0 198 [some (av_R (some 170)), some (av_I a1), some (av_I a2), some (av_I a3), some (av_I a4), some (av_I (81 * a1 + a2)), some (av_I (x66 + x68)), some (av_I (x71 + 5)), some (av_I (x74 + 5)), some (av_I (x71 + 5)), some (av_L j80), none] [] h78 (fun r h' => r = none ∧ (CX h h' a1 a2 a3 a4 ∧ 0 ≤ h'.2.1 239 (81 * a1 + a2).toNat ∧ h'.2.1 239 (81 * a1 + a2).toNat ≤ 5 * ((a3 - a1) + (a4 - a2))) ∧ kM (pm [] [239, 240]) h h') := by
              intro j80  _ _ 
              refine A_iload d_MD_cell_198 rfl ?_
              refine A_iload d_MD_cell_200 rfl ?_
              refine A_icmp_ne (tgt := 220) d_MD_cell_202 (by decide) (fun c => False.elim (by omega)) (fun _ => ?_)
              refine A_lload d_MD_cell_205 rfl ?_
              refine A_aload_n 0 d_MD_cell_207 rfl rfl ?_
              refine A_getAv (z := some 240) T_ok d_MD_cell_208 f_MD_223 (mi_s k79.1 sf_170) (mi_r k79.1 rfm_110) ?_
              refine A_iload d_MD_cell_211 rfl ?_
              refine A_bipush d_MD_cell_213 rfl ?_
              refine A_pc (pc' := 215) rfl ?_
              refine A_iaddv (z := (81 * a1 + a2 + 81)) d_MD_cell_215 (w32_to (by omega) (by unfold i32; omega)) ?_
              refine A_laloadf d_MD_cell_216 (mi_s k79.1 sf_240) (by omega) (by omega) (fun x83 ex83 _ _ => ?_)
              refine A_laddw d_MD_cell_217 (fun x84 _ _ _ => ?_)
              refine A_lstore (L' := [some (av_R (some 170)), some (av_I a1), some (av_I a2), some (av_I a3), some (av_I a4), some (av_I (81 * a1 + a2)), some (av_I (x66 + x68)), some (av_I (x71 + 5)), some (av_I (x74 + 5)), some (av_I (x71 + 5)), some (av_L x84), none]) d_MD_cell_218 (Nat.le_of_ble_eq_true rfl) rfl ?_
              refine A_iload d_MD_cell_220 rfl ?_
              refine A_iload d_MD_cell_222 rfl ?_
              have jp241 : ∀ (j85 : Int) , (-9223372036854775808) ≤ j85 → j85 ≤ 9223372036854775807 → aw G (rm_R 2 0 0) m_MD_cell 0 0 241 [some (av_R (some 170)), some (av_I a1), some (av_I a2), some (av_I a3), some (av_I a4), some (av_I (81 * a1 + a2)), some (av_I (x66 + x68)), some (av_I (x71 + 5)), some (av_I (x74 + 5)), some (av_I (x71 + 5)), some (av_L j85), none] [] h78 (fun r h' => r = none ∧ (CX h h' a1 a2 a3 a4 ∧ 0 ≤ h'.2.1 239 (81 * a1 + a2).toNat ∧ h'.2.1 239 (81 * a1 + a2).toNat ≤ 5 * ((a3 - a1) + (a4 - a2))) ∧ kM (pm [] [239, 240]) h h') := by
                intro j85  _ _ 
                refine A_aload_n 0 d_MD_cell_241 rfl rfl ?_
                refine A_getAv (z := some 240) T_ok d_MD_cell_242 f_MD_223 (mi_s k79.1 sf_170) (mi_r k79.1 rfm_110) ?_
                refine A_iload d_MD_cell_245 rfl ?_
                refine A_lload d_MD_cell_247 rfl ?_
                refine A_ldc2 (z := 1000000007) d_MD_cell_249 cst_MD_606 rfl ?_
                refine A_pc (pc' := 252) rfl ?_
                refine A_lremc d_MD_cell_252 (by decide) (fun x87 ex87 _ _ => ?_)
                have bx87 := rem_c ex87 (by decide)
                refine A_lastorek (KR := kM (pm [] [239, 240]) h) d_MD_cell_253 (mi_s k79.1 sf_240) (by omega) (by omega) (kM_l k79 (by decide) rfl (mq_240 _) (by omega) (by omega)) (fun h88 k89 eh88 => ?_)
                exact A_vret d_MD_cell_254 (by decide) rfl ⟨rfl, ⟨⟨fun _ _ => (by have q1 := ((congrFun (congrFun eh88.1 _) _).trans eh78.2.1); omega), fun _ _ _ _ => (by have q1 := ((congrFun (congrFun eh88.1 _) _).trans eh78.2.1); omega), (fun k hk => ((congrFun (congrFun eh88.1 239) k).trans (eh78.1 239 k (fun _ => hk))))⟩, (by have q1 := ((congrFun (congrFun eh88.1 _) _).trans eh78.2.1); omega), (by have q1 := ((congrFun (congrFun eh88.1 _) _).trans eh78.2.1); omega)⟩, k89⟩
              refine A_icmp_ne (tgt := 241) d_MD_cell_224 (by decide) (fun c90 => ?_) (fun c90 => ?_)
              · refine A_pc (pc' := 241) rfl ?_
                exact jp241 x84 (by omega) (by omega)
              · refine A_lload d_MD_cell_227 rfl ?_
                refine A_aload_n 0 d_MD_cell_229 rfl rfl ?_
                refine A_getAv (z := some 240) T_ok d_MD_cell_230 f_MD_223 (mi_s k79.1 sf_170) (mi_r k79.1 rfm_110) ?_
                refine A_iload d_MD_cell_233 rfl ?_
                refine A_iconst d_MD_cell_235 rfl ?_
                refine A_pc (pc' := 236) rfl ?_
                refine A_iaddv (z := (81 * a1 + a2 + 1)) d_MD_cell_236 (w32_to (by omega) (by unfold i32; omega)) ?_
                refine A_laloadf d_MD_cell_237 (mi_s k79.1 sf_240) (by omega) (by omega) (fun x92 ex92 _ _ => ?_)
                refine A_laddw d_MD_cell_238 (fun x93 _ _ _ => ?_)
                refine A_lstore (L' := [some (av_R (some 170)), some (av_I a1), some (av_I a2), some (av_I a3), some (av_I a4), some (av_I (81 * a1 + a2)), some (av_I (x66 + x68)), some (av_I (x71 + 5)), some (av_I (x74 + 5)), some (av_I (x71 + 5)), some (av_L x93), none]) d_MD_cell_239 (Nat.le_of_ble_eq_true rfl) rfl ?_
                refine A_pc (pc' := 241) rfl ?_
                exact jp241 x93 (by omega) (by omega)
            refine A_icmp_ne (tgt := 198) d_MD_cell_180 (by decide) (fun c94 => ?_) (fun c94 => ?_)
            · refine A_pc (pc' := 198) rfl ?_
              exact jp198 0 (by omega) (by omega)
            · refine A_lload d_MD_cell_183 rfl ?_
              refine A_aload_n 0 d_MD_cell_185 rfl rfl ?_
              refine A_getAv (z := some 240) T_ok d_MD_cell_186 f_MD_223 (mi_s k79.1 sf_170) (mi_r k79.1 rfm_110) ?_
              refine A_iload d_MD_cell_189 rfl ?_
              refine A_bipush d_MD_cell_191 rfl ?_
              refine A_pc (pc' := 193) rfl ?_
              refine A_iaddv (z := (81 * a1 + a2 + 82)) d_MD_cell_193 (w32_to (by omega) (by unfold i32; omega)) ?_
              refine A_laloadf d_MD_cell_194 (mi_s k79.1 sf_240) (by omega) (by omega) (fun x96 ex96 _ _ => ?_)
              refine A_laddv (z := x96) d_MD_cell_195 (w64_to (by omega) (by unfold i64; omega)) ?_
              refine A_lstore (L' := [some (av_R (some 170)), some (av_I a1), some (av_I a2), some (av_I a3), some (av_I a4), some (av_I (81 * a1 + a2)), some (av_I (x66 + x68)), some (av_I (x71 + 5)), some (av_I (x74 + 5)), some (av_I (x71 + 5)), some (av_L x96), none]) d_MD_cell_196 (Nat.le_of_ble_eq_true rfl) rfl ?_
              refine A_pc (pc' := 198) rfl ?_
              exact jp198 x96 (by omega) (by omega)
          · refine A_iload d_MD_cell_155 rfl ?_
            refine A_goto (tgt := 162) d_MD_cell_157 (by decide) ?_
            refine A_istore (L' := [some (av_R (some 170)), some (av_I a1), some (av_I a2), some (av_I a3), some (av_I a4), some (av_I (81 * a1 + a2)), some (av_I (x66 + x68)), some (av_I (x71 + 5)), some (av_I (x74 + 5)), some (av_I (x74 + 5)), none, none]) d_MD_cell_162 (Nat.le_of_ble_eq_true rfl) rfl ?_
            refine A_aload_n 0 d_MD_cell_164 rfl rfl ?_
            refine A_getAv (z := some 239) T_ok d_MD_cell_165 f_MD_220 (mi_s k0.1 sf_170) (mi_r k0.1 rfm_109) ?_
            refine A_iload d_MD_cell_168 rfl ?_
            refine A_iload d_MD_cell_170 rfl ?_
            refine A_pc (pc' := 172) rfl ?_
            refine A_iastorek (KR := kM (pm [] [239, 240]) h) d_MD_cell_172 (mi_s k0.1 sf_239) (by omega) (by omega) (kM_i k0 (by decide) rfl (mr_239 _) (by omega) (by omega)) (fun h98 k99 eh98 => ?_)
            refine A_lconst_0 d_MD_cell_173 ?_
            refine A_lstore (L' := [some (av_R (some 170)), some (av_I a1), some (av_I a2), some (av_I a3), some (av_I a4), some (av_I (81 * a1 + a2)), some (av_I (x66 + x68)), some (av_I (x71 + 5)), some (av_I (x74 + 5)), some (av_I (x74 + 5)), some (av_L 0), none]) d_MD_cell_174 (Nat.le_of_ble_eq_true rfl) rfl ?_
            refine A_iload d_MD_cell_176 rfl ?_
            refine A_iload d_MD_cell_178 rfl ?_
            refine A_icmp_ne (tgt := 198) d_MD_cell_180 (by decide) (fun c100 => ?_) (fun c => False.elim (by omega))
            refine A_iload d_MD_cell_198 rfl ?_
            refine A_iload d_MD_cell_200 rfl ?_
            refine A_icmp_ne (tgt := 220) d_MD_cell_202 (by decide) (fun c101 => ?_) (fun c => False.elim (by omega))
            refine A_iload d_MD_cell_220 rfl ?_
            refine A_iload d_MD_cell_222 rfl ?_
            refine A_icmp_ne (tgt := 241) d_MD_cell_224 (by decide) (fun c => False.elim (by omega)) (fun _ => ?_)
            refine A_lload d_MD_cell_227 rfl ?_
            refine A_aload_n 0 d_MD_cell_229 rfl rfl ?_
            refine A_getAv (z := some 240) T_ok d_MD_cell_230 f_MD_223 (mi_s k99.1 sf_170) (mi_r k99.1 rfm_110) ?_
            refine A_iload d_MD_cell_233 rfl ?_
            refine A_iconst d_MD_cell_235 rfl ?_
            refine A_pc (pc' := 236) rfl ?_
            refine A_iaddv (z := (81 * a1 + a2 + 1)) d_MD_cell_236 (w32_to (by omega) (by unfold i32; omega)) ?_
            refine A_laloadf d_MD_cell_237 (mi_s k99.1 sf_240) (by omega) (by omega) (fun x104 ex104 _ _ => ?_)
            refine A_laddv (z := x104) d_MD_cell_238 (w64_to (by omega) (by unfold i64; omega)) ?_
            refine A_lstore (L' := [some (av_R (some 170)), some (av_I a1), some (av_I a2), some (av_I a3), some (av_I a4), some (av_I (81 * a1 + a2)), some (av_I (x66 + x68)), some (av_I (x71 + 5)), some (av_I (x74 + 5)), some (av_I (x74 + 5)), some (av_L x104), none]) d_MD_cell_239 (Nat.le_of_ble_eq_true rfl) rfl ?_
            refine A_aload_n 0 d_MD_cell_241 rfl rfl ?_
            refine A_getAv (z := some 240) T_ok d_MD_cell_242 f_MD_223 (mi_s k99.1 sf_170) (mi_r k99.1 rfm_110) ?_
            refine A_pc (pc' := 245) rfl ?_
            refine A_iload d_MD_cell_245 rfl ?_
            refine A_lload d_MD_cell_247 rfl ?_
            refine A_ldc2 (z := 1000000007) d_MD_cell_249 cst_MD_606 rfl ?_
            refine A_lremc d_MD_cell_252 (by decide) (fun x106 ex106 _ _ => ?_)
            have bx106 := rem_c ex106 (by decide)
            refine A_lastorek (KR := kM (pm [] [239, 240]) h) d_MD_cell_253 (mi_s k99.1 sf_240) (by omega) (by omega) (kM_l k99 (by decide) rfl (mq_240 _) (by omega) (by omega)) (fun h107 k108 eh107 => ?_)
            exact A_vret d_MD_cell_254 (by decide) rfl ⟨rfl, ⟨⟨fun _ _ => (by have q1 := ((congrFun (congrFun eh107.1 _) _).trans eh98.2.1); omega), fun _ _ _ _ => (by have q1 := ((congrFun (congrFun eh107.1 _) _).trans eh98.2.1); omega), (fun k hk => ((congrFun (congrFun eh107.1 239) k).trans (eh98.1 239 k (fun _ => hk))))⟩, (by have q1 := ((congrFun (congrFun eh107.1 _) _).trans eh98.2.1); omega), (by have q1 := ((congrFun (congrFun eh107.1 _) _).trans eh98.2.1); omega)⟩, k108⟩
        · refine A_iload d_MD_cell_139 rfl ?_
          refine A_goto (tgt := 146) d_MD_cell_141 (by decide) ?_
          refine A_istore (L' := [some (av_R (some 170)), some (av_I a1), some (av_I a2), some (av_I a3), some (av_I a4), some (av_I (81 * a1 + a2)), some (av_I (x66 + x68)), some (av_I (x71 + 5)), some (av_I (x74 + 5)), some (av_I (x66 + x68)), none, none]) d_MD_cell_146 (Nat.le_of_ble_eq_true rfl) rfl ?_
          refine A_iload d_MD_cell_148 rfl ?_
          refine A_iload d_MD_cell_150 rfl ?_
          refine A_icmp_ge (tgt := 160) d_MD_cell_152 (by decide) (fun c109 => ?_) (fun c109 => ?_)
          · refine A_iload d_MD_cell_160 rfl ?_
            refine A_istore (L' := [some (av_R (some 170)), some (av_I a1), some (av_I a2), some (av_I a3), some (av_I a4), some (av_I (81 * a1 + a2)), some (av_I (x66 + x68)), some (av_I (x71 + 5)), some (av_I (x74 + 5)), some (av_I (x66 + x68)), none, none]) d_MD_cell_162 (Nat.le_of_ble_eq_true rfl) rfl ?_
            refine A_aload_n 0 d_MD_cell_164 rfl rfl ?_
            refine A_getAv (z := some 239) T_ok d_MD_cell_165 f_MD_220 (mi_s k0.1 sf_170) (mi_r k0.1 rfm_109) ?_
            refine A_iload d_MD_cell_168 rfl ?_
            refine A_pc (pc' := 170) rfl ?_
            refine A_iload d_MD_cell_170 rfl ?_
            refine A_iastorek (KR := kM (pm [] [239, 240]) h) d_MD_cell_172 (mi_s k0.1 sf_239) (by omega) (by omega) (kM_i k0 (by decide) rfl (mr_239 _) (by omega) (by omega)) (fun h111 k112 eh111 => ?_)
            refine A_lconst_0 d_MD_cell_173 ?_
            refine A_lstore (L' := [some (av_R (some 170)), some (av_I a1), some (av_I a2), some (av_I a3), some (av_I a4), some (av_I (81 * a1 + a2)), some (av_I (x66 + x68)), some (av_I (x71 + 5)), some (av_I (x74 + 5)), some (av_I (x66 + x68)), some (av_L 0), none]) d_MD_cell_174 (Nat.le_of_ble_eq_true rfl) rfl ?_
            refine A_iload d_MD_cell_176 rfl ?_
            refine A_iload d_MD_cell_178 rfl ?_
            refine A_icmp_ne (tgt := 198) d_MD_cell_180 (by decide) (fun c => False.elim (by omega)) (fun _ => ?_)
            refine A_lload d_MD_cell_183 rfl ?_
            refine A_aload_n 0 d_MD_cell_185 rfl rfl ?_
            refine A_getAv (z := some 240) T_ok d_MD_cell_186 f_MD_223 (mi_s k112.1 sf_170) (mi_r k112.1 rfm_110) ?_
            refine A_iload d_MD_cell_189 rfl ?_
            refine A_bipush d_MD_cell_191 rfl ?_
            refine A_pc (pc' := 193) rfl ?_
            refine A_iaddv (z := (81 * a1 + a2 + 82)) d_MD_cell_193 (w32_to (by omega) (by unfold i32; omega)) ?_
            refine A_laloadf d_MD_cell_194 (mi_s k112.1 sf_240) (by omega) (by omega) (fun x115 ex115 _ _ => ?_)
            refine A_laddv (z := x115) d_MD_cell_195 (w64_to (by omega) (by unfold i64; omega)) ?_
            refine A_lstore (L' := [some (av_R (some 170)), some (av_I a1), some (av_I a2), some (av_I a3), some (av_I a4), some (av_I (81 * a1 + a2)), some (av_I (x66 + x68)), some (av_I (x71 + 5)), some (av_I (x74 + 5)), some (av_I (x66 + x68)), some (av_L x115), none]) d_MD_cell_196 (Nat.le_of_ble_eq_true rfl) rfl ?_
            refine A_iload d_MD_cell_198 rfl ?_
            refine A_iload d_MD_cell_200 rfl ?_
            refine A_icmp_ne (tgt := 220) d_MD_cell_202 (by decide) (fun c116 => ?_) (fun c => False.elim (by omega))
            refine A_iload d_MD_cell_220 rfl ?_
            refine A_iload d_MD_cell_222 rfl ?_
            have jp241 : ∀ (j117 : Int) , (-9223372036854775808) ≤ j117 → j117 ≤ 9223372036854775807 → aw G (rm_R 2 0 0) m_MD_cell 0 0 241 [some (av_R (some 170)), some (av_I a1), some (av_I a2), some (av_I a3), some (av_I a4), some (av_I (81 * a1 + a2)), some (av_I (x66 + x68)), some (av_I (x71 + 5)), some (av_I (x74 + 5)), some (av_I (x66 + x68)), some (av_L j117), none] [] h111 (fun r h' => r = none ∧ (CX h h' a1 a2 a3 a4 ∧ 0 ≤ h'.2.1 239 (81 * a1 + a2).toNat ∧ h'.2.1 239 (81 * a1 + a2).toNat ≤ 5 * ((a3 - a1) + (a4 - a2))) ∧ kM (pm [] [239, 240]) h h') := by
              intro j117  _ _ 
              refine A_aload_n 0 d_MD_cell_241 rfl rfl ?_
              refine A_getAv (z := some 240) T_ok d_MD_cell_242 f_MD_223 (mi_s k112.1 sf_170) (mi_r k112.1 rfm_110) ?_
              refine A_iload d_MD_cell_245 rfl ?_
              refine A_lload d_MD_cell_247 rfl ?_
              refine A_ldc2 (z := 1000000007) d_MD_cell_249 cst_MD_606 rfl ?_
              refine A_pc (pc' := 252) rfl ?_
              refine A_lremc d_MD_cell_252 (by decide) (fun x119 ex119 _ _ => ?_)
              have bx119 := rem_c ex119 (by decide)
              refine A_lastorek (KR := kM (pm [] [239, 240]) h) d_MD_cell_253 (mi_s k112.1 sf_240) (by omega) (by omega) (kM_l k112 (by decide) rfl (mq_240 _) (by omega) (by omega)) (fun h120 k121 eh120 => ?_)
              exact A_vret d_MD_cell_254 (by decide) rfl ⟨rfl, ⟨⟨fun _ _ => (by have q1 := ((congrFun (congrFun eh120.1 _) _).trans eh111.2.1); omega), fun _ _ _ _ => (by have q1 := ((congrFun (congrFun eh120.1 _) _).trans eh111.2.1); omega), (fun k hk => ((congrFun (congrFun eh120.1 239) k).trans (eh111.1 239 k (fun _ => hk))))⟩, (by have q1 := ((congrFun (congrFun eh120.1 _) _).trans eh111.2.1); omega), (by have q1 := ((congrFun (congrFun eh120.1 _) _).trans eh111.2.1); omega)⟩, k121⟩
            refine A_icmp_ne (tgt := 241) d_MD_cell_224 (by decide) (fun c122 => ?_) (fun c122 => ?_)
            · refine A_pc (pc' := 241) rfl ?_
              exact jp241 x115 (by omega) (by omega)
            · refine A_lload d_MD_cell_227 rfl ?_
              refine A_aload_n 0 d_MD_cell_229 rfl rfl ?_
              refine A_getAv (z := some 240) T_ok d_MD_cell_230 f_MD_223 (mi_s k112.1 sf_170) (mi_r k112.1 rfm_110) ?_
              refine A_iload d_MD_cell_233 rfl ?_
              refine A_iconst d_MD_cell_235 rfl ?_
              refine A_pc (pc' := 236) rfl ?_
              refine A_iaddv (z := (81 * a1 + a2 + 1)) d_MD_cell_236 (w32_to (by omega) (by unfold i32; omega)) ?_
              refine A_laloadf d_MD_cell_237 (mi_s k112.1 sf_240) (by omega) (by omega) (fun x124 ex124 _ _ => ?_)
              refine A_laddw d_MD_cell_238 (fun x125 _ _ _ => ?_)
              refine A_lstore (L' := [some (av_R (some 170)), some (av_I a1), some (av_I a2), some (av_I a3), some (av_I a4), some (av_I (81 * a1 + a2)), some (av_I (x66 + x68)), some (av_I (x71 + 5)), some (av_I (x74 + 5)), some (av_I (x66 + x68)), some (av_L x125), none]) d_MD_cell_239 (Nat.le_of_ble_eq_true rfl) rfl ?_
              refine A_pc (pc' := 241) rfl ?_
              exact jp241 x125 (by omega) (by omega)
          · refine A_iload d_MD_cell_155 rfl ?_
            refine A_goto (tgt := 162) d_MD_cell_157 (by decide) ?_
            refine A_istore (L' := [some (av_R (some 170)), some (av_I a1), some (av_I a2), some (av_I a3), some (av_I a4), some (av_I (81 * a1 + a2)), some (av_I (x66 + x68)), some (av_I (x71 + 5)), some (av_I (x74 + 5)), some (av_I (x74 + 5)), none, none]) d_MD_cell_162 (Nat.le_of_ble_eq_true rfl) rfl ?_
            refine A_aload_n 0 d_MD_cell_164 rfl rfl ?_
            refine A_getAv (z := some 239) T_ok d_MD_cell_165 f_MD_220 (mi_s k0.1 sf_170) (mi_r k0.1 rfm_109) ?_
            refine A_iload d_MD_cell_168 rfl ?_
            refine A_iload d_MD_cell_170 rfl ?_
            refine A_pc (pc' := 172) rfl ?_
            refine A_iastorek (KR := kM (pm [] [239, 240]) h) d_MD_cell_172 (mi_s k0.1 sf_239) (by omega) (by omega) (kM_i k0 (by decide) rfl (mr_239 _) (by omega) (by omega)) (fun h127 k128 eh127 => ?_)
            refine A_lconst_0 d_MD_cell_173 ?_
            refine A_lstore (L' := [some (av_R (some 170)), some (av_I a1), some (av_I a2), some (av_I a3), some (av_I a4), some (av_I (81 * a1 + a2)), some (av_I (x66 + x68)), some (av_I (x71 + 5)), some (av_I (x74 + 5)), some (av_I (x74 + 5)), some (av_L 0), none]) d_MD_cell_174 (Nat.le_of_ble_eq_true rfl) rfl ?_
            refine A_iload d_MD_cell_176 rfl ?_
            refine A_iload d_MD_cell_178 rfl ?_
            refine A_icmp_ne (tgt := 198) d_MD_cell_180 (by decide) (fun c129 => ?_) (fun c => False.elim (by omega))
            refine A_iload d_MD_cell_198 rfl ?_
            refine A_iload d_MD_cell_200 rfl ?_
            refine A_icmp_ne (tgt := 220) d_MD_cell_202 (by decide) (fun c130 => ?_) (fun c => False.elim (by omega))
            refine A_iload d_MD_cell_220 rfl ?_
            refine A_iload d_MD_cell_222 rfl ?_
            refine A_icmp_ne (tgt := 241) d_MD_cell_224 (by decide) (fun c => False.elim (by omega)) (fun _ => ?_)
            refine A_lload d_MD_cell_227 rfl ?_
            refine A_aload_n 0 d_MD_cell_229 rfl rfl ?_
            refine A_getAv (z := some 240) T_ok d_MD_cell_230 f_MD_223 (mi_s k128.1 sf_170) (mi_r k128.1 rfm_110) ?_
            refine A_iload d_MD_cell_233 rfl ?_
            refine A_iconst d_MD_cell_235 rfl ?_
            refine A_pc (pc' := 236) rfl ?_
            refine A_iaddv (z := (81 * a1 + a2 + 1)) d_MD_cell_236 (w32_to (by omega) (by unfold i32; omega)) ?_
            refine A_laloadf d_MD_cell_237 (mi_s k128.1 sf_240) (by omega) (by omega) (fun x133 ex133 _ _ => ?_)
            refine A_laddv (z := x133) d_MD_cell_238 (w64_to (by omega) (by unfold i64; omega)) ?_
            refine A_lstore (L' := [some (av_R (some 170)), some (av_I a1), some (av_I a2), some (av_I a3), some (av_I a4), some (av_I (81 * a1 + a2)), some (av_I (x66 + x68)), some (av_I (x71 + 5)), some (av_I (x74 + 5)), some (av_I (x74 + 5)), some (av_L x133), none]) d_MD_cell_239 (Nat.le_of_ble_eq_true rfl) rfl ?_
            refine A_aload_n 0 d_MD_cell_241 rfl rfl ?_
            refine A_getAv (z := some 240) T_ok d_MD_cell_242 f_MD_223 (mi_s k128.1 sf_170) (mi_r k128.1 rfm_110) ?_
            refine A_pc (pc' := 245) rfl ?_
            refine A_iload d_MD_cell_245 rfl ?_
            refine A_lload d_MD_cell_247 rfl ?_
            refine A_ldc2 (z := 1000000007) d_MD_cell_249 cst_MD_606 rfl ?_
            refine A_lremc d_MD_cell_252 (by decide) (fun x135 ex135 _ _ => ?_)
            have bx135 := rem_c ex135 (by decide)
            refine A_lastorek (KR := kM (pm [] [239, 240]) h) d_MD_cell_253 (mi_s k128.1 sf_240) (by omega) (by omega) (kM_l k128 (by decide) rfl (mq_240 _) (by omega) (by omega)) (fun h136 k137 eh136 => ?_)
            exact A_vret d_MD_cell_254 (by decide) rfl ⟨rfl, ⟨⟨fun _ _ => (by have q1 := ((congrFun (congrFun eh136.1 _) _).trans eh127.2.1); omega), fun _ _ _ _ => (by have q1 := ((congrFun (congrFun eh136.1 _) _).trans eh127.2.1); omega), (fun k hk => ((congrFun (congrFun eh136.1 239) k).trans (eh127.1 239 k (fun _ => hk))))⟩, (by have q1 := ((congrFun (congrFun eh136.1 _) _).trans eh127.2.1); omega), (by have q1 := ((congrFun (congrFun eh136.1 _) _).trans eh127.2.1); omega)⟩, k137⟩
  · refine A_iload_n 2 d_MD_cell_13 rfl rfl ?_
    refine A_iload d_MD_cell_14 rfl ?_
    refine A_icmp_ne (tgt := 36) d_MD_cell_16 (by decide) (fun c138 => ?_) (fun c138 => ?_)
    · refine A_iload_n 1 d_MD_cell_36 rfl rfl ?_
      refine A_iload_n 3 d_MD_cell_37 rfl rfl ?_
      refine A_icmp_ge (tgt := 77) d_MD_cell_38 (by decide) (fun c139 => ?_) (fun c => False.elim (by omega))
      refine A_ldcw (z := 1000000) d_MD_cell_77 cst_MD_605 rfl ?_
      refine A_istore (L' := [some (av_R (some 170)), some (av_I a1), some (av_I a2), some (av_I a3), some (av_I a4), some (av_I (81 * a1 + a2)), some (av_I 1000000), none, none, none, none, none]) d_MD_cell_80 (Nat.le_of_ble_eq_true rfl) rfl ?_
      refine A_iload_n 1 d_MD_cell_82 rfl rfl ?_
      refine A_iload_n 3 d_MD_cell_83 rfl rfl ?_
      refine A_icmp_ge (tgt := 102) d_MD_cell_84 (by decide) (fun c140 => ?_) (fun c => False.elim (by omega))
      refine A_ldcw (z := 1000000) d_MD_cell_102 cst_MD_605 rfl ?_
      refine A_istore (L' := [some (av_R (some 170)), some (av_I a1), some (av_I a2), some (av_I a3), some (av_I a4), some (av_I (81 * a1 + a2)), some (av_I 1000000), some (av_I 1000000), none, none, none, none]) d_MD_cell_105 (Nat.le_of_ble_eq_true rfl) rfl ?_
      refine A_iload_n 2 d_MD_cell_107 rfl rfl ?_
      refine A_iload d_MD_cell_108 rfl ?_
      refine A_icmp_ge (tgt := 127) d_MD_cell_110 (by decide) (fun c141 => ?_) (fun c141 => ?_)
      · refine A_ldcw (z := 1000000) d_MD_cell_127 cst_MD_605 rfl ?_
        refine A_istore (L' := [some (av_R (some 170)), some (av_I a1), some (av_I a2), some (av_I a3), some (av_I a4), some (av_I (81 * a1 + a2)), some (av_I 1000000), some (av_I 1000000), some (av_I 1000000), none, none, none]) d_MD_cell_130 (Nat.le_of_ble_eq_true rfl) rfl ?_
        refine A_iload d_MD_cell_132 rfl ?_
        refine A_iload d_MD_cell_134 rfl ?_
        refine A_icmp_ge (tgt := 144) d_MD_cell_136 (by decide) (fun _ => ?_) (fun c => absurd c (by decide))
        refine A_iload d_MD_cell_144 rfl ?_
        refine A_istore (L' := [some (av_R (some 170)), some (av_I a1), some (av_I a2), some (av_I a3), some (av_I a4), some (av_I (81 * a1 + a2)), some (av_I 1000000), some (av_I 1000000), some (av_I 1000000), some (av_I 1000000), none, none]) d_MD_cell_146 (Nat.le_of_ble_eq_true rfl) rfl ?_
        refine A_iload d_MD_cell_148 rfl ?_
        refine A_iload d_MD_cell_150 rfl ?_
        refine A_icmp_ge (tgt := 160) d_MD_cell_152 (by decide) (fun _ => ?_) (fun c => absurd c (by decide))
        refine A_iload d_MD_cell_160 rfl ?_
        refine A_istore (L' := [some (av_R (some 170)), some (av_I a1), some (av_I a2), some (av_I a3), some (av_I a4), some (av_I (81 * a1 + a2)), some (av_I 1000000), some (av_I 1000000), some (av_I 1000000), some (av_I 1000000), none, none]) d_MD_cell_162 (Nat.le_of_ble_eq_true rfl) rfl ?_
        refine A_aload_n 0 d_MD_cell_164 rfl rfl ?_
        refine A_getAv (z := some 239) T_ok d_MD_cell_165 f_MD_220 (mi_s k0.1 sf_170) (mi_r k0.1 rfm_109) ?_
        refine A_iload d_MD_cell_168 rfl ?_
        refine A_pc (pc' := 170) rfl ?_
        refine A_iload d_MD_cell_170 rfl ?_
        refine A_iastorek (KR := kM (pm [] [239, 240]) h) d_MD_cell_172 (mi_s k0.1 sf_239) (by omega) (by omega) (kM_i k0 (by decide) rfl (mr_239 _) (by omega) (by omega)) (fun h145 k146 eh145 => ?_)
        refine A_lconst_0 d_MD_cell_173 ?_
        refine A_lstore (L' := [some (av_R (some 170)), some (av_I a1), some (av_I a2), some (av_I a3), some (av_I a4), some (av_I (81 * a1 + a2)), some (av_I 1000000), some (av_I 1000000), some (av_I 1000000), some (av_I 1000000), some (av_L 0), none]) d_MD_cell_174 (Nat.le_of_ble_eq_true rfl) rfl ?_
        refine A_iload d_MD_cell_176 rfl ?_
        refine A_iload d_MD_cell_178 rfl ?_
        refine A_icmp_ne (tgt := 198) d_MD_cell_180 (by decide) (fun c => absurd c (by decide)) (fun _ => ?_)
        refine A_lload d_MD_cell_183 rfl ?_
        refine A_aload_n 0 d_MD_cell_185 rfl rfl ?_
        refine A_getAv (z := some 240) T_ok d_MD_cell_186 f_MD_223 (mi_s k146.1 sf_170) (mi_r k146.1 rfm_110) ?_
        refine A_iload d_MD_cell_189 rfl ?_
        refine A_bipush d_MD_cell_191 rfl ?_
        refine A_pc (pc' := 193) rfl ?_
        refine A_iaddv (z := (81 * a1 + a2 + 82)) d_MD_cell_193 (w32_to (by omega) (by unfold i32; omega)) ?_
        refine A_laloadf d_MD_cell_194 (mi_s k146.1 sf_240) (by omega) (by omega) (fun x149 ex149 _ _ => ?_)
        refine A_laddv (z := x149) d_MD_cell_195 (w64_to (by omega) (by unfold i64; omega)) ?_
        refine A_lstore (L' := [some (av_R (some 170)), some (av_I a1), some (av_I a2), some (av_I a3), some (av_I a4), some (av_I (81 * a1 + a2)), some (av_I 1000000), some (av_I 1000000), some (av_I 1000000), some (av_I 1000000), some (av_L x149), none]) d_MD_cell_196 (Nat.le_of_ble_eq_true rfl) rfl ?_
        refine A_iload d_MD_cell_198 rfl ?_
        refine A_iload d_MD_cell_200 rfl ?_
        refine A_icmp_ne (tgt := 220) d_MD_cell_202 (by decide) (fun c => absurd c (by decide)) (fun _ => ?_)
        refine A_lload d_MD_cell_205 rfl ?_
        refine A_aload_n 0 d_MD_cell_207 rfl rfl ?_
        refine A_getAv (z := some 240) T_ok d_MD_cell_208 f_MD_223 (mi_s k146.1 sf_170) (mi_r k146.1 rfm_110) ?_
        refine A_iload d_MD_cell_211 rfl ?_
        refine A_bipush d_MD_cell_213 rfl ?_
        refine A_pc (pc' := 215) rfl ?_
        refine A_iaddv (z := (81 * a1 + a2 + 81)) d_MD_cell_215 (w32_to (by omega) (by unfold i32; omega)) ?_
        refine A_laloadf d_MD_cell_216 (mi_s k146.1 sf_240) (by omega) (by omega) (fun x152 ex152 _ _ => ?_)
        refine A_laddw d_MD_cell_217 (fun x153 _ _ _ => ?_)
        refine A_lstore (L' := [some (av_R (some 170)), some (av_I a1), some (av_I a2), some (av_I a3), some (av_I a4), some (av_I (81 * a1 + a2)), some (av_I 1000000), some (av_I 1000000), some (av_I 1000000), some (av_I 1000000), some (av_L x153), none]) d_MD_cell_218 (Nat.le_of_ble_eq_true rfl) rfl ?_
        refine A_iload d_MD_cell_220 rfl ?_
        refine A_iload d_MD_cell_222 rfl ?_
        refine A_icmp_ne (tgt := 241) d_MD_cell_224 (by decide) (fun c => absurd c (by decide)) (fun _ => ?_)
        refine A_lload d_MD_cell_227 rfl ?_
        refine A_aload_n 0 d_MD_cell_229 rfl rfl ?_
        refine A_getAv (z := some 240) T_ok d_MD_cell_230 f_MD_223 (mi_s k146.1 sf_170) (mi_r k146.1 rfm_110) ?_
        refine A_iload d_MD_cell_233 rfl ?_
        refine A_iconst d_MD_cell_235 rfl ?_
        refine A_pc (pc' := 236) rfl ?_
        refine A_iaddv (z := (81 * a1 + a2 + 1)) d_MD_cell_236 (w32_to (by omega) (by unfold i32; omega)) ?_
        refine A_laloadf d_MD_cell_237 (mi_s k146.1 sf_240) (by omega) (by omega) (fun x156 ex156 _ _ => ?_)
        refine A_laddw d_MD_cell_238 (fun x157 _ _ _ => ?_)
        refine A_lstore (L' := [some (av_R (some 170)), some (av_I a1), some (av_I a2), some (av_I a3), some (av_I a4), some (av_I (81 * a1 + a2)), some (av_I 1000000), some (av_I 1000000), some (av_I 1000000), some (av_I 1000000), some (av_L x157), none]) d_MD_cell_239 (Nat.le_of_ble_eq_true rfl) rfl ?_
        refine A_aload_n 0 d_MD_cell_241 rfl rfl ?_
        refine A_getAv (z := some 240) T_ok d_MD_cell_242 f_MD_223 (mi_s k146.1 sf_170) (mi_r k146.1 rfm_110) ?_
        refine A_pc (pc' := 245) rfl ?_
        refine A_iload d_MD_cell_245 rfl ?_
        refine A_lload d_MD_cell_247 rfl ?_
        refine A_ldc2 (z := 1000000007) d_MD_cell_249 cst_MD_606 rfl ?_
        refine A_lremc d_MD_cell_252 (by decide) (fun x159 ex159 _ _ => ?_)
        have bx159 := rem_c ex159 (by decide)
        refine A_lastorek (KR := kM (pm [] [239, 240]) h) d_MD_cell_253 (mi_s k146.1 sf_240) (by omega) (by omega) (kM_l k146 (by decide) rfl (mq_240 _) (by omega) (by omega)) (fun h160 k161 eh160 => ?_)
        exact A_vret d_MD_cell_254 (by decide) rfl ⟨rfl, ⟨⟨fun _ _ => (by have q1 := ((congrFun (congrFun eh160.1 _) _).trans eh145.2.1); omega), fun _ _ _ _ => (by have q1 := ((congrFun (congrFun eh160.1 _) _).trans eh145.2.1); omega), (fun k hk => ((congrFun (congrFun eh160.1 239) k).trans (eh145.1 239 k (fun _ => hk))))⟩, (by have q1 := ((congrFun (congrFun eh160.1 _) _).trans eh145.2.1); omega), (by have q1 := ((congrFun (congrFun eh160.1 _) _).trans eh145.2.1); omega)⟩, k161⟩
      · refine A_iconst d_MD_cell_113 rfl ?_
        refine A_aload_n 0 d_MD_cell_114 rfl rfl ?_
        refine A_getAv (z := some 239) T_ok d_MD_cell_115 f_MD_220 (mi_s k0.1 sf_170) (mi_r k0.1 rfm_109) ?_
        refine A_iload d_MD_cell_118 rfl ?_
        refine A_iconst d_MD_cell_120 rfl ?_
        refine A_pc (pc' := 121) rfl ?_
        refine A_iaddv (z := (81 * a1 + a2 + 1)) d_MD_cell_121 (w32_to (by omega) (by unfold i32; omega)) ?_
        refine A_ialoadf d_MD_cell_122 (mi_s k0.1 sf_239) (by omega) (by omega) (fun x163 ex163 _ _ => ?_)
        have yx163 : 0 ≤ x163 ∧ x163 ≤ 800 := (by omega)
        refine A_iaddv (z := (x163 + 5)) d_MD_cell_123 (w32_to (by omega) (by unfold i32; omega)) ?_
        refine A_goto (tgt := 130) d_MD_cell_124 (by decide) ?_
        refine A_istore (L' := [some (av_R (some 170)), some (av_I a1), some (av_I a2), some (av_I a3), some (av_I a4), some (av_I (81 * a1 + a2)), some (av_I 1000000), some (av_I 1000000), some (av_I (x163 + 5)), none, none, none]) d_MD_cell_130 (Nat.le_of_ble_eq_true rfl) rfl ?_
        refine A_iload d_MD_cell_132 rfl ?_
        refine A_iload d_MD_cell_134 rfl ?_
        refine A_icmp_ge (tgt := 144) d_MD_cell_136 (by decide) (fun _ => ?_) (fun c => absurd c (by decide))
        refine A_iload d_MD_cell_144 rfl ?_
        refine A_istore (L' := [some (av_R (some 170)), some (av_I a1), some (av_I a2), some (av_I a3), some (av_I a4), some (av_I (81 * a1 + a2)), some (av_I 1000000), some (av_I 1000000), some (av_I (x163 + 5)), some (av_I 1000000), none, none]) d_MD_cell_146 (Nat.le_of_ble_eq_true rfl) rfl ?_
        refine A_iload d_MD_cell_148 rfl ?_
        refine A_iload d_MD_cell_150 rfl ?_
        refine A_icmp_ge (tgt := 160) d_MD_cell_152 (by decide) (fun c => False.elim (by omega)) (fun c165 => ?_)
        refine A_iload d_MD_cell_155 rfl ?_
        refine A_goto (tgt := 162) d_MD_cell_157 (by decide) ?_
        refine A_istore (L' := [some (av_R (some 170)), some (av_I a1), some (av_I a2), some (av_I a3), some (av_I a4), some (av_I (81 * a1 + a2)), some (av_I 1000000), some (av_I 1000000), some (av_I (x163 + 5)), some (av_I (x163 + 5)), none, none]) d_MD_cell_162 (Nat.le_of_ble_eq_true rfl) rfl ?_
        refine A_aload_n 0 d_MD_cell_164 rfl rfl ?_
        refine A_getAv (z := some 239) T_ok d_MD_cell_165 f_MD_220 (mi_s k0.1 sf_170) (mi_r k0.1 rfm_109) ?_
        refine A_iload d_MD_cell_168 rfl ?_
        refine A_iload d_MD_cell_170 rfl ?_
        refine A_pc (pc' := 172) rfl ?_
        refine A_iastorek (KR := kM (pm [] [239, 240]) h) d_MD_cell_172 (mi_s k0.1 sf_239) (by omega) (by omega) (kM_i k0 (by decide) rfl (mr_239 _) (by omega) (by omega)) (fun h167 k168 eh167 => ?_)
        refine A_lconst_0 d_MD_cell_173 ?_
        refine A_lstore (L' := [some (av_R (some 170)), some (av_I a1), some (av_I a2), some (av_I a3), some (av_I a4), some (av_I (81 * a1 + a2)), some (av_I 1000000), some (av_I 1000000), some (av_I (x163 + 5)), some (av_I (x163 + 5)), some (av_L 0), none]) d_MD_cell_174 (Nat.le_of_ble_eq_true rfl) rfl ?_
        refine A_iload d_MD_cell_176 rfl ?_
        refine A_iload d_MD_cell_178 rfl ?_
        refine A_icmp_ne (tgt := 198) d_MD_cell_180 (by decide) (fun c169 => ?_) (fun c => False.elim (by omega))
        refine A_iload d_MD_cell_198 rfl ?_
        refine A_iload d_MD_cell_200 rfl ?_
        refine A_icmp_ne (tgt := 220) d_MD_cell_202 (by decide) (fun c170 => ?_) (fun c => False.elim (by omega))
        refine A_iload d_MD_cell_220 rfl ?_
        refine A_iload d_MD_cell_222 rfl ?_
        refine A_icmp_ne (tgt := 241) d_MD_cell_224 (by decide) (fun c => False.elim (by omega)) (fun _ => ?_)
        refine A_lload d_MD_cell_227 rfl ?_
        refine A_aload_n 0 d_MD_cell_229 rfl rfl ?_
        refine A_getAv (z := some 240) T_ok d_MD_cell_230 f_MD_223 (mi_s k168.1 sf_170) (mi_r k168.1 rfm_110) ?_
        refine A_iload d_MD_cell_233 rfl ?_
        refine A_iconst d_MD_cell_235 rfl ?_
        refine A_pc (pc' := 236) rfl ?_
        refine A_iaddv (z := (81 * a1 + a2 + 1)) d_MD_cell_236 (w32_to (by omega) (by unfold i32; omega)) ?_
        refine A_laloadf d_MD_cell_237 (mi_s k168.1 sf_240) (by omega) (by omega) (fun x173 ex173 _ _ => ?_)
        refine A_laddv (z := x173) d_MD_cell_238 (w64_to (by omega) (by unfold i64; omega)) ?_
        refine A_lstore (L' := [some (av_R (some 170)), some (av_I a1), some (av_I a2), some (av_I a3), some (av_I a4), some (av_I (81 * a1 + a2)), some (av_I 1000000), some (av_I 1000000), some (av_I (x163 + 5)), some (av_I (x163 + 5)), some (av_L x173), none]) d_MD_cell_239 (Nat.le_of_ble_eq_true rfl) rfl ?_
        refine A_aload_n 0 d_MD_cell_241 rfl rfl ?_
        refine A_getAv (z := some 240) T_ok d_MD_cell_242 f_MD_223 (mi_s k168.1 sf_170) (mi_r k168.1 rfm_110) ?_
        refine A_pc (pc' := 245) rfl ?_
        refine A_iload d_MD_cell_245 rfl ?_
        refine A_lload d_MD_cell_247 rfl ?_
        refine A_ldc2 (z := 1000000007) d_MD_cell_249 cst_MD_606 rfl ?_
        refine A_lremc d_MD_cell_252 (by decide) (fun x175 ex175 _ _ => ?_)
        have bx175 := rem_c ex175 (by decide)
        refine A_lastorek (KR := kM (pm [] [239, 240]) h) d_MD_cell_253 (mi_s k168.1 sf_240) (by omega) (by omega) (kM_l k168 (by decide) rfl (mq_240 _) (by omega) (by omega)) (fun h176 k177 eh176 => ?_)
        exact A_vret d_MD_cell_254 (by decide) rfl ⟨rfl, ⟨⟨fun _ _ => (by have q1 := ((congrFun (congrFun eh176.1 _) _).trans eh167.2.1); omega), fun _ _ _ _ => (by have q1 := ((congrFun (congrFun eh176.1 _) _).trans eh167.2.1); omega), (fun k hk => ((congrFun (congrFun eh176.1 239) k).trans (eh167.1 239 k (fun _ => hk))))⟩, (by have q1 := ((congrFun (congrFun eh176.1 _) _).trans eh167.2.1); omega), (by have q1 := ((congrFun (congrFun eh176.1 _) _).trans eh167.2.1); omega)⟩, k177⟩
    · refine A_aload_n 0 d_MD_cell_19 rfl rfl ?_
      refine A_getAv (z := some 239) T_ok d_MD_cell_20 f_MD_220 (mi_s k0.1 sf_170) (mi_r k0.1 rfm_109) ?_
      refine A_iload d_MD_cell_23 rfl ?_
      refine A_iconst d_MD_cell_25 rfl ?_
      refine A_iastorek (KR := kM (pm [] [239, 240]) h) d_MD_cell_26 (mi_s k0.1 sf_239) (by omega) (by omega) (kM_i k0 (by decide) rfl (mr_239 _) (by omega) (by omega)) (fun h179 k180 eh179 => ?_)
      refine A_pc (pc' := 27) rfl ?_
      refine A_aload_n 0 d_MD_cell_27 rfl rfl ?_
      refine A_getAv (z := some 240) T_ok d_MD_cell_28 f_MD_223 (mi_s k180.1 sf_170) (mi_r k180.1 rfm_110) ?_
      refine A_iload d_MD_cell_31 rfl ?_
      refine A_lconst_1 d_MD_cell_33 ?_
      refine A_lastorek (KR := kM (pm [] [239, 240]) h) d_MD_cell_34 (mi_s k180.1 sf_240) (by omega) (by omega) (kM_l k180 (by decide) rfl (mq_240 _) (by omega) (by omega)) (fun h182 k183 eh182 => ?_)
      exact A_vret d_MD_cell_35 (by decide) rfl ⟨rfl, ⟨⟨fun _ _ => (by have q1 := ((congrFun (congrFun eh182.1 _) _).trans eh179.2.1); omega), fun _ _ _ _ => (by have q1 := ((congrFun (congrFun eh182.1 _) _).trans eh179.2.1); omega), (fun k hk => ((congrFun (congrFun eh182.1 239) k).trans (eh179.1 239 k (fun _ => hk))))⟩, (by have q1 := ((congrFun (congrFun eh182.1 _) _).trans eh179.2.1); omega), (by have q1 := ((congrFun (congrFun eh182.1 _) _).trans eh179.2.1); omega)⟩, k183⟩
