/-! ===== the reference's methods, 350 ===== -/
def m_MD_run : mr_T := (⟨"PlainMusicModel", "run", "(IIII)I"⟩, prog_14_method_69_code, 9, some .int)
theorem d_MD_run_0 : decode prog_14_method_69_code 0 = .ok (.aload_n 0, 1) := by decide +kernel
theorem d_MD_run_1 : decode prog_14_method_69_code 1 = .ok (.getfield 181, 3) := by decide +kernel
theorem rfm_87 : (87, 226) ∈ mf_L := by decide +kernel
theorem d_MD_run_4 : decode prog_14_method_69_code 4 = .ok (.iload 4, 2) := by decide +kernel
theorem d_MD_run_6 : decode prog_14_method_69_code 6 = .ok (.iload_n 3, 1) := by decide +kernel
theorem d_MD_run_7 : decode prog_14_method_69_code 7 = .ok (.isub, 1) := by decide +kernel
theorem d_MD_run_8 : decode prog_14_method_69_code 8 = .ok (.iconst 0, 1) := by decide +kernel
theorem d_MD_run_9 : decode prog_14_method_69_code 9 = .ok (.iastore, 1) := by decide +kernel
theorem sf_226 : sh_L[226]? = some (0, 340) := by decide +kernel
theorem mr_226 (k : Nat) : mr 226 k = ((-2147483648), 2147483647) := rfl
theorem d_MD_run_10 : decode prog_14_method_69_code 10 = .ok (.iload 4, 2) := by decide +kernel
theorem d_MD_run_12 : decode prog_14_method_69_code 12 = .ok (.iconst 1, 1) := by decide +kernel
theorem d_MD_run_13 : decode prog_14_method_69_code 13 = .ok (.isub, 1) := by decide +kernel
theorem d_MD_run_14 : decode prog_14_method_69_code 14 = .ok (.istore 5, 2) := by decide +kernel
theorem d_MD_run_16 : decode prog_14_method_69_code 16 = .ok (.iload 5, 2) := by decide +kernel
theorem d_MD_run_18 : decode prog_14_method_69_code 18 = .ok (.iload_n 3, 1) := by decide +kernel
theorem d_MD_run_19 : decode prog_14_method_69_code 19 = .ok (.if_icmp .lt 109, 3) := by decide +kernel
theorem d_MD_run_128 : decode prog_14_method_69_code 128 = .ok (.iload_n 3, 1) := by decide +kernel
theorem d_MD_run_129 : decode prog_14_method_69_code 129 = .ok (.istore 5, 2) := by decide +kernel
theorem d_MD_run_131 : decode prog_14_method_69_code 131 = .ok (.iload 5, 2) := by decide +kernel
theorem d_MD_run_133 : decode prog_14_method_69_code 133 = .ok (.iload 4, 2) := by decide +kernel
theorem d_MD_run_135 : decode prog_14_method_69_code 135 = .ok (.if_icmp .ge 48, 3) := by decide +kernel
theorem d_MD_run_183 : decode prog_14_method_69_code 183 = .ok (.aload_n 0, 1) := by decide +kernel
theorem d_MD_run_184 : decode prog_14_method_69_code 184 = .ok (.getfield 181, 3) := by decide +kernel
theorem d_MD_run_187 : decode prog_14_method_69_code 187 = .ok (.iconst 0, 1) := by decide +kernel
theorem d_MD_run_188 : decode prog_14_method_69_code 188 = .ok (.iaload, 1) := by decide +kernel
theorem d_MD_run_189 : decode prog_14_method_69_code 189 = .ok (.ireturn, 1) := by decide +kernel
theorem d_MD_run_138 : decode prog_14_method_69_code 138 = .ok (.aload_n 0, 1) := by decide +kernel
theorem d_MD_run_139 : decode prog_14_method_69_code 139 = .ok (.getfield 178, 3) := by decide +kernel
theorem d_MD_run_142 : decode prog_14_method_69_code 142 = .ok (.aload_n 0, 1) := by decide +kernel
theorem d_MD_run_143 : decode prog_14_method_69_code 143 = .ok (.getfield 474, 3) := by decide +kernel
theorem d_MD_run_146 : decode prog_14_method_69_code 146 = .ok (.aload_n 0, 1) := by decide +kernel
theorem d_MD_run_147 : decode prog_14_method_69_code 147 = .ok (.getfield 184, 3) := by decide +kernel
theorem rfm_88 : (88, 227) ∈ mf_L := by decide +kernel
theorem d_MD_run_150 : decode prog_14_method_69_code 150 = .ok (.iload 5, 2) := by decide +kernel
theorem d_MD_run_152 : decode prog_14_method_69_code 152 = .ok (.iload_n 3, 1) := by decide +kernel
theorem d_MD_run_153 : decode prog_14_method_69_code 153 = .ok (.isub, 1) := by decide +kernel
theorem d_MD_run_154 : decode prog_14_method_69_code 154 = .ok (.iaload, 1) := by decide +kernel
theorem sf_227 : sh_L[227]? = some (0, 340) := by decide +kernel
theorem mr_227 (k : Nat) : mr 227 k = ((-2147483648), 2147483647) := rfl
theorem d_MD_run_155 : decode prog_14_method_69_code 155 = .ok (.iastore, 1) := by decide +kernel
theorem d_MD_run_156 : decode prog_14_method_69_code 156 = .ok (.aload_n 0, 1) := by decide +kernel
theorem d_MD_run_157 : decode prog_14_method_69_code 157 = .ok (.dup, 1) := by decide +kernel
theorem d_MD_run_158 : decode prog_14_method_69_code 158 = .ok (.getfield 474, 3) := by decide +kernel
theorem d_MD_run_161 : decode prog_14_method_69_code 161 = .ok (.iconst 1, 1) := by decide +kernel
theorem d_MD_run_162 : decode prog_14_method_69_code 162 = .ok (.iadd, 1) := by decide +kernel
theorem d_MD_run_163 : decode prog_14_method_69_code 163 = .ok (.putfield 474, 3) := by decide +kernel
theorem d_MD_run_166 : decode prog_14_method_69_code 166 = .ok (.iload 5, 2) := by decide +kernel
theorem d_MD_run_168 : decode prog_14_method_69_code 168 = .ok (.aload_n 0, 1) := by decide +kernel
theorem d_MD_run_169 : decode prog_14_method_69_code 169 = .ok (.getfield 184, 3) := by decide +kernel
theorem d_MD_run_172 : decode prog_14_method_69_code 172 = .ok (.iload 5, 2) := by decide +kernel
theorem d_MD_run_174 : decode prog_14_method_69_code 174 = .ok (.iload_n 3, 1) := by decide +kernel
theorem d_MD_run_175 : decode prog_14_method_69_code 175 = .ok (.isub, 1) := by decide +kernel
theorem d_MD_run_176 : decode prog_14_method_69_code 176 = .ok (.iaload, 1) := by decide +kernel
theorem d_MD_run_177 : decode prog_14_method_69_code 177 = .ok (.iadd, 1) := by decide +kernel
theorem d_MD_run_178 : decode prog_14_method_69_code 178 = .ok (.istore 5, 2) := by decide +kernel
theorem d_MD_run_180 : decode prog_14_method_69_code 180 = .ok (.goto (-49), 3) := by decide +kernel
theorem d_MD_run_22 : decode prog_14_method_69_code 22 = .ok (.bipush (-2), 2) := by decide +kernel
theorem d_MD_run_24 : decode prog_14_method_69_code 24 = .ok (.istore 6, 2) := by decide +kernel
theorem d_MD_run_26 : decode prog_14_method_69_code 26 = .ok (.iconst 1, 1) := by decide +kernel
theorem d_MD_run_27 : decode prog_14_method_69_code 27 = .ok (.istore 7, 2) := by decide +kernel
theorem d_MD_run_29 : decode prog_14_method_69_code 29 = .ok (.iload 7, 2) := by decide +kernel
theorem d_MD_run_31 : decode prog_14_method_69_code 31 = .ok (.bipush 6, 2) := by decide +kernel
theorem d_MD_run_33 : decode prog_14_method_69_code 33 = .ok (.if_icmp .gt 78, 3) := by decide +kernel
theorem d_MD_run_111 : decode prog_14_method_69_code 111 = .ok (.aload_n 0, 1) := by decide +kernel
theorem d_MD_run_112 : decode prog_14_method_69_code 112 = .ok (.getfield 184, 3) := by decide +kernel
theorem d_MD_run_115 : decode prog_14_method_69_code 115 = .ok (.iload 5, 2) := by decide +kernel
theorem d_MD_run_117 : decode prog_14_method_69_code 117 = .ok (.iload_n 3, 1) := by decide +kernel
theorem d_MD_run_118 : decode prog_14_method_69_code 118 = .ok (.isub, 1) := by decide +kernel
theorem d_MD_run_119 : decode prog_14_method_69_code 119 = .ok (.iload 6, 2) := by decide +kernel
theorem d_MD_run_121 : decode prog_14_method_69_code 121 = .ok (.iastore, 1) := by decide +kernel
theorem d_MD_run_122 : decode prog_14_method_69_code 122 = .ok (.iinc 5 (-1), 3) := by decide +kernel
theorem d_MD_run_125 : decode prog_14_method_69_code 125 = .ok (.goto (-109), 3) := by decide +kernel
theorem d_MD_run_36 : decode prog_14_method_69_code 36 = .ok (.iload 5, 2) := by decide +kernel
theorem d_MD_run_38 : decode prog_14_method_69_code 38 = .ok (.iload 7, 2) := by decide +kernel
theorem d_MD_run_40 : decode prog_14_method_69_code 40 = .ok (.iadd, 1) := by decide +kernel
theorem d_MD_run_41 : decode prog_14_method_69_code 41 = .ok (.iload 4, 2) := by decide +kernel
theorem d_MD_run_43 : decode prog_14_method_69_code 43 = .ok (.if_icmp .gt 68, 3) := by decide +kernel
theorem d_MD_run_46 : decode prog_14_method_69_code 46 = .ok (.aload_n 0, 1) := by decide +kernel
theorem d_MD_run_47 : decode prog_14_method_69_code 47 = .ok (.iload_n 1, 1) := by decide +kernel
theorem d_MD_run_48 : decode prog_14_method_69_code 48 = .ok (.iload_n 2, 1) := by decide +kernel
theorem d_MD_run_49 : decode prog_14_method_69_code 49 = .ok (.iload 5, 2) := by decide +kernel
theorem d_MD_run_51 : decode prog_14_method_69_code 51 = .ok (.iload 7, 2) := by decide +kernel
theorem d_MD_run_53 : decode prog_14_method_69_code 53 = .ok (.invokevirtual 545, 3) := by decide +kernel
theorem k_MD_groupCost : mt_OK m_MD_groupCost 4 1 := ⟨gwi_2101, gwi_146, ⟨by decide +kernel, by decide +kernel, by decide +kernel⟩, fun h => absurd h (by decide), fun _ => ⟨gwi_2100, gwi_117⟩, fun h => absurd h (by decide)⟩
theorem l_MD_545 : ml_OK "PlainMusicModel" 545 ⟨"PlainMusicModel", "groupCost", "(IIII)I"⟩ := Or.inl gwi_2098
theorem d_MD_run_56 : decode prog_14_method_69_code 56 = .ok (.aload_n 0, 1) := by decide +kernel
theorem d_MD_run_57 : decode prog_14_method_69_code 57 = .ok (.getfield 181, 3) := by decide +kernel
theorem d_MD_run_60 : decode prog_14_method_69_code 60 = .ok (.iload 5, 2) := by decide +kernel
theorem d_MD_run_62 : decode prog_14_method_69_code 62 = .ok (.iload 7, 2) := by decide +kernel
theorem d_MD_run_64 : decode prog_14_method_69_code 64 = .ok (.iadd, 1) := by decide +kernel
theorem d_MD_run_65 : decode prog_14_method_69_code 65 = .ok (.iload_n 3, 1) := by decide +kernel
theorem d_MD_run_66 : decode prog_14_method_69_code 66 = .ok (.isub, 1) := by decide +kernel
theorem d_MD_run_67 : decode prog_14_method_69_code 67 = .ok (.iaload, 1) := by decide +kernel
theorem d_MD_run_68 : decode prog_14_method_69_code 68 = .ok (.iadd, 1) := by decide +kernel
theorem d_MD_run_69 : decode prog_14_method_69_code 69 = .ok (.istore 8, 2) := by decide +kernel
theorem d_MD_run_71 : decode prog_14_method_69_code 71 = .ok (.iload 6, 2) := by decide +kernel
theorem d_MD_run_73 : decode prog_14_method_69_code 73 = .ok (.ifCond .lt 17, 3) := by decide +kernel
theorem d_MD_run_90 : decode prog_14_method_69_code 90 = .ok (.iload 7, 2) := by decide +kernel
theorem d_MD_run_92 : decode prog_14_method_69_code 92 = .ok (.istore 6, 2) := by decide +kernel
theorem d_MD_run_94 : decode prog_14_method_69_code 94 = .ok (.aload_n 0, 1) := by decide +kernel
theorem d_MD_run_95 : decode prog_14_method_69_code 95 = .ok (.getfield 181, 3) := by decide +kernel
theorem d_MD_run_98 : decode prog_14_method_69_code 98 = .ok (.iload 5, 2) := by decide +kernel
theorem d_MD_run_100 : decode prog_14_method_69_code 100 = .ok (.iload_n 3, 1) := by decide +kernel
theorem d_MD_run_101 : decode prog_14_method_69_code 101 = .ok (.isub, 1) := by decide +kernel
theorem d_MD_run_102 : decode prog_14_method_69_code 102 = .ok (.iload 8, 2) := by decide +kernel
theorem d_MD_run_104 : decode prog_14_method_69_code 104 = .ok (.iastore, 1) := by decide +kernel
theorem d_MD_run_105 : decode prog_14_method_69_code 105 = .ok (.iinc 7 1, 3) := by decide +kernel
theorem d_MD_run_108 : decode prog_14_method_69_code 108 = .ok (.goto (-79), 3) := by decide +kernel
theorem d_MD_run_76 : decode prog_14_method_69_code 76 = .ok (.iload 8, 2) := by decide +kernel
theorem d_MD_run_78 : decode prog_14_method_69_code 78 = .ok (.aload_n 0, 1) := by decide +kernel
theorem d_MD_run_79 : decode prog_14_method_69_code 79 = .ok (.getfield 181, 3) := by decide +kernel
theorem d_MD_run_82 : decode prog_14_method_69_code 82 = .ok (.iload 5, 2) := by decide +kernel
theorem d_MD_run_84 : decode prog_14_method_69_code 84 = .ok (.iload_n 3, 1) := by decide +kernel
theorem d_MD_run_85 : decode prog_14_method_69_code 85 = .ok (.isub, 1) := by decide +kernel
theorem d_MD_run_86 : decode prog_14_method_69_code 86 = .ok (.iaload, 1) := by decide +kernel
theorem d_MD_run_87 : decode prog_14_method_69_code 87 = .ok (.if_icmp .gt 18, 3) := by decide +kernel
theorem s_MD_run {G : cx_T} {h : ah_T} (hx : mi h) {a1 : Int} {a2 : Int} {a3 : Int} {a4 : Int} (la1 : 0 ≤ a1) (ua1 : a1 ≤ 3) (la2 : 0 ≤ a2) (ua2 : a2 ≤ 100) (la3 : 0 ≤ a3) (ua3 : a3 ≤ 299) (la4 : 1 ≤ a4) (ua4 : a4 ≤ 300) (hKS : KS h) (hv : a1 < h.2.1 172 0) (hb : a2 < h.2.1 186 a1.toNat) (hin : a4 ≤ h.2.1 185 a1.toNat) (hr1 : 1 ≤ a4 - a3) (hr2 : a4 - a3 ≤ 14) (hgr : h.2.1 170 85 + (a4 - a3) ≤ 16) : con G 4 0 0 m_MD_run [av_R (some 170), av_I a1, av_I a2, av_I a3, av_I a4] h (fun r h' => ∃ z, r = some (av_I z) ∧ ((-2147483648) ≤ z ∧ z ≤ 2147483647) ∧ (h'.2.1 170 85 ≤ h.2.1 170 85 + (a4 - a3)) ∧ kM (pm [65, 66, 85] [225, 226, 227]) h h') := by
  refine con_of (L := [some (av_R (some 170)), some (av_I a1), some (av_I a2), some (av_I a3), some (av_I a4), none, none, none, none]) (by decide +kernel) (Nat.le_of_ble_eq_true rfl) rfl ?_
  have k0 : kM (pm [65, 66, 85] [225, 226, 227]) h h := kM_0 hx
  obtain ⟨sd1, esd1⟩ : ∃ x, x = h.2.1 170 85 := ⟨_, rfl⟩
  have rsd1 : 0 ≤ sd1 ∧ sd1 ≤ 16 := (by rw [esd1]; exact mi_g k0.1 (by decide) mr_170_85)
  refine A_aload_n 0 d_MD_run_0 rfl rfl ?_
  refine A_getAv (z := some 226) T_ok d_MD_run_1 f_MD_181 (mi_s k0.1 sf_170) (mi_r k0.1 rfm_87) ?_
  refine A_iload d_MD_run_4 rfl ?_
  refine A_iload_n 3 d_MD_run_6 rfl rfl ?_
  refine A_isubv (z := (a4 - a3)) d_MD_run_7 (w32_to (by omega) (by unfold i32; omega)) ?_
  refine A_pc (pc' := 8) rfl ?_
  refine A_iconst d_MD_run_8 rfl ?_
  refine A_iastorek (KR := kM (pm [65, 66, 85] [225, 226, 227]) h) d_MD_run_9 (mi_s k0.1 sf_226) (by omega) (by omega) (kM_i k0 (by decide) rfl (mr_226 _) (by omega) (by omega)) (fun h3 k4 eh3 => ?_)
  refine A_iload d_MD_run_10 rfl ?_
  refine A_iconst d_MD_run_12 rfl ?_
  refine A_isubv (z := (a4 - 1)) d_MD_run_13 (w32_to (by omega) (by unfold i32; omega)) ?_
  refine A_istore (L' := [some (av_R (some 170)), some (av_I a1), some (av_I a2), some (av_I a3), some (av_I a4), some (av_I (a4 - 1)), none, none, none]) d_MD_run_14 (Nat.le_of_ble_eq_true rfl) rfl ?_
  have lp16 : ∀ (n : Nat) (i5 : Int) (h6 : ah_T) , (-1) ≤ i5 → i5 ≤ 299 → ((∀ j : Nat, i5 - a3 + 1 ≤ (j : Int) → (j : Int) < a4 - a3 → 1 ≤ h6.2.1 227 j ∧ h6.2.1 227 j + j ≤ a4 - a3) ∧ h6.2.1 170 85 = h.2.1 170 85 ∧ i5 ≤ a4 - 1) → kM (pm [65, 66, 85] [225, 226, 227]) h h6 → (i5 + 2).toNat < n → aw G (rm_R 4 0 0) m_MD_run 0 0 16 [some (av_R (some 170)), some (av_I a1), some (av_I a2), some (av_I a3), some (av_I a4), some (av_I i5), none, none, none] [] h6 (fun r h' => ∃ z, r = some (av_I z) ∧ ((-2147483648) ≤ z ∧ z ≤ 2147483647) ∧ (h'.2.1 170 85 ≤ h.2.1 170 85 + (a4 - a3)) ∧ kM (pm [65, 66, 85] [225, 226, 227]) h h') := by
    intro n
    induction n with
    | zero => intro i5 h6 _ _ _ _ hm; omega
    | succ n ih16 =>
      intro i5 h6 hl0 hl1 hinv k7 hm
      obtain ⟨sd8, esd8⟩ : ∃ x, x = h6.2.1 170 85 := ⟨_, rfl⟩
      have rsd8 : 0 ≤ sd8 ∧ sd8 ≤ 16 := (by rw [esd8]; exact mi_g k7.1 (by decide) mr_170_85)
      refine A_iload d_MD_run_16 rfl ?_
      refine A_iload_n 3 d_MD_run_18 rfl rfl ?_
      refine A_icmp_lt (tgt := 128) d_MD_run_19 (by decide) (fun c9 => ?_) (fun c9 => ?_)
      · refine A_iload_n 3 d_MD_run_128 rfl rfl ?_
        refine A_istore (L' := [some (av_R (some 170)), some (av_I a1), some (av_I a2), some (av_I a3), some (av_I a4), some (av_I a3), none, none, none]) d_MD_run_129 (Nat.le_of_ble_eq_true rfl) rfl ?_
        have lp131 : ∀ (n : Nat) (i10 : Int) (h11 : ah_T) , 0 ≤ i10 → i10 ≤ 300 → ((∀ j : Nat, 0 ≤ (j : Int) → (j : Int) < a4 - a3 → 1 ≤ h11.2.1 227 j ∧ h11.2.1 227 j + j ≤ a4 - a3) ∧ h11.2.1 170 85 ≤ h.2.1 170 85 + (i10 - a3) ∧ 0 ≤ h11.2.1 170 85 ∧ a3 ≤ i10 ∧ i10 ≤ a4) → kM (pm [65, 66, 85] [225, 226, 227]) h h11 → (301 - i10).toNat < n → aw G (rm_R 4 0 0) m_MD_run 0 0 131 [some (av_R (some 170)), some (av_I a1), some (av_I a2), some (av_I a3), some (av_I a4), some (av_I i10), none, none, none] [] h11 (fun r h' => ∃ z, r = some (av_I z) ∧ ((-2147483648) ≤ z ∧ z ≤ 2147483647) ∧ (h'.2.1 170 85 ≤ h.2.1 170 85 + (a4 - a3)) ∧ kM (pm [65, 66, 85] [225, 226, 227]) h h') := by
          intro n
          induction n with
          | zero => intro i10 h11 _ _ _ _ hm; omega
          | succ n ih131 =>
            intro i10 h11 hl0 hl1 hinv k12 hm
            obtain ⟨sd13, esd13⟩ : ∃ x, x = h11.2.1 170 85 := ⟨_, rfl⟩
            have rsd13 : 0 ≤ sd13 ∧ sd13 ≤ 16 := (by rw [esd13]; exact mi_g k12.1 (by decide) mr_170_85)
            refine A_iload d_MD_run_131 rfl ?_
            refine A_iload d_MD_run_133 rfl ?_
            refine A_icmp_ge (tgt := 183) d_MD_run_135 (by decide) (fun c14 => ?_) (fun c14 => ?_)
            · refine A_aload_n 0 d_MD_run_183 rfl rfl ?_
              refine A_getAv (z := some 226) T_ok d_MD_run_184 f_MD_181 (mi_s k12.1 sf_170) (mi_r k12.1 rfm_87) ?_
              refine A_iconst d_MD_run_187 rfl ?_
              refine A_ialoadf d_MD_run_188 (mi_s k12.1 sf_226) (by decide) (by decide) (fun x16 ex16 _ _ => ?_)
              replace ex16 : x16 = h11.2.1 226 0 := ex16
              exact A_iret d_MD_run_189 (by decide) rfl ⟨_, rfl, ⟨by omega, by omega⟩, (by have q1 := hinv.2; have qq0 := esd13.symm; omega), k12⟩
            · refine A_aload_n 0 d_MD_run_138 rfl rfl ?_
              refine A_getAv (z := some 225) T_ok d_MD_run_139 f_MD_178 (mi_s k12.1 sf_170) (mi_r k12.1 rfm_86) ?_
              refine A_aload_n 0 d_MD_run_142 rfl rfl ?_
              refine A_getIv (z := sd13) T_ok d_MD_run_143 f_MD_474 (mi_s k12.1 sf_170) esd13.symm ?_
              refine A_aload_n 0 d_MD_run_146 rfl rfl ?_
              refine A_pc (pc' := 147) rfl ?_
              refine A_getAv (z := some 227) T_ok d_MD_run_147 f_MD_184 (mi_s k12.1 sf_170) (mi_r k12.1 rfm_88) ?_
              refine A_iload d_MD_run_150 rfl ?_
              refine A_iload_n 3 d_MD_run_152 rfl rfl ?_
              refine A_isubv (z := (i10 - a3)) d_MD_run_153 (w32_to (by omega) (by unfold i32; omega)) ?_
              refine A_ialoadf d_MD_run_154 (mi_s k12.1 sf_227) (by omega) (by omega) (fun x20 ex20 _ _ => ?_)
              have fx20 := ex20.trans (rfl)
              have yx20 : 1 ≤ x20 ∧ x20 + ((i10 - a3)) ≤ a4 - a3 := (by have q1 := hinv.1 ((i10 - a3)).toNat (by omega) (by omega); omega)
              refine A_iastorek (KR := kM (pm [65, 66, 85] [225, 226, 227]) h) d_MD_run_155 (mi_s k12.1 sf_225) (by omega) (by omega) (kM_i k12 (by decide) rfl (mr_225 _) (by omega) (by omega)) (fun h21 k22 eh21 => ?_)
              refine A_pc (pc' := 156) rfl ?_
              refine A_aload_n 0 d_MD_run_156 rfl rfl ?_
              refine A_dupR d_MD_run_157 ?_
              refine A_getIv (z := sd13) T_ok d_MD_run_158 f_MD_474 (mi_s k22.1 sf_170) ((eh21.1 _ _ (fun q => absurd q (by decide))).trans esd13.symm) ?_
              refine A_iconst d_MD_run_161 rfl ?_
              refine A_iaddv (z := (sd13 + 1)) d_MD_run_162 (w32_to (by omega) (by unfold i32; omega)) ?_
              refine A_putIk (KR := kM (pm [65, 66, 85] [225, 226, 227]) h) T_ok d_MD_run_163 f_MD_474 (mi_s k22.1 sf_170) fin_f (kM_i k22 (by decide) (by decide) mr_170_85 (by omega) (by omega)) (fun h24 k25 eh24 => ?_)
              refine A_pc (pc' := 166) rfl ?_
              refine A_iload d_MD_run_166 rfl ?_
              refine A_aload_n 0 d_MD_run_168 rfl rfl ?_
              refine A_getAv (z := some 227) T_ok d_MD_run_169 f_MD_184 (mi_s k25.1 sf_170) (mi_r k25.1 rfm_88) ?_
              refine A_iload d_MD_run_172 rfl ?_
              refine A_iload_n 3 d_MD_run_174 rfl rfl ?_
              refine A_isubv (z := (i10 - a3)) d_MD_run_175 (w32_to (by omega) (by unfold i32; omega)) ?_
              refine A_pc (pc' := 176) rfl ?_
              refine A_ialoadv (z := x20) d_MD_run_176 (mi_s k25.1 sf_227) (by omega) (by omega) ((eh24.1 _ _ (fun q => absurd q (by decide))).trans ((eh21.1 _ _ (fun q => absurd q (by decide))).trans ex20.symm)) ?_
              refine A_iaddv (z := (i10 + x20)) d_MD_run_177 (w32_to (by omega) (by unfold i32; omega)) ?_
              refine A_istore (L' := [some (av_R (some 170)), some (av_I a1), some (av_I a2), some (av_I a3), some (av_I a4), some (av_I (i10 + x20)), none, none, none]) d_MD_run_178 (Nat.le_of_ble_eq_true rfl) rfl ?_
              refine A_goto (tgt := 131) d_MD_run_180 (by decide) ?_
              exact ih131 (i10 + x20) h24 (by omega) (by omega) ⟨fun j h1 h2 => by rw [((eh24.1 227 j (fun q => absurd q (by decide))).trans (eh21.1 227 j (fun q => absurd q (by decide))))]; exact hinv.1 j h1 h2, by have q1 := hinv.2; have qq0 := eh24.2.1; omega, by have qq0 := eh24.2.1; omega, by omega, by omega⟩ k25 (by omega)
        exact lp131 _ a3 h6 (by omega) (by omega) ⟨fun j h1 h2 => by have q1 := hinv.1 j (by omega) h2; exact q1, by have q1 := hinv.2; have qq0 := esd8.symm; omega, by have qq0 := esd8.symm; omega, by omega, by omega⟩ k7 (Nat.lt_succ_self _)
      · have hinvO := hinv
        refine A_bipush d_MD_run_22 rfl ?_
        refine A_istore (L' := [some (av_R (some 170)), some (av_I a1), some (av_I a2), some (av_I a3), some (av_I a4), some (av_I i5), some (av_I (-2)), none, none]) d_MD_run_24 (Nat.le_of_ble_eq_true rfl) rfl ?_
        refine A_iconst d_MD_run_26 rfl ?_
        refine A_istore (L' := [some (av_R (some 170)), some (av_I a1), some (av_I a2), some (av_I a3), some (av_I a4), some (av_I i5), some (av_I (-2)), some (av_I 1), none]) d_MD_run_27 (Nat.le_of_ble_eq_true rfl) rfl ?_
        have lp29 : ∀ (n : Nat) (i28 i29 : Int) (h30 : ah_T) , (-2) ≤ i28 → i28 ≤ 300 → 1 ≤ i29 → i29 ≤ 7 → (((i29 = 1 ∧ i28 = -2) ∨ (2 ≤ i29 ∧ 1 ≤ i28 ∧ i28 + i5 ≤ a4)) ∧ h30.2.1 227 = h6.2.1 227 ∧ h30.2.1 170 85 = h6.2.1 170 85) → kM (pm [65, 66, 85] [225, 226, 227]) h h30 → (8 - i29).toNat < n → aw G (rm_R 4 0 0) m_MD_run 0 0 29 [some (av_R (some 170)), some (av_I a1), some (av_I a2), some (av_I a3), some (av_I a4), some (av_I i5), some (av_I i28), some (av_I i29), none] [] h30 (fun r h' => ∃ z, r = some (av_I z) ∧ ((-2147483648) ≤ z ∧ z ≤ 2147483647) ∧ (h'.2.1 170 85 ≤ h.2.1 170 85 + (a4 - a3)) ∧ kM (pm [65, 66, 85] [225, 226, 227]) h h') := by
          intro n
          induction n with
          | zero => intro i28 i29 h30 _ _ _ _ _ _ hm; omega
          | succ n ih29 =>
            intro i28 i29 h30 hl0 hl1 hl2 hl3 hinv k31 hm
            obtain ⟨sd32, esd32⟩ : ∃ x, x = h30.2.1 170 85 := ⟨_, rfl⟩
            have rsd32 : 0 ≤ sd32 ∧ sd32 ≤ 16 := (by rw [esd32]; exact mi_g k31.1 (by decide) mr_170_85)
            refine A_iload d_MD_run_29 rfl ?_
            refine A_bipush d_MD_run_31 rfl ?_
            refine A_icmp_gt (tgt := 111) d_MD_run_33 (by decide) (fun c33 => ?_) (fun c33 => ?_)
            · have yb := hinv.1
              have yc : 1 ≤ i28 ∧ i28 + i5 ≤ a4 := (by have q1 := hinvO.2.2; omega)
              refine A_aload_n 0 d_MD_run_111 rfl rfl ?_
              refine A_getAv (z := some 227) T_ok d_MD_run_112 f_MD_184 (mi_s k31.1 sf_170) (mi_r k31.1 rfm_88) ?_
              refine A_iload d_MD_run_115 rfl ?_
              refine A_iload_n 3 d_MD_run_117 rfl rfl ?_
              refine A_isubv (z := (i5 - a3)) d_MD_run_118 (w32_to (by omega) (by unfold i32; omega)) ?_
              refine A_pc (pc' := 119) rfl ?_
              refine A_iload d_MD_run_119 rfl ?_
              refine A_iastorek (KR := kM (pm [65, 66, 85] [225, 226, 227]) h) d_MD_run_121 (mi_s k31.1 sf_227) (by omega) (by omega) (kM_i k31 (by decide) rfl (mr_227 _) (by omega) (by omega)) (fun h35 k36 eh35 => ?_)
              refine A_iincv (z := (i5 - 1)) (L' := [some (av_R (some 170)), some (av_I a1), some (av_I a2), some (av_I a3), some (av_I a4), some (av_I (i5 - 1)), some (av_I i28), some (av_I i29), none]) d_MD_run_122 rfl (w32_to (by omega) (by unfold i32; omega)) rfl ?_
              refine A_goto (tgt := 16) d_MD_run_125 (by decide) ?_
              refine A_free (L' := [some (av_R (some 170)), some (av_I a1), some (av_I a2), some (av_I a3), some (av_I a4), some (av_I (i5 - 1)), none, none, none]) (And.intro rfl (And.intro rfl (And.intro rfl (And.intro rfl (And.intro rfl (And.intro rfl trivial)))))) ?_
              exact ih16 (i5 - 1) h35 (by omega) (by omega) ⟨fun j h1 h2 => by by_cases hc : j = ((i5 - a3)).toNat; (have q1 := eh35.2.1; rw [← hc] at q1; omega); (have q1 := ((eh35.1 227 j (fun _ => hc)).trans (congrFun hinv.2.1 j)); rw [q1]; exact hinvO.1 j (by omega) h2), (((eh35.1 170 85 (fun q => absurd q (by decide))).trans hinv.2.2)).trans hinvO.2.1, by have q1 := hinvO.2.2; omega⟩ k36 (by omega)
            · refine A_iload d_MD_run_36 rfl ?_
              refine A_iload d_MD_run_38 rfl ?_
              refine A_iaddv (z := (i5 + i29)) d_MD_run_40 (w32_to (by omega) (by unfold i32; omega)) ?_
              refine A_iload d_MD_run_41 rfl ?_
              refine A_icmp_gt (tgt := 111) d_MD_run_43 (by decide) (fun c37 => ?_) (fun c37 => ?_)
              · have yb := hinv.1
                have yc : 1 ≤ i28 ∧ i28 + i5 ≤ a4 := (by have q1 := hinvO.2.2; omega)
                refine A_aload_n 0 d_MD_run_111 rfl rfl ?_
                refine A_getAv (z := some 227) T_ok d_MD_run_112 f_MD_184 (mi_s k31.1 sf_170) (mi_r k31.1 rfm_88) ?_
                refine A_iload d_MD_run_115 rfl ?_
                refine A_iload_n 3 d_MD_run_117 rfl rfl ?_
                refine A_isubv (z := (i5 - a3)) d_MD_run_118 (w32_to (by omega) (by unfold i32; omega)) ?_
                refine A_pc (pc' := 119) rfl ?_
                refine A_iload d_MD_run_119 rfl ?_
                refine A_iastorek (KR := kM (pm [65, 66, 85] [225, 226, 227]) h) d_MD_run_121 (mi_s k31.1 sf_227) (by omega) (by omega) (kM_i k31 (by decide) rfl (mr_227 _) (by omega) (by omega)) (fun h39 k40 eh39 => ?_)
                refine A_iincv (z := (i5 - 1)) (L' := [some (av_R (some 170)), some (av_I a1), some (av_I a2), some (av_I a3), some (av_I a4), some (av_I (i5 - 1)), some (av_I i28), some (av_I i29), none]) d_MD_run_122 rfl (w32_to (by omega) (by unfold i32; omega)) rfl ?_
                refine A_goto (tgt := 16) d_MD_run_125 (by decide) ?_
                refine A_free (L' := [some (av_R (some 170)), some (av_I a1), some (av_I a2), some (av_I a3), some (av_I a4), some (av_I (i5 - 1)), none, none, none]) (And.intro rfl (And.intro rfl (And.intro rfl (And.intro rfl (And.intro rfl (And.intro rfl trivial)))))) ?_
                exact ih16 (i5 - 1) h39 (by omega) (by omega) ⟨fun j h1 h2 => by by_cases hc : j = ((i5 - a3)).toNat; (have q1 := eh39.2.1; rw [← hc] at q1; omega); (have q1 := ((eh39.1 227 j (fun _ => hc)).trans (congrFun hinv.2.1 j)); rw [q1]; exact hinvO.1 j (by omega) h2), (((eh39.1 170 85 (fun q => absurd q (by decide))).trans hinv.2.2)).trans hinvO.2.1, by have q1 := hinvO.2.2; omega⟩ k40 (by omega)
              · refine A_aload_n 0 d_MD_run_46 rfl rfl ?_
                refine A_iload_n 1 d_MD_run_47 rfl rfl ?_
                refine A_iload_n 2 d_MD_run_48 rfl rfl ?_
                refine A_iload d_MD_run_49 rfl ?_
                refine A_iload d_MD_run_51 rfl ?_
                refine A_pc (pc' := 53) rfl ?_
                have zf42 := esd32.symm
                refine A_callV4 m_MD_groupCost T_ok d_MD_run_53 l_MD_545 k_MD_groupCost (mi_s k31.1 sf_170) rfl (by decide +kernel) (by decide) (Nat.le_of_ble_eq_true rfl) (s_MD_groupCost k31.1 (by omega) (by omega) (by omega) (by omega) (by omega) (by omega) (by omega) (by omega) (KS_s hKS k31 (by decide) (fun k => ⟨rfl, rfl⟩) (fun k => ⟨rfl, rfl, rfl, rfl, rfl, rfl⟩)) (by have q1 := k31.2.2.1 172 0 rfl; omega) (by have q1 := k31.2.2.1 186 (a1).toNat rfl; omega) (by have q1 := k31.2.2.1 185 (a1).toNat rfl; omega) (by rw [k31.2.2.1 185 _ rfl]; exact (mi_185 hx _).2)) (fun r h41 hq => ?_)
                obtain ⟨x44, rfl, ⟨_, _⟩, k43⟩ := hq
                have k45 := kM_t k31 k43 (pm_s (by decide) (by decide))
                refine A_aload_n 0 d_MD_run_56 rfl rfl ?_
                refine A_getAv (z := some 226) T_ok d_MD_run_57 f_MD_181 (mi_s k45.1 sf_170) (mi_r k45.1 rfm_87) ?_
                refine A_iload d_MD_run_60 rfl ?_
                refine A_iload d_MD_run_62 rfl ?_
                refine A_iaddv (z := (i5 + i29)) d_MD_run_64 (w32_to (by omega) (by unfold i32; omega)) ?_
                refine A_pc (pc' := 65) rfl ?_
                refine A_iload_n 3 d_MD_run_65 rfl rfl ?_
                refine A_isubv (z := (i5 + i29 - a3)) d_MD_run_66 (w32_to (by omega) (by unfold i32; omega)) ?_
                refine A_ialoadf d_MD_run_67 (mi_s k45.1 sf_226) (by omega) (by omega) (fun x47 ex47 _ _ => ?_)
                refine A_iaddw d_MD_run_68 (fun x48 _ _ _ => ?_)
                refine A_istore (L' := [some (av_R (some 170)), some (av_I a1), some (av_I a2), some (av_I a3), some (av_I a4), some (av_I i5), some (av_I i28), some (av_I i29), some (av_I x48)]) d_MD_run_69 (Nat.le_of_ble_eq_true rfl) rfl ?_
                refine A_iload d_MD_run_71 rfl ?_
                refine A_pc (pc' := 73) rfl ?_
                refine A_if_lt (tgt := 90) d_MD_run_73 (by decide) (fun c49 => ?_) (fun c49 => ?_)
                · refine A_iload d_MD_run_90 rfl ?_
                  refine A_istore (L' := [some (av_R (some 170)), some (av_I a1), some (av_I a2), some (av_I a3), some (av_I a4), some (av_I i5), some (av_I i29), some (av_I i29), some (av_I x48)]) d_MD_run_92 (Nat.le_of_ble_eq_true rfl) rfl ?_
                  refine A_aload_n 0 d_MD_run_94 rfl rfl ?_
                  refine A_getAv (z := some 226) T_ok d_MD_run_95 f_MD_181 (mi_s k45.1 sf_170) (mi_r k45.1 rfm_87) ?_
                  refine A_iload d_MD_run_98 rfl ?_
                  refine A_pc (pc' := 100) rfl ?_
                  refine A_iload_n 3 d_MD_run_100 rfl rfl ?_
                  refine A_isubv (z := (i5 - a3)) d_MD_run_101 (w32_to (by omega) (by unfold i32; omega)) ?_
                  refine A_iload d_MD_run_102 rfl ?_
                  refine A_iastorek (KR := kM (pm [65, 66, 85] [225, 226, 227]) h) d_MD_run_104 (mi_s k45.1 sf_226) (by omega) (by omega) (kM_i k45 (by decide) rfl (mr_226 _) (by omega) (by omega)) (fun h51 k52 eh51 => ?_)
                  refine A_iincv (z := (i29 + 1)) (L' := [some (av_R (some 170)), some (av_I a1), some (av_I a2), some (av_I a3), some (av_I a4), some (av_I i5), some (av_I i29), some (av_I (i29 + 1)), some (av_I x48)]) d_MD_run_105 rfl (w32_to (by omega) (by unfold i32; omega)) rfl ?_
                  refine A_goto (tgt := 29) d_MD_run_108 (by decide) ?_
                  refine A_free (L' := [some (av_R (some 170)), some (av_I a1), some (av_I a2), some (av_I a3), some (av_I a4), some (av_I i5), some (av_I i29), some (av_I (i29 + 1)), none]) (And.intro rfl (And.intro rfl (And.intro rfl (And.intro rfl (And.intro rfl (And.intro rfl (And.intro rfl (And.intro rfl trivial)))))))) ?_
                  exact ih29 i29 (i29 + 1) h51 (by omega) (by omega) (by omega) (by omega) ⟨by have q0 := hinv.1; omega, (funext (fun k => ((eh51.1 227 k (fun q => absurd q (by decide))).trans ((k43.2.2.1 227 k rfl).trans (congrFun hinv.2.1 k))))), ((eh51.1 170 85 (fun q => absurd q (by decide))).trans ((k43.2.2.1 170 85 rfl).trans hinv.2.2))⟩ k52 (by omega)
                · refine A_iload d_MD_run_76 rfl ?_
                  refine A_aload_n 0 d_MD_run_78 rfl rfl ?_
                  refine A_getAv (z := some 226) T_ok d_MD_run_79 f_MD_181 (mi_s k45.1 sf_170) (mi_r k45.1 rfm_87) ?_
                  refine A_iload d_MD_run_82 rfl ?_
                  refine A_iload_n 3 d_MD_run_84 rfl rfl ?_
                  refine A_pc (pc' := 85) rfl ?_
                  refine A_isubv (z := (i5 - a3)) d_MD_run_85 (w32_to (by omega) (by unfold i32; omega)) ?_
                  refine A_ialoadf d_MD_run_86 (mi_s k45.1 sf_226) (by omega) (by omega) (fun x54 ex54 _ _ => ?_)
                  refine A_icmp_gt (tgt := 105) d_MD_run_87 (by decide) (fun c55 => ?_) (fun c55 => ?_)
                  · refine A_iincv (z := (i29 + 1)) (L' := [some (av_R (some 170)), some (av_I a1), some (av_I a2), some (av_I a3), some (av_I a4), some (av_I i5), some (av_I i28), some (av_I (i29 + 1)), some (av_I x48)]) d_MD_run_105 rfl (w32_to (by omega) (by unfold i32; omega)) rfl ?_
                    refine A_goto (tgt := 29) d_MD_run_108 (by decide) ?_
                    refine A_free (L' := [some (av_R (some 170)), some (av_I a1), some (av_I a2), some (av_I a3), some (av_I a4), some (av_I i5), some (av_I i28), some (av_I (i29 + 1)), none]) (And.intro rfl (And.intro rfl (And.intro rfl (And.intro rfl (And.intro rfl (And.intro rfl (And.intro rfl (And.intro rfl trivial)))))))) ?_
                    exact ih29 i28 (i29 + 1) h41 (by omega) (by omega) (by omega) (by omega) ⟨by have q0 := hinv.1; omega, (funext (fun k => ((k43.2.2.1 227 k rfl).trans (congrFun hinv.2.1 k)))), ((k43.2.2.1 170 85 rfl).trans hinv.2.2)⟩ k45 (by omega)
                  · refine A_iload d_MD_run_90 rfl ?_
                    refine A_istore (L' := [some (av_R (some 170)), some (av_I a1), some (av_I a2), some (av_I a3), some (av_I a4), some (av_I i5), some (av_I i29), some (av_I i29), some (av_I x48)]) d_MD_run_92 (Nat.le_of_ble_eq_true rfl) rfl ?_
                    refine A_aload_n 0 d_MD_run_94 rfl rfl ?_
                    refine A_getAv (z := some 226) T_ok d_MD_run_95 f_MD_181 (mi_s k45.1 sf_170) (mi_r k45.1 rfm_87) ?_
                    refine A_iload d_MD_run_98 rfl ?_
                    refine A_pc (pc' := 100) rfl ?_
                    refine A_iload_n 3 d_MD_run_100 rfl rfl ?_
                    refine A_isubv (z := (i5 - a3)) d_MD_run_101 (w32_to (by omega) (by unfold i32; omega)) ?_
                    refine A_iload d_MD_run_102 rfl ?_
                    refine A_iastorek (KR := kM (pm [65, 66, 85] [225, 226, 227]) h) d_MD_run_104 (mi_s k45.1 sf_226) (by omega) (by omega) (kM_i k45 (by decide) rfl (mr_226 _) (by omega) (by omega)) (fun h57 k58 eh57 => ?_)
                    refine A_iincv (z := (i29 + 1)) (L' := [some (av_R (some 170)), some (av_I a1), some (av_I a2), some (av_I a3), some (av_I a4), some (av_I i5), some (av_I i29), some (av_I (i29 + 1)), some (av_I x48)]) d_MD_run_105 rfl (w32_to (by omega) (by unfold i32; omega)) rfl ?_
                    refine A_goto (tgt := 29) d_MD_run_108 (by decide) ?_
                    refine A_free (L' := [some (av_R (some 170)), some (av_I a1), some (av_I a2), some (av_I a3), some (av_I a4), some (av_I i5), some (av_I i29), some (av_I (i29 + 1)), none]) (And.intro rfl (And.intro rfl (And.intro rfl (And.intro rfl (And.intro rfl (And.intro rfl (And.intro rfl (And.intro rfl trivial)))))))) ?_
                    exact ih29 i29 (i29 + 1) h57 (by omega) (by omega) (by omega) (by omega) ⟨by have q0 := hinv.1; omega, (funext (fun k => ((eh57.1 227 k (fun q => absurd q (by decide))).trans ((k43.2.2.1 227 k rfl).trans (congrFun hinv.2.1 k))))), ((eh57.1 170 85 (fun q => absurd q (by decide))).trans ((k43.2.2.1 170 85 rfl).trans hinv.2.2))⟩ k58 (by omega)
        exact lp29 _ (-2) 1 h6 (by omega) (by omega) (by omega) (by omega) ⟨Or.inl ⟨rfl, rfl⟩, (funext (fun k => rfl)), rfl⟩ k7 (Nat.lt_succ_self _)
  exact lp16 _ (a4 - 1) h3 (by omega) (by omega) ⟨fun j h1 h2 => by omega, (eh3.1 170 85 (fun q => absurd q (by decide))), by omega⟩ k4 (Nat.lt_succ_self _)
