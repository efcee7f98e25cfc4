/-! ===== the reference's methods, 351 ===== -/
def m_MD_beam : mr_T := (⟨"PlainMusicModel", "beam", "(II)I"⟩, prog_14_method_68_code, 9, some .int)
theorem d_MD_beam_0 : decode prog_14_method_68_code 0 = .ok (.aload_n 0, 1) := by decide +kernel
theorem d_MD_beam_1 : decode prog_14_method_68_code 1 = .ok (.iload_n 1, 1) := by decide +kernel
theorem d_MD_beam_2 : decode prog_14_method_68_code 2 = .ok (.invokevirtual 495, 3) := by decide +kernel
theorem d_MD_beam_5 : decode prog_14_method_68_code 5 = .ok (.ifCond .eq 17, 3) := by decide +kernel
theorem d_MD_beam_22 : decode prog_14_method_68_code 22 = .ok (.iconst (-1), 1) := by decide +kernel
theorem d_MD_beam_23 : decode prog_14_method_68_code 23 = .ok (.ireturn, 1) := by decide +kernel
theorem d_MD_beam_8 : decode prog_14_method_68_code 8 = .ok (.iload_n 2, 1) := by decide +kernel
theorem d_MD_beam_9 : decode prog_14_method_68_code 9 = .ok (.ifCond .lt 13, 3) := by decide +kernel
theorem d_MD_beam_12 : decode prog_14_method_68_code 12 = .ok (.iload_n 2, 1) := by decide +kernel
theorem d_MD_beam_13 : decode prog_14_method_68_code 13 = .ok (.aload_n 0, 1) := by decide +kernel
theorem d_MD_beam_14 : decode prog_14_method_68_code 14 = .ok (.getfield 60, 3) := by decide +kernel
theorem d_MD_beam_17 : decode prog_14_method_68_code 17 = .ok (.iload_n 1, 1) := by decide +kernel
theorem d_MD_beam_18 : decode prog_14_method_68_code 18 = .ok (.iaload, 1) := by decide +kernel
theorem d_MD_beam_19 : decode prog_14_method_68_code 19 = .ok (.if_icmp .lt 5, 3) := by decide +kernel
theorem d_MD_beam_24 : decode prog_14_method_68_code 24 = .ok (.aload_n 0, 1) := by decide +kernel
theorem d_MD_beam_25 : decode prog_14_method_68_code 25 = .ok (.iload_n 1, 1) := by decide +kernel
theorem d_MD_beam_26 : decode prog_14_method_68_code 26 = .ok (.iload_n 2, 1) := by decide +kernel
theorem d_MD_beam_27 : decode prog_14_method_68_code 27 = .ok (.invokevirtual 504, 3) := by decide +kernel
theorem d_MD_beam_30 : decode prog_14_method_68_code 30 = .ok (.istore_n 3, 1) := by decide +kernel
theorem d_MD_beam_31 : decode prog_14_method_68_code 31 = .ok (.aload_n 0, 1) := by decide +kernel
theorem d_MD_beam_32 : decode prog_14_method_68_code 32 = .ok (.iload_n 1, 1) := by decide +kernel
theorem d_MD_beam_33 : decode prog_14_method_68_code 33 = .ok (.iload_n 2, 1) := by decide +kernel
theorem d_MD_beam_34 : decode prog_14_method_68_code 34 = .ok (.iconst 1, 1) := by decide +kernel
theorem d_MD_beam_35 : decode prog_14_method_68_code 35 = .ok (.iadd, 1) := by decide +kernel
theorem d_MD_beam_36 : decode prog_14_method_68_code 36 = .ok (.invokevirtual 504, 3) := by decide +kernel
theorem d_MD_beam_39 : decode prog_14_method_68_code 39 = .ok (.istore 4, 2) := by decide +kernel
theorem d_MD_beam_41 : decode prog_14_method_68_code 41 = .ok (.iconst 0, 1) := by decide +kernel
theorem d_MD_beam_42 : decode prog_14_method_68_code 42 = .ok (.istore 5, 2) := by decide +kernel
theorem d_MD_beam_44 : decode prog_14_method_68_code 44 = .ok (.iload_n 3, 1) := by decide +kernel
theorem d_MD_beam_45 : decode prog_14_method_68_code 45 = .ok (.istore 6, 2) := by decide +kernel
theorem d_MD_beam_47 : decode prog_14_method_68_code 47 = .ok (.iload 6, 2) := by decide +kernel
theorem d_MD_beam_49 : decode prog_14_method_68_code 49 = .ok (.iload 4, 2) := by decide +kernel
theorem d_MD_beam_51 : decode prog_14_method_68_code 51 = .ok (.if_icmp .ge 34, 3) := by decide +kernel
theorem d_MD_beam_85 : decode prog_14_method_68_code 85 = .ok (.iload 5, 2) := by decide +kernel
theorem d_MD_beam_87 : decode prog_14_method_68_code 87 = .ok (.bipush 14, 2) := by decide +kernel
theorem d_MD_beam_89 : decode prog_14_method_68_code 89 = .ok (.if_icmp .le 6, 3) := by decide +kernel
theorem d_MD_beam_95 : decode prog_14_method_68_code 95 = .ok (.aload_n 0, 1) := by decide +kernel
theorem d_MD_beam_96 : decode prog_14_method_68_code 96 = .ok (.iconst 0, 1) := by decide +kernel
theorem d_MD_beam_97 : decode prog_14_method_68_code 97 = .ok (.putfield 474, 3) := by decide +kernel
theorem d_MD_beam_100 : decode prog_14_method_68_code 100 = .ok (.iconst 0, 1) := by decide +kernel
theorem d_MD_beam_101 : decode prog_14_method_68_code 101 = .ok (.istore 6, 2) := by decide +kernel
theorem d_MD_beam_103 : decode prog_14_method_68_code 103 = .ok (.iload_n 3, 1) := by decide +kernel
theorem d_MD_beam_104 : decode prog_14_method_68_code 104 = .ok (.istore 7, 2) := by decide +kernel
theorem d_MD_beam_106 : decode prog_14_method_68_code 106 = .ok (.iload 7, 2) := by decide +kernel
theorem d_MD_beam_108 : decode prog_14_method_68_code 108 = .ok (.iload 4, 2) := by decide +kernel
theorem d_MD_beam_110 : decode prog_14_method_68_code 110 = .ok (.if_icmp .ge 70, 3) := by decide +kernel
theorem d_MD_beam_180 : decode prog_14_method_68_code 180 = .ok (.iload 6, 2) := by decide +kernel
theorem d_MD_beam_182 : decode prog_14_method_68_code 182 = .ok (.ireturn, 1) := by decide +kernel
theorem d_MD_beam_113 : decode prog_14_method_68_code 113 = .ok (.iload 7, 2) := by decide +kernel
theorem d_MD_beam_115 : decode prog_14_method_68_code 115 = .ok (.istore 8, 2) := by decide +kernel
theorem d_MD_beam_117 : decode prog_14_method_68_code 117 = .ok (.iload 8, 2) := by decide +kernel
theorem d_MD_beam_119 : decode prog_14_method_68_code 119 = .ok (.iload 4, 2) := by decide +kernel
theorem d_MD_beam_121 : decode prog_14_method_68_code 121 = .ok (.if_icmp .ge 24, 3) := by decide +kernel
theorem d_MD_beam_145 : decode prog_14_method_68_code 145 = .ok (.iload 8, 2) := by decide +kernel
theorem d_MD_beam_147 : decode prog_14_method_68_code 147 = .ok (.iload 7, 2) := by decide +kernel
theorem d_MD_beam_149 : decode prog_14_method_68_code 149 = .ok (.if_icmp .le 25, 3) := by decide +kernel
theorem d_MD_beam_152 : decode prog_14_method_68_code 152 = .ok (.iload 6, 2) := by decide +kernel
theorem d_MD_beam_154 : decode prog_14_method_68_code 154 = .ok (.aload_n 0, 1) := by decide +kernel
theorem d_MD_beam_155 : decode prog_14_method_68_code 155 = .ok (.iload_n 1, 1) := by decide +kernel
theorem d_MD_beam_156 : decode prog_14_method_68_code 156 = .ok (.iload_n 2, 1) := by decide +kernel
theorem d_MD_beam_157 : decode prog_14_method_68_code 157 = .ok (.iload 7, 2) := by decide +kernel
theorem d_MD_beam_159 : decode prog_14_method_68_code 159 = .ok (.iload 8, 2) := by decide +kernel
theorem d_MD_beam_161 : decode prog_14_method_68_code 161 = .ok (.invokevirtual 541, 3) := by decide +kernel
theorem k_MD_run : mt_OK m_MD_run 4 1 := ⟨gwi_2097, gwi_146, ⟨by decide +kernel, by decide +kernel, by decide +kernel⟩, fun h => absurd h (by decide), fun _ => ⟨gwi_2096, gwi_116⟩, fun h => absurd h (by decide)⟩
theorem l_MD_541 : ml_OK "PlainMusicModel" 541 ⟨"PlainMusicModel", "run", "(IIII)I"⟩ := Or.inl gwi_2094
theorem d_MD_beam_164 : decode prog_14_method_68_code 164 = .ok (.iadd, 1) := by decide +kernel
theorem d_MD_beam_165 : decode prog_14_method_68_code 165 = .ok (.istore 6, 2) := by decide +kernel
theorem d_MD_beam_167 : decode prog_14_method_68_code 167 = .ok (.iload 8, 2) := by decide +kernel
theorem d_MD_beam_169 : decode prog_14_method_68_code 169 = .ok (.istore 7, 2) := by decide +kernel
theorem d_MD_beam_171 : decode prog_14_method_68_code 171 = .ok (.goto 6, 3) := by decide +kernel
theorem d_MD_beam_177 : decode prog_14_method_68_code 177 = .ok (.goto (-71), 3) := by decide +kernel
theorem d_MD_beam_124 : decode prog_14_method_68_code 124 = .ok (.aload_n 0, 1) := by decide +kernel
theorem d_MD_beam_125 : decode prog_14_method_68_code 125 = .ok (.sipush 300, 3) := by decide +kernel
theorem d_MD_beam_128 : decode prog_14_method_68_code 128 = .ok (.iload_n 1, 1) := by decide +kernel
theorem d_MD_beam_129 : decode prog_14_method_68_code 129 = .ok (.imul, 1) := by decide +kernel
theorem d_MD_beam_130 : decode prog_14_method_68_code 130 = .ok (.iload 8, 2) := by decide +kernel
theorem d_MD_beam_132 : decode prog_14_method_68_code 132 = .ok (.iadd, 1) := by decide +kernel
theorem d_MD_beam_133 : decode prog_14_method_68_code 133 = .ok (.invokevirtual 538, 3) := by decide +kernel
theorem k_MD_isShort : mt_OK m_MD_isShort 1 1 := ⟨gwi_2093, gwi_146, ⟨by decide +kernel, by decide +kernel, by decide +kernel⟩, fun h => absurd h (by decide), fun _ => ⟨gwi_2092, gwi_115⟩, fun h => absurd h (by decide)⟩
theorem l_MD_538 : ml_OK "PlainMusicModel" 538 ⟨"PlainMusicModel", "isShort", "(I)Z"⟩ := Or.inl gwi_2090
theorem d_MD_beam_136 : decode prog_14_method_68_code 136 = .ok (.ifCond .eq 9, 3) := by decide +kernel
theorem d_MD_beam_174 : decode prog_14_method_68_code 174 = .ok (.iinc 7 1, 3) := by decide +kernel
theorem d_MD_beam_139 : decode prog_14_method_68_code 139 = .ok (.iinc 8 1, 3) := by decide +kernel
theorem d_MD_beam_142 : decode prog_14_method_68_code 142 = .ok (.goto (-25), 3) := by decide +kernel
theorem d_MD_beam_92 : decode prog_14_method_68_code 92 = .ok (.bipush (-4), 2) := by decide +kernel
theorem d_MD_beam_94 : decode prog_14_method_68_code 94 = .ok (.ireturn, 1) := by decide +kernel
theorem d_MD_beam_54 : decode prog_14_method_68_code 54 = .ok (.iload 5, 2) := by decide +kernel
theorem d_MD_beam_56 : decode prog_14_method_68_code 56 = .ok (.aload_n 0, 1) := by decide +kernel
theorem d_MD_beam_57 : decode prog_14_method_68_code 57 = .ok (.sipush 300, 3) := by decide +kernel
theorem d_MD_beam_60 : decode prog_14_method_68_code 60 = .ok (.iload_n 1, 1) := by decide +kernel
theorem d_MD_beam_61 : decode prog_14_method_68_code 61 = .ok (.imul, 1) := by decide +kernel
theorem d_MD_beam_62 : decode prog_14_method_68_code 62 = .ok (.iload 6, 2) := by decide +kernel
theorem d_MD_beam_64 : decode prog_14_method_68_code 64 = .ok (.iadd, 1) := by decide +kernel
theorem d_MD_beam_65 : decode prog_14_method_68_code 65 = .ok (.invokevirtual 538, 3) := by decide +kernel
theorem d_MD_beam_68 : decode prog_14_method_68_code 68 = .ok (.ifCond .eq 7, 3) := by decide +kernel
theorem d_MD_beam_75 : decode prog_14_method_68_code 75 = .ok (.iconst 0, 1) := by decide +kernel
theorem d_MD_beam_76 : decode prog_14_method_68_code 76 = .ok (.iadd, 1) := by decide +kernel
theorem d_MD_beam_77 : decode prog_14_method_68_code 77 = .ok (.istore 5, 2) := by decide +kernel
theorem d_MD_beam_79 : decode prog_14_method_68_code 79 = .ok (.iinc 6 1, 3) := by decide +kernel
theorem d_MD_beam_82 : decode prog_14_method_68_code 82 = .ok (.goto (-35), 3) := by decide +kernel
theorem d_MD_beam_71 : decode prog_14_method_68_code 71 = .ok (.iconst 1, 1) := by decide +kernel
theorem d_MD_beam_72 : decode prog_14_method_68_code 72 = .ok (.goto 4, 3) := by decide +kernel
theorem s_MD_beam {G : cx_T} {h : ah_T} (hx : mi h) {a1 : Int} {a2 : Int} (hKS : KS h) : con G 5 0 0 m_MD_beam [av_R (some 170), av_I a1, av_I a2] h (fun r h' => ∃ z, r = some (av_I z) ∧ ((-2147483648) ≤ z ∧ z ≤ 2147483647) ∧ kM (pm [65, 66, 85] [225, 226, 227]) h h') := by
  refine con_of (L := [some (av_R (some 170)), some (av_I a1), some (av_I a2), none, none, none, none, none, none]) (by decide +kernel) (Nat.le_of_ble_eq_true rfl) rfl ?_
  have k0 : kM (pm [65, 66, 85] [225, 226, 227]) h h := kM_0 hx
  obtain ⟨sd1, esd1⟩ : ∃ x, x = h.2.1 170 85 := ⟨_, rfl⟩
  have rsd1 : 0 ≤ sd1 ∧ sd1 ≤ 16 := (by rw [esd1]; exact mi_g k0.1 (by decide) mr_170_85)
  refine A_locI 1 rfl (fun ra => ?_)
  obtain ⟨_, _⟩ := ra
  refine A_locI 2 rfl (fun ra => ?_)
  obtain ⟨_, _⟩ := ra
  refine A_aload_n 0 d_MD_beam_0 rfl rfl ?_
  refine A_iload_n 1 d_MD_beam_1 rfl rfl ?_
  have zf3 := esd1.symm
  refine A_callV1 m_MD_isVoice T_ok d_MD_beam_2 l_MD_495 k_MD_isVoice (mi_s k0.1 sf_170) rfl (by decide +kernel) (by decide) (Nat.le_of_ble_eq_true rfl) (s_MD_isVoice k0.1 ) (fun r h2 hq => ?_)
  obtain ⟨x5, rfl, bx5, xx5, rfl⟩ := hq
  refine A_if_eq (tgt := 22) d_MD_beam_5 (by decide) (fun c6 => ?_) (fun c6 => ?_)
  · refine A_iconst d_MD_beam_22 rfl ?_
    exact A_iret d_MD_beam_23 (by decide) rfl ⟨_, rfl, ⟨by omega, by omega⟩, k0⟩
  · refine A_iload_n 2 d_MD_beam_8 rfl rfl ?_
    refine A_if_lt (tgt := 22) d_MD_beam_9 (by decide) (fun c7 => ?_) (fun c7 => ?_)
    · refine A_iconst d_MD_beam_22 rfl ?_
      exact A_iret d_MD_beam_23 (by decide) rfl ⟨_, rfl, ⟨by omega, by omega⟩, k0⟩
    · refine A_iload_n 2 d_MD_beam_12 rfl rfl ?_
      refine A_aload_n 0 d_MD_beam_13 rfl rfl ?_
      refine A_getAv (z := some 186) T_ok d_MD_beam_14 f_MD_60 (mi_s k0.1 sf_170) (mi_r k0.1 rfm_28) ?_
      refine A_iload_n 1 d_MD_beam_17 rfl rfl ?_
      refine A_ialoadn (lo := 0) (hi := 101) d_MD_beam_18 (mi_s k0.1 sf_186) (by omega) (by omega) (mi_g k0.1 (by decide) (mr_186 _)) (fun x9 ex9 _ _ => ?_)
      refine A_pc (pc' := 19) rfl ?_
      refine A_icmp_lt (tgt := 24) d_MD_beam_19 (by decide) (fun c10 => ?_) (fun c10 => ?_)
      · have yv : 0 ≤ a1 ∧ a1 ≤ 3 ∧ a1 < h.2.1 172 0 := (by omega)
        refine A_aload_n 0 d_MD_beam_24 rfl rfl ?_
        refine A_iload_n 1 d_MD_beam_25 rfl rfl ?_
        refine A_iload_n 2 d_MD_beam_26 rfl rfl ?_
        have zf12 := esd1.symm
        refine A_callV2 m_MD_firstOf T_ok d_MD_beam_27 l_MD_504 k_MD_firstOf (mi_s k0.1 sf_170) rfl (by decide +kernel) (by decide) (Nat.le_of_ble_eq_true rfl) (s_MD_firstOf k0.1 (by omega) (by omega)) (fun r h11 hq => ?_)
        obtain ⟨x14, rfl, ⟨_, _⟩, xx14, rfl⟩ := hq
        refine A_istore_n 3 (L' := [some (av_R (some 170)), some (av_I a1), some (av_I a2), some (av_I x14), none, none, none, none, none]) d_MD_beam_30 rfl (Nat.le_of_ble_eq_true rfl) rfl ?_
        refine A_aload_n 0 d_MD_beam_31 rfl rfl ?_
        refine A_iload_n 1 d_MD_beam_32 rfl rfl ?_
        refine A_iload_n 2 d_MD_beam_33 rfl rfl ?_
        refine A_iconst d_MD_beam_34 rfl ?_
        refine A_pc (pc' := 35) rfl ?_
        refine A_iaddv (z := (a2 + 1)) d_MD_beam_35 (w32_to (by omega) (by unfold i32; omega)) ?_
        have zf16 := esd1.symm
        refine A_callV2 m_MD_firstOf T_ok d_MD_beam_36 l_MD_504 k_MD_firstOf (mi_s k0.1 sf_170) rfl (by decide +kernel) (by decide) (Nat.le_of_ble_eq_true rfl) (s_MD_firstOf k0.1 (by omega) (by omega)) (fun r h15 hq => ?_)
        obtain ⟨x18, rfl, ⟨_, _⟩, xx18, rfl⟩ := hq
        refine A_istore (L' := [some (av_R (some 170)), some (av_I a1), some (av_I a2), some (av_I x14), some (av_I x18), none, none, none, none]) d_MD_beam_39 (Nat.le_of_ble_eq_true rfl) rfl ?_
        have yfo : FO h a1 (a2 + 1) x18 := xx18
        refine A_iconst d_MD_beam_41 rfl ?_
        refine A_istore (L' := [some (av_R (some 170)), some (av_I a1), some (av_I a2), some (av_I x14), some (av_I x18), some (av_I 0), none, none, none]) d_MD_beam_42 (Nat.le_of_ble_eq_true rfl) rfl ?_
        refine A_iload_n 3 d_MD_beam_44 rfl rfl ?_
        refine A_istore (L' := [some (av_R (some 170)), some (av_I a1), some (av_I a2), some (av_I x14), some (av_I x18), some (av_I 0), some (av_I x14), none, none]) d_MD_beam_45 (Nat.le_of_ble_eq_true rfl) rfl ?_
        have lp47 : ∀ (n : Nat) (i19 i20 : Int) , 0 ≤ i19 → i19 ≤ 300 → 0 ≤ i20 → i20 ≤ 300 → (i19 = SN h (300 * a1 + i20).toNat - SN h (300 * a1 + x14).toNat ∧ x14 ≤ i20 ∧ (i20 ≤ x18 ∨ i20 = x14) ∧ 0 ≤ i19 ∧ i19 ≤ i20) → (301 - i20).toNat < n → aw G (rm_R 5 0 0) m_MD_beam 0 0 47 [some (av_R (some 170)), some (av_I a1), some (av_I a2), some (av_I x14), some (av_I x18), some (av_I i19), some (av_I i20), none, none] [] h (fun r h' => ∃ z, r = some (av_I z) ∧ ((-2147483648) ≤ z ∧ z ≤ 2147483647) ∧ kM (pm [65, 66, 85] [225, 226, 227]) h h') := by
          intro n
          induction n with
          | zero => intro i19 i20 _ _ _ _ _ hm; omega
          | succ n ih47 =>
            intro i19 i20 hl0 hl1 hl2 hl3 hinv hm
            refine A_iload d_MD_beam_47 rfl ?_
            refine A_iload d_MD_beam_49 rfl ?_
            refine A_icmp_ge (tgt := 85) d_MD_beam_51 (by decide) (fun c21 => ?_) (fun c21 => ?_)
            · refine A_iload d_MD_beam_85 rfl ?_
              refine A_bipush d_MD_beam_87 rfl ?_
              refine A_icmp_le (tgt := 95) d_MD_beam_89 (by decide) (fun c22 => ?_) (fun c22 => ?_)
              · have ys : x14 ≤ x18 → SN h (300 * a1 + x18).toNat - SN h (300 * a1 + x14).toNat ≤ 14 := (fun q => by have q0 := hinv; have q1 : i20 = x18 := (by omega); rw [q1] at q0; omega)
                refine A_aload_n 0 d_MD_beam_95 rfl rfl ?_
                refine A_iconst d_MD_beam_96 rfl ?_
                refine A_putIk (KR := kM (pm [65, 66, 85] [225, 226, 227]) h) T_ok d_MD_beam_97 f_MD_474 (mi_s k0.1 sf_170) fin_f (kM_i k0 (by decide) (by decide) mr_170_85 (by omega) (by omega)) (fun h23 k24 eh23 => ?_)
                refine A_iconst d_MD_beam_100 rfl ?_
                refine A_istore (L' := [some (av_R (some 170)), some (av_I a1), some (av_I a2), some (av_I x14), some (av_I x18), some (av_I i19), some (av_I 0), none, none]) d_MD_beam_101 (Nat.le_of_ble_eq_true rfl) rfl ?_
                refine A_pc (pc' := 103) rfl ?_
                refine A_iload_n 3 d_MD_beam_103 rfl rfl ?_
                refine A_istore (L' := [some (av_R (some 170)), some (av_I a1), some (av_I a2), some (av_I x14), some (av_I x18), some (av_I i19), some (av_I 0), some (av_I x14), none]) d_MD_beam_104 (Nat.le_of_ble_eq_true rfl) rfl ?_
                have lp106 : ∀ (n : Nat) (i25 i26 : Int) (h27 : ah_T) , (-2147483648) ≤ i25 → i25 ≤ 2147483647 → 0 ≤ i26 → i26 ≤ 300 → (h27.2.1 170 85 ≤ SN h (300 * a1 + i26).toNat - SN h (300 * a1 + x14).toNat ∧ x14 ≤ i26 ∧ (i26 ≤ x18 ∨ i26 = x14) ∧ 0 ≤ h27.2.1 170 85) → kM (pm [65, 66, 85] [225, 226, 227]) h h27 → (301 - i26).toNat < n → aw G (rm_R 5 0 0) m_MD_beam 0 0 106 [some (av_R (some 170)), some (av_I a1), some (av_I a2), some (av_I x14), some (av_I x18), some (av_I i19), some (av_I i25), some (av_I i26), none] [] h27 (fun r h' => ∃ z, r = some (av_I z) ∧ ((-2147483648) ≤ z ∧ z ≤ 2147483647) ∧ kM (pm [65, 66, 85] [225, 226, 227]) h h') := by
                  intro n
                  induction n with
                  | zero => intro i25 i26 h27 _ _ _ _ _ _ hm; omega
                  | succ n ih106 =>
                    intro i25 i26 h27 hl0 hl1 hl2 hl3 hinv k28 hm
                    obtain ⟨sd29, esd29⟩ : ∃ x, x = h27.2.1 170 85 := ⟨_, rfl⟩
                    have rsd29 : 0 ≤ sd29 ∧ sd29 ≤ 16 := (by rw [esd29]; exact mi_g k28.1 (by decide) mr_170_85)
                    refine A_iload d_MD_beam_106 rfl ?_
                    refine A_iload d_MD_beam_108 rfl ?_
                    refine A_icmp_ge (tgt := 180) d_MD_beam_110 (by decide) (fun c30 => ?_) (fun c30 => ?_)
                    · refine A_iload d_MD_beam_180 rfl ?_
                      exact A_iret d_MD_beam_182 (by decide) rfl ⟨_, rfl, ⟨by omega, by omega⟩, k28⟩
                    · have hinvO := hinv
                      refine A_iload d_MD_beam_113 rfl ?_
                      refine A_istore (L' := [some (av_R (some 170)), some (av_I a1), some (av_I a2), some (av_I x14), some (av_I x18), some (av_I i19), some (av_I i25), some (av_I i26), some (av_I i26)]) d_MD_beam_115 (Nat.le_of_ble_eq_true rfl) rfl ?_
                      have lp117 : ∀ (n : Nat) (i31 : Int) , 0 ≤ i31 → i31 ≤ 300 → (i26 ≤ i31 ∧ i31 ≤ x18 ∧ SN h (300 * a1 + i31).toNat - SN h (300 * a1 + i26).toNat = i31 - i26) → (301 - i31).toNat < n → aw G (rm_R 5 0 0) m_MD_beam 0 0 117 [some (av_R (some 170)), some (av_I a1), some (av_I a2), some (av_I x14), some (av_I x18), some (av_I i19), some (av_I i25), some (av_I i26), some (av_I i31)] [] h27 (fun r h' => ∃ z, r = some (av_I z) ∧ ((-2147483648) ≤ z ∧ z ≤ 2147483647) ∧ kM (pm [65, 66, 85] [225, 226, 227]) h h') := by
                        intro n
                        induction n with
                        | zero => intro i31 _ _ _ hm; omega
                        | succ n ih117 =>
                          intro i31 hl0 hl1 hinv hm
                          refine A_iload d_MD_beam_117 rfl ?_
                          refine A_iload d_MD_beam_119 rfl ?_
                          refine A_icmp_ge (tgt := 145) d_MD_beam_121 (by decide) (fun c32 => ?_) (fun c32 => ?_)
                          · refine A_iload d_MD_beam_145 rfl ?_
                            refine A_iload d_MD_beam_147 rfl ?_
                            refine A_icmp_le (tgt := 174) d_MD_beam_149 (by decide) (fun c => False.elim (by omega)) (fun c33 => ?_)
                            have ym := SN_m (h := h) (a := (300 * a1 + i31).toNat) (300 * a1 + x18).toNat (by omega)
                            have yl : i31 - i26 ≤ 14 ∧ 1 ≤ i31 - i26 := (by have q0 := hinv; have q1 := hinvO; have q2 := ys (by omega); have qq0 := esd29.symm; omega)
                            have yg : h27.2.1 170 85 + (i31 - i26) ≤ 14 := (by have q0 := hinv; have q1 := hinvO; have q2 := ys (by omega); have qq0 := esd29.symm; omega)
                            refine A_iload d_MD_beam_152 rfl ?_
                            refine A_aload_n 0 d_MD_beam_154 rfl rfl ?_
                            refine A_iload_n 1 d_MD_beam_155 rfl rfl ?_
                            refine A_iload_n 2 d_MD_beam_156 rfl rfl ?_
                            refine A_iload d_MD_beam_157 rfl ?_
                            refine A_pc (pc' := 159) rfl ?_
                            refine A_iload d_MD_beam_159 rfl ?_
                            have zf35 := esd29.symm
                            refine A_callV4 m_MD_run T_ok d_MD_beam_161 l_MD_541 k_MD_run (mi_s k28.1 sf_170) rfl (by decide +kernel) (by decide) (Nat.le_of_ble_eq_true rfl) (s_MD_run k28.1 (by omega) (by omega) (by omega) (by omega) (by omega) (by omega) (by omega) (by omega) (KS_s hKS k28 (by decide) (fun k => ⟨rfl, rfl⟩) (fun k => ⟨rfl, rfl, rfl, rfl, rfl, rfl⟩)) (by have q1 := k28.2.2.1 172 0 rfl; omega) (by have q1 := k28.2.2.1 186 (a1).toNat rfl; omega) (by have q1 := k28.2.2.1 185 (a1).toNat rfl; have q2 := yfo.2.1; omega) (by omega) (by omega) (by omega)) (fun r h34 hq => ?_)
                            obtain ⟨x37, rfl, ⟨_, _⟩, xx37, k36⟩ := hq
                            have k38 := kM_t k28 k36 (pm_s (by decide) (by decide))
                            obtain ⟨sd39, esd39⟩ : ∃ x, x = h34.2.1 170 85 := ⟨_, rfl⟩
                            have rsd39 : 0 ≤ sd39 ∧ sd39 ≤ 16 := (by rw [esd39]; exact mi_g k38.1 (by decide) mr_170_85)
                            refine A_iaddw d_MD_beam_164 (fun x40 _ _ _ => ?_)
                            refine A_istore (L' := [some (av_R (some 170)), some (av_I a1), some (av_I a2), some (av_I x14), some (av_I x18), some (av_I i19), some (av_I x40), some (av_I i26), some (av_I i31)]) d_MD_beam_165 (Nat.le_of_ble_eq_true rfl) rfl ?_
                            refine A_iload d_MD_beam_167 rfl ?_
                            refine A_istore (L' := [some (av_R (some 170)), some (av_I a1), some (av_I a2), some (av_I x14), some (av_I x18), some (av_I i19), some (av_I x40), some (av_I i31), some (av_I i31)]) d_MD_beam_169 (Nat.le_of_ble_eq_true rfl) rfl ?_
                            refine A_goto (tgt := 177) d_MD_beam_171 (by decide) ?_
                            refine A_goto (tgt := 106) d_MD_beam_177 (by decide) ?_
                            refine A_free (L' := [some (av_R (some 170)), some (av_I a1), some (av_I a2), some (av_I x14), some (av_I x18), some (av_I i19), some (av_I x40), some (av_I i31), none]) (And.intro rfl (And.intro rfl (And.intro rfl (And.intro rfl (And.intro rfl (And.intro rfl (And.intro rfl (And.intro rfl trivial)))))))) ?_
                            exact ih106 x40 i31 h34 (by omega) (by omega) (by omega) (by omega) (by have q0 := hinv; have q1 := hinvO; have qq0 := esd39.symm; omega) k38 (by omega)
                          · refine A_aload_n 0 d_MD_beam_124 rfl rfl ?_
                            refine A_sipush d_MD_beam_125 rfl ?_
                            refine A_iload_n 1 d_MD_beam_128 rfl rfl ?_
                            refine A_imulv (z := (300 * a1)) d_MD_beam_129 (w32_to (by omega) (by unfold i32; omega)) ?_
                            refine A_iload d_MD_beam_130 rfl ?_
                            refine A_pc (pc' := 132) rfl ?_
                            refine A_iaddv (z := (300 * a1 + i31)) d_MD_beam_132 (w32_to (by omega) (by unfold i32; omega)) ?_
                            have zf42 := esd29.symm
                            refine A_callV1 m_MD_isShort T_ok d_MD_beam_133 l_MD_538 k_MD_isShort (mi_s k28.1 sf_170) rfl (by decide +kernel) (by decide) (Nat.le_of_ble_eq_true rfl) (s_MD_isShort k28.1 (by omega) (by omega)) (fun r h41 hq => ?_)
                            obtain ⟨x44, rfl, bx44, xx44, rfl⟩ := hq
                            refine A_if_eq (tgt := 145) d_MD_beam_136 (by decide) (fun c45 => ?_) (fun c45 => ?_)
                            · refine A_iload d_MD_beam_145 rfl ?_
                              refine A_iload d_MD_beam_147 rfl ?_
                              refine A_icmp_le (tgt := 174) d_MD_beam_149 (by decide) (fun c46 => ?_) (fun c46 => ?_)
                              · refine A_iincv (z := (i26 + 1)) (L' := [some (av_R (some 170)), some (av_I a1), some (av_I a2), some (av_I x14), some (av_I x18), some (av_I i19), some (av_I i25), some (av_I (i26 + 1)), some (av_I i31)]) d_MD_beam_174 rfl (w32_to (by omega) (by unfold i32; omega)) rfl ?_
                                refine A_goto (tgt := 106) d_MD_beam_177 (by decide) ?_
                                refine A_free (L' := [some (av_R (some 170)), some (av_I a1), some (av_I a2), some (av_I x14), some (av_I x18), some (av_I i19), some (av_I i25), some (av_I (i26 + 1)), none]) (And.intro rfl (And.intro rfl (And.intro rfl (And.intro rfl (And.intro rfl (And.intro rfl (And.intro rfl (And.intro rfl trivial)))))))) ?_
                                exact ih106 i25 (i26 + 1) h27 (by omega) (by omega) (by omega) (by omega) (by have q3 := hinvO; have q1 := SN_m (h := h) (a := (300 * a1 + i26).toNat) (300 * a1 + (i26 + 1)).toNat (by omega); have qq0 := esd29.symm; omega) k28 (by omega)
                              · have ym := SN_m (h := h) (a := (300 * a1 + i31).toNat) (300 * a1 + x18).toNat (by omega)
                                have yl : i31 - i26 ≤ 14 ∧ 1 ≤ i31 - i26 := (by have q0 := hinv; have q1 := hinvO; have q2 := ys (by omega); have qq0 := esd29.symm; omega)
                                have yg : h27.2.1 170 85 + (i31 - i26) ≤ 14 := (by have q0 := hinv; have q1 := hinvO; have q2 := ys (by omega); have qq0 := esd29.symm; omega)
                                refine A_iload d_MD_beam_152 rfl ?_
                                refine A_aload_n 0 d_MD_beam_154 rfl rfl ?_
                                refine A_iload_n 1 d_MD_beam_155 rfl rfl ?_
                                refine A_iload_n 2 d_MD_beam_156 rfl rfl ?_
                                refine A_iload d_MD_beam_157 rfl ?_
                                refine A_pc (pc' := 159) rfl ?_
                                refine A_iload d_MD_beam_159 rfl ?_
                                have zf48 := esd29.symm
                                refine A_callV4 m_MD_run T_ok d_MD_beam_161 l_MD_541 k_MD_run (mi_s k28.1 sf_170) rfl (by decide +kernel) (by decide) (Nat.le_of_ble_eq_true rfl) (s_MD_run k28.1 (by omega) (by omega) (by omega) (by omega) (by omega) (by omega) (by omega) (by omega) (KS_s hKS k28 (by decide) (fun k => ⟨rfl, rfl⟩) (fun k => ⟨rfl, rfl, rfl, rfl, rfl, rfl⟩)) (by have q1 := k28.2.2.1 172 0 rfl; omega) (by have q1 := k28.2.2.1 186 (a1).toNat rfl; omega) (by have q1 := k28.2.2.1 185 (a1).toNat rfl; have q2 := yfo.2.1; omega) (by omega) (by omega) (by omega)) (fun r h47 hq => ?_)
                                obtain ⟨x50, rfl, ⟨_, _⟩, xx50, k49⟩ := hq
                                have k51 := kM_t k28 k49 (pm_s (by decide) (by decide))
                                obtain ⟨sd52, esd52⟩ : ∃ x, x = h47.2.1 170 85 := ⟨_, rfl⟩
                                have rsd52 : 0 ≤ sd52 ∧ sd52 ≤ 16 := (by rw [esd52]; exact mi_g k51.1 (by decide) mr_170_85)
                                refine A_iaddw d_MD_beam_164 (fun x53 _ _ _ => ?_)
                                refine A_istore (L' := [some (av_R (some 170)), some (av_I a1), some (av_I a2), some (av_I x14), some (av_I x18), some (av_I i19), some (av_I x53), some (av_I i26), some (av_I i31)]) d_MD_beam_165 (Nat.le_of_ble_eq_true rfl) rfl ?_
                                refine A_iload d_MD_beam_167 rfl ?_
                                refine A_istore (L' := [some (av_R (some 170)), some (av_I a1), some (av_I a2), some (av_I x14), some (av_I x18), some (av_I i19), some (av_I x53), some (av_I i31), some (av_I i31)]) d_MD_beam_169 (Nat.le_of_ble_eq_true rfl) rfl ?_
                                refine A_goto (tgt := 177) d_MD_beam_171 (by decide) ?_
                                refine A_goto (tgt := 106) d_MD_beam_177 (by decide) ?_
                                refine A_free (L' := [some (av_R (some 170)), some (av_I a1), some (av_I a2), some (av_I x14), some (av_I x18), some (av_I i19), some (av_I x53), some (av_I i31), none]) (And.intro rfl (And.intro rfl (And.intro rfl (And.intro rfl (And.intro rfl (And.intro rfl (And.intro rfl (And.intro rfl trivial)))))))) ?_
                                exact ih106 x53 i31 h47 (by omega) (by omega) (by omega) (by omega) (by have q0 := hinv; have q1 := hinvO; have qq0 := esd52.symm; omega) k51 (by omega)
                            · refine A_iincv (z := (i31 + 1)) (L' := [some (av_R (some 170)), some (av_I a1), some (av_I a2), some (av_I x14), some (av_I x18), some (av_I i19), some (av_I i25), some (av_I i26), some (av_I (i31 + 1))]) d_MD_beam_139 rfl (w32_to (by omega) (by unfold i32; omega)) rfl ?_
                              refine A_goto (tgt := 117) d_MD_beam_142 (by decide) ?_
                              exact ih117 (i31 + 1) (by omega) (by omega) (by have q1 := SN_s (h := h) (show (300 * a1 + (i31 + 1)).toNat = (300 * a1 + i31).toNat + 1 by omega); have q2 := hinv; have q3 := xx44; rw [SH_e k28 (fun _ => rfl) (fun _ => rfl)] at q3; omega) (by omega)
                      exact lp117 _ i26 (by omega) (by omega) (by omega) (Nat.lt_succ_self _)
                exact lp106 _ 0 x14 h23 (by omega) (by omega) (by omega) (by omega) (by have qq0 := eh23.2.1; omega) k24 (Nat.lt_succ_self _)
              · refine A_bipush d_MD_beam_92 rfl ?_
                exact A_iret d_MD_beam_94 (by decide) rfl ⟨_, rfl, ⟨by omega, by omega⟩, k0⟩
            · refine A_iload d_MD_beam_54 rfl ?_
              refine A_aload_n 0 d_MD_beam_56 rfl rfl ?_
              refine A_sipush d_MD_beam_57 rfl ?_
              refine A_iload_n 1 d_MD_beam_60 rfl rfl ?_
              refine A_imulv (z := (300 * a1)) d_MD_beam_61 (w32_to (by omega) (by unfold i32; omega)) ?_
              refine A_pc (pc' := 62) rfl ?_
              refine A_iload d_MD_beam_62 rfl ?_
              refine A_iaddv (z := (300 * a1 + i20)) d_MD_beam_64 (w32_to (by omega) (by unfold i32; omega)) ?_
              have zf55 := esd1.symm
              refine A_callV1 m_MD_isShort T_ok d_MD_beam_65 l_MD_538 k_MD_isShort (mi_s k0.1 sf_170) rfl (by decide +kernel) (by decide) (Nat.le_of_ble_eq_true rfl) (s_MD_isShort k0.1 (by omega) (by omega)) (fun r h54 hq => ?_)
              obtain ⟨x57, rfl, bx57, xx57, rfl⟩ := hq
              refine A_if_eq (tgt := 75) d_MD_beam_68 (by decide) (fun c58 => ?_) (fun c58 => ?_)
              · refine A_iconst d_MD_beam_75 rfl ?_
                refine A_iaddv (z := i19) d_MD_beam_76 (w32_to (by omega) (by unfold i32; omega)) ?_
                refine A_istore (L' := [some (av_R (some 170)), some (av_I a1), some (av_I a2), some (av_I x14), some (av_I x18), some (av_I i19), some (av_I i20), none, none]) d_MD_beam_77 (Nat.le_of_ble_eq_true rfl) rfl ?_
                refine A_iincv (z := (i20 + 1)) (L' := [some (av_R (some 170)), some (av_I a1), some (av_I a2), some (av_I x14), some (av_I x18), some (av_I i19), some (av_I (i20 + 1)), none, none]) d_MD_beam_79 rfl (w32_to (by omega) (by unfold i32; omega)) rfl ?_
                refine A_goto (tgt := 47) d_MD_beam_82 (by decide) ?_
                exact ih47 i19 (i20 + 1) (by omega) (by omega) (by omega) (by omega) (by have q1 := SN_s (h := h) (show (300 * a1 + (i20 + 1)).toNat = (300 * a1 + i20).toNat + 1 by omega); have q2 := hinv; omega) (by omega)
              · refine A_iconst d_MD_beam_71 rfl ?_
                refine A_goto (tgt := 76) d_MD_beam_72 (by decide) ?_
                refine A_iaddv (z := (i19 + 1)) d_MD_beam_76 (w32_to (by omega) (by unfold i32; omega)) ?_
                refine A_istore (L' := [some (av_R (some 170)), some (av_I a1), some (av_I a2), some (av_I x14), some (av_I x18), some (av_I (i19 + 1)), some (av_I i20), none, none]) d_MD_beam_77 (Nat.le_of_ble_eq_true rfl) rfl ?_
                refine A_iincv (z := (i20 + 1)) (L' := [some (av_R (some 170)), some (av_I a1), some (av_I a2), some (av_I x14), some (av_I x18), some (av_I (i19 + 1)), some (av_I (i20 + 1)), none, none]) d_MD_beam_79 rfl (w32_to (by omega) (by unfold i32; omega)) rfl ?_
                refine A_goto (tgt := 47) d_MD_beam_82 (by decide) ?_
                exact ih47 (i19 + 1) (i20 + 1) (by omega) (by omega) (by omega) (by omega) (by have q1 := SN_s (h := h) (show (300 * a1 + (i20 + 1)).toNat = (300 * a1 + i20).toNat + 1 by omega); have q2 := hinv; omega) (by omega)
        exact lp47 _ 0 x14 (by omega) (by omega) (by omega) (by omega) (by omega) (Nat.lt_succ_self _)
      · refine A_iconst d_MD_beam_22 rfl ?_
        exact A_iret d_MD_beam_23 (by decide) rfl ⟨_, rfl, ⟨by omega, by omega⟩, k0⟩
