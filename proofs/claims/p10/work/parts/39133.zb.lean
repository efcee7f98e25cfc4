/-! ===== Beams: what its methods leave as it was ===== -/
abbrev FCB : Nat → Prop := fun a => a < 146 ∨ 150 ≤ a
theorem z_Beams_cutRun {G : cx_T} {s : Nat} {h : ah_T} (hx : xi s h) {a1 : Nat} {a2 : Int} {a3 : Int} {a4 : Int} {a5 : Int} (ha1 : isV a1) (la2 : 0 ≤ a2) (ua2 : a2 ≤ 100) (la3 : 0 ≤ a3) (ua3 : a3 ≤ 301) (la4 : 0 ≤ a4) (ua4 : a4 ≤ 300) : con G 2 0 0 m_Beams_cutRun [av_R (some 146), av_R (some a1), av_I a2, av_I a3, av_I a4, av_I a5] h (fun r h' => ∃ z, r = some (av_I z) ∧ ((-2147483648) ≤ z ∧ z ≤ 2147483647) ∧ kF FCB s h h') := by
  refine con_of (L := [some (av_R (some 146)), some (av_R (some a1)), some (av_I a2), some (av_I a3), some (av_I a4), some (av_I a5), none, none, none, none]) (by decide +kernel) (Nat.le_of_ble_eq_true rfl) rfl ?_
  have hS : isS s := hx.2.1
  have hs0 : s = 17 ∨ s = 80 := hS
  have k0 : kF FCB s h h := kF_0 hx
  have ga1 := lt_V ha1
  refine A_locI 5 rfl (fun ra => ?_)
  obtain ⟨_, _⟩ := ra
  refine A_iload d_Beams_cutRun_0 rfl ?_
  refine A_iload_n 3 d_Beams_cutRun_2 rfl rfl ?_
  refine A_isubv (z := (a4 - a3)) d_Beams_cutRun_3 (w32_to (by omega) (by unfold i32; omega)) ?_
  refine A_bipush d_Beams_cutRun_4 rfl ?_
  refine A_mmin d_Beams_cutRun_6 lm_Beams_42 ma_min (by decide) (by decide) (Nat.le_of_ble_eq_true rfl) rfl ?_
  refine A_nrI (fun x1 ex1 _ _ => ?_)
  have bx1 := mmin_r ex1
  refine A_pc (pc' := 9) rfl ?_
  refine A_istore (L' := [some (av_R (some 146)), some (av_R (some a1)), some (av_I a2), some (av_I a3), some (av_I a4), some (av_I a5), some (av_I x1), none, none, none]) d_Beams_cutRun_9 (Nat.le_of_ble_eq_true rfl) rfl ?_
  refine A_iload d_Beams_cutRun_11 rfl ?_
  refine A_if_gt (tgt := 18) d_Beams_cutRun_13 (by decide) (fun c2 => ?_) (fun c2 => ?_)
  · refine A_aload_n 0 d_Beams_cutRun_18 rfl rfl ?_
    refine A_getAv (z := some 148) T_ok d_Beams_cutRun_19 f_Beams_15 (xi_s k0.1 sf_146) (xi_r k0.1 rff_146_2) ?_
    refine A_iload d_Beams_cutRun_22 rfl ?_
    refine A_iconst d_Beams_cutRun_24 rfl ?_
    refine A_iastorek (KR := kF FCB s h) d_Beams_cutRun_25 (xi_s k0.1 sf_148) (by omega) (by omega) (kF_j k0 (by decide) (ns_b rfl) (rgf_148 _) (by omega) (by omega)) (fun h4 k5 eh4 => ?_)
    refine A_pc (pc' := 26) rfl ?_
    refine A_iload d_Beams_cutRun_26 rfl ?_
    refine A_iconst d_Beams_cutRun_28 rfl ?_
    refine A_isubv (z := (x1 - 1)) d_Beams_cutRun_29 (w32_to (by omega) (by unfold i32; omega)) ?_
    refine A_istore (L' := [some (av_R (some 146)), some (av_R (some a1)), some (av_I a2), some (av_I a3), some (av_I a4), some (av_I a5), some (av_I x1), some (av_I (x1 - 1)), none, none]) d_Beams_cutRun_30 (Nat.le_of_ble_eq_true rfl) rfl ?_
    have lp32 : ∀ (n : Nat) (i6 : Int) (h7 : ah_T) , (-1) ≤ i6 → i6 ≤ 13 → kF FCB s h h7 → (i6 + 2).toNat < n → aw G (rm_R 2 0 0) m_Beams_cutRun 0 0 32 [some (av_R (some 146)), some (av_R (some a1)), some (av_I a2), some (av_I a3), some (av_I a4), some (av_I a5), some (av_I x1), some (av_I i6), none, none] [] h7 (fun r h' => ∃ z, r = some (av_I z) ∧ ((-2147483648) ≤ z ∧ z ≤ 2147483647) ∧ kF FCB s h h') := by
      intro n
      induction n with
      | zero => intro i6 h7 _ _ _ hm; omega
      | succ n ih32 =>
        intro i6 h7 hl0 hl1 k8 hm
        refine A_iload d_Beams_cutRun_32 rfl ?_
        refine A_if_lt (tgt := 171) d_Beams_cutRun_34 (by decide) (fun c9 => ?_) (fun c9 => ?_)
        · refine A_iconst d_Beams_cutRun_171 rfl ?_
          refine A_istore (L' := [some (av_R (some 146)), some (av_R (some a1)), some (av_I a2), some (av_I a3), some (av_I a4), some (av_I a5), some (av_I x1), some (av_I 0), none, none]) d_Beams_cutRun_172 (Nat.le_of_ble_eq_true rfl) rfl ?_
          have lp174 : ∀ (n : Nat) (i10 : Int) (h11 : ah_T) , 0 ≤ i10 → i10 ≤ 19 → kF FCB s h h11 → (14 - h11.2.1 146 1).toNat < n → aw G (rm_R 2 0 0) m_Beams_cutRun 0 0 174 [some (av_R (some 146)), some (av_R (some a1)), some (av_I a2), some (av_I a3), some (av_I a4), some (av_I a5), some (av_I x1), some (av_I i10), none, none] [] h11 (fun r h' => ∃ z, r = some (av_I z) ∧ ((-2147483648) ≤ z ∧ z ≤ 2147483647) ∧ kF FCB s h h') := by
            intro n
            induction n with
            | zero => intro i10 h11 _ _ _ hm; omega
            | succ n ih174 =>
              intro i10 h11 hl0 hl1 k12 hm
              refine A_iload d_Beams_cutRun_174 rfl ?_
              refine A_iload d_Beams_cutRun_176 rfl ?_
              refine A_icmp_ge (tgt := 234) d_Beams_cutRun_178 (by decide) (fun c13 => ?_) (fun c13 => ?_)
              · refine A_aload_n 0 d_Beams_cutRun_234 rfl rfl ?_
                refine A_getAv (z := some 148) T_ok d_Beams_cutRun_235 f_Beams_15 (xi_s k12.1 sf_146) (xi_r k12.1 rff_146_2) ?_
                refine A_iconst d_Beams_cutRun_238 rfl ?_
                refine A_ialoadf d_Beams_cutRun_239 (xi_s k12.1 sf_148) (by decide) (by decide) (fun x15 ex15 _ _ => ?_)
                exact A_iret d_Beams_cutRun_240 (by decide) rfl ⟨_, rfl, ⟨by omega, by omega⟩, k12⟩
              · refine A_aload_n 0 d_Beams_cutRun_181 rfl rfl ?_
                refine A_getIn (lo := 0) (hi := 14) T_ok d_Beams_cutRun_182 f_Beams_21 (xi_s k12.1 sf_146) (xi_g k12.1 (by decide) rgf_146_1) (fun x16 ex16 _ _ => ?_)
                refine A_aload_n 0 d_Beams_cutRun_185 rfl rfl ?_
                refine A_getAv (z := some 147) T_ok d_Beams_cutRun_186 f_Beams_11 (xi_s k12.1 sf_146) (xi_r k12.1 rff_146_0) ?_
                refine A_alenN d_Beams_cutRun_189 (xi_s k12.1 sf_147) (by decide) (by decide) ?_
                refine A_pc (pc' := 190) rfl ?_
                refine A_icmp_ge (tgt := 234) d_Beams_cutRun_190 (by decide) (fun c18 => ?_) (fun c18 => ?_)
                · refine A_aload_n 0 d_Beams_cutRun_234 rfl rfl ?_
                  refine A_getAv (z := some 148) T_ok d_Beams_cutRun_235 f_Beams_15 (xi_s k12.1 sf_146) (xi_r k12.1 rff_146_2) ?_
                  refine A_iconst d_Beams_cutRun_238 rfl ?_
                  refine A_ialoadf d_Beams_cutRun_239 (xi_s k12.1 sf_148) (by decide) (by decide) (fun x20 ex20 _ _ => ?_)
                  exact A_iret d_Beams_cutRun_240 (by decide) rfl ⟨_, rfl, ⟨by omega, by omega⟩, k12⟩
                · refine A_aload_n 0 d_Beams_cutRun_193 rfl rfl ?_
                  refine A_getAv (z := some 147) T_ok d_Beams_cutRun_194 f_Beams_11 (xi_s k12.1 sf_146) (xi_r k12.1 rff_146_0) ?_
                  refine A_aload_n 0 d_Beams_cutRun_197 rfl rfl ?_
                  refine A_getIv (z := x16) T_ok d_Beams_cutRun_198 f_Beams_21 (xi_s k12.1 sf_146) ex16.symm ?_
                  refine A_aload_n 0 d_Beams_cutRun_201 rfl rfl ?_
                  refine A_pc (pc' := 202) rfl ?_
                  refine A_getAv (z := some 149) T_ok d_Beams_cutRun_202 f_Beams_18 (xi_s k12.1 sf_146) (xi_r k12.1 rff_146_3) ?_
                  refine A_iload d_Beams_cutRun_205 rfl ?_
                  refine A_ialoadn (lo := 0) (hi := 6) d_Beams_cutRun_207 (xi_s k12.1 sf_149) (by omega) (by omega) (xi_g k12.1 (by decide) (rgf_149 _)) (fun x24 ex24 _ _ => ?_)
                  refine A_iastorek (KR := kF FCB s h) d_Beams_cutRun_208 (xi_s k12.1 sf_147) (by omega) (by omega) (kF_j k12 (by decide) (ns_b rfl) (rgf_147 _) (by omega) (by omega)) (fun h25 k26 eh25 => ?_)
                  refine A_aload_n 0 d_Beams_cutRun_209 rfl rfl ?_
                  refine A_dupR d_Beams_cutRun_210 ?_
                  refine A_pc (pc' := 211) rfl ?_
                  refine A_getIv (z := x16) T_ok d_Beams_cutRun_211 f_Beams_21 (xi_s k26.1 sf_146) ((eh25.1 _ _ (fun q => absurd q (by decide))).trans ex16.symm) ?_
                  refine A_iconst d_Beams_cutRun_214 rfl ?_
                  refine A_iaddv (z := (x16 + 1)) d_Beams_cutRun_215 (w32_to (by omega) (by unfold i32; omega)) ?_
                  refine A_putIk (KR := kF FCB s h) T_ok d_Beams_cutRun_216 f_Beams_21 (xi_s k26.1 sf_146) fin_f (kF_j k26 (by decide) (ns_b rfl) rgf_146_1 (by omega) (by omega)) (fun h28 k29 eh28 => ?_)
                  refine A_iload d_Beams_cutRun_219 rfl ?_
                  refine A_aload_n 0 d_Beams_cutRun_221 rfl rfl ?_
                  refine A_pc (pc' := 222) rfl ?_
                  refine A_getAv (z := some 149) T_ok d_Beams_cutRun_222 f_Beams_18 (xi_s k29.1 sf_146) (xi_r k29.1 rff_146_3) ?_
                  refine A_iload d_Beams_cutRun_225 rfl ?_
                  refine A_ialoadv (z := x24) d_Beams_cutRun_227 (xi_s k29.1 sf_149) (by omega) (by omega) ((eh28.1 _ _ (fun q => absurd q (by decide))).trans ((eh25.1 _ _ (fun q => absurd q (by decide))).trans ex24.symm)) ?_
                  refine A_iaddv (z := (i10 + x24)) d_Beams_cutRun_228 (w32_to (by omega) (by unfold i32; omega)) ?_
                  refine A_istore (L' := [some (av_R (some 146)), some (av_R (some a1)), some (av_I a2), some (av_I a3), some (av_I a4), some (av_I a5), some (av_I x1), some (av_I (i10 + x24)), none, none]) d_Beams_cutRun_229 (Nat.le_of_ble_eq_true rfl) rfl ?_
                  refine A_goto (tgt := 174) d_Beams_cutRun_231 (by decide) ?_
                  exact ih174 (i10 + x24) h28 (by omega) (by omega) k29 (by have qq0 := eh28.2.1; omega)
          exact lp174 _ 0 h7 (by omega) (by omega) k8 (Nat.lt_succ_self _)
        · refine A_aload_n 0 d_Beams_cutRun_37 rfl rfl ?_
          refine A_getAv (z := some 149) T_ok d_Beams_cutRun_38 f_Beams_18 (xi_s k8.1 sf_146) (xi_r k8.1 rff_146_3) ?_
          refine A_iload d_Beams_cutRun_41 rfl ?_
          refine A_iconst d_Beams_cutRun_43 rfl ?_
          refine A_iastorek (KR := kF FCB s h) d_Beams_cutRun_44 (xi_s k8.1 sf_149) (by omega) (by omega) (kF_j k8 (by decide) (ns_b rfl) (rgf_149 _) (by omega) (by omega)) (fun h33 k34 eh33 => ?_)
          refine A_pc (pc' := 45) rfl ?_
          refine A_aload_n 0 d_Beams_cutRun_45 rfl rfl ?_
          refine A_getAv (z := some 148) T_ok d_Beams_cutRun_46 f_Beams_15 (xi_s k34.1 sf_146) (xi_r k34.1 rff_146_2) ?_
          refine A_iload d_Beams_cutRun_49 rfl ?_
          refine A_iconst d_Beams_cutRun_51 rfl ?_
          refine A_aload_n 0 d_Beams_cutRun_52 rfl rfl ?_
          refine A_getAv (z := some 148) T_ok d_Beams_cutRun_53 f_Beams_15 (xi_s k34.1 sf_146) (xi_r k34.1 rff_146_2) ?_
          refine A_pc (pc' := 56) rfl ?_
          refine A_iload d_Beams_cutRun_56 rfl ?_
          refine A_iconst d_Beams_cutRun_58 rfl ?_
          refine A_iaddv (z := (i6 + 1)) d_Beams_cutRun_59 (w32_to (by omega) (by unfold i32; omega)) ?_
          refine A_ialoadf d_Beams_cutRun_60 (xi_s k34.1 sf_148) (by omega) (by omega) (fun x37 ex37 _ _ => ?_)
          refine A_iaddw d_Beams_cutRun_61 (fun x38 _ _ _ => ?_)
          refine A_iastorek (KR := kF FCB s h) d_Beams_cutRun_62 (xi_s k34.1 sf_148) (by omega) (by omega) (kF_j k34 (by decide) (ns_b rfl) (rgf_148 _) (by omega) (by omega)) (fun h39 k40 eh39 => ?_)
          refine A_pc (pc' := 63) rfl ?_
          refine A_iconst d_Beams_cutRun_63 rfl ?_
          refine A_istore (L' := [some (av_R (some 146)), some (av_R (some a1)), some (av_I a2), some (av_I a3), some (av_I a4), some (av_I a5), some (av_I x1), some (av_I i6), some (av_I 1), none]) d_Beams_cutRun_64 (Nat.le_of_ble_eq_true rfl) rfl ?_
          refine A_iconst d_Beams_cutRun_66 rfl ?_
          refine A_istore (L' := [some (av_R (some 146)), some (av_R (some a1)), some (av_I a2), some (av_I a3), some (av_I a4), some (av_I a5), some (av_I x1), some (av_I i6), some (av_I 1), some (av_I 2)]) d_Beams_cutRun_67 (Nat.le_of_ble_eq_true rfl) rfl ?_
          have lp69 : ∀ (n : Nat) (i41 i42 : Int) (h43 : ah_T) , (-2147483648) ≤ i41 → i41 ≤ 2147483647 → 2 ≤ i42 → i42 ≤ 7 → kF FCB s h h43 → (8 - i42).toNat < n → aw G (rm_R 2 0 0) m_Beams_cutRun 0 0 69 [some (av_R (some 146)), some (av_R (some a1)), some (av_I a2), some (av_I a3), some (av_I a4), some (av_I a5), some (av_I x1), some (av_I i6), some (av_I i41), some (av_I i42)] [] h43 (fun r h' => ∃ z, r = some (av_I z) ∧ ((-2147483648) ≤ z ∧ z ≤ 2147483647) ∧ kF FCB s h h') := by
            intro n
            induction n with
            | zero => intro i41 i42 h43 _ _ _ _ _ hm; omega
            | succ n ih69 =>
              intro i41 i42 h43 hl0 hl1 hl2 hl3 k44 hm
              refine A_iload d_Beams_cutRun_69 rfl ?_
              refine A_bipush d_Beams_cutRun_71 rfl ?_
              refine A_icmp_gt (tgt := 165) d_Beams_cutRun_73 (by decide) (fun c45 => ?_) (fun c45 => ?_)
              · refine A_iincv (z := (i6 - 1)) (L' := [some (av_R (some 146)), some (av_R (some a1)), some (av_I a2), some (av_I a3), some (av_I a4), some (av_I a5), some (av_I x1), some (av_I (i6 - 1)), some (av_I i41), some (av_I i42)]) d_Beams_cutRun_165 rfl (w32_to (by omega) (by unfold i32; omega)) rfl ?_
                refine A_goto (tgt := 32) d_Beams_cutRun_168 (by decide) ?_
                refine A_free (L' := [some (av_R (some 146)), some (av_R (some a1)), some (av_I a2), some (av_I a3), some (av_I a4), some (av_I a5), some (av_I x1), some (av_I (i6 - 1)), none, none]) (And.intro rfl (And.intro rfl (And.intro rfl (And.intro rfl (And.intro rfl (And.intro rfl (And.intro rfl (And.intro rfl trivial)))))))) ?_
                exact ih32 (i6 - 1) h43 (by omega) (by omega) k44 (by omega)
              · refine A_iload d_Beams_cutRun_76 rfl ?_
                refine A_iload d_Beams_cutRun_78 rfl ?_
                refine A_iaddv (z := (i6 + i42)) d_Beams_cutRun_80 (w32_to (by omega) (by unfold i32; omega)) ?_
                refine A_iload d_Beams_cutRun_81 rfl ?_
                refine A_icmp_gt (tgt := 165) d_Beams_cutRun_83 (by decide) (fun c46 => ?_) (fun c46 => ?_)
                · refine A_iincv (z := (i6 - 1)) (L' := [some (av_R (some 146)), some (av_R (some a1)), some (av_I a2), some (av_I a3), some (av_I a4), some (av_I a5), some (av_I x1), some (av_I (i6 - 1)), some (av_I i41), some (av_I i42)]) d_Beams_cutRun_165 rfl (w32_to (by omega) (by unfold i32; omega)) rfl ?_
                  refine A_goto (tgt := 32) d_Beams_cutRun_168 (by decide) ?_
                  refine A_free (L' := [some (av_R (some 146)), some (av_R (some a1)), some (av_I a2), some (av_I a3), some (av_I a4), some (av_I a5), some (av_I x1), some (av_I (i6 - 1)), none, none]) (And.intro rfl (And.intro rfl (And.intro rfl (And.intro rfl (And.intro rfl (And.intro rfl (And.intro rfl (And.intro rfl trivial)))))))) ?_
                  exact ih32 (i6 - 1) h43 (by omega) (by omega) k44 (by omega)
                · refine A_iload d_Beams_cutRun_86 rfl ?_
                  refine A_aload_n 1 d_Beams_cutRun_88 rfl rfl ?_
                  refine A_iload_n 2 d_Beams_cutRun_89 rfl rfl ?_
                  refine A_iload_n 3 d_Beams_cutRun_90 rfl rfl ?_
                  refine A_iload d_Beams_cutRun_91 rfl ?_
                  refine A_pc (pc' := 93) rfl ?_
                  refine A_iaddv (z := (a3 + i6)) d_Beams_cutRun_93 (w32_to (by omega) (by unfold i32; omega)) ?_
                  refine A_iload d_Beams_cutRun_94 rfl ?_
                  refine A_iaddv (z := (a3 + i6 + i42)) d_Beams_cutRun_96 (w32_to (by omega) (by unfold i32; omega)) ?_
                  refine A_iconst d_Beams_cutRun_97 rfl ?_
                  refine A_isubv (z := (a3 + i6 + i42 - 1)) d_Beams_cutRun_98 (w32_to (by omega) (by unfold i32; omega)) ?_
                  refine A_iload d_Beams_cutRun_99 rfl ?_
                  refine A_pc (pc' := 101) rfl ?_
                  refine A_callS4 m_Beams_joinCost d_Beams_cutRun_101 l_Beams_48 k_Beams_joinCost (by decide +kernel) (by decide) (Nat.le_of_ble_eq_true rfl) (s_Beams_joinCost k44.1 ha1 (by omega) (by omega) (by omega) (by omega)) (fun r h47 hq => ?_)
                  obtain ⟨x49, rfl, ⟨_, _⟩, rfl⟩ := hq
                  refine A_iaddw d_Beams_cutRun_104 (fun x50 _ _ _ => ?_)
                  refine A_istore (L' := [some (av_R (some 146)), some (av_R (some a1)), some (av_I a2), some (av_I a3), some (av_I a4), some (av_I a5), some (av_I x1), some (av_I i6), some (av_I x50), some (av_I i42)]) d_Beams_cutRun_105 (Nat.le_of_ble_eq_true rfl) rfl ?_
                  refine A_iload d_Beams_cutRun_107 rfl ?_
                  refine A_aload_n 0 d_Beams_cutRun_109 rfl rfl ?_
                  refine A_getAv (z := some 148) T_ok d_Beams_cutRun_110 f_Beams_15 (xi_s k44.1 sf_146) (xi_r k44.1 rff_146_2) ?_
                  refine A_pc (pc' := 113) rfl ?_
                  refine A_iload d_Beams_cutRun_113 rfl ?_
                  refine A_iload d_Beams_cutRun_115 rfl ?_
                  refine A_iaddv (z := (i6 + i42)) d_Beams_cutRun_117 (w32_to (by omega) (by unfold i32; omega)) ?_
                  refine A_ialoadf d_Beams_cutRun_118 (xi_s k44.1 sf_148) (by omega) (by omega) (fun x52 ex52 _ _ => ?_)
                  refine A_iaddw d_Beams_cutRun_119 (fun x53 _ _ _ => ?_)
                  refine A_aload_n 0 d_Beams_cutRun_120 rfl rfl ?_
                  refine A_pc (pc' := 121) rfl ?_
                  refine A_getAv (z := some 148) T_ok d_Beams_cutRun_121 f_Beams_15 (xi_s k44.1 sf_146) (xi_r k44.1 rff_146_2) ?_
                  refine A_iload d_Beams_cutRun_124 rfl ?_
                  refine A_ialoadf d_Beams_cutRun_126 (xi_s k44.1 sf_148) (by omega) (by omega) (fun x55 ex55 _ _ => ?_)
                  refine A_icmp_gt (tgt := 159) d_Beams_cutRun_127 (by decide) (fun c56 => ?_) (fun c56 => ?_)
                  · refine A_iincv (z := (i42 + 1)) (L' := [some (av_R (some 146)), some (av_R (some a1)), some (av_I a2), some (av_I a3), some (av_I a4), some (av_I a5), some (av_I x1), some (av_I i6), some (av_I x50), some (av_I (i42 + 1))]) d_Beams_cutRun_159 rfl (w32_to (by omega) (by unfold i32; omega)) rfl ?_
                    refine A_goto (tgt := 69) d_Beams_cutRun_162 (by decide) ?_
                    exact ih69 x50 (i42 + 1) h43 (by omega) (by omega) (by omega) (by omega) k44 (by omega)
                  · refine A_aload_n 0 d_Beams_cutRun_130 rfl rfl ?_
                    refine A_getAv (z := some 149) T_ok d_Beams_cutRun_131 f_Beams_18 (xi_s k44.1 sf_146) (xi_r k44.1 rff_146_3) ?_
                    refine A_iload d_Beams_cutRun_134 rfl ?_
                    refine A_iload d_Beams_cutRun_136 rfl ?_
                    refine A_iastorek (KR := kF FCB s h) d_Beams_cutRun_138 (xi_s k44.1 sf_149) (by omega) (by omega) (kF_j k44 (by decide) (ns_b rfl) (rgf_149 _) (by omega) (by omega)) (fun h58 k59 eh58 => ?_)
                    refine A_pc (pc' := 139) rfl ?_
                    refine A_aload_n 0 d_Beams_cutRun_139 rfl rfl ?_
                    refine A_getAv (z := some 148) T_ok d_Beams_cutRun_140 f_Beams_15 (xi_s k59.1 sf_146) (xi_r k59.1 rff_146_2) ?_
                    refine A_iload d_Beams_cutRun_143 rfl ?_
                    refine A_iload d_Beams_cutRun_145 rfl ?_
                    refine A_aload_n 0 d_Beams_cutRun_147 rfl rfl ?_
                    refine A_getAv (z := some 148) T_ok d_Beams_cutRun_148 f_Beams_15 (xi_s k59.1 sf_146) (xi_r k59.1 rff_146_2) ?_
                    refine A_pc (pc' := 151) rfl ?_
                    refine A_iload d_Beams_cutRun_151 rfl ?_
                    refine A_iload d_Beams_cutRun_153 rfl ?_
                    refine A_iaddv (z := (i6 + i42)) d_Beams_cutRun_155 (w32_to (by omega) (by unfold i32; omega)) ?_
                    refine A_ialoadv (z := x52) d_Beams_cutRun_156 (xi_s k59.1 sf_148) (by omega) (by omega) ((eh58.1 _ _ (fun q => absurd q (by decide))).trans ex52.symm) ?_
                    refine A_iaddw d_Beams_cutRun_157 (fun x63 _ _ _ => ?_)
                    refine A_iastorek (KR := kF FCB s h) d_Beams_cutRun_158 (xi_s k59.1 sf_148) (by omega) (by omega) (kF_j k59 (by decide) (ns_b rfl) (rgf_148 _) (by omega) (by omega)) (fun h64 k65 eh64 => ?_)
                    refine A_pc (pc' := 159) rfl ?_
                    refine A_iincv (z := (i42 + 1)) (L' := [some (av_R (some 146)), some (av_R (some a1)), some (av_I a2), some (av_I a3), some (av_I a4), some (av_I a5), some (av_I x1), some (av_I i6), some (av_I x50), some (av_I (i42 + 1))]) d_Beams_cutRun_159 rfl (w32_to (by omega) (by unfold i32; omega)) rfl ?_
                    refine A_goto (tgt := 69) d_Beams_cutRun_162 (by decide) ?_
                    exact ih69 x50 (i42 + 1) h64 (by omega) (by omega) (by omega) (by omega) k65 (by omega)
          exact lp69 _ 1 2 h39 (by omega) (by omega) (by omega) (by omega) k40 (Nat.lt_succ_self _)
    exact lp32 _ (x1 - 1) h4 (by omega) (by omega) k5 (Nat.lt_succ_self _)
  · refine A_iconst d_Beams_cutRun_16 rfl ?_
    exact A_iret d_Beams_cutRun_17 (by decide) rfl ⟨_, rfl, ⟨by omega, by omega⟩, k0⟩
theorem z_Beams_find {G : cx_T} {s : Nat} {h : ah_T} (hx : xi s h) {a1 : Nat} {a2 : Int} {a3 : Int} (ha1 : isV a1) (la2 : 0 ≤ a2) (ua2 : a2 ≤ 100) : con G 4 0 0 m_Beams_find [av_R (some 146), av_R (some a1), av_I a2, av_I a3] h (fun r h' => ∃ z, r = some (av_I z) ∧ ((-2147483648) ≤ z ∧ z ≤ 2147483647) ∧ kF FCB s h h') := by
  refine con_of (L := [some (av_R (some 146)), some (av_R (some a1)), some (av_I a2), some (av_I a3), none, none, none, none, none]) (by decide +kernel) (Nat.le_of_ble_eq_true rfl) rfl ?_
  have hS : isS s := hx.2.1
  have hs0 : s = 17 ∨ s = 80 := hS
  have k0 : kF FCB s h h := kF_0 hx
  have ga1 := lt_V ha1
  refine A_locI 3 rfl (fun ra => ?_)
  obtain ⟨_, _⟩ := ra
  refine A_aload_n 1 d_Beams_find_0 rfl rfl ?_
  refine A_getAv (z := some (a1 + 13)) T_ok d_Beams_find_1 f_Beams_25 (xs_V k0.1 ha1) (xr_V_15 k0.1 ha1) ?_
  refine A_iload_n 2 d_Beams_find_4 rfl rfl ?_
  refine A_ialoadn (lo := 0) (hi := 300) d_Beams_find_5 (xs_V_15 k0.1 ha1) (by omega) (by omega) (xi_g k0.1 (lt2_V ha1 (by decide)) (rg_V_15 ha1 _)) (fun x2 ex2 _ _ => ?_)
  refine A_istore (L' := [some (av_R (some 146)), some (av_R (some a1)), some (av_I a2), some (av_I a3), some (av_I x2), none, none, none, none]) d_Beams_find_6 (Nat.le_of_ble_eq_true rfl) rfl ?_
  refine A_pc (pc' := 8) rfl ?_
  refine A_aload_n 1 d_Beams_find_8 rfl rfl ?_
  refine A_getAv (z := some (a1 + 13)) T_ok d_Beams_find_9 f_Beams_25 (xs_V k0.1 ha1) (xr_V_15 k0.1 ha1) ?_
  refine A_iload_n 2 d_Beams_find_12 rfl rfl ?_
  refine A_iconst d_Beams_find_13 rfl ?_
  refine A_iaddv (z := (a2 + 1)) d_Beams_find_14 (w32_to (by omega) (by unfold i32; omega)) ?_
  refine A_ialoadn (lo := 0) (hi := 300) d_Beams_find_15 (xs_V_15 k0.1 ha1) (by omega) (by omega) (xi_g k0.1 (lt2_V ha1 (by decide)) (rg_V_15 ha1 _)) (fun x4 ex4 _ _ => ?_)
  refine A_pc (pc' := 16) rfl ?_
  refine A_istore (L' := [some (av_R (some 146)), some (av_R (some a1)), some (av_I a2), some (av_I a3), some (av_I x2), some (av_I x4), none, none, none]) d_Beams_find_16 (Nat.le_of_ble_eq_true rfl) rfl ?_
  refine A_aload_n 1 d_Beams_find_18 rfl rfl ?_
  refine A_iload d_Beams_find_19 rfl ?_
  refine A_iload d_Beams_find_21 rfl ?_
  refine A_callS3 m_Beams_shortOnes d_Beams_find_23 l_Beams_30 k_Beams_shortOnes (by decide +kernel) (by decide) (Nat.le_of_ble_eq_true rfl) (s_Beams_shortOnes k0.1 ha1 (by omega) (by omega) (by omega) (by omega)) (fun r h5 hq => ?_)
  obtain ⟨x7, rfl, ⟨_, _⟩, rfl⟩ := hq
  refine A_bipush d_Beams_find_26 rfl ?_
  refine A_icmp_le (tgt := 34) d_Beams_find_28 (by decide) (fun c8 => ?_) (fun c8 => ?_)
  · refine A_aload_n 0 d_Beams_find_34 rfl rfl ?_
    refine A_iconst d_Beams_find_35 rfl ?_
    refine A_putIk (KR := kF FCB s h) T_ok d_Beams_find_36 f_Beams_21 (xi_s k0.1 sf_146) fin_f (kF_j k0 (by decide) (ns_b rfl) rgf_146_1 (by omega) (by omega)) (fun h9 k10 eh9 => ?_)
    refine A_iconst d_Beams_find_39 rfl ?_
    refine A_istore (L' := [some (av_R (some 146)), some (av_R (some a1)), some (av_I a2), some (av_I a3), some (av_I x2), some (av_I x4), some (av_I 0), none, none]) d_Beams_find_40 (Nat.le_of_ble_eq_true rfl) rfl ?_
    refine A_pc (pc' := 42) rfl ?_
    refine A_iload d_Beams_find_42 rfl ?_
    refine A_istore (L' := [some (av_R (some 146)), some (av_R (some a1)), some (av_I a2), some (av_I a3), some (av_I x2), some (av_I x4), some (av_I 0), some (av_I x2), none]) d_Beams_find_44 (Nat.le_of_ble_eq_true rfl) rfl ?_
    refine A_iload d_Beams_find_46 rfl ?_
    refine A_istore (L' := [some (av_R (some 146)), some (av_R (some a1)), some (av_I a2), some (av_I a3), some (av_I x2), some (av_I x4), some (av_I 0), some (av_I x2), some (av_I x2)]) d_Beams_find_48 (Nat.le_of_ble_eq_true rfl) rfl ?_
    have lp50 : ∀ (n : Nat) (i11 i12 i13 : Int) (h14 : ah_T) , (-2147483648) ≤ i11 → i11 ≤ 2147483647 → 0 ≤ i12 → i12 ≤ 301 → 0 ≤ i13 → i13 ≤ 301 → kF FCB s h h14 → (302 - i13).toNat < n → aw G (rm_R 4 0 0) m_Beams_find 0 0 50 [some (av_R (some 146)), some (av_R (some a1)), some (av_I a2), some (av_I a3), some (av_I x2), some (av_I x4), some (av_I i11), some (av_I i12), some (av_I i13)] [] h14 (fun r h' => ∃ z, r = some (av_I z) ∧ ((-2147483648) ≤ z ∧ z ≤ 2147483647) ∧ kF FCB s h h') := by
      intro n
      induction n with
      | zero => intro i11 i12 i13 h14 _ _ _ _ _ _ _ hm; omega
      | succ n ih50 =>
        intro i11 i12 i13 h14 hl0 hl1 hl2 hl3 hl4 hl5 k15 hm
        refine A_iload d_Beams_find_50 rfl ?_
        refine A_iload d_Beams_find_52 rfl ?_
        refine A_icmp_gt (tgt := 101) d_Beams_find_54 (by decide) (fun c16 => ?_) (fun c16 => ?_)
        · refine A_iload d_Beams_find_101 rfl ?_
          exact A_iret d_Beams_find_103 (by decide) rfl ⟨_, rfl, ⟨by omega, by omega⟩, k15⟩
        · refine A_iload d_Beams_find_57 rfl ?_
          refine A_iload d_Beams_find_59 rfl ?_
          refine A_icmp_eq (tgt := 73) d_Beams_find_61 (by decide) (fun c17 => ?_) (fun c17 => ?_)
          · refine A_iload d_Beams_find_73 rfl ?_
            refine A_aload_n 0 d_Beams_find_75 rfl rfl ?_
            refine A_aload_n 1 d_Beams_find_76 rfl rfl ?_
            refine A_iload_n 2 d_Beams_find_77 rfl rfl ?_
            refine A_iload d_Beams_find_78 rfl ?_
            refine A_pc (pc' := 80) rfl ?_
            refine A_iload d_Beams_find_80 rfl ?_
            refine A_iload_n 3 d_Beams_find_82 rfl rfl ?_
            refine A_callV5 m_Beams_cutRun T_ok d_Beams_find_83 l_Beams_38 k_Beams_cutRun (xi_s k15.1 sf_146) rfl (by decide +kernel) (by decide) (Nat.le_of_ble_eq_true rfl) (z_Beams_cutRun k15.1 ha1 (by omega) (by omega) (by omega) (by omega) (by omega) (by omega)) (fun r h18 hq => ?_)
            obtain ⟨x20, rfl, ⟨_, _⟩, k19⟩ := hq
            have k21 := kF_t k15 k19 (fun _ q => q)
            refine A_iaddw d_Beams_find_86 (fun x22 _ _ _ => ?_)
            refine A_istore (L' := [some (av_R (some 146)), some (av_R (some a1)), some (av_I a2), some (av_I a3), some (av_I x2), some (av_I x4), some (av_I x22), some (av_I i12), some (av_I i13)]) d_Beams_find_87 (Nat.le_of_ble_eq_true rfl) rfl ?_
            refine A_iload d_Beams_find_89 rfl ?_
            refine A_iconst d_Beams_find_91 rfl ?_
            refine A_iaddv (z := (i13 + 1)) d_Beams_find_92 (w32_to (by omega) (by unfold i32; omega)) ?_
            refine A_pc (pc' := 93) rfl ?_
            refine A_istore (L' := [some (av_R (some 146)), some (av_R (some a1)), some (av_I a2), some (av_I a3), some (av_I x2), some (av_I x4), some (av_I x22), some (av_I (i13 + 1)), some (av_I i13)]) d_Beams_find_93 (Nat.le_of_ble_eq_true rfl) rfl ?_
            refine A_iincv (z := (i13 + 1)) (L' := [some (av_R (some 146)), some (av_R (some a1)), some (av_I a2), some (av_I a3), some (av_I x2), some (av_I x4), some (av_I x22), some (av_I (i13 + 1)), some (av_I (i13 + 1))]) d_Beams_find_95 rfl (w32_to (by omega) (by unfold i32; omega)) rfl ?_
            refine A_goto (tgt := 50) d_Beams_find_98 (by decide) ?_
            exact ih50 x22 (i13 + 1) (i13 + 1) h18 (by omega) (by omega) (by omega) (by omega) (by omega) (by omega) k21 (by omega)
          · refine A_aload_n 1 d_Beams_find_64 rfl rfl ?_
            refine A_iload d_Beams_find_65 rfl ?_
            refine A_callV1 m_Voice_isShort T_ok d_Beams_find_67 l_Beams_34 k_Voice_isShort (xs_V k15.1 ha1) rfl (by decide +kernel) (by decide) (Nat.le_of_ble_eq_true rfl) (s_Voice_isShort k15.1 ha1 (by omega) (by omega)) (fun r h23 hq => ?_)
            obtain ⟨x25, rfl, bx25, rfl⟩ := hq
            refine A_if_ne (tgt := 95) d_Beams_find_70 (by decide) (fun c26 => ?_) (fun c26 => ?_)
            · refine A_iincv (z := (i13 + 1)) (L' := [some (av_R (some 146)), some (av_R (some a1)), some (av_I a2), some (av_I a3), some (av_I x2), some (av_I x4), some (av_I i11), some (av_I i12), some (av_I (i13 + 1))]) d_Beams_find_95 rfl (w32_to (by omega) (by unfold i32; omega)) rfl ?_
              refine A_goto (tgt := 50) d_Beams_find_98 (by decide) ?_
              exact ih50 i11 i12 (i13 + 1) h14 (by omega) (by omega) (by omega) (by omega) (by omega) (by omega) k15 (by omega)
            · refine A_iload d_Beams_find_73 rfl ?_
              refine A_aload_n 0 d_Beams_find_75 rfl rfl ?_
              refine A_aload_n 1 d_Beams_find_76 rfl rfl ?_
              refine A_iload_n 2 d_Beams_find_77 rfl rfl ?_
              refine A_iload d_Beams_find_78 rfl ?_
              refine A_pc (pc' := 80) rfl ?_
              refine A_iload d_Beams_find_80 rfl ?_
              refine A_iload_n 3 d_Beams_find_82 rfl rfl ?_
              refine A_callV5 m_Beams_cutRun T_ok d_Beams_find_83 l_Beams_38 k_Beams_cutRun (xi_s k15.1 sf_146) rfl (by decide +kernel) (by decide) (Nat.le_of_ble_eq_true rfl) (z_Beams_cutRun k15.1 ha1 (by omega) (by omega) (by omega) (by omega) (by omega) (by omega)) (fun r h27 hq => ?_)
              obtain ⟨x29, rfl, ⟨_, _⟩, k28⟩ := hq
              have k30 := kF_t k15 k28 (fun _ q => q)
              refine A_iaddw d_Beams_find_86 (fun x31 _ _ _ => ?_)
              refine A_istore (L' := [some (av_R (some 146)), some (av_R (some a1)), some (av_I a2), some (av_I a3), some (av_I x2), some (av_I x4), some (av_I x31), some (av_I i12), some (av_I i13)]) d_Beams_find_87 (Nat.le_of_ble_eq_true rfl) rfl ?_
              refine A_iload d_Beams_find_89 rfl ?_
              refine A_iconst d_Beams_find_91 rfl ?_
              refine A_iaddv (z := (i13 + 1)) d_Beams_find_92 (w32_to (by omega) (by unfold i32; omega)) ?_
              refine A_pc (pc' := 93) rfl ?_
              refine A_istore (L' := [some (av_R (some 146)), some (av_R (some a1)), some (av_I a2), some (av_I a3), some (av_I x2), some (av_I x4), some (av_I x31), some (av_I (i13 + 1)), some (av_I i13)]) d_Beams_find_93 (Nat.le_of_ble_eq_true rfl) rfl ?_
              refine A_iincv (z := (i13 + 1)) (L' := [some (av_R (some 146)), some (av_R (some a1)), some (av_I a2), some (av_I a3), some (av_I x2), some (av_I x4), some (av_I x31), some (av_I (i13 + 1)), some (av_I (i13 + 1))]) d_Beams_find_95 rfl (w32_to (by omega) (by unfold i32; omega)) rfl ?_
              refine A_goto (tgt := 50) d_Beams_find_98 (by decide) ?_
              exact ih50 x31 (i13 + 1) (i13 + 1) h27 (by omega) (by omega) (by omega) (by omega) (by omega) (by omega) k30 (by omega)
    exact lp50 _ 0 x2 x2 h9 (by omega) (by omega) (by omega) (by omega) (by omega) (by omega) k10 (Nat.lt_succ_self _)
  · refine A_bipush d_Beams_find_31 rfl ?_
    exact A_iret d_Beams_find_33 (by decide) rfl ⟨_, rfl, ⟨by omega, by omega⟩, k0⟩
theorem z_PM_beam {G : cx_T} {s : Nat} {h : ah_T} (hx : xi s h) {a1 : Int} {a2 : Int}  : con G 5 0 0 m_PM_beam [av_R (some 0), av_I a1, av_I a2] h (fun r h' => ∃ z, r = some (av_I z) ∧ ((-2147483648) ≤ z ∧ z ≤ 2147483647) ∧ kF FCB s h h') := by
  refine con_of (L := [some (av_R (some 0)), some (av_I a1), some (av_I a2), none]) (by decide +kernel) (Nat.le_of_ble_eq_true rfl) rfl ?_
  have hS : isS s := hx.2.1
  have hs0 : s = 17 ∨ s = 80 := hS
  have k0 : kF FCB s h h := kF_0 hx
  refine A_locI 1 rfl (fun ra => ?_)
  obtain ⟨_, _⟩ := ra
  refine A_locI 2 rfl (fun ra => ?_)
  obtain ⟨_, _⟩ := ra
  refine A_aload_n 0 d_PM_beam_0 rfl rfl ?_
  refine A_getOv (z := some (97 - s)) T_ok d_PM_beam_1 f_PM_27 (xi_s k0.1 sf_0) k0.1.2.2.1 ?_
  refine A_iload_n 1 d_PM_beam_4 rfl rfl ?_
  refine A_callV1 m_Score_voiceAt T_ok d_PM_beam_5 l_PM_125 k_Score_voiceAt (xs_S k0.1 (isS_o hS)) rfl (by decide +kernel) (by decide) (Nat.le_of_ble_eq_true rfl) (s_Score_voiceAt k0.1 (isS_o hS)) (fun r h2 hq => ?_)
  obtain ⟨ox4, rfl, qx4, rfl⟩ := hq
  rcases qx4 with rfl | ⟨x4, rfl, tx4⟩
  · refine A_astore_n 3 (L' := [some (av_R (some 0)), some (av_I a1), some (av_I a2), some (av_R none)]) d_PM_beam_8 rfl (Nat.le_of_ble_eq_true rfl) rfl ?_
    refine A_aload_n 3 d_PM_beam_9 rfl rfl ?_
    refine A_ifnull (tgt := 25) d_PM_beam_10 (by decide) (fun _ => ?_) (fun a q => by cases q)
    refine A_iconst d_PM_beam_25 rfl ?_
    exact A_iret d_PM_beam_26 (by decide) rfl ⟨_, rfl, ⟨by omega, by omega⟩, k0⟩
  · refine A_astore_n 3 (L' := [some (av_R (some 0)), some (av_I a1), some (av_I a2), some (av_R (some x4))]) d_PM_beam_8 rfl (Nat.le_of_ble_eq_true rfl) rfl ?_
    refine A_aload_n 3 d_PM_beam_9 rfl rfl ?_
    refine A_ifnull (tgt := 25) d_PM_beam_10 (by decide) (fun q => by cases q) (fun _ _ => ?_)
    refine A_iload_n 2 d_PM_beam_13 rfl rfl ?_
    refine A_if_lt (tgt := 25) d_PM_beam_14 (by decide) (fun c5 => ?_) (fun c5 => ?_)
    · refine A_iconst d_PM_beam_25 rfl ?_
      exact A_iret d_PM_beam_26 (by decide) rfl ⟨_, rfl, ⟨by omega, by omega⟩, k0⟩
    · refine A_iload_n 2 d_PM_beam_17 rfl rfl ?_
      refine A_aload_n 3 d_PM_beam_18 rfl rfl ?_
      refine A_getIn (lo := 0) (hi := 101) T_ok d_PM_beam_19 f_PM_134 (xs_V k0.1 (tV_V (isS_o hS) tx4)) (xi_g k0.1 (lt1_V (tV_V (isS_o hS) tx4)) (rg_V_16 (tV_V (isS_o hS) tx4))) (fun x6 ex6 _ _ => ?_)
      refine A_icmp_lt (tgt := 27) d_PM_beam_22 (by decide) (fun c7 => ?_) (fun c7 => ?_)
      · refine A_aload_n 0 d_PM_beam_27 rfl rfl ?_
        refine A_getOv (z := some 146) T_ok d_PM_beam_28 f_PM_44 (xi_s k0.1 sf_0) (xi_r k0.1 rff_0_6) ?_
        refine A_aload_n 3 d_PM_beam_31 rfl rfl ?_
        refine A_iload_n 2 d_PM_beam_32 rfl rfl ?_
        refine A_aload_n 0 d_PM_beam_33 rfl rfl ?_
        refine A_pc (pc' := 34) rfl ?_
        refine A_getOv (z := some (97 - s)) T_ok d_PM_beam_34 f_PM_27 (xi_s k0.1 sf_0) k0.1.2.2.1 ?_
        refine A_getIf T_ok d_PM_beam_37 f_PM_122 (xs_S k0.1 (isS_o hS)) (fun x10 ex10 _ _ => ?_)
        refine A_callV3 m_Beams_find T_ok d_PM_beam_40 l_PM_164 k_Beams_find (xi_s k0.1 sf_146) rfl (by decide +kernel) (by decide) (Nat.le_of_ble_eq_true rfl) (z_Beams_find k0.1 (tV_V (isS_o hS) tx4) (by omega) (by omega)) (fun r h11 hq => ?_)
        obtain ⟨x13, rfl, ⟨_, _⟩, k12⟩ := hq
        have k14 := kF_t k0 k12 (fun _ q => q)
        exact A_iret d_PM_beam_43 (by decide) rfl ⟨_, rfl, ⟨by omega, by omega⟩, k14⟩
      · refine A_iconst d_PM_beam_25 rfl ?_
        exact A_iret d_PM_beam_26 (by decide) rfl ⟨_, rfl, ⟨by omega, by omega⟩, k0⟩
