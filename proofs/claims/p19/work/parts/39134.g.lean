/-! ===== Page: what its methods leave as it was ===== -/
abbrev FCP : Nat → Prop := fun a => a < 150 ∨ 158 ≤ a
abbrev FCW : Nat → Prop := fun a => a < 155 ∨ 158 ≤ a
theorem z_Page_findFrom {G : cx_T} {s : Nat} {h : ah_T} (hx : xi s h) {a1 : Int} {a2 : Int} {a3 : Int} (la1 : 0 ≤ a1) (ua1 : a1 ≤ 13) (la2 : 1 ≤ a2) (ua2 : a2 ≤ 14) (hlt : a1 < a2) : con G 1 0 0 m_Page_findFrom [av_R (some 150), av_I a1, av_I a2, av_I a3] h (fun r h' => r = none ∧ kF FCP s h h') := by
  refine con_of (L := [some (av_R (some 150)), some (av_I a1), some (av_I a2), some (av_I a3), none, none, none, none, none]) (by decide +kernel) (Nat.le_of_ble_eq_true rfl) rfl ?_
  have hS : isS s := hx.2.1
  have hs0 : s = 17 ∨ s = 80 := hS
  have k0 : kF FCP s h h := kF_0 hx
  refine A_locI 3 rfl (fun ra => ?_)
  obtain ⟨_, _⟩ := ra
  refine A_iload_n 3 d_Page_findFrom_0 rfl rfl ?_
  refine A_aload_n 0 d_Page_findFrom_1 rfl rfl ?_
  refine A_getAv (z := some 152) T_ok d_Page_findFrom_2 f_Page_15 (xi_s k0.1 sf_150) (xi_r k0.1 rff_150_2) ?_
  refine A_iload_n 1 d_Page_findFrom_5 rfl rfl ?_
  refine A_ialoadf d_Page_findFrom_6 (xi_s k0.1 sf_152) (by omega) (by omega) (fun x2 ex2 _ _ => ?_)
  refine A_pc (pc' := 7) rfl ?_
  refine A_isubw d_Page_findFrom_7 (fun x3 _ _ _ => ?_)
  refine A_i2l d_Page_findFrom_8 ?_
  refine A_lstore (L' := [some (av_R (some 150)), some (av_I a1), some (av_I a2), some (av_I a3), some (av_L x3), none, none, none, none]) d_Page_findFrom_9 (Nat.le_of_ble_eq_true rfl) rfl ?_
  refine A_aload_n 0 d_Page_findFrom_11 rfl rfl ?_
  refine A_getAv (z := some 154) T_ok d_Page_findFrom_12 f_Page_22 (xi_s k0.1 sf_150) (xi_r k0.1 rff_150_4) ?_
  refine A_iload_n 1 d_Page_findFrom_15 rfl rfl ?_
  refine A_pc (pc' := 16) rfl ?_
  refine A_iconst d_Page_findFrom_16 rfl ?_
  refine A_iastorek (KR := kF FCP s h) d_Page_findFrom_17 (xi_s k0.1 sf_154) (by omega) (by omega) (kF_j k0 (by decide) (ns_b rfl) (rgf_154 _) (by omega) (by omega)) (fun h5 k6 eh5 => ?_)
  refine A_aload_n 0 d_Page_findFrom_18 rfl rfl ?_
  refine A_getAv (z := some 153) T_ok d_Page_findFrom_19 f_Page_18 (xi_s k6.1 sf_150) (xi_r k6.1 rff_150_3) ?_
  refine A_iload_n 1 d_Page_findFrom_22 rfl rfl ?_
  refine A_aload_n 0 d_Page_findFrom_23 rfl rfl ?_
  refine A_pc (pc' := 24) rfl ?_
  refine A_getAv (z := some 153) T_ok d_Page_findFrom_24 f_Page_18 (xi_s k6.1 sf_150) (xi_r k6.1 rff_150_3) ?_
  refine A_iload_n 1 d_Page_findFrom_27 rfl rfl ?_
  refine A_iconst d_Page_findFrom_28 rfl ?_
  refine A_iaddv (z := (a1 + 1)) d_Page_findFrom_29 (w32_to (by omega) (by unfold i32; omega)) ?_
  refine A_laloadf d_Page_findFrom_30 (xi_s k6.1 sf_153) (by omega) (by omega) (fun x9 ex9 _ _ => ?_)
  refine A_lload d_Page_findFrom_31 rfl ?_
  refine A_pc (pc' := 33) rfl ?_
  refine A_iload_n 1 d_Page_findFrom_33 rfl rfl ?_
  refine A_iconst d_Page_findFrom_34 rfl ?_
  refine A_iaddv (z := (a1 + 1)) d_Page_findFrom_35 (w32_to (by omega) (by unfold i32; omega)) ?_
  refine A_iload_n 2 d_Page_findFrom_36 rfl rfl ?_
  refine A_icmp_ne (tgt := 44) d_Page_findFrom_37 (by decide) (fun c10 => ?_) (fun c10 => ?_)
  · refine A_iconst d_Page_findFrom_44 rfl ?_
    refine A_callS2 m_Page_lineCost d_Page_findFrom_45 l_Page_52 k_Page_lineCost (by decide +kernel) (by decide) (Nat.le_of_ble_eq_true rfl) (s_Page_lineCost  (by omega)) (fun r h11 hq => ?_)
    obtain ⟨x13, rfl, ⟨_, _⟩, rfl⟩ := hq
    refine A_laddw d_Page_findFrom_48 (fun x14 _ _ _ => ?_)
    refine A_lastorek (KR := kF FCP s h) d_Page_findFrom_49 (xi_s k6.1 sf_153) (by omega) (by omega) (kF_l k6 (by decide) (nl_b rfl)) (fun h15 k16 eh15 => ?_)
    refine A_iconst d_Page_findFrom_50 rfl ?_
    refine A_istore (L' := [some (av_R (some 150)), some (av_I a1), some (av_I a2), some (av_I a3), some (av_L x3), none, some (av_I 2), none, none]) d_Page_findFrom_51 (Nat.le_of_ble_eq_true rfl) rfl ?_
    have lp53 : ∀ (n : Nat) (i17 i18 : Int) (h19 : ah_T) , (-2147483648) ≤ i17 → i17 ≤ 9223372036854775807 → 2 ≤ i18 → i18 ≤ 15 → kF FCP s h h19 → (16 - i18).toNat < n → aw G (rm_R 1 0 0) m_Page_findFrom 0 0 53 [some (av_R (some 150)), some (av_I a1), some (av_I a2), some (av_I a3), some (av_L i17), none, some (av_I i18), none, none] [] h19 (fun r h' => r = none ∧ kF FCP s h h') := by
      intro n
      induction n with
      | zero => intro i17 i18 h19 _ _ _ _ _ hm; omega
      | succ n ih53 =>
        intro i17 i18 h19 hl0 hl1 hl2 hl3 k20 hm
        refine A_iload_n 1 d_Page_findFrom_53 rfl rfl ?_
        refine A_iload d_Page_findFrom_54 rfl ?_
        refine A_iaddv (z := (a1 + i18)) d_Page_findFrom_56 (w32_to (by omega) (by unfold i32; omega)) ?_
        refine A_iload_n 2 d_Page_findFrom_57 rfl rfl ?_
        refine A_icmp_gt (tgt := 150) d_Page_findFrom_58 (by decide) (fun c21 => ?_) (fun c21 => ?_)
        · exact A_vret d_Page_findFrom_150 (by decide) rfl ⟨rfl, k20⟩
        · refine A_lload d_Page_findFrom_61 rfl ?_
          refine A_aload_n 0 d_Page_findFrom_63 rfl rfl ?_
          refine A_getAv (z := some 152) T_ok d_Page_findFrom_64 f_Page_15 (xi_s k20.1 sf_150) (xi_r k20.1 rff_150_2) ?_
          refine A_iload_n 1 d_Page_findFrom_67 rfl rfl ?_
          refine A_iload d_Page_findFrom_68 rfl ?_
          refine A_pc (pc' := 70) rfl ?_
          refine A_iaddv (z := (a1 + i18)) d_Page_findFrom_70 (w32_to (by omega) (by unfold i32; omega)) ?_
          refine A_iconst d_Page_findFrom_71 rfl ?_
          refine A_isubv (z := (a1 + i18 - 1)) d_Page_findFrom_72 (w32_to (by omega) (by unfold i32; omega)) ?_
          refine A_ialoadf d_Page_findFrom_73 (xi_s k20.1 sf_152) (by omega) (by omega) (fun x23 ex23 _ _ => ?_)
          refine A_i2l d_Page_findFrom_74 ?_
          refine A_lsubw d_Page_findFrom_75 (fun x24 _ _ _ => ?_)
          refine A_pc (pc' := 76) rfl ?_
          refine A_lstore (L' := [some (av_R (some 150)), some (av_I a1), some (av_I a2), some (av_I a3), some (av_L x24), none, some (av_I i18), none, none]) d_Page_findFrom_76 (Nat.le_of_ble_eq_true rfl) rfl ?_
          refine A_lload d_Page_findFrom_78 rfl ?_
          refine A_lconst_0 d_Page_findFrom_80 ?_
          refine A_lcmpn d_Page_findFrom_81 (fun x25 lx25 ex25 gx25 _ _ => ?_)
          refine A_if_ge (tgt := 86) d_Page_findFrom_82 (by decide) (fun c26 => ?_) (fun c26 => ?_)
          · have mc26 : x24 ≥ 0 := by omega
            refine A_aload_n 0 d_Page_findFrom_86 rfl rfl ?_
            refine A_getAv (z := some 153) T_ok d_Page_findFrom_87 f_Page_18 (xi_s k20.1 sf_150) (xi_r k20.1 rff_150_3) ?_
            refine A_iload_n 1 d_Page_findFrom_90 rfl rfl ?_
            refine A_iload d_Page_findFrom_91 rfl ?_
            refine A_iaddv (z := (a1 + i18)) d_Page_findFrom_93 (w32_to (by omega) (by unfold i32; omega)) ?_
            refine A_pc (pc' := 94) rfl ?_
            refine A_laloadf d_Page_findFrom_94 (xi_s k20.1 sf_153) (by omega) (by omega) (fun x28 ex28 _ _ => ?_)
            refine A_lload d_Page_findFrom_95 rfl ?_
            refine A_iload_n 1 d_Page_findFrom_97 rfl rfl ?_
            refine A_iload d_Page_findFrom_98 rfl ?_
            refine A_iaddv (z := (a1 + i18)) d_Page_findFrom_100 (w32_to (by omega) (by unfold i32; omega)) ?_
            refine A_iload_n 2 d_Page_findFrom_101 rfl rfl ?_
            refine A_pc (pc' := 102) rfl ?_
            refine A_icmp_ne (tgt := 109) d_Page_findFrom_102 (by decide) (fun c29 => ?_) (fun c29 => ?_)
            · refine A_iconst d_Page_findFrom_109 rfl ?_
              refine A_callS2 m_Page_lineCost d_Page_findFrom_110 l_Page_52 k_Page_lineCost (by decide +kernel) (by decide) (Nat.le_of_ble_eq_true rfl) (s_Page_lineCost  (by omega)) (fun r h30 hq => ?_)
              obtain ⟨x32, rfl, ⟨_, _⟩, rfl⟩ := hq
              refine A_laddw d_Page_findFrom_113 (fun x33 _ _ _ => ?_)
              refine A_lstore (L' := [some (av_R (some 150)), some (av_I a1), some (av_I a2), some (av_I a3), some (av_L x24), none, some (av_I i18), some (av_L x33), none]) d_Page_findFrom_114 (Nat.le_of_ble_eq_true rfl) rfl ?_
              refine A_lload d_Page_findFrom_116 rfl ?_
              refine A_aload_n 0 d_Page_findFrom_118 rfl rfl ?_
              refine A_getAv (z := some 153) T_ok d_Page_findFrom_119 f_Page_18 (xi_s k20.1 sf_150) (xi_r k20.1 rff_150_3) ?_
              refine A_pc (pc' := 122) rfl ?_
              refine A_iload_n 1 d_Page_findFrom_122 rfl rfl ?_
              refine A_laloadf d_Page_findFrom_123 (xi_s k20.1 sf_153) (by omega) (by omega) (fun x35 ex35 _ _ => ?_)
              refine A_lcmpn d_Page_findFrom_124 (fun x36 lx36 ex36 gx36 _ _ => ?_)
              refine A_if_gt (tgt := 144) d_Page_findFrom_125 (by decide) (fun c37 => ?_) (fun c37 => ?_)
              · have mc37 : (x33 - x35) > 0 := by omega
                refine A_iincv (z := (i18 + 1)) (L' := [some (av_R (some 150)), some (av_I a1), some (av_I a2), some (av_I a3), some (av_L x24), none, some (av_I (i18 + 1)), some (av_L x33), none]) d_Page_findFrom_144 rfl (w32_to (by omega) (by unfold i32; omega)) rfl ?_
                refine A_goto (tgt := 53) d_Page_findFrom_147 (by decide) ?_
                refine A_free (L' := [some (av_R (some 150)), some (av_I a1), some (av_I a2), some (av_I a3), some (av_L x24), none, some (av_I (i18 + 1)), none, none]) (And.intro rfl (And.intro rfl (And.intro rfl (And.intro rfl (And.intro rfl (And.intro rfl trivial)))))) ?_
                exact ih53 x24 (i18 + 1) h19 (by omega) (by omega) (by omega) (by omega) k20 (by omega)
              · have mc37 : (x33 - x35) ≤ 0 := by omega
                refine A_aload_n 0 d_Page_findFrom_128 rfl rfl ?_
                refine A_getAv (z := some 154) T_ok d_Page_findFrom_129 f_Page_22 (xi_s k20.1 sf_150) (xi_r k20.1 rff_150_4) ?_
                refine A_iload_n 1 d_Page_findFrom_132 rfl rfl ?_
                refine A_iload d_Page_findFrom_133 rfl ?_
                refine A_iastorek (KR := kF FCP s h) d_Page_findFrom_135 (xi_s k20.1 sf_154) (by omega) (by omega) (kF_j k20 (by decide) (ns_b rfl) (rgf_154 _) (by omega) (by omega)) (fun h39 k40 eh39 => ?_)
                refine A_pc (pc' := 136) rfl ?_
                refine A_aload_n 0 d_Page_findFrom_136 rfl rfl ?_
                refine A_getAv (z := some 153) T_ok d_Page_findFrom_137 f_Page_18 (xi_s k40.1 sf_150) (xi_r k40.1 rff_150_3) ?_
                refine A_iload_n 1 d_Page_findFrom_140 rfl rfl ?_
                refine A_lload d_Page_findFrom_141 rfl ?_
                refine A_lastorek (KR := kF FCP s h) d_Page_findFrom_143 (xi_s k40.1 sf_153) (by omega) (by omega) (kF_l k40 (by decide) (nl_b rfl)) (fun h42 k43 eh42 => ?_)
                refine A_iincv (z := (i18 + 1)) (L' := [some (av_R (some 150)), some (av_I a1), some (av_I a2), some (av_I a3), some (av_L x24), none, some (av_I (i18 + 1)), some (av_L x33), none]) d_Page_findFrom_144 rfl (w32_to (by omega) (by unfold i32; omega)) rfl ?_
                refine A_pc (pc' := 147) rfl ?_
                refine A_goto (tgt := 53) d_Page_findFrom_147 (by decide) ?_
                refine A_free (L' := [some (av_R (some 150)), some (av_I a1), some (av_I a2), some (av_I a3), some (av_L x24), none, some (av_I (i18 + 1)), none, none]) (And.intro rfl (And.intro rfl (And.intro rfl (And.intro rfl (And.intro rfl (And.intro rfl trivial)))))) ?_
                exact ih53 x24 (i18 + 1) h42 (by omega) (by omega) (by omega) (by omega) k43 (by omega)
            · refine A_iconst d_Page_findFrom_105 rfl ?_
              refine A_goto (tgt := 110) d_Page_findFrom_106 (by decide) ?_
              refine A_callS2 m_Page_lineCost d_Page_findFrom_110 l_Page_52 k_Page_lineCost (by decide +kernel) (by decide) (Nat.le_of_ble_eq_true rfl) (s_Page_lineCost  (by omega)) (fun r h44 hq => ?_)
              obtain ⟨x46, rfl, ⟨_, _⟩, rfl⟩ := hq
              refine A_laddw d_Page_findFrom_113 (fun x47 _ _ _ => ?_)
              refine A_lstore (L' := [some (av_R (some 150)), some (av_I a1), some (av_I a2), some (av_I a3), some (av_L x24), none, some (av_I i18), some (av_L x47), none]) d_Page_findFrom_114 (Nat.le_of_ble_eq_true rfl) rfl ?_
              refine A_lload d_Page_findFrom_116 rfl ?_
              refine A_aload_n 0 d_Page_findFrom_118 rfl rfl ?_
              refine A_getAv (z := some 153) T_ok d_Page_findFrom_119 f_Page_18 (xi_s k20.1 sf_150) (xi_r k20.1 rff_150_3) ?_
              refine A_pc (pc' := 122) rfl ?_
              refine A_iload_n 1 d_Page_findFrom_122 rfl rfl ?_
              refine A_laloadf d_Page_findFrom_123 (xi_s k20.1 sf_153) (by omega) (by omega) (fun x49 ex49 _ _ => ?_)
              refine A_lcmpn d_Page_findFrom_124 (fun x50 lx50 ex50 gx50 _ _ => ?_)
              refine A_if_gt (tgt := 144) d_Page_findFrom_125 (by decide) (fun c51 => ?_) (fun c51 => ?_)
              · have mc51 : (x47 - x49) > 0 := by omega
                refine A_iincv (z := (i18 + 1)) (L' := [some (av_R (some 150)), some (av_I a1), some (av_I a2), some (av_I a3), some (av_L x24), none, some (av_I (i18 + 1)), some (av_L x47), none]) d_Page_findFrom_144 rfl (w32_to (by omega) (by unfold i32; omega)) rfl ?_
                refine A_goto (tgt := 53) d_Page_findFrom_147 (by decide) ?_
                refine A_free (L' := [some (av_R (some 150)), some (av_I a1), some (av_I a2), some (av_I a3), some (av_L x24), none, some (av_I (i18 + 1)), none, none]) (And.intro rfl (And.intro rfl (And.intro rfl (And.intro rfl (And.intro rfl (And.intro rfl trivial)))))) ?_
                exact ih53 x24 (i18 + 1) h19 (by omega) (by omega) (by omega) (by omega) k20 (by omega)
              · have mc51 : (x47 - x49) ≤ 0 := by omega
                refine A_aload_n 0 d_Page_findFrom_128 rfl rfl ?_
                refine A_getAv (z := some 154) T_ok d_Page_findFrom_129 f_Page_22 (xi_s k20.1 sf_150) (xi_r k20.1 rff_150_4) ?_
                refine A_iload_n 1 d_Page_findFrom_132 rfl rfl ?_
                refine A_iload d_Page_findFrom_133 rfl ?_
                refine A_iastorek (KR := kF FCP s h) d_Page_findFrom_135 (xi_s k20.1 sf_154) (by omega) (by omega) (kF_j k20 (by decide) (ns_b rfl) (rgf_154 _) (by omega) (by omega)) (fun h53 k54 eh53 => ?_)
                refine A_pc (pc' := 136) rfl ?_
                refine A_aload_n 0 d_Page_findFrom_136 rfl rfl ?_
                refine A_getAv (z := some 153) T_ok d_Page_findFrom_137 f_Page_18 (xi_s k54.1 sf_150) (xi_r k54.1 rff_150_3) ?_
                refine A_iload_n 1 d_Page_findFrom_140 rfl rfl ?_
                refine A_lload d_Page_findFrom_141 rfl ?_
                refine A_lastorek (KR := kF FCP s h) d_Page_findFrom_143 (xi_s k54.1 sf_153) (by omega) (by omega) (kF_l k54 (by decide) (nl_b rfl)) (fun h56 k57 eh56 => ?_)
                refine A_iincv (z := (i18 + 1)) (L' := [some (av_R (some 150)), some (av_I a1), some (av_I a2), some (av_I a3), some (av_L x24), none, some (av_I (i18 + 1)), some (av_L x47), none]) d_Page_findFrom_144 rfl (w32_to (by omega) (by unfold i32; omega)) rfl ?_
                refine A_pc (pc' := 147) rfl ?_
                refine A_goto (tgt := 53) d_Page_findFrom_147 (by decide) ?_
                refine A_free (L' := [some (av_R (some 150)), some (av_I a1), some (av_I a2), some (av_I a3), some (av_L x24), none, some (av_I (i18 + 1)), none, none]) (And.intro rfl (And.intro rfl (And.intro rfl (And.intro rfl (And.intro rfl (And.intro rfl trivial)))))) ?_
                exact ih53 x24 (i18 + 1) h56 (by omega) (by omega) (by omega) (by omega) k57 (by omega)
          · have mc26 : x24 < 0 := by omega
            exact A_vret d_Page_findFrom_85 (by decide) rfl ⟨rfl, k20⟩
    exact lp53 _ x3 2 h15 (by omega) (by omega) (by omega) (by omega) k16 (Nat.lt_succ_self _)
  · refine A_iconst d_Page_findFrom_40 rfl ?_
    refine A_goto (tgt := 45) d_Page_findFrom_41 (by decide) ?_
    refine A_callS2 m_Page_lineCost d_Page_findFrom_45 l_Page_52 k_Page_lineCost (by decide +kernel) (by decide) (Nat.le_of_ble_eq_true rfl) (s_Page_lineCost  (by omega)) (fun r h58 hq => ?_)
    obtain ⟨x60, rfl, ⟨_, _⟩, rfl⟩ := hq
    refine A_laddw d_Page_findFrom_48 (fun x61 _ _ _ => ?_)
    refine A_lastorek (KR := kF FCP s h) d_Page_findFrom_49 (xi_s k6.1 sf_153) (by omega) (by omega) (kF_l k6 (by decide) (nl_b rfl)) (fun h62 k63 eh62 => ?_)
    refine A_iconst d_Page_findFrom_50 rfl ?_
    refine A_istore (L' := [some (av_R (some 150)), some (av_I a1), some (av_I a2), some (av_I a3), some (av_L x3), none, some (av_I 2), none, none]) d_Page_findFrom_51 (Nat.le_of_ble_eq_true rfl) rfl ?_
    have lp53 : ∀ (n : Nat) (i64 i65 : Int) (h66 : ah_T) , (-2147483648) ≤ i64 → i64 ≤ 2147483647 → 2 ≤ i65 → i65 ≤ 2 → kF FCP s h h66 → (3 - i65).toNat < n → aw G (rm_R 1 0 0) m_Page_findFrom 0 0 53 [some (av_R (some 150)), some (av_I a1), some (av_I a2), some (av_I a3), some (av_L i64), none, some (av_I i65), none, none] [] h66 (fun r h' => r = none ∧ kF FCP s h h') := by
      intro n
      induction n with
      | zero => intro i64 i65 h66 _ _ _ _ _ hm; omega
      | succ n ih53 =>
        intro i64 i65 h66 hl0 hl1 hl2 hl3 k67 hm
        refine A_iload_n 1 d_Page_findFrom_53 rfl rfl ?_
        refine A_iload d_Page_findFrom_54 rfl ?_
        refine A_iaddv (z := (a1 + i65)) d_Page_findFrom_56 (w32_to (by omega) (by unfold i32; omega)) ?_
        refine A_iload_n 2 d_Page_findFrom_57 rfl rfl ?_
        refine A_icmp_gt (tgt := 150) d_Page_findFrom_58 (by decide) (fun c68 => ?_) (fun c => False.elim (by omega))
        exact A_vret d_Page_findFrom_150 (by decide) rfl ⟨rfl, k67⟩
    exact lp53 _ x3 2 h62 (by omega) (by omega) (by omega) (by omega) k63 (Nat.lt_succ_self _)
theorem z_Page_setNext_n {G : cx_T} {s : Nat} {h : ah_T} (hx : xi s h) {a2 : Int} {a3 : Int} (la2 : 0 ≤ a2) (ua2 : a2 ≤ 3) (la3 : 0 ≤ a3) (ua3 : a3 ≤ 100) : con G 1 0 0 m_Page_setNext [av_R (some 150), av_R none, av_I a2, av_I a3] h (fun r h' => r = none ∧ (h'.2.1 155 = h.2.1 155) ∧ kF FCW s h h') := by
  refine con_of (L := [some (av_R (some 150)), some (av_R none), some (av_I a2), some (av_I a3), none, none, none, none, none, none, none]) (by decide +kernel) (Nat.le_of_ble_eq_true rfl) rfl ?_
  have hS : isS s := hx.2.1
  have hs0 : s = 17 ∨ s = 80 := hS
  have k0 : kF FCW s h h := kF_0 hx
  refine A_aload_n 0 d_Page_setNext_0 rfl rfl ?_
  refine A_getAv (z := some 155) T_ok d_Page_setNext_1 f_Page_25 (xi_s k0.1 sf_150) (xi_r k0.1 rff_150_5) ?_
  refine A_iload_n 2 d_Page_setNext_4 rfl rfl ?_
  refine A_ialoadn (lo := 0) (hi := 2000) d_Page_setNext_5 (xi_s k0.1 sf_155) (by omega) (by omega) (xi_g k0.1 (by decide) (rgf_155 _)) (fun x2 ex2 _ _ => ?_)
  refine A_istore (L' := [some (av_R (some 150)), some (av_R none), some (av_I a2), some (av_I a3), some (av_I x2), none, none, none, none, none, none]) d_Page_setNext_6 (Nat.le_of_ble_eq_true rfl) rfl ?_
  refine A_pc (pc' := 8) rfl ?_
  refine A_aload_n 1 d_Page_setNext_8 rfl rfl ?_
  refine A_ifnull (tgt := 33) d_Page_setNext_9 (by decide) (fun _ => ?_) (fun a q => by cases q)
  refine A_aload_n 0 d_Page_setNext_33 rfl rfl ?_
  refine A_getAv (z := some 156) T_ok d_Page_setNext_34 f_Page_28 (xi_s k0.1 sf_150) (xi_r k0.1 rff_150_6) ?_
  refine A_iload_n 2 d_Page_setNext_37 rfl rfl ?_
  refine A_ldc2 (z := (-1)) d_Page_setNext_38 cst_Page_91 rfl ?_
  refine A_lastorek (KR := kF FCW s h) d_Page_setNext_41 (xi_s k0.1 sf_156) (by omega) (by omega) (kF_l k0 (by decide) (nl_b rfl)) (fun h4 k5 eh4 => ?_)
  refine A_pc (pc' := 42) rfl ?_
  exact A_vret d_Page_setNext_42 (by decide) rfl ⟨rfl, (eh4.1 |> fun w => (congrFun w _).trans rfl), k5⟩
theorem z_Page_setNext_v {G : cx_T} {s : Nat} {h : ah_T} (hx : xi s h) {a1 : Nat} {a2 : Int} {a3 : Int} (ha1 : isV a1) (la2 : 0 ≤ a2) (ua2 : a2 ≤ 3) (la3 : 0 ≤ a3) (ua3 : a3 ≤ 100) : con G 1 0 0 m_Page_setNext [av_R (some 150), av_R (some a1), av_I a2, av_I a3] h (fun r h' => r = none ∧ (h'.2.1 155 = h.2.1 155) ∧ kF FCW s h h') := by
  refine con_of (L := [some (av_R (some 150)), some (av_R (some a1)), some (av_I a2), some (av_I a3), none, none, none, none, none, none, none]) (by decide +kernel) (Nat.le_of_ble_eq_true rfl) rfl ?_
  have hS : isS s := hx.2.1
  have hs0 : s = 17 ∨ s = 80 := hS
  have k0 : kF FCW s h h := kF_0 hx
  have ga1 := lt_V ha1
  refine A_aload_n 0 d_Page_setNext_0 rfl rfl ?_
  refine A_getAv (z := some 155) T_ok d_Page_setNext_1 f_Page_25 (xi_s k0.1 sf_150) (xi_r k0.1 rff_150_5) ?_
  refine A_iload_n 2 d_Page_setNext_4 rfl rfl ?_
  refine A_ialoadn (lo := 0) (hi := 2000) d_Page_setNext_5 (xi_s k0.1 sf_155) (by omega) (by omega) (xi_g k0.1 (by decide) (rgf_155 _)) (fun x2 ex2 _ _ => ?_)
  refine A_istore (L' := [some (av_R (some 150)), some (av_R (some a1)), some (av_I a2), some (av_I a3), some (av_I x2), none, none, none, none, none, none]) d_Page_setNext_6 (Nat.le_of_ble_eq_true rfl) rfl ?_
  refine A_pc (pc' := 8) rfl ?_
  refine A_aload_n 1 d_Page_setNext_8 rfl rfl ?_
  refine A_ifnull (tgt := 33) d_Page_setNext_9 (by decide) (fun q => by cases q) (fun _ _ => ?_)
  refine A_iload_n 3 d_Page_setNext_12 rfl rfl ?_
  refine A_aload_n 1 d_Page_setNext_13 rfl rfl ?_
  refine A_getIn (lo := 0) (hi := 101) T_ok d_Page_setNext_14 f_Page_65 (xs_V k0.1 ha1) (xi_g k0.1 (lt1_V ha1) (rg_V_16 ha1)) (fun x3 ex3 _ _ => ?_)
  refine A_icmp_ge (tgt := 33) d_Page_setNext_17 (by decide) (fun c4 => ?_) (fun c4 => ?_)
  · refine A_aload_n 0 d_Page_setNext_33 rfl rfl ?_
    refine A_getAv (z := some 156) T_ok d_Page_setNext_34 f_Page_28 (xi_s k0.1 sf_150) (xi_r k0.1 rff_150_6) ?_
    refine A_iload_n 2 d_Page_setNext_37 rfl rfl ?_
    refine A_ldc2 (z := (-1)) d_Page_setNext_38 cst_Page_91 rfl ?_
    refine A_lastorek (KR := kF FCW s h) d_Page_setNext_41 (xi_s k0.1 sf_156) (by omega) (by omega) (kF_l k0 (by decide) (nl_b rfl)) (fun h6 k7 eh6 => ?_)
    refine A_pc (pc' := 42) rfl ?_
    exact A_vret d_Page_setNext_42 (by decide) rfl ⟨rfl, (eh6.1 |> fun w => (congrFun w _).trans rfl), k7⟩
  · refine A_iload d_Page_setNext_20 rfl ?_
    refine A_aload_n 1 d_Page_setNext_22 rfl rfl ?_
    refine A_getAv (z := some (a1 + 13)) T_ok d_Page_setNext_23 f_Page_70 (xs_V k0.1 ha1) (xr_V_15 k0.1 ha1) ?_
    refine A_iload_n 3 d_Page_setNext_26 rfl rfl ?_
    refine A_iconst d_Page_setNext_27 rfl ?_
    refine A_pc (pc' := 28) rfl ?_
    refine A_iaddv (z := (a3 + 1)) d_Page_setNext_28 (w32_to (by omega) (by unfold i32; omega)) ?_
    refine A_ialoadn (lo := 0) (hi := 300) d_Page_setNext_29 (xs_V_15 k0.1 ha1) (by omega) (by omega) (xi_g k0.1 (lt2_V ha1 (by decide)) (rg_V_15 ha1 _)) (fun x9 ex9 _ _ => ?_)
    refine A_icmp_lt (tgt := 43) d_Page_setNext_30 (by decide) (fun c10 => ?_) (fun c10 => ?_)
    · refine A_aload_n 1 d_Page_setNext_43 rfl rfl ?_
      refine A_iload_n 3 d_Page_setNext_44 rfl rfl ?_
      refine A_iload d_Page_setNext_45 rfl ?_
      refine A_callV2 m_Voice_sinceBarTop T_ok d_Page_setNext_47 l_Page_93 k_Voice_sinceBarTop (xs_V k0.1 ha1) rfl (by decide +kernel) (by decide) (Nat.le_of_ble_eq_true rfl) (s_Voice_sinceBarTop k0.1 ha1 (by omega) (by omega) (by omega) (by omega)) (fun r h11 hq => ?_)
      obtain ⟨x13, rfl, ⟨_, _⟩, rfl⟩ := hq
      refine A_lstore (L' := [some (av_R (some 150)), some (av_R (some a1)), some (av_I a2), some (av_I a3), some (av_I x2), some (av_L x13), none, none, none, none, none]) d_Page_setNext_50 (Nat.le_of_ble_eq_true rfl) rfl ?_
      refine A_aload_n 1 d_Page_setNext_52 rfl rfl ?_
      refine A_iload_n 3 d_Page_setNext_53 rfl rfl ?_
      refine A_iload d_Page_setNext_54 rfl ?_
      refine A_callV2 m_Voice_sinceBarBottom T_ok d_Page_setNext_56 l_Page_97 k_Voice_sinceBarBottom (xs_V k0.1 ha1) rfl (by decide +kernel) (by decide) (Nat.le_of_ble_eq_true rfl) (s_Voice_sinceBarBottom k0.1 ha1 (by omega) (by omega) (by omega) (by omega)) (fun r h14 hq => ?_)
      obtain ⟨x16, rfl, ⟨_, _⟩, rfl⟩ := hq
      refine A_lstore (L' := [some (av_R (some 150)), some (av_R (some a1)), some (av_I a2), some (av_I a3), some (av_I x2), some (av_L x13), none, some (av_L x16), none, none, none]) d_Page_setNext_59 (Nat.le_of_ble_eq_true rfl) rfl ?_
      refine A_lload d_Page_setNext_61 rfl ?_
      refine A_lload d_Page_setNext_63 rfl ?_
      refine A_callS2 m_PM_greatestDivisor d_Page_setNext_65 l_Page_100 k_PM_greatestDivisor (by decide +kernel) (by decide) (Nat.le_of_ble_eq_true rfl) (s_PM_greatestDivisor  ) (fun r h17 hq => ?_)
      obtain ⟨x19, rfl, ⟨_, _⟩, xx19, rfl⟩ := hq
      refine A_lstore (L' := [some (av_R (some 150)), some (av_R (some a1)), some (av_I a2), some (av_I a3), some (av_I x2), some (av_L x13), none, some (av_L x16), none, some (av_L x19), none]) d_Page_setNext_68 (Nat.le_of_ble_eq_true rfl) rfl ?_
      refine A_aload_n 0 d_Page_setNext_70 rfl rfl ?_
      refine A_getAv (z := some 156) T_ok d_Page_setNext_71 f_Page_28 (xi_s k0.1 sf_150) (xi_r k0.1 rff_150_6) ?_
      refine A_iload_n 2 d_Page_setNext_74 rfl rfl ?_
      refine A_lload d_Page_setNext_75 rfl ?_
      refine A_pc (pc' := 77) rfl ?_
      refine A_lload d_Page_setNext_77 rfl ?_
      refine A_ldivc d_Page_setNext_79 (by omega) (fun x21 ex21 _ _ => ?_)
      refine A_lastorek (KR := kF FCW s h) d_Page_setNext_80 (xi_s k0.1 sf_156) (by omega) (by omega) (kF_l k0 (by decide) (nl_b rfl)) (fun h22 k23 eh22 => ?_)
      refine A_aload_n 0 d_Page_setNext_81 rfl rfl ?_
      refine A_getAv (z := some 157) T_ok d_Page_setNext_82 f_Page_31 (xi_s k23.1 sf_150) (xi_r k23.1 rff_150_7) ?_
      refine A_iload_n 2 d_Page_setNext_85 rfl rfl ?_
      refine A_pc (pc' := 86) rfl ?_
      refine A_lload d_Page_setNext_86 rfl ?_
      refine A_lload d_Page_setNext_88 rfl ?_
      refine A_ldivc d_Page_setNext_90 (by omega) (fun x25 ex25 _ _ => ?_)
      refine A_lastorek (KR := kF FCW s h) d_Page_setNext_91 (xi_s k23.1 sf_157) (by omega) (by omega) (kF_l k23 (by decide) (nl_b rfl)) (fun h26 k27 eh26 => ?_)
      exact A_vret d_Page_setNext_92 (by decide) rfl ⟨rfl, (eh26.1 |> fun w => (congrFun w _).trans (eh22.1 |> fun w => (congrFun w _).trans rfl)), k27⟩
    · refine A_aload_n 0 d_Page_setNext_33 rfl rfl ?_
      refine A_getAv (z := some 156) T_ok d_Page_setNext_34 f_Page_28 (xi_s k0.1 sf_150) (xi_r k0.1 rff_150_6) ?_
      refine A_iload_n 2 d_Page_setNext_37 rfl rfl ?_
      refine A_ldc2 (z := (-1)) d_Page_setNext_38 cst_Page_91 rfl ?_
      refine A_lastorek (KR := kF FCW s h) d_Page_setNext_41 (xi_s k0.1 sf_156) (by omega) (by omega) (kF_l k0 (by decide) (nl_b rfl)) (fun h29 k30 eh29 => ?_)
      refine A_pc (pc' := 42) rfl ?_
      exact A_vret d_Page_setNext_42 (by decide) rfl ⟨rfl, (eh29.1 |> fun w => (congrFun w _).trans rfl), k30⟩
theorem z_Page_passTime {G : cx_T} {s : Nat} {h : ah_T} (hx : xi s h) {a1 : Nat} {a2 : Int} {a3 : Int} {a4 : Int} (ha1 : isS a1) (la2 : 0 ≤ a2) (ua2 : a2 ≤ 100) (hB : ∀ k : Nat, k < 4 → h.2.1 155 k ≤ 1999) : con G 2 0 0 m_Page_passTime [av_R (some 150), av_R (some a1), av_I a2, av_L a3, av_L a4] h (fun r h' => r = none ∧ (∀ k : Nat, k < 4 → h'.2.1 155 k ≤ h.2.1 155 k + 1) ∧ kF FCW s h h') := by
  refine con_of (L := [some (av_R (some 150)), some (av_R (some a1)), some (av_I a2), some (av_L a3), none, some (av_L a4), none, none]) (by decide +kernel) (Nat.le_of_ble_eq_true rfl) rfl ?_
  have hS : isS s := hx.2.1
  have hs0 : s = 17 ∨ s = 80 := hS
  have k0 : kF FCW s h h := kF_0 hx
  refine A_locL 3 rfl (fun ra => ?_)
  obtain ⟨_, _⟩ := ra
  refine A_locL 5 rfl (fun ra => ?_)
  obtain ⟨_, _⟩ := ra
  refine A_iconst d_Page_passTime_0 rfl ?_
  refine A_istore (L' := [some (av_R (some 150)), some (av_R (some a1)), some (av_I a2), some (av_L a3), none, some (av_L a4), none, some (av_I 0)]) d_Page_passTime_1 (Nat.le_of_ble_eq_true rfl) rfl ?_
  have lp3 : ∀ (n : Nat) (i1 : Int) (h2 : ah_T) , 0 ≤ i1 → i1 ≤ 4 → pt_I h h2 i1 → kF FCW s h h2 → (5 - i1).toNat < n → aw G (rm_R 2 0 0) m_Page_passTime 0 0 3 [some (av_R (some 150)), some (av_R (some a1)), some (av_I a2), some (av_L a3), none, some (av_L a4), none, some (av_I i1)] [] h2 (fun r h' => r = none ∧ (∀ k : Nat, k < 4 → h'.2.1 155 k ≤ h.2.1 155 k + 1) ∧ kF FCW s h h') := by
    intro n
    induction n with
    | zero => intro i1 h2 _ _ _ _ hm; omega
    | succ n ih3 =>
      intro i1 h2 hl0 hl1 hinv k3 hm
      refine A_iload d_Page_passTime_3 rfl ?_
      refine A_iconst d_Page_passTime_5 rfl ?_
      refine A_icmp_ge (tgt := 64) d_Page_passTime_6 (by decide) (fun c4 => ?_) (fun c4 => ?_)
      · exact A_vret d_Page_passTime_64 (by decide) rfl ⟨rfl, (pt_e hinv (by omega)), k3⟩
      · refine A_aload_n 0 d_Page_passTime_9 rfl rfl ?_
        refine A_getAv (z := some 156) T_ok d_Page_passTime_10 f_Page_28 (xi_s k3.1 sf_150) (xi_r k3.1 rff_150_6) ?_
        refine A_iload d_Page_passTime_13 rfl ?_
        refine A_laloadf d_Page_passTime_15 (xi_s k3.1 sf_156) (by omega) (by omega) (fun x6 ex6 _ _ => ?_)
        refine A_lload_n 3 d_Page_passTime_16 rfl rfl ?_
        refine A_pc (pc' := 17) rfl ?_
        refine A_lcmpn d_Page_passTime_17 (fun x7 lx7 ex7 gx7 _ _ => ?_)
        refine A_if_ne (tgt := 58) d_Page_passTime_18 (by decide) (fun c8 => ?_) (fun c8 => ?_)
        · have mc8 : (x6 - a3) ≠ 0 := by omega
          refine A_iincv (z := (i1 + 1)) (L' := [some (av_R (some 150)), some (av_R (some a1)), some (av_I a2), some (av_L a3), none, some (av_L a4), none, some (av_I (i1 + 1))]) d_Page_passTime_58 rfl (w32_to (by omega) (by unfold i32; omega)) rfl ?_
          refine A_goto (tgt := 3) d_Page_passTime_61 (by decide) ?_
          exact ih3 (i1 + 1) h2 (by omega) (by omega) (pt_n hinv (by omega)) k3 (by omega)
        · have mc8 : (x6 - a3) = 0 := by omega
          refine A_aload_n 0 d_Page_passTime_21 rfl rfl ?_
          refine A_getAv (z := some 157) T_ok d_Page_passTime_22 f_Page_31 (xi_s k3.1 sf_150) (xi_r k3.1 rff_150_7) ?_
          refine A_iload d_Page_passTime_25 rfl ?_
          refine A_laloadf d_Page_passTime_27 (xi_s k3.1 sf_157) (by omega) (by omega) (fun x10 ex10 _ _ => ?_)
          refine A_lload d_Page_passTime_28 rfl ?_
          refine A_pc (pc' := 30) rfl ?_
          refine A_lcmpn d_Page_passTime_30 (fun x11 lx11 ex11 gx11 _ _ => ?_)
          refine A_if_ne (tgt := 58) d_Page_passTime_31 (by decide) (fun c12 => ?_) (fun c12 => ?_)
          · have mc12 : (x10 - a4) ≠ 0 := by omega
            refine A_iincv (z := (i1 + 1)) (L' := [some (av_R (some 150)), some (av_R (some a1)), some (av_I a2), some (av_L a3), none, some (av_L a4), none, some (av_I (i1 + 1))]) d_Page_passTime_58 rfl (w32_to (by omega) (by unfold i32; omega)) rfl ?_
            refine A_goto (tgt := 3) d_Page_passTime_61 (by decide) ?_
            exact ih3 (i1 + 1) h2 (by omega) (by omega) (pt_n hinv (by omega)) k3 (by omega)
          · have mc12 : (x10 - a4) = 0 := by omega
            refine A_aload_n 0 d_Page_passTime_34 rfl rfl ?_
            refine A_getAv (z := some 155) T_ok d_Page_passTime_35 f_Page_25 (xi_s k3.1 sf_150) (xi_r k3.1 rff_150_5) ?_
            refine A_iload d_Page_passTime_38 rfl ?_
            refine A_dup2RI d_Page_passTime_40 ?_
            refine A_ialoadn (lo := 0) (hi := 2000) d_Page_passTime_41 (xi_s k3.1 sf_155) (by omega) (by omega) (xi_g k3.1 (by decide) (rgf_155 _)) (fun x14 ex14 _ _ => ?_)
            have yx14 : x14 ≤ 1999 := by have q1 := hinv.2 (i1).toNat (by omega) (by omega); have q2 := hB (i1).toNat (by omega); omega
            refine A_pc (pc' := 42) rfl ?_
            refine A_iconst d_Page_passTime_42 rfl ?_
            refine A_iaddv (z := (x14 + 1)) d_Page_passTime_43 (w32_to (by omega) (by unfold i32; omega)) ?_
            refine A_iastorek (KR := kF FCW s h) d_Page_passTime_44 (xi_s k3.1 sf_155) (by omega) (by omega) (kF_j k3 (by decide) (ns_b rfl) (rgf_155 _) (by omega) (by omega)) (fun h15 k16 eh15 => ?_)
            refine A_aload_n 0 d_Page_passTime_45 rfl rfl ?_
            refine A_aload_n 1 d_Page_passTime_46 rfl rfl ?_
            refine A_iload d_Page_passTime_47 rfl ?_
            refine A_pc (pc' := 49) rfl ?_
            refine A_callV1 m_Score_voiceAt T_ok d_Page_passTime_49 l_Page_61 k_Score_voiceAt (xs_S k16.1 ha1) rfl (by decide +kernel) (by decide) (Nat.le_of_ble_eq_true rfl) (s_Score_voiceAt k16.1 ha1) (fun r h17 hq => ?_)
            obtain ⟨ox19, rfl, qx19, rfl⟩ := hq
            rcases qx19 with rfl | ⟨x19, rfl, tx19⟩
            · refine A_iload d_Page_passTime_52 rfl ?_
              refine A_iload_n 2 d_Page_passTime_54 rfl rfl ?_
              refine A_callV3 m_Page_setNext T_ok d_Page_passTime_55 l_Page_80 k_Page_setNext (xi_s k16.1 sf_150) rfl (by decide +kernel) (by decide) (Nat.le_of_ble_eq_true rfl) (z_Page_setNext_n k16.1 (by omega) (by omega) (by omega) (by omega)) (fun r h20 hq => ?_)
              obtain ⟨rfl, xk21, k21⟩ := hq
              have k22 := kF_t k16 k21 (fun a q => by omega)
              refine A_iincv (z := (i1 + 1)) (L' := [some (av_R (some 150)), some (av_R (some a1)), some (av_I a2), some (av_L a3), none, some (av_L a4), none, some (av_I (i1 + 1))]) d_Page_passTime_58 rfl (w32_to (by omega) (by unfold i32; omega)) rfl ?_
              refine A_goto (tgt := 3) d_Page_passTime_61 (by decide) ?_
              exact ih3 (i1 + 1) h20 (by omega) (by omega) (pt_1 hinv (by omega) ex14 eh15.1 eh15.2.1 xk21) k22 (by omega)
            · refine A_iload d_Page_passTime_52 rfl ?_
              refine A_iload_n 2 d_Page_passTime_54 rfl rfl ?_
              refine A_callV3 m_Page_setNext T_ok d_Page_passTime_55 l_Page_80 k_Page_setNext (xi_s k16.1 sf_150) rfl (by decide +kernel) (by decide) (Nat.le_of_ble_eq_true rfl) (z_Page_setNext_v k16.1 (tV_V ha1 tx19) (by omega) (by omega) (by omega) (by omega)) (fun r h23 hq => ?_)
              obtain ⟨rfl, xk24, k24⟩ := hq
              have k25 := kF_t k16 k24 (fun a q => by omega)
              refine A_iincv (z := (i1 + 1)) (L' := [some (av_R (some 150)), some (av_R (some a1)), some (av_I a2), some (av_L a3), none, some (av_L a4), none, some (av_I (i1 + 1))]) d_Page_passTime_58 rfl (w32_to (by omega) (by unfold i32; omega)) rfl ?_
              refine A_goto (tgt := 3) d_Page_passTime_61 (by decide) ?_
              exact ih3 (i1 + 1) h23 (by omega) (by omega) (pt_1 hinv (by omega) ex14 eh15.1 eh15.2.1 xk24) k25 (by omega)
  exact lp3 _ 0 h (by omega) (by omega) (pt_0 (h := h)) k0 (Nat.lt_succ_self _)
theorem z_Page_timesIn {G : cx_T} {s : Nat} {h : ah_T} (hx : xi s h) {a1 : Nat} {a2 : Int} (ha1 : isS a1) (la2 : 0 ≤ a2) (ua2 : a2 ≤ 100) : con G 3 0 0 m_Page_timesIn [av_R (some 150), av_R (some a1), av_I a2] h (fun r h' => ∃ z, r = some (av_I z) ∧ ((-2147483648) ≤ z ∧ z ≤ 2147483647) ∧ kF FCW s h h') := by
  refine con_of (L := [some (av_R (some 150)), some (av_R (some a1)), some (av_I a2), none, none, none]) (by decide +kernel) (Nat.le_of_ble_eq_true rfl) rfl ?_
  have hS : isS s := hx.2.1
  have hs0 : s = 17 ∨ s = 80 := hS
  have k0 : kF FCW s h h := kF_0 hx
  refine A_iconst d_Page_timesIn_0 rfl ?_
  refine A_istore_n 3 (L' := [some (av_R (some 150)), some (av_R (some a1)), some (av_I a2), some (av_I 0), none, none]) d_Page_timesIn_1 rfl (Nat.le_of_ble_eq_true rfl) rfl ?_
  have lp2 : ∀ (n : Nat) (i1 : Int) (h2 : ah_T) , 0 ≤ i1 → i1 ≤ 4 → ti_I h2 i1 → kF FCW s h h2 → (5 - i1).toNat < n → aw G (rm_R 3 0 0) m_Page_timesIn 0 0 2 [some (av_R (some 150)), some (av_R (some a1)), some (av_I a2), some (av_I i1), none, none] [] h2 (fun r h' => ∃ z, r = some (av_I z) ∧ ((-2147483648) ≤ z ∧ z ≤ 2147483647) ∧ kF FCW s h h') := by
    intro n
    induction n with
    | zero => intro i1 h2 _ _ _ _ hm; omega
    | succ n ih2 =>
      intro i1 h2 hl0 hl1 hinv k3 hm
      refine A_iload_n 3 d_Page_timesIn_2 rfl rfl ?_
      refine A_iconst d_Page_timesIn_3 rfl ?_
      refine A_icmp_ge (tgt := 59) d_Page_timesIn_4 (by decide) (fun c4 => ?_) (fun c4 => ?_)
      · refine A_iconst d_Page_timesIn_59 rfl ?_
        refine A_istore_n 3 (L' := [some (av_R (some 150)), some (av_R (some a1)), some (av_I a2), some (av_I 0), none, none]) d_Page_timesIn_60 rfl (Nat.le_of_ble_eq_true rfl) rfl ?_
        refine A_iconst d_Page_timesIn_61 rfl ?_
        refine A_istore (L' := [some (av_R (some 150)), some (av_R (some a1)), some (av_I a2), some (av_I 0), some (av_I 0), none]) d_Page_timesIn_62 (Nat.le_of_ble_eq_true rfl) rfl ?_
        have lp64 : ∀ (n : Nat) (i5 i6 : Int) (h7 : ah_T) , (-2147483648) ≤ i5 → i5 ≤ 2147483647 → 0 ≤ i6 → i6 ≤ 1200 → (∀ k : Nat, k < 4 → h7.2.1 155 k ≤ 300 + i6) → kF FCW s h h7 → (1201 - i6).toNat < n → aw G (rm_R 3 0 0) m_Page_timesIn 0 0 64 [some (av_R (some 150)), some (av_R (some a1)), some (av_I a2), some (av_I i5), some (av_I i6), none] [] h7 (fun r h' => ∃ z, r = some (av_I z) ∧ ((-2147483648) ≤ z ∧ z ≤ 2147483647) ∧ kF FCW s h h') := by
          intro n
          induction n with
          | zero => intro i5 i6 h7 _ _ _ _ _ _ hm; omega
          | succ n ih64 =>
            intro i5 i6 h7 hl0 hl1 hl2 hl3 hinv k8 hm
            refine A_iload d_Page_timesIn_64 rfl ?_
            refine A_sipush d_Page_timesIn_66 rfl ?_
            refine A_icmp_ge (tgt := 121) d_Page_timesIn_69 (by decide) (fun c9 => ?_) (fun c9 => ?_)
            · refine A_iload_n 3 d_Page_timesIn_121 rfl rfl ?_
              exact A_iret d_Page_timesIn_122 (by decide) rfl ⟨_, rfl, ⟨by omega, by omega⟩, k8⟩
            · refine A_aload_n 0 d_Page_timesIn_72 rfl rfl ?_
              refine A_callV0 m_Page_earliest T_ok d_Page_timesIn_73 l_Page_84 k_Page_earliest (xi_s k8.1 sf_150) rfl (by decide +kernel) (by decide) (Nat.le_of_ble_eq_true rfl) (s_Page_earliest k8.1 ) (fun r h10 hq => ?_)
              obtain ⟨x12, rfl, ⟨_, _⟩, rfl⟩ := hq
              refine A_istore (L' := [some (av_R (some 150)), some (av_R (some a1)), some (av_I a2), some (av_I i5), some (av_I i6), some (av_I x12)]) d_Page_timesIn_76 (Nat.le_of_ble_eq_true rfl) rfl ?_
              refine A_aload_n 0 d_Page_timesIn_78 rfl rfl ?_
              refine A_getAv (z := some 156) T_ok d_Page_timesIn_79 f_Page_28 (xi_s k8.1 sf_150) (xi_r k8.1 rff_150_6) ?_
              refine A_iload d_Page_timesIn_82 rfl ?_
              refine A_laloadf d_Page_timesIn_84 (xi_s k8.1 sf_156) (by omega) (by omega) (fun x14 ex14 _ _ => ?_)
              refine A_pc (pc' := 85) rfl ?_
              refine A_lconst_0 d_Page_timesIn_85 ?_
              refine A_lcmpn d_Page_timesIn_86 (fun x15 lx15 ex15 gx15 _ _ => ?_)
              refine A_if_ge (tgt := 92) d_Page_timesIn_87 (by decide) (fun c16 => ?_) (fun c16 => ?_)
              · have mc16 : x14 ≥ 0 := by omega
                refine A_iincw d_Page_timesIn_92 rfl (fun x17 _ _ _ => ?_)
                refine A_lL (L' := [some (av_R (some 150)), some (av_R (some a1)), some (av_I a2), some (av_I x17), some (av_I i6), some (av_I x12)]) rfl ?_
                refine A_aload_n 0 d_Page_timesIn_95 rfl rfl ?_
                refine A_aload_n 1 d_Page_timesIn_96 rfl rfl ?_
                refine A_iload_n 2 d_Page_timesIn_97 rfl rfl ?_
                refine A_aload_n 0 d_Page_timesIn_98 rfl rfl ?_
                refine A_pc (pc' := 99) rfl ?_
                refine A_getAv (z := some 156) T_ok d_Page_timesIn_99 f_Page_28 (xi_s k8.1 sf_150) (xi_r k8.1 rff_150_6) ?_
                refine A_iload d_Page_timesIn_102 rfl ?_
                refine A_laloadv (z := x14) d_Page_timesIn_104 (xi_s k8.1 sf_156) (by omega) (by omega) ex14.symm ?_
                refine A_aload_n 0 d_Page_timesIn_105 rfl rfl ?_
                refine A_getAv (z := some 157) T_ok d_Page_timesIn_106 f_Page_31 (xi_s k8.1 sf_150) (xi_r k8.1 rff_150_7) ?_
                refine A_iload d_Page_timesIn_109 rfl ?_
                refine A_pc (pc' := 111) rfl ?_
                refine A_laloadf d_Page_timesIn_111 (xi_s k8.1 sf_157) (by omega) (by omega) (fun x21 ex21 _ _ => ?_)
                refine A_callV4 m_Page_passTime T_ok d_Page_timesIn_112 l_Page_87 k_Page_passTime (xi_s k8.1 sf_150) rfl (by decide +kernel) (by decide) (Nat.le_of_ble_eq_true rfl) (z_Page_passTime k8.1 ha1 (by omega) (by omega) (fun k hk => by have q1 := hinv k hk; omega)) (fun r h22 hq => ?_)
                obtain ⟨rfl, xk23, k23⟩ := hq
                have k24 := kF_t k8 k23 (fun a q => by omega)
                refine A_iincv (z := (i6 + 1)) (L' := [some (av_R (some 150)), some (av_R (some a1)), some (av_I a2), some (av_I x17), some (av_I (i6 + 1)), some (av_I x12)]) d_Page_timesIn_115 rfl (w32_to (by omega) (by unfold i32; omega)) rfl ?_
                refine A_goto (tgt := 64) d_Page_timesIn_118 (by decide) ?_
                refine A_free (L' := [some (av_R (some 150)), some (av_R (some a1)), some (av_I a2), some (av_I x17), some (av_I (i6 + 1)), none]) (And.intro rfl (And.intro rfl (And.intro rfl (And.intro rfl (And.intro rfl trivial))))) ?_
                exact ih64 x17 (i6 + 1) h22 (by omega) (by omega) (by omega) (by omega) (fun k hk => by have q1 := hinv k hk; have q2 := xk23 k hk; omega) k24 (by omega)
              · have mc16 : x14 < 0 := by omega
                refine A_iload_n 3 d_Page_timesIn_90 rfl rfl ?_
                exact A_iret d_Page_timesIn_91 (by decide) rfl ⟨_, rfl, ⟨by omega, by omega⟩, k8⟩
        exact lp64 _ 0 0 h2 (by omega) (by omega) (by omega) (by omega) (fun k hk => by have q1 := hinv k hk (by omega); omega) k3 (Nat.lt_succ_self _)
      · refine A_aload_n 1 d_Page_timesIn_7 rfl rfl ?_
        refine A_iload_n 3 d_Page_timesIn_8 rfl rfl ?_
        refine A_callV1 m_Score_voiceAt T_ok d_Page_timesIn_9 l_Page_61 k_Score_voiceAt (xs_S k3.1 ha1) rfl (by decide +kernel) (by decide) (Nat.le_of_ble_eq_true rfl) (s_Score_voiceAt k3.1 ha1) (fun r h25 hq => ?_)
        obtain ⟨ox27, rfl, qx27, rfl⟩ := hq
        rcases qx27 with rfl | ⟨x27, rfl, tx27⟩
        · refine A_astore (L' := [some (av_R (some 150)), some (av_R (some a1)), some (av_I a2), some (av_I i1), some (av_R none), none]) d_Page_timesIn_12 (Nat.le_of_ble_eq_true rfl) rfl ?_
          refine A_aload_n 0 d_Page_timesIn_14 rfl rfl ?_
          refine A_getAv (z := some 155) T_ok d_Page_timesIn_15 f_Page_25 (xi_s k3.1 sf_150) (xi_r k3.1 rff_150_5) ?_
          refine A_iload_n 3 d_Page_timesIn_18 rfl rfl ?_
          refine A_aload d_Page_timesIn_19 rfl ?_
          refine A_pc (pc' := 21) rfl ?_
          refine A_ifnull (tgt := 33) d_Page_timesIn_21 (by decide) (fun _ => ?_) (fun a q => by cases q)
          refine A_iconst d_Page_timesIn_33 rfl ?_
          refine A_goto (tgt := 44) d_Page_timesIn_34 (by decide) ?_
          refine A_iastorek (KR := kF FCW s h) d_Page_timesIn_44 (xi_s k3.1 sf_155) (by omega) (by omega) (kF_j k3 (by decide) (ns_b rfl) (rgf_155 _) (by omega) (by omega)) (fun h29 k30 eh29 => ?_)
          refine A_aload_n 0 d_Page_timesIn_45 rfl rfl ?_
          refine A_aload d_Page_timesIn_46 rfl ?_
          refine A_iload_n 3 d_Page_timesIn_48 rfl rfl ?_
          refine A_iload_n 2 d_Page_timesIn_49 rfl rfl ?_
          refine A_pc (pc' := 50) rfl ?_
          refine A_callV3 m_Page_setNext T_ok d_Page_timesIn_50 l_Page_80 k_Page_setNext (xi_s k30.1 sf_150) rfl (by decide +kernel) (by decide) (Nat.le_of_ble_eq_true rfl) (z_Page_setNext_n k30.1 (by omega) (by omega) (by omega) (by omega)) (fun r h31 hq => ?_)
          obtain ⟨rfl, xk32, k32⟩ := hq
          have k33 := kF_t k30 k32 (fun a q => by omega)
          refine A_iincv (z := (i1 + 1)) (L' := [some (av_R (some 150)), some (av_R (some a1)), some (av_I a2), some (av_I (i1 + 1)), some (av_R none), none]) d_Page_timesIn_53 rfl (w32_to (by omega) (by unfold i32; omega)) rfl ?_
          refine A_goto (tgt := 2) d_Page_timesIn_56 (by decide) ?_
          refine A_free (L' := [some (av_R (some 150)), some (av_R (some a1)), some (av_I a2), some (av_I (i1 + 1)), none, none]) (And.intro rfl (And.intro rfl (And.intro rfl (And.intro rfl trivial)))) ?_
          exact ih2 (i1 + 1) h31 (by omega) (by omega) (ti_1 hinv (by omega) eh29.1 eh29.2.1 (by omega) xk32) k33 (by omega)
        · refine A_astore (L' := [some (av_R (some 150)), some (av_R (some a1)), some (av_I a2), some (av_I i1), some (av_R (some x27)), none]) d_Page_timesIn_12 (Nat.le_of_ble_eq_true rfl) rfl ?_
          refine A_aload_n 0 d_Page_timesIn_14 rfl rfl ?_
          refine A_getAv (z := some 155) T_ok d_Page_timesIn_15 f_Page_25 (xi_s k3.1 sf_150) (xi_r k3.1 rff_150_5) ?_
          refine A_iload_n 3 d_Page_timesIn_18 rfl rfl ?_
          refine A_aload d_Page_timesIn_19 rfl ?_
          refine A_pc (pc' := 21) rfl ?_
          refine A_ifnull (tgt := 33) d_Page_timesIn_21 (by decide) (fun q => by cases q) (fun _ _ => ?_)
          refine A_iload_n 2 d_Page_timesIn_24 rfl rfl ?_
          refine A_aload d_Page_timesIn_25 rfl ?_
          refine A_getIn (lo := 0) (hi := 101) T_ok d_Page_timesIn_27 f_Page_65 (xs_V k3.1 (tV_V ha1 tx27)) (xi_g k3.1 (lt1_V (tV_V ha1 tx27)) (rg_V_16 (tV_V ha1 tx27))) (fun x35 ex35 _ _ => ?_)
          refine A_icmp_lt (tgt := 37) d_Page_timesIn_30 (by decide) (fun c36 => ?_) (fun c36 => ?_)
          · refine A_aload d_Page_timesIn_37 rfl ?_
            refine A_getAv (z := some (x27 + 13)) T_ok d_Page_timesIn_39 f_Page_70 (xs_V k3.1 (tV_V ha1 tx27)) (xr_V_15 k3.1 (tV_V ha1 tx27)) ?_
            refine A_iload_n 2 d_Page_timesIn_42 rfl rfl ?_
            refine A_ialoadn (lo := 0) (hi := 300) d_Page_timesIn_43 (xs_V_15 k3.1 (tV_V ha1 tx27)) (by omega) (by omega) (xi_g k3.1 (lt2_V (tV_V ha1 tx27) (by decide)) (rg_V_15 (tV_V ha1 tx27) _)) (fun x38 ex38 _ _ => ?_)
            refine A_iastorek (KR := kF FCW s h) d_Page_timesIn_44 (xi_s k3.1 sf_155) (by omega) (by omega) (kF_j k3 (by decide) (ns_b rfl) (rgf_155 _) (by omega) (by omega)) (fun h39 k40 eh39 => ?_)
            refine A_pc (pc' := 45) rfl ?_
            refine A_aload_n 0 d_Page_timesIn_45 rfl rfl ?_
            refine A_aload d_Page_timesIn_46 rfl ?_
            refine A_iload_n 3 d_Page_timesIn_48 rfl rfl ?_
            refine A_iload_n 2 d_Page_timesIn_49 rfl rfl ?_
            refine A_callV3 m_Page_setNext T_ok d_Page_timesIn_50 l_Page_80 k_Page_setNext (xi_s k40.1 sf_150) rfl (by decide +kernel) (by decide) (Nat.le_of_ble_eq_true rfl) (z_Page_setNext_v k40.1 (tV_V ha1 tx27) (by omega) (by omega) (by omega) (by omega)) (fun r h41 hq => ?_)
            obtain ⟨rfl, xk42, k42⟩ := hq
            have k43 := kF_t k40 k42 (fun a q => by omega)
            refine A_iincv (z := (i1 + 1)) (L' := [some (av_R (some 150)), some (av_R (some a1)), some (av_I a2), some (av_I (i1 + 1)), some (av_R (some x27)), none]) d_Page_timesIn_53 rfl (w32_to (by omega) (by unfold i32; omega)) rfl ?_
            refine A_goto (tgt := 2) d_Page_timesIn_56 (by decide) ?_
            refine A_free (L' := [some (av_R (some 150)), some (av_R (some a1)), some (av_I a2), some (av_I (i1 + 1)), none, none]) (And.intro rfl (And.intro rfl (And.intro rfl (And.intro rfl trivial)))) ?_
            exact ih2 (i1 + 1) h41 (by omega) (by omega) (ti_1 hinv (by omega) eh39.1 eh39.2.1 (by omega) xk42) k43 (by omega)
          · refine A_iconst d_Page_timesIn_33 rfl ?_
            refine A_goto (tgt := 44) d_Page_timesIn_34 (by decide) ?_
            refine A_iastorek (KR := kF FCW s h) d_Page_timesIn_44 (xi_s k3.1 sf_155) (by omega) (by omega) (kF_j k3 (by decide) (ns_b rfl) (rgf_155 _) (by omega) (by omega)) (fun h44 k45 eh44 => ?_)
            refine A_aload_n 0 d_Page_timesIn_45 rfl rfl ?_
            refine A_aload d_Page_timesIn_46 rfl ?_
            refine A_iload_n 3 d_Page_timesIn_48 rfl rfl ?_
            refine A_iload_n 2 d_Page_timesIn_49 rfl rfl ?_
            refine A_pc (pc' := 50) rfl ?_
            refine A_callV3 m_Page_setNext T_ok d_Page_timesIn_50 l_Page_80 k_Page_setNext (xi_s k45.1 sf_150) rfl (by decide +kernel) (by decide) (Nat.le_of_ble_eq_true rfl) (z_Page_setNext_v k45.1 (tV_V ha1 tx27) (by omega) (by omega) (by omega) (by omega)) (fun r h46 hq => ?_)
            obtain ⟨rfl, xk47, k47⟩ := hq
            have k48 := kF_t k45 k47 (fun a q => by omega)
            refine A_iincv (z := (i1 + 1)) (L' := [some (av_R (some 150)), some (av_R (some a1)), some (av_I a2), some (av_I (i1 + 1)), some (av_R (some x27)), none]) d_Page_timesIn_53 rfl (w32_to (by omega) (by unfold i32; omega)) rfl ?_
            refine A_goto (tgt := 2) d_Page_timesIn_56 (by decide) ?_
            refine A_free (L' := [some (av_R (some 150)), some (av_R (some a1)), some (av_I a2), some (av_I (i1 + 1)), none, none]) (And.intro rfl (And.intro rfl (And.intro rfl (And.intro rfl trivial)))) ?_
            exact ih2 (i1 + 1) h46 (by omega) (by omega) (ti_1 hinv (by omega) eh44.1 eh44.2.1 (by omega) xk47) k48 (by omega)
  exact lp2 _ 0 h (by omega) (by omega) (ti_0 (h := h)) k0 (Nat.lt_succ_self _)
theorem z_Page_widthOf {G : cx_T} {s : Nat} {h : ah_T} (hx : xi s h) {a1 : Nat} {a2 : Int} (ha1 : isS a1) (la2 : 0 ≤ a2) (ua2 : a2 ≤ 100) : con G 4 0 0 m_Page_widthOf [av_R (some 150), av_R (some a1), av_I a2] h (fun r h' => ∃ z, r = some (av_I z) ∧ ((-2147483648) ≤ z ∧ z ≤ 2147483647) ∧ kF FCW s h h') := by
  refine con_of (L := [some (av_R (some 150)), some (av_R (some a1)), some (av_I a2), none, none, none, none]) (by decide +kernel) (Nat.le_of_ble_eq_true rfl) rfl ?_
  have hS : isS s := hx.2.1
  have hs0 : s = 17 ∨ s = 80 := hS
  have k0 : kF FCW s h h := kF_0 hx
  refine A_iconst d_Page_widthOf_0 rfl ?_
  refine A_istore_n 3 (L' := [some (av_R (some 150)), some (av_R (some a1)), some (av_I a2), some (av_I 0), none, none, none]) d_Page_widthOf_1 rfl (Nat.le_of_ble_eq_true rfl) rfl ?_
  refine A_iconst d_Page_widthOf_2 rfl ?_
  refine A_istore (L' := [some (av_R (some 150)), some (av_R (some a1)), some (av_I a2), some (av_I 0), some (av_I 0), none, none]) d_Page_widthOf_3 (Nat.le_of_ble_eq_true rfl) rfl ?_
  have lp5 : ∀ (n : Nat) (i1 i2 : Int) , (-2147483648) ≤ i1 → i1 ≤ 2147483647 → 0 ≤ i2 → i2 ≤ 4 → (5 - i2).toNat < n → aw G (rm_R 4 0 0) m_Page_widthOf 0 0 5 [some (av_R (some 150)), some (av_R (some a1)), some (av_I a2), some (av_I i1), some (av_I i2), none, none] [] h (fun r h' => ∃ z, r = some (av_I z) ∧ ((-2147483648) ≤ z ∧ z ≤ 2147483647) ∧ kF FCW s h h') := by
    intro n
    induction n with
    | zero => intro i1 i2 _ _ _ _ hm; omega
    | succ n ih5 =>
      intro i1 i2 hl0 hl1 hl2 hl3 hm
      refine A_iload d_Page_widthOf_5 rfl ?_
      refine A_aload_n 1 d_Page_widthOf_7 rfl rfl ?_
      refine A_getIn (lo := 0) (hi := 4) T_ok d_Page_widthOf_8 f_Page_58 (xs_S k0.1 ha1) (xi_g k0.1 (lt1_S ha1) (rg_S_1 ha1)) (fun x3 ex3 _ _ => ?_)
      refine A_icmp_ge (tgt := 81) d_Page_widthOf_11 (by decide) (fun c4 => ?_) (fun c4 => ?_)
      · refine A_bipush d_Page_widthOf_81 rfl ?_
        refine A_bipush d_Page_widthOf_83 rfl ?_
        refine A_aload_n 0 d_Page_widthOf_85 rfl rfl ?_
        refine A_aload_n 1 d_Page_widthOf_86 rfl rfl ?_
        refine A_iload_n 2 d_Page_widthOf_87 rfl rfl ?_
        refine A_pc (pc' := 88) rfl ?_
        refine A_callV2 m_Page_timesIn T_ok d_Page_widthOf_88 l_Page_77 k_Page_timesIn (xi_s k0.1 sf_150) rfl (by decide +kernel) (by decide) (Nat.le_of_ble_eq_true rfl) (z_Page_timesIn k0.1 ha1 (by omega) (by omega)) (fun r h5 hq => ?_)
        obtain ⟨x7, rfl, ⟨_, _⟩, k6⟩ := hq
        have k8 := kF_t k0 k6 (fun a q => by omega)
        refine A_imulw d_Page_widthOf_91 (fun x9 _ _ _ => ?_)
        refine A_iaddw d_Page_widthOf_92 (fun x10 _ _ _ => ?_)
        refine A_iconst d_Page_widthOf_93 rfl ?_
        refine A_iload_n 3 d_Page_widthOf_94 rfl rfl ?_
        refine A_imulw d_Page_widthOf_95 (fun x11 _ _ _ => ?_)
        refine A_pc (pc' := 96) rfl ?_
        refine A_iaddw d_Page_widthOf_96 (fun x12 _ _ _ => ?_)
        exact A_iret d_Page_widthOf_97 (by decide) rfl ⟨_, rfl, ⟨by omega, by omega⟩, k8⟩
      · refine A_aload_n 1 d_Page_widthOf_14 rfl rfl ?_
        refine A_iload d_Page_widthOf_15 rfl ?_
        refine A_callV1 m_Score_voiceAt T_ok d_Page_widthOf_17 l_Page_61 k_Score_voiceAt (xs_S k0.1 ha1) rfl (by decide +kernel) (by decide) (Nat.le_of_ble_eq_true rfl) (s_Score_voiceAt k0.1 ha1) (fun r h13 hq => ?_)
        obtain ⟨ox15, rfl, qx15, rfl⟩ := hq
        rcases qx15 with rfl | ⟨x15, rfl, tx15⟩
        · refine A_astore (L' := [some (av_R (some 150)), some (av_R (some a1)), some (av_I a2), some (av_I i1), some (av_I i2), some (av_R none), none]) d_Page_widthOf_20 (Nat.le_of_ble_eq_true rfl) rfl ?_
          refine A_aload d_Page_widthOf_22 rfl ?_
          refine A_ifnull (tgt := 75) d_Page_widthOf_24 (by decide) (fun _ => ?_) (fun a q => by cases q)
          refine A_iincv (z := (i2 + 1)) (L' := [some (av_R (some 150)), some (av_R (some a1)), some (av_I a2), some (av_I i1), some (av_I (i2 + 1)), some (av_R none), none]) d_Page_widthOf_75 rfl (w32_to (by omega) (by unfold i32; omega)) rfl ?_
          refine A_goto (tgt := 5) d_Page_widthOf_78 (by decide) ?_
          refine A_free (L' := [some (av_R (some 150)), some (av_R (some a1)), some (av_I a2), some (av_I i1), some (av_I (i2 + 1)), none, none]) (And.intro rfl (And.intro rfl (And.intro rfl (And.intro rfl (And.intro rfl trivial))))) ?_
          exact ih5 i1 (i2 + 1) (by omega) (by omega) (by omega) (by omega) (by omega)
        · refine A_astore (L' := [some (av_R (some 150)), some (av_R (some a1)), some (av_I a2), some (av_I i1), some (av_I i2), some (av_R (some x15)), none]) d_Page_widthOf_20 (Nat.le_of_ble_eq_true rfl) rfl ?_
          refine A_aload d_Page_widthOf_22 rfl ?_
          refine A_ifnull (tgt := 75) d_Page_widthOf_24 (by decide) (fun q => by cases q) (fun _ _ => ?_)
          refine A_iload_n 2 d_Page_widthOf_27 rfl rfl ?_
          refine A_aload d_Page_widthOf_28 rfl ?_
          refine A_getIn (lo := 0) (hi := 101) T_ok d_Page_widthOf_30 f_Page_65 (xs_V k0.1 (tV_V ha1 tx15)) (xi_g k0.1 (lt1_V (tV_V ha1 tx15)) (rg_V_16 (tV_V ha1 tx15))) (fun x16 ex16 _ _ => ?_)
          refine A_icmp_ge (tgt := 75) d_Page_widthOf_33 (by decide) (fun c17 => ?_) (fun c17 => ?_)
          · refine A_iincv (z := (i2 + 1)) (L' := [some (av_R (some 150)), some (av_R (some a1)), some (av_I a2), some (av_I i1), some (av_I (i2 + 1)), some (av_R (some x15)), none]) d_Page_widthOf_75 rfl (w32_to (by omega) (by unfold i32; omega)) rfl ?_
            refine A_goto (tgt := 5) d_Page_widthOf_78 (by decide) ?_
            refine A_free (L' := [some (av_R (some 150)), some (av_R (some a1)), some (av_I a2), some (av_I i1), some (av_I (i2 + 1)), none, none]) (And.intro rfl (And.intro rfl (And.intro rfl (And.intro rfl (And.intro rfl trivial))))) ?_
            exact ih5 i1 (i2 + 1) (by omega) (by omega) (by omega) (by omega) (by omega)
          · refine A_aload d_Page_widthOf_36 rfl ?_
            refine A_getAv (z := some (x15 + 13)) T_ok d_Page_widthOf_38 f_Page_70 (xs_V k0.1 (tV_V ha1 tx15)) (xr_V_15 k0.1 (tV_V ha1 tx15)) ?_
            refine A_iload_n 2 d_Page_widthOf_41 rfl rfl ?_
            refine A_ialoadn (lo := 0) (hi := 300) d_Page_widthOf_42 (xs_V_15 k0.1 (tV_V ha1 tx15)) (by omega) (by omega) (xi_g k0.1 (lt2_V (tV_V ha1 tx15) (by decide)) (rg_V_15 (tV_V ha1 tx15) _)) (fun x19 ex19 _ _ => ?_)
            refine A_istore (L' := [some (av_R (some 150)), some (av_R (some a1)), some (av_I a2), some (av_I i1), some (av_I i2), some (av_R (some x15)), some (av_I x19)]) d_Page_widthOf_43 (Nat.le_of_ble_eq_true rfl) rfl ?_
            have lp45 : ∀ (n : Nat) (i20 i21 : Int) , (-2147483648) ≤ i20 → i20 ≤ 2147483647 → 0 ≤ i21 → i21 ≤ 300 → (301 - i21).toNat < n → aw G (rm_R 4 0 0) m_Page_widthOf 0 0 45 [some (av_R (some 150)), some (av_R (some a1)), some (av_I a2), some (av_I i20), some (av_I i2), some (av_R (some x15)), some (av_I i21)] [] h (fun r h' => ∃ z, r = some (av_I z) ∧ ((-2147483648) ≤ z ∧ z ≤ 2147483647) ∧ kF FCW s h h') := by
              intro n
              induction n with
              | zero => intro i20 i21 _ _ _ _ hm; omega
              | succ n ih45 =>
                intro i20 i21 hl0 hl1 hl2 hl3 hm
                refine A_iload d_Page_widthOf_45 rfl ?_
                refine A_aload d_Page_widthOf_47 rfl ?_
                refine A_getAv (z := some (x15 + 13)) T_ok d_Page_widthOf_49 f_Page_70 (xs_V k0.1 (tV_V ha1 tx15)) (xr_V_15 k0.1 (tV_V ha1 tx15)) ?_
                refine A_iload_n 2 d_Page_widthOf_52 rfl rfl ?_
                refine A_iconst d_Page_widthOf_53 rfl ?_
                refine A_pc (pc' := 54) rfl ?_
                refine A_iaddv (z := (a2 + 1)) d_Page_widthOf_54 (w32_to (by omega) (by unfold i32; omega)) ?_
                refine A_ialoadn (lo := 0) (hi := 300) d_Page_widthOf_55 (xs_V_15 k0.1 (tV_V ha1 tx15)) (by omega) (by omega) (xi_g k0.1 (lt2_V (tV_V ha1 tx15) (by decide)) (rg_V_15 (tV_V ha1 tx15) _)) (fun x23 ex23 _ _ => ?_)
                refine A_icmp_ge (tgt := 75) d_Page_widthOf_56 (by decide) (fun c24 => ?_) (fun c24 => ?_)
                · refine A_iincv (z := (i2 + 1)) (L' := [some (av_R (some 150)), some (av_R (some a1)), some (av_I a2), some (av_I i20), some (av_I (i2 + 1)), some (av_R (some x15)), some (av_I i21)]) d_Page_widthOf_75 rfl (w32_to (by omega) (by unfold i32; omega)) rfl ?_
                  refine A_goto (tgt := 5) d_Page_widthOf_78 (by decide) ?_
                  refine A_free (L' := [some (av_R (some 150)), some (av_R (some a1)), some (av_I a2), some (av_I i20), some (av_I (i2 + 1)), none, none]) (And.intro rfl (And.intro rfl (And.intro rfl (And.intro rfl (And.intro rfl trivial))))) ?_
                  exact ih5 i20 (i2 + 1) (by omega) (by omega) (by omega) (by omega) (by omega)
                · refine A_iload_n 3 d_Page_widthOf_59 rfl rfl ?_
                  refine A_aload d_Page_widthOf_60 rfl ?_
                  refine A_iload d_Page_widthOf_62 rfl ?_
                  refine A_callV1 m_Voice_signsOf T_ok d_Page_widthOf_64 l_Page_73 k_Voice_signsOf (xs_V k0.1 (tV_V ha1 tx15)) rfl (by decide +kernel) (by decide) (Nat.le_of_ble_eq_true rfl) (s_Voice_signsOf k0.1 (tV_V ha1 tx15) (by omega) (by omega)) (fun r h25 hq => ?_)
                  obtain ⟨x27, rfl, ⟨_, _⟩, rfl⟩ := hq
                  refine A_iaddw d_Page_widthOf_67 (fun x28 _ _ _ => ?_)
                  refine A_istore_n 3 (L' := [some (av_R (some 150)), some (av_R (some a1)), some (av_I a2), some (av_I x28), some (av_I i2), some (av_R (some x15)), some (av_I i21)]) d_Page_widthOf_68 rfl (Nat.le_of_ble_eq_true rfl) rfl ?_
                  refine A_iincv (z := (i21 + 1)) (L' := [some (av_R (some 150)), some (av_R (some a1)), some (av_I a2), some (av_I x28), some (av_I i2), some (av_R (some x15)), some (av_I (i21 + 1))]) d_Page_widthOf_69 rfl (w32_to (by omega) (by unfold i32; omega)) rfl ?_
                  refine A_goto (tgt := 45) d_Page_widthOf_72 (by decide) ?_
                  exact ih45 x28 (i21 + 1) (by omega) (by omega) (by omega) (by omega) (by omega)
            exact lp45 _ i1 x19 (by omega) (by omega) (by omega) (by omega) (Nat.lt_succ_self _)
  exact lp5 _ 0 0 (by omega) (by omega) (by omega) (by omega) (Nat.lt_succ_self _)
theorem z_Page_find {G : cx_T} {s : Nat} {h : ah_T} (hx : xi s h) {a1 : Nat} {a2 : Int} (ha1 : isS a1) : con G 5 0 0 m_Page_find [av_R (some 150), av_R (some a1), av_I a2] h (fun r h' => ∃ z, r = some (av_I z) ∧ ((-2147483648) ≤ z ∧ z ≤ 2147483647) ∧ kF FCP s h h') := by
  refine con_of (L := [some (av_R (some 150)), some (av_R (some a1)), some (av_I a2), none, none]) (by decide +kernel) (Nat.le_of_ble_eq_true rfl) rfl ?_
  have hS : isS s := hx.2.1
  have hs0 : s = 17 ∨ s = 80 := hS
  have k0 : kF FCP s h h := kF_0 hx
  refine A_locI 2 rfl (fun ra => ?_)
  obtain ⟨_, _⟩ := ra
  refine A_aload_n 1 d_Page_find_0 rfl rfl ?_
  refine A_callV0 m_Score_mostBars T_ok d_Page_find_1 l_Page_38 k_Score_mostBars (xs_S k0.1 ha1) rfl (by decide +kernel) (by decide) (Nat.le_of_ble_eq_true rfl) (s_Score_mostBars k0.1 ha1) (fun r h1 hq => ?_)
  obtain ⟨x3, rfl, ⟨_, _⟩, rfl⟩ := hq
  refine A_istore_n 3 (L' := [some (av_R (some 150)), some (av_R (some a1)), some (av_I a2), some (av_I x3), none]) d_Page_find_4 rfl (Nat.le_of_ble_eq_true rfl) rfl ?_
  refine A_iload_n 3 d_Page_find_5 rfl rfl ?_
  refine A_bipush d_Page_find_6 rfl ?_
  refine A_icmp_le (tgt := 14) d_Page_find_8 (by decide) (fun c4 => ?_) (fun c4 => ?_)
  · refine A_iconst d_Page_find_14 rfl ?_
    refine A_istore (L' := [some (av_R (some 150)), some (av_R (some a1)), some (av_I a2), some (av_I x3), some (av_I 0)]) d_Page_find_15 (Nat.le_of_ble_eq_true rfl) rfl ?_
    have lp17 : ∀ (n : Nat) (i5 : Int) (h6 : ah_T) , 0 ≤ i5 → i5 ≤ 14 → kF FCP s h h6 → (15 - i5).toNat < n → aw G (rm_R 5 0 0) m_Page_find 0 0 17 [some (av_R (some 150)), some (av_R (some a1)), some (av_I a2), some (av_I x3), some (av_I i5)] [] h6 (fun r h' => ∃ z, r = some (av_I z) ∧ ((-2147483648) ≤ z ∧ z ≤ 2147483647) ∧ kF FCP s h h') := by
      intro n
      induction n with
      | zero => intro i5 h6 _ _ _ hm; omega
      | succ n ih17 =>
        intro i5 h6 hl0 hl1 k7 hm
        refine A_iload d_Page_find_17 rfl ?_
        refine A_iload_n 3 d_Page_find_19 rfl rfl ?_
        refine A_icmp_ge (tgt := 43) d_Page_find_20 (by decide) (fun c8 => ?_) (fun c8 => ?_)
        · refine A_aload_n 0 d_Page_find_43 rfl rfl ?_
          refine A_getAv (z := some 153) T_ok d_Page_find_44 f_Page_18 (xi_s k7.1 sf_150) (xi_r k7.1 rff_150_3) ?_
          refine A_iload_n 3 d_Page_find_47 rfl rfl ?_
          refine A_lconst_0 d_Page_find_48 ?_
          refine A_lastorek (KR := kF FCP s h) d_Page_find_49 (xi_s k7.1 sf_153) (by omega) (by omega) (kF_l k7 (by decide) (nl_b rfl)) (fun h10 k11 eh10 => ?_)
          refine A_pc (pc' := 50) rfl ?_
          refine A_iload_n 3 d_Page_find_50 rfl rfl ?_
          refine A_iconst d_Page_find_51 rfl ?_
          refine A_isubv (z := (x3 - 1)) d_Page_find_52 (w32_to (by omega) (by unfold i32; omega)) ?_
          refine A_istore (L' := [some (av_R (some 150)), some (av_R (some a1)), some (av_I a2), some (av_I x3), some (av_I (x3 - 1))]) d_Page_find_53 (Nat.le_of_ble_eq_true rfl) rfl ?_
          have lp55 : ∀ (n : Nat) (i12 : Int) (h13 : ah_T) , (-1) ≤ i12 → i12 ≤ 13 → i12 < x3 → kF FCP s h h13 → (i12 + 2).toNat < n → aw G (rm_R 5 0 0) m_Page_find 0 0 55 [some (av_R (some 150)), some (av_R (some a1)), some (av_I a2), some (av_I x3), some (av_I i12)] [] h13 (fun r h' => ∃ z, r = some (av_I z) ∧ ((-2147483648) ≤ z ∧ z ≤ 2147483647) ∧ kF FCP s h h') := by
            intro n
            induction n with
            | zero => intro i12 h13 _ _ _ _ hm; omega
            | succ n ih55 =>
              intro i12 h13 hl0 hl1 hinv k14 hm
              refine A_iload d_Page_find_55 rfl ?_
              refine A_if_lt (tgt := 74) d_Page_find_57 (by decide) (fun c15 => ?_) (fun c15 => ?_)
              · refine A_aload_n 0 d_Page_find_74 rfl rfl ?_
                refine A_iconst d_Page_find_75 rfl ?_
                refine A_putIk (KR := kF FCP s h) T_ok d_Page_find_76 f_Page_34 (xi_s k14.1 sf_150) fin_f (kF_j k14 (by decide) (ns_b rfl) rgf_150_1 (by omega) (by omega)) (fun h16 k17 eh16 => ?_)
                refine A_iconst d_Page_find_79 rfl ?_
                refine A_istore (L' := [some (av_R (some 150)), some (av_R (some a1)), some (av_I a2), some (av_I x3), some (av_I 0)]) d_Page_find_80 (Nat.le_of_ble_eq_true rfl) rfl ?_
                have lp82 : ∀ (n : Nat) (i18 : Int) (h19 : ah_T) , 0 ≤ i18 → i18 ≤ 27 → kF FCP s h h19 → (14 - h19.2.1 150 1).toNat < n → aw G (rm_R 5 0 0) m_Page_find 0 0 82 [some (av_R (some 150)), some (av_R (some a1)), some (av_I a2), some (av_I x3), some (av_I i18)] [] h19 (fun r h' => ∃ z, r = some (av_I z) ∧ ((-2147483648) ≤ z ∧ z ≤ 2147483647) ∧ kF FCP s h h') := by
                  intro n
                  induction n with
                  | zero => intro i18 h19 _ _ _ hm; omega
                  | succ n ih82 =>
                    intro i18 h19 hl0 hl1 k20 hm
                    refine A_iload d_Page_find_82 rfl ?_
                    refine A_iload_n 3 d_Page_find_84 rfl rfl ?_
                    refine A_icmp_ge (tgt := 141) d_Page_find_85 (by decide) (fun c21 => ?_) (fun c21 => ?_)
                    · refine A_aload_n 0 d_Page_find_141 rfl rfl ?_
                      refine A_getAv (z := some 153) T_ok d_Page_find_142 f_Page_18 (xi_s k20.1 sf_150) (xi_r k20.1 rff_150_3) ?_
                      refine A_iconst d_Page_find_145 rfl ?_
                      refine A_laloadf d_Page_find_146 (xi_s k20.1 sf_153) (by decide) (by decide) (fun x23 ex23 _ _ => ?_)
                      refine A_l2iw d_Page_find_147 (fun x24 _ _ _ => ?_)
                      refine A_pc (pc' := 148) rfl ?_
                      exact A_iret d_Page_find_148 (by decide) rfl ⟨_, rfl, ⟨by omega, by omega⟩, k20⟩
                    · refine A_aload_n 0 d_Page_find_88 rfl rfl ?_
                      refine A_getIn (lo := 0) (hi := 14) T_ok d_Page_find_89 f_Page_34 (xi_s k20.1 sf_150) (xi_g k20.1 (by decide) rgf_150_1) (fun x25 ex25 _ _ => ?_)
                      refine A_aload_n 0 d_Page_find_92 rfl rfl ?_
                      refine A_getAv (z := some 151) T_ok d_Page_find_93 f_Page_11 (xi_s k20.1 sf_150) (xi_r k20.1 rff_150_0) ?_
                      refine A_alenN d_Page_find_96 (xi_s k20.1 sf_151) (by decide) (by decide) ?_
                      refine A_pc (pc' := 97) rfl ?_
                      refine A_icmp_ge (tgt := 141) d_Page_find_97 (by decide) (fun c27 => ?_) (fun c27 => ?_)
                      · refine A_aload_n 0 d_Page_find_141 rfl rfl ?_
                        refine A_getAv (z := some 153) T_ok d_Page_find_142 f_Page_18 (xi_s k20.1 sf_150) (xi_r k20.1 rff_150_3) ?_
                        refine A_iconst d_Page_find_145 rfl ?_
                        refine A_laloadf d_Page_find_146 (xi_s k20.1 sf_153) (by decide) (by decide) (fun x29 ex29 _ _ => ?_)
                        refine A_l2iw d_Page_find_147 (fun x30 _ _ _ => ?_)
                        refine A_pc (pc' := 148) rfl ?_
                        exact A_iret d_Page_find_148 (by decide) rfl ⟨_, rfl, ⟨by omega, by omega⟩, k20⟩
                      · refine A_aload_n 0 d_Page_find_100 rfl rfl ?_
                        refine A_getAv (z := some 151) T_ok d_Page_find_101 f_Page_11 (xi_s k20.1 sf_150) (xi_r k20.1 rff_150_0) ?_
                        refine A_aload_n 0 d_Page_find_104 rfl rfl ?_
                        refine A_getIv (z := x25) T_ok d_Page_find_105 f_Page_34 (xi_s k20.1 sf_150) ex25.symm ?_
                        refine A_aload_n 0 d_Page_find_108 rfl rfl ?_
                        refine A_pc (pc' := 109) rfl ?_
                        refine A_getAv (z := some 154) T_ok d_Page_find_109 f_Page_22 (xi_s k20.1 sf_150) (xi_r k20.1 rff_150_4) ?_
                        refine A_iload d_Page_find_112 rfl ?_
                        refine A_ialoadn (lo := 0) (hi := 14) d_Page_find_114 (xi_s k20.1 sf_154) (by omega) (by omega) (xi_g k20.1 (by decide) (rgf_154 _)) (fun x34 ex34 _ _ => ?_)
                        refine A_iastorek (KR := kF FCP s h) d_Page_find_115 (xi_s k20.1 sf_151) (by omega) (by omega) (kF_j k20 (by decide) (ns_b rfl) (rgf_151 _) (by omega) (by omega)) (fun h35 k36 eh35 => ?_)
                        refine A_aload_n 0 d_Page_find_116 rfl rfl ?_
                        refine A_dupR d_Page_find_117 ?_
                        refine A_pc (pc' := 118) rfl ?_
                        refine A_getIv (z := x25) T_ok d_Page_find_118 f_Page_34 (xi_s k36.1 sf_150) ((eh35.1 _ _ (fun q => absurd q (by decide))).trans ex25.symm) ?_
                        refine A_iconst d_Page_find_121 rfl ?_
                        refine A_iaddv (z := (x25 + 1)) d_Page_find_122 (w32_to (by omega) (by unfold i32; omega)) ?_
                        refine A_putIk (KR := kF FCP s h) T_ok d_Page_find_123 f_Page_34 (xi_s k36.1 sf_150) fin_f (kF_j k36 (by decide) (ns_b rfl) rgf_150_1 (by omega) (by omega)) (fun h38 k39 eh38 => ?_)
                        refine A_iload d_Page_find_126 rfl ?_
                        refine A_aload_n 0 d_Page_find_128 rfl rfl ?_
                        refine A_pc (pc' := 129) rfl ?_
                        refine A_getAv (z := some 154) T_ok d_Page_find_129 f_Page_22 (xi_s k39.1 sf_150) (xi_r k39.1 rff_150_4) ?_
                        refine A_iload d_Page_find_132 rfl ?_
                        refine A_ialoadv (z := x34) d_Page_find_134 (xi_s k39.1 sf_154) (by omega) (by omega) ((eh38.1 _ _ (fun q => absurd q (by decide))).trans ((eh35.1 _ _ (fun q => absurd q (by decide))).trans ex34.symm)) ?_
                        refine A_iaddv (z := (i18 + x34)) d_Page_find_135 (w32_to (by omega) (by unfold i32; omega)) ?_
                        refine A_istore (L' := [some (av_R (some 150)), some (av_R (some a1)), some (av_I a2), some (av_I x3), some (av_I (i18 + x34))]) d_Page_find_136 (Nat.le_of_ble_eq_true rfl) rfl ?_
                        refine A_goto (tgt := 82) d_Page_find_138 (by decide) ?_
                        exact ih82 (i18 + x34) h38 (by omega) (by omega) k39 (by have qq0 := eh38.2.1; omega)
                exact lp82 _ 0 h16 (by omega) (by omega) k17 (Nat.lt_succ_self _)
              · refine A_aload_n 0 d_Page_find_60 rfl rfl ?_
                refine A_iload d_Page_find_61 rfl ?_
                refine A_iload_n 3 d_Page_find_63 rfl rfl ?_
                refine A_iload_n 2 d_Page_find_64 rfl rfl ?_
                refine A_callV3 m_Page_findFrom T_ok d_Page_find_65 l_Page_48 k_Page_findFrom (xi_s k14.1 sf_150) rfl (by decide +kernel) (by decide) (Nat.le_of_ble_eq_true rfl) (z_Page_findFrom k14.1 (by omega) (by omega) (by omega) (by omega) (by omega)) (fun r h42 hq => ?_)
                obtain ⟨rfl, k43⟩ := hq
                have k44 := kF_t k14 k43 (fun a q => by omega)
                refine A_iincv (z := (i12 - 1)) (L' := [some (av_R (some 150)), some (av_R (some a1)), some (av_I a2), some (av_I x3), some (av_I (i12 - 1))]) d_Page_find_68 rfl (w32_to (by omega) (by unfold i32; omega)) rfl ?_
                refine A_goto (tgt := 55) d_Page_find_71 (by decide) ?_
                exact ih55 (i12 - 1) h42 (by omega) (by omega) (by omega) k44 (by omega)
          exact lp55 _ (x3 - 1) h10 (by omega) (by omega) (by omega) k11 (Nat.lt_succ_self _)
        · refine A_aload_n 0 d_Page_find_23 rfl rfl ?_
          refine A_getAv (z := some 152) T_ok d_Page_find_24 f_Page_15 (xi_s k7.1 sf_150) (xi_r k7.1 rff_150_2) ?_
          refine A_iload d_Page_find_27 rfl ?_
          refine A_aload_n 0 d_Page_find_29 rfl rfl ?_
          refine A_aload_n 1 d_Page_find_30 rfl rfl ?_
          refine A_pc (pc' := 31) rfl ?_
          refine A_iload d_Page_find_31 rfl ?_
          refine A_callV2 m_Page_widthOf T_ok d_Page_find_33 l_Page_44 k_Page_widthOf (xi_s k7.1 sf_150) rfl (by decide +kernel) (by decide) (Nat.le_of_ble_eq_true rfl) (z_Page_widthOf k7.1 ha1 (by omega) (by omega)) (fun r h46 hq => ?_)
          obtain ⟨x48, rfl, ⟨_, _⟩, k47⟩ := hq
          have k49 := kF_t k7 k47 (fun a q => by omega)
          refine A_iastorek (KR := kF FCP s h) d_Page_find_36 (xi_s k49.1 sf_152) (by omega) (by omega) (kF_j k49 (by decide) (ns_b rfl) (rgf_152 _) (by omega) (by omega)) (fun h50 k51 eh50 => ?_)
          refine A_iincv (z := (i5 + 1)) (L' := [some (av_R (some 150)), some (av_R (some a1)), some (av_I a2), some (av_I x3), some (av_I (i5 + 1))]) d_Page_find_37 rfl (w32_to (by omega) (by unfold i32; omega)) rfl ?_
          refine A_goto (tgt := 17) d_Page_find_40 (by decide) ?_
          exact ih17 (i5 + 1) h50 (by omega) (by omega) k51 (by omega)
    exact lp17 _ 0 h (by omega) (by omega) k0 (Nat.lt_succ_self _)
  · refine A_bipush d_Page_find_11 rfl ?_
    exact A_iret d_Page_find_13 (by decide) rfl ⟨_, rfl, ⟨by omega, by omega⟩, k0⟩
theorem z_PM_breaks {G : cx_T} {s : Nat} {h : ah_T} (hx : xi s h) {a1 : Int}  : con G 6 0 0 m_PM_breaks [av_R (some 0), av_I a1] h (fun r h' => ∃ z, r = some (av_I z) ∧ ((-2147483648) ≤ z ∧ z ≤ 2147483647) ∧ kF FCP s h h') := by
  refine con_of (L := [some (av_R (some 0)), some (av_I a1)]) (by decide +kernel) (Nat.le_of_ble_eq_true rfl) rfl ?_
  have hS : isS s := hx.2.1
  have hs0 : s = 17 ∨ s = 80 := hS
  have k0 : kF FCP s h h := kF_0 hx
  refine A_locI 1 rfl (fun ra => ?_)
  obtain ⟨_, _⟩ := ra
  refine A_iload_n 1 d_PM_breaks_0 rfl rfl ?_
  refine A_iconst d_PM_breaks_1 rfl ?_
  refine A_icmp_lt (tgt := 12) d_PM_breaks_2 (by decide) (fun c1 => ?_) (fun c1 => ?_)
  · refine A_iconst d_PM_breaks_12 rfl ?_
    exact A_iret d_PM_breaks_13 (by decide) rfl ⟨_, rfl, ⟨by omega, by omega⟩, k0⟩
  · refine A_iload_n 1 d_PM_breaks_5 rfl rfl ?_
    refine A_sipush d_PM_breaks_6 rfl ?_
    refine A_icmp_le (tgt := 14) d_PM_breaks_9 (by decide) (fun c2 => ?_) (fun c2 => ?_)
    · refine A_aload_n 0 d_PM_breaks_14 rfl rfl ?_
      refine A_getOv (z := some (97 - s)) T_ok d_PM_breaks_15 f_PM_27 (xi_s k0.1 sf_0) k0.1.2.2.1 ?_
      refine A_getIn (lo := 0) (hi := 4) T_ok d_PM_breaks_18 f_PM_104 (xs_S k0.1 (isS_o hS)) (xi_g k0.1 (lt1_S (isS_o hS)) (rg_S_1 (isS_o hS))) (fun x4 ex4 _ _ => ?_)
      refine A_if_ne (tgt := 27) d_PM_breaks_21 (by decide) (fun c5 => ?_) (fun c5 => ?_)
      · refine A_aload_n 0 d_PM_breaks_27 rfl rfl ?_
        refine A_getOv (z := some 150) T_ok d_PM_breaks_28 f_PM_51 (xi_s k0.1 sf_0) (xi_r k0.1 rff_0_7) ?_
        refine A_aload_n 0 d_PM_breaks_31 rfl rfl ?_
        refine A_getOv (z := some (97 - s)) T_ok d_PM_breaks_32 f_PM_27 (xi_s k0.1 sf_0) k0.1.2.2.1 ?_
        refine A_iload_n 1 d_PM_breaks_35 rfl rfl ?_
        refine A_pc (pc' := 36) rfl ?_
        refine A_callV2 m_Page_find T_ok d_PM_breaks_36 l_PM_171 k_Page_find (xi_s k0.1 sf_150) rfl (by decide +kernel) (by decide) (Nat.le_of_ble_eq_true rfl) (z_Page_find k0.1 (isS_o hS)) (fun r h8 hq => ?_)
        obtain ⟨x10, rfl, ⟨_, _⟩, k9⟩ := hq
        have k11 := kF_t k0 k9 (fun a q => by omega)
        exact A_iret d_PM_breaks_39 (by decide) rfl ⟨_, rfl, ⟨by omega, by omega⟩, k11⟩
      · refine A_bipush d_PM_breaks_24 rfl ?_
        exact A_iret d_PM_breaks_26 (by decide) rfl ⟨_, rfl, ⟨by omega, by omega⟩, k0⟩
    · refine A_iconst d_PM_breaks_12 rfl ?_
      exact A_iret d_PM_breaks_13 (by decide) rfl ⟨_, rfl, ⟨by omega, by omega⟩, k0⟩
theorem z_PM_width {G : cx_T} {s : Nat} {h : ah_T} (hx : xi s h) {a1 : Int}  : con G 5 0 0 m_PM_width [av_R (some 0), av_I a1] h (fun r h' => ∃ z, r = some (av_I z) ∧ ((-2147483648) ≤ z ∧ z ≤ 2147483647) ∧ kF FCW s h h') := by
  refine con_of (L := [some (av_R (some 0)), some (av_I a1)]) (by decide +kernel) (Nat.le_of_ble_eq_true rfl) rfl ?_
  have hS : isS s := hx.2.1
  have hs0 : s = 17 ∨ s = 80 := hS
  have k0 : kF FCW s h h := kF_0 hx
  refine A_locI 1 rfl (fun ra => ?_)
  obtain ⟨_, _⟩ := ra
  refine A_iload_n 1 d_PM_width_0 rfl rfl ?_
  refine A_if_lt (tgt := 15) d_PM_width_1 (by decide) (fun c1 => ?_) (fun c1 => ?_)
  · refine A_iconst d_PM_width_15 rfl ?_
    exact A_iret d_PM_width_16 (by decide) rfl ⟨_, rfl, ⟨by omega, by omega⟩, k0⟩
  · refine A_iload_n 1 d_PM_width_4 rfl rfl ?_
    refine A_aload_n 0 d_PM_width_5 rfl rfl ?_
    refine A_getOv (z := some (97 - s)) T_ok d_PM_width_6 f_PM_27 (xi_s k0.1 sf_0) k0.1.2.2.1 ?_
    refine A_callV0 m_Score_mostBars T_ok d_PM_width_9 l_PM_116 k_Score_mostBars (xs_S k0.1 (isS_o hS)) rfl (by decide +kernel) (by decide) (Nat.le_of_ble_eq_true rfl) (s_Score_mostBars k0.1 (isS_o hS)) (fun r h3 hq => ?_)
    obtain ⟨x5, rfl, ⟨_, _⟩, rfl⟩ := hq
    refine A_icmp_lt (tgt := 17) d_PM_width_12 (by decide) (fun c6 => ?_) (fun c6 => ?_)
    · refine A_aload_n 0 d_PM_width_17 rfl rfl ?_
      refine A_getOv (z := some 150) T_ok d_PM_width_18 f_PM_51 (xi_s k0.1 sf_0) (xi_r k0.1 rff_0_7) ?_
      refine A_aload_n 0 d_PM_width_21 rfl rfl ?_
      refine A_getOv (z := some (97 - s)) T_ok d_PM_width_22 f_PM_27 (xi_s k0.1 sf_0) k0.1.2.2.1 ?_
      refine A_iload_n 1 d_PM_width_25 rfl rfl ?_
      refine A_pc (pc' := 26) rfl ?_
      refine A_callV2 m_Page_widthOf T_ok d_PM_width_26 l_PM_177 k_Page_widthOf (xi_s k0.1 sf_150) rfl (by decide +kernel) (by decide) (Nat.le_of_ble_eq_true rfl) (z_Page_widthOf k0.1 (isS_o hS) (by omega) (by omega)) (fun r h9 hq => ?_)
      obtain ⟨x11, rfl, ⟨_, _⟩, k10⟩ := hq
      have k12 := kF_t k0 k10 (fun a q => by omega)
      exact A_iret d_PM_width_29 (by decide) rfl ⟨_, rfl, ⟨by omega, by omega⟩, k12⟩
    · refine A_iconst d_PM_width_15 rfl ?_
      exact A_iret d_PM_width_16 (by decide) rfl ⟨_, rfl, ⟨by omega, by omega⟩, k0⟩
