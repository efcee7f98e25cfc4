/-! keep() of a score without voices -/
def fk0 (h h' : ah_T) : Prop := h'.1 = h.1 ∧ h'.2.2.2 = h.2.2.2 ∧ h'.2.2.1 = h.2.2.1 ∧ ∀ x y, (x < 172 ∨ 183 < x) → h'.2.1 x y = h.2.1 x y
def fk (h h' : ah_T) : Prop := h'.1 = h.1 ∧ h'.2.2.2 = h.2.2.2 ∧ h'.2.2.1 = h.2.2.1 ∧ (∀ x y, (x < 172 ∨ 183 < x) → h'.2.1 x y = h.2.1 x y) ∧ h'.2.1 172 0 = 0
theorem fk_0 {h0 h h' : ah_T} (e : h' = st_i h 172 0 0) (hk : fk0 h0 h) : fk h0 h' := by
  subst e
  exact ⟨hk.1, hk.2.1, hk.2.2.1, fun x y hx => (up2_o (fun q => by have := q.1; omega)).trans (hk.2.2.2 x y hx), (up2_at : up2 h.2.1 172 0 (0 : Int) 172 0 = 0)⟩
theorem fk_i {h0 h h' : ah_T} {a k : Nat} {z : Int} (e : h' = st_i h a k z) (ha : 173 ≤ a ∧ a ≤ 183) (hk : fk h0 h) : fk h0 h' := by
  subst e
  exact ⟨hk.1, hk.2.1, hk.2.2.1, fun x y hx => (up2_o (fun q => by have := q.1; omega)).trans (hk.2.2.2.1 x y hx), (up2_o (fun q => by have := q.1; omega)).trans hk.2.2.2.2⟩
theorem c_MD_keep {G : cx_T} (h : ah_T) (s_170 : h.1[170]? = some (12 + 4, 111)) (s_172 : h.1[172]? = some (0, 2)) (s_173 : h.1[173]? = some (0, 2)) (s_174 : h.1[174]? = some (0, 2)) (s_175 : h.1[175]? = some (0, 2)) (s_176 : h.1[176]? = some (0, 16)) (s_177 : h.1[177]? = some (0, 2)) (s_178 : h.1[178]? = some (0, 48)) (s_179 : h.1[179]? = some (0, 48)) (s_180 : h.1[180]? = some (0, 48)) (s_181 : h.1[181]? = some (0, 2)) (s_182 : h.1[182]? = some (0, 24)) (s_183 : h.1[183]? = some (0, 2)) (rR_170_14 : h.2.2.2 170 14 = some 172) (rR_170_15 : h.2.2.2 170 15 = some 173) (rR_170_16 : h.2.2.2 170 16 = some 174) (rR_170_17 : h.2.2.2 170 17 = some 175) (rR_170_18 : h.2.2.2 170 18 = some 176) (rR_170_19 : h.2.2.2 170 19 = some 177) (rR_170_20 : h.2.2.2 170 20 = some 178) (rR_170_21 : h.2.2.2 170 21 = some 179) (rR_170_22 : h.2.2.2 170 22 = some 180) (rR_170_23 : h.2.2.2 170 23 = some 181) (rR_170_24 : h.2.2.2 170 24 = some 182) (rR_170_25 : h.2.2.2 170 25 = some 183) (rI_172_1 : h.2.1 172 1 = 0) : con G 1 0 0 m_MD_keep [av_R (some 170)] h (fun r h' => r = none ∧ fk h h') := by
  refine con_of (L := [some (av_R (some 170)), none, none]) (by decide +kernel) (Nat.le_of_ble_eq_true rfl) rfl ?_
  have fk_h : fk0 h h := ⟨rfl, rfl, rfl, fun _ _ _ => rfl⟩
  refine A_aload_n 0 d_MD_keep_0 rfl rfl ?_
  refine A_getAv (z := (some 172)) T_ok d_MD_keep_1 f_MD_17 ((congrArg (fun q => q[170]?) fk_h.1).trans s_170) ((congrFun (congrFun fk_h.2.1 170) 14).trans rR_170_14) ?_
  refine A_iconst d_MD_keep_4 rfl ?_
  refine A_aload_n 0 d_MD_keep_5 rfl rfl ?_
  refine A_getAv (z := (some 172)) T_ok d_MD_keep_6 f_MD_17 ((congrArg (fun q => q[170]?) fk_h.1).trans s_170) ((congrFun (congrFun fk_h.2.1 170) 14).trans rR_170_14) ?_
  refine A_pc (pc' := 9) rfl ?_
  refine A_iconst d_MD_keep_9 rfl ?_
  refine A_ialoadv (z := 0) d_MD_keep_10 ((congrArg (fun q => q[172]?) fk_h.1).trans s_172) (by decide) (by decide) rI_172_1 ?_
  refine A_iastorev (j := 0) d_MD_keep_11 ((congrArg (fun q => q[172]?) fk_h.1).trans s_172) (by decide) (by decide) rfl (fun h1 eh1 => ?_)
  have kh1 := fk_0 eh1 fk_h
  refine A_aload_n 0 d_MD_keep_12 rfl rfl ?_
  refine A_getAv (z := (some 173)) T_ok d_MD_keep_13 f_MD_20 ((congrArg (fun q => q[170]?) kh1.1).trans s_170) ((congrFun (congrFun kh1.2.1 170) 15).trans rR_170_15) ?_
  refine A_iconst d_MD_keep_16 rfl ?_
  refine A_aload_n 0 d_MD_keep_17 rfl rfl ?_
  refine A_getAv (z := (some 173)) T_ok d_MD_keep_18 f_MD_20 ((congrArg (fun q => q[170]?) kh1.1).trans s_170) ((congrFun (congrFun kh1.2.1 170) 15).trans rR_170_15) ?_
  refine A_pc (pc' := 21) rfl ?_
  refine A_iconst d_MD_keep_21 rfl ?_
  refine A_ialoadN d_MD_keep_22 ((congrArg (fun q => q[173]?) kh1.1).trans s_173) (by decide) (by decide) ?_
  refine A_nmI (fun z2 _ => ?_)
  refine A_iastorev (j := 0) d_MD_keep_23 ((congrArg (fun q => q[173]?) kh1.1).trans s_173) (by decide) (by decide) rfl (fun h3 eh3 => ?_)
  have kh3 := fk_i eh3 (by decide) kh1
  refine A_aload_n 0 d_MD_keep_24 rfl rfl ?_
  refine A_getAv (z := (some 174)) T_ok d_MD_keep_25 f_MD_23 ((congrArg (fun q => q[170]?) kh3.1).trans s_170) ((congrFun (congrFun kh3.2.1 170) 16).trans rR_170_16) ?_
  refine A_iconst d_MD_keep_28 rfl ?_
  refine A_aload_n 0 d_MD_keep_29 rfl rfl ?_
  refine A_getAv (z := (some 174)) T_ok d_MD_keep_30 f_MD_23 ((congrArg (fun q => q[170]?) kh3.1).trans s_170) ((congrFun (congrFun kh3.2.1 170) 16).trans rR_170_16) ?_
  refine A_pc (pc' := 33) rfl ?_
  refine A_iconst d_MD_keep_33 rfl ?_
  refine A_ialoadN d_MD_keep_34 ((congrArg (fun q => q[174]?) kh3.1).trans s_174) (by decide) (by decide) ?_
  refine A_nmI (fun z4 _ => ?_)
  refine A_iastorev (j := 0) d_MD_keep_35 ((congrArg (fun q => q[174]?) kh3.1).trans s_174) (by decide) (by decide) rfl (fun h5 eh5 => ?_)
  have kh5 := fk_i eh5 (by decide) kh3
  refine A_aload_n 0 d_MD_keep_36 rfl rfl ?_
  refine A_getAv (z := (some 175)) T_ok d_MD_keep_37 f_MD_26 ((congrArg (fun q => q[170]?) kh5.1).trans s_170) ((congrFun (congrFun kh5.2.1 170) 17).trans rR_170_17) ?_
  refine A_iconst d_MD_keep_40 rfl ?_
  refine A_aload_n 0 d_MD_keep_41 rfl rfl ?_
  refine A_getAv (z := (some 175)) T_ok d_MD_keep_42 f_MD_26 ((congrArg (fun q => q[170]?) kh5.1).trans s_170) ((congrFun (congrFun kh5.2.1 170) 17).trans rR_170_17) ?_
  refine A_pc (pc' := 45) rfl ?_
  refine A_iconst d_MD_keep_45 rfl ?_
  refine A_ialoadN d_MD_keep_46 ((congrArg (fun q => q[175]?) kh5.1).trans s_175) (by decide) (by decide) ?_
  refine A_nmI (fun z6 _ => ?_)
  refine A_iastorev (j := 0) d_MD_keep_47 ((congrArg (fun q => q[175]?) kh5.1).trans s_175) (by decide) (by decide) rfl (fun h7 eh7 => ?_)
  have kh7 := fk_i eh7 (by decide) kh5
  refine A_iconst d_MD_keep_48 rfl ?_
  refine A_istore_n 1 (L' := [some (av_R (some 170)), some (av_I 0), none]) d_MD_keep_49 rfl (Nat.le_of_ble_eq_true rfl) rfl ?_
  have lp : ∀ (n : Nat) (i : Int) (hh : ah_T), 0 ≤ i → i ≤ 8 → (8 - i).toNat < n → fk h hh → aw G (rm_R 1 0 0) m_MD_keep 0 0 50 [some (av_R (some 170)), some (av_I i), none] [] hh (fun r h' => r = none ∧ fk h h') := by
    intro n
    induction n with
    | zero => intro i hh _ _ h2 _; omega
    | succ n ih =>
      intro i hh hi0 hi1 hi2 kk
      refine A_iload_n 1 d_MD_keep_50 rfl rfl ?_
      refine A_bipush d_MD_keep_51 rfl ?_
      refine A_icmp_ge (tgt := 77) d_MD_keep_53 (by decide) (fun c => ?_) (fun c => ?_)
      · refine A_aload_n 0 d_MD_keep_77 rfl rfl ?_
        refine A_getAv (z := (some 177)) T_ok d_MD_keep_78 f_MD_32 ((congrArg (fun q => q[170]?) kk.1).trans s_170) ((congrFun (congrFun kk.2.1 170) 19).trans rR_170_19) ?_
        refine A_iconst d_MD_keep_81 rfl ?_
        refine A_aload_n 0 d_MD_keep_82 rfl rfl ?_
        refine A_getAv (z := (some 177)) T_ok d_MD_keep_83 f_MD_32 ((congrArg (fun q => q[170]?) kk.1).trans s_170) ((congrFun (congrFun kk.2.1 170) 19).trans rR_170_19) ?_
        refine A_pc (pc' := 86) rfl ?_
        refine A_iconst d_MD_keep_86 rfl ?_
        refine A_ialoadN d_MD_keep_87 ((congrArg (fun q => q[177]?) kk.1).trans s_177) (by decide) (by decide) ?_
        refine A_nmI (fun z11 _ => ?_)
        refine A_iastorev (j := 0) d_MD_keep_88 ((congrArg (fun q => q[177]?) kk.1).trans s_177) (by decide) (by decide) rfl (fun h12 eh12 => ?_)
        have kh12 := fk_i eh12 (by decide) kk
        refine A_iconst d_MD_keep_89 rfl ?_
        refine A_istore_n 1 (L' := [some (av_R (some 170)), some (av_I 0), none]) d_MD_keep_90 rfl (Nat.le_of_ble_eq_true rfl) rfl ?_
        have lp : ∀ (n : Nat) (i : Int) (hh : ah_T), 0 ≤ i → i ≤ 24 → (24 - i).toNat < n → fk h hh → aw G (rm_R 1 0 0) m_MD_keep 0 0 91 [some (av_R (some 170)), some (av_I i), none] [] hh (fun r h' => r = none ∧ fk h h') := by
          intro n
          induction n with
          | zero => intro i hh _ _ h2 _; omega
          | succ n ih =>
            intro i hh hi0 hi1 hi2 kk
            refine A_iload_n 1 d_MD_keep_91 rfl rfl ?_
            refine A_bipush d_MD_keep_92 rfl ?_
            refine A_icmp_ge (tgt := 148) d_MD_keep_94 (by decide) (fun c => ?_) (fun c => ?_)
            · refine A_aload_n 0 d_MD_keep_148 rfl rfl ?_
              refine A_getAv (z := (some 181)) T_ok d_MD_keep_149 f_MD_44 ((congrArg (fun q => q[170]?) kk.1).trans s_170) ((congrFun (congrFun kk.2.1 170) 23).trans rR_170_23) ?_
              refine A_iconst d_MD_keep_152 rfl ?_
              refine A_aload_n 0 d_MD_keep_153 rfl rfl ?_
              refine A_getAv (z := (some 181)) T_ok d_MD_keep_154 f_MD_44 ((congrArg (fun q => q[170]?) kk.1).trans s_170) ((congrFun (congrFun kk.2.1 170) 23).trans rR_170_23) ?_
              refine A_pc (pc' := 157) rfl ?_
              refine A_iconst d_MD_keep_157 rfl ?_
              refine A_ialoadN d_MD_keep_158 ((congrArg (fun q => q[181]?) kk.1).trans s_181) (by decide) (by decide) ?_
              refine A_nmI (fun z16 _ => ?_)
              refine A_iastorev (j := 0) d_MD_keep_159 ((congrArg (fun q => q[181]?) kk.1).trans s_181) (by decide) (by decide) rfl (fun h17 eh17 => ?_)
              have kh17 := fk_i eh17 (by decide) kk
              refine A_iconst d_MD_keep_160 rfl ?_
              refine A_istore_n 1 (L' := [some (av_R (some 170)), some (av_I 0), none]) d_MD_keep_161 rfl (Nat.le_of_ble_eq_true rfl) rfl ?_
              have lp : ∀ (n : Nat) (i : Int) (hh : ah_T), 0 ≤ i → i ≤ 12 → (12 - i).toNat < n → fk h hh → aw G (rm_R 1 0 0) m_MD_keep 0 0 162 [some (av_R (some 170)), some (av_I i), none] [] hh (fun r h' => r = none ∧ fk h h') := by
                intro n
                induction n with
                | zero => intro i hh _ _ h2 _; omega
                | succ n ih =>
                  intro i hh hi0 hi1 hi2 kk
                  refine A_iload_n 1 d_MD_keep_162 rfl rfl ?_
                  refine A_bipush d_MD_keep_163 rfl ?_
                  refine A_icmp_ge (tgt := 189) d_MD_keep_165 (by decide) (fun c => ?_) (fun c => ?_)
                  · refine A_aload_n 0 d_MD_keep_189 rfl rfl ?_
                    refine A_getAv (z := (some 183)) T_ok d_MD_keep_190 f_MD_50 ((congrArg (fun q => q[170]?) kk.1).trans s_170) ((congrFun (congrFun kk.2.1 170) 25).trans rR_170_25) ?_
                    refine A_iconst d_MD_keep_193 rfl ?_
                    refine A_aload_n 0 d_MD_keep_194 rfl rfl ?_
                    refine A_getAv (z := (some 183)) T_ok d_MD_keep_195 f_MD_50 ((congrArg (fun q => q[170]?) kk.1).trans s_170) ((congrFun (congrFun kk.2.1 170) 25).trans rR_170_25) ?_
                    refine A_pc (pc' := 198) rfl ?_
                    refine A_iconst d_MD_keep_198 rfl ?_
                    refine A_ialoadN d_MD_keep_199 ((congrArg (fun q => q[183]?) kk.1).trans s_183) (by decide) (by decide) ?_
                    refine A_nmI (fun z21 _ => ?_)
                    refine A_iastorev (j := 0) d_MD_keep_200 ((congrArg (fun q => q[183]?) kk.1).trans s_183) (by decide) (by decide) rfl (fun h22 eh22 => ?_)
                    have kh22 := fk_i eh22 (by decide) kk
                    refine A_iconst d_MD_keep_201 rfl ?_
                    refine A_istore_n 1 (L' := [some (av_R (some 170)), some (av_I 0), none]) d_MD_keep_202 rfl (Nat.le_of_ble_eq_true rfl) rfl ?_
                    refine A_iload_n 1 d_MD_keep_203 rfl rfl ?_
                    refine A_aload_n 0 d_MD_keep_204 rfl rfl ?_
                    refine A_getAv (z := (some 172)) T_ok d_MD_keep_205 f_MD_17 ((congrArg (fun q => q[170]?) kh22.1).trans s_170) ((congrFun (congrFun kh22.2.1 170) 14).trans rR_170_14) ?_
                    refine A_pc (pc' := 208) rfl ?_
                    refine A_iconst d_MD_keep_208 rfl ?_
                    refine A_ialoadv (z := 0) d_MD_keep_209 ((congrArg (fun q => q[172]?) kh22.1).trans s_172) (by decide) (by decide) kh22.2.2.2.2 ?_
                    refine A_icmp_ge (tgt := 347) d_MD_keep_210 (by decide) (fun _ => ?_) (fun c => absurd c (by decide))
                    exact A_vret d_MD_keep_347 (by decide) rfl ⟨rfl, kh22⟩
                  · refine A_aload_n 0 d_MD_keep_168 rfl rfl ?_
                    refine A_getAv (z := (some 182)) T_ok d_MD_keep_169 f_MD_47 ((congrArg (fun q => q[170]?) kk.1).trans s_170) ((congrFun (congrFun kk.2.1 170) 24).trans rR_170_24) ?_
                    refine A_iload_n 1 d_MD_keep_172 rfl rfl ?_
                    refine A_aload_n 0 d_MD_keep_173 rfl rfl ?_
                    refine A_getAv (z := (some 182)) T_ok d_MD_keep_174 f_MD_47 ((congrArg (fun q => q[170]?) kk.1).trans s_170) ((congrFun (congrFun kk.2.1 170) 24).trans rR_170_24) ?_
                    refine A_pc (pc' := 177) rfl ?_
                    refine A_bipush d_MD_keep_177 rfl ?_
                    refine A_iload_n 1 d_MD_keep_179 rfl rfl ?_
                    refine A_iaddv (z := (12 + i)) d_MD_keep_180 (w32_id (by unfold i32; omega)) ?_
                    refine A_ialoadN d_MD_keep_181 ((congrArg (fun q => q[182]?) kk.1).trans s_182) (by omega) (by omega) ?_
                    refine A_nmI (fun z23 _ => ?_)
                    refine A_iastorev (j := (i).toNat) d_MD_keep_182 ((congrArg (fun q => q[182]?) kk.1).trans s_182) (by omega) (by omega) rfl (fun h24 eh24 => ?_)
                    have kh24 := fk_i eh24 (by decide) kk
                    refine A_iincv (z := (i + 1)) (L' := [some (av_R (some 170)), some (av_I (i + 1)), none]) d_MD_keep_183 rfl (w32_id (by unfold i32; omega)) rfl ?_
                    refine A_goto (tgt := 162) d_MD_keep_186 (by decide) ?_
                    exact ih (i + 1) h24 (by omega) (by omega) (by omega) kh24
              exact lp 13 0 h17 (by decide) (by decide) (by decide) kh17
            · refine A_aload_n 0 d_MD_keep_97 rfl rfl ?_
              refine A_getAv (z := (some 178)) T_ok d_MD_keep_98 f_MD_35 ((congrArg (fun q => q[170]?) kk.1).trans s_170) ((congrFun (congrFun kk.2.1 170) 20).trans rR_170_20) ?_
              refine A_iload_n 1 d_MD_keep_101 rfl rfl ?_
              refine A_aload_n 0 d_MD_keep_102 rfl rfl ?_
              refine A_getAv (z := (some 178)) T_ok d_MD_keep_103 f_MD_35 ((congrArg (fun q => q[170]?) kk.1).trans s_170) ((congrFun (congrFun kk.2.1 170) 20).trans rR_170_20) ?_
              refine A_pc (pc' := 106) rfl ?_
              refine A_bipush d_MD_keep_106 rfl ?_
              refine A_iload_n 1 d_MD_keep_108 rfl rfl ?_
              refine A_iaddv (z := (24 + i)) d_MD_keep_109 (w32_id (by unfold i32; omega)) ?_
              refine A_ialoadN d_MD_keep_110 ((congrArg (fun q => q[178]?) kk.1).trans s_178) (by omega) (by omega) ?_
              refine A_nmI (fun z25 _ => ?_)
              refine A_iastorev (j := (i).toNat) d_MD_keep_111 ((congrArg (fun q => q[178]?) kk.1).trans s_178) (by omega) (by omega) rfl (fun h26 eh26 => ?_)
              have kh26 := fk_i eh26 (by decide) kk
              refine A_aload_n 0 d_MD_keep_112 rfl rfl ?_
              refine A_getAv (z := (some 179)) T_ok d_MD_keep_113 f_MD_38 ((congrArg (fun q => q[170]?) kh26.1).trans s_170) ((congrFun (congrFun kh26.2.1 170) 21).trans rR_170_21) ?_
              refine A_iload_n 1 d_MD_keep_116 rfl rfl ?_
              refine A_aload_n 0 d_MD_keep_117 rfl rfl ?_
              refine A_pc (pc' := 118) rfl ?_
              refine A_getAv (z := (some 179)) T_ok d_MD_keep_118 f_MD_38 ((congrArg (fun q => q[170]?) kh26.1).trans s_170) ((congrFun (congrFun kh26.2.1 170) 21).trans rR_170_21) ?_
              refine A_bipush d_MD_keep_121 rfl ?_
              refine A_iload_n 1 d_MD_keep_123 rfl rfl ?_
              refine A_iaddv (z := (24 + i)) d_MD_keep_124 (w32_id (by unfold i32; omega)) ?_
              refine A_ialoadN d_MD_keep_125 ((congrArg (fun q => q[179]?) kh26.1).trans s_179) (by omega) (by omega) ?_
              refine A_nmI (fun z27 _ => ?_)
              refine A_iastorev (j := (i).toNat) d_MD_keep_126 ((congrArg (fun q => q[179]?) kh26.1).trans s_179) (by omega) (by omega) rfl (fun h28 eh28 => ?_)
              have kh28 := fk_i eh28 (by decide) kh26
              refine A_aload_n 0 d_MD_keep_127 rfl rfl ?_
              refine A_getAv (z := (some 180)) T_ok d_MD_keep_128 f_MD_41 ((congrArg (fun q => q[170]?) kh28.1).trans s_170) ((congrFun (congrFun kh28.2.1 170) 22).trans rR_170_22) ?_
              refine A_iload_n 1 d_MD_keep_131 rfl rfl ?_
              refine A_pc (pc' := 132) rfl ?_
              refine A_aload_n 0 d_MD_keep_132 rfl rfl ?_
              refine A_getAv (z := (some 180)) T_ok d_MD_keep_133 f_MD_41 ((congrArg (fun q => q[170]?) kh28.1).trans s_170) ((congrFun (congrFun kh28.2.1 170) 22).trans rR_170_22) ?_
              refine A_bipush d_MD_keep_136 rfl ?_
              refine A_iload_n 1 d_MD_keep_138 rfl rfl ?_
              refine A_iaddv (z := (24 + i)) d_MD_keep_139 (w32_id (by unfold i32; omega)) ?_
              refine A_ialoadN d_MD_keep_140 ((congrArg (fun q => q[180]?) kh28.1).trans s_180) (by omega) (by omega) ?_
              refine A_nmI (fun z29 _ => ?_)
              refine A_iastorev (j := (i).toNat) d_MD_keep_141 ((congrArg (fun q => q[180]?) kh28.1).trans s_180) (by omega) (by omega) rfl (fun h30 eh30 => ?_)
              have kh30 := fk_i eh30 (by decide) kh28
              refine A_iincv (z := (i + 1)) (L' := [some (av_R (some 170)), some (av_I (i + 1)), none]) d_MD_keep_142 rfl (w32_id (by unfold i32; omega)) rfl ?_
              refine A_goto (tgt := 91) d_MD_keep_145 (by decide) ?_
              exact ih (i + 1) h30 (by omega) (by omega) (by omega) kh30
        exact lp 25 0 h12 (by decide) (by decide) (by decide) kh12
      · refine A_aload_n 0 d_MD_keep_56 rfl rfl ?_
        refine A_getAv (z := (some 176)) T_ok d_MD_keep_57 f_MD_29 ((congrArg (fun q => q[170]?) kk.1).trans s_170) ((congrFun (congrFun kk.2.1 170) 18).trans rR_170_18) ?_
        refine A_iload_n 1 d_MD_keep_60 rfl rfl ?_
        refine A_aload_n 0 d_MD_keep_61 rfl rfl ?_
        refine A_getAv (z := (some 176)) T_ok d_MD_keep_62 f_MD_29 ((congrArg (fun q => q[170]?) kk.1).trans s_170) ((congrFun (congrFun kk.2.1 170) 18).trans rR_170_18) ?_
        refine A_pc (pc' := 65) rfl ?_
        refine A_bipush d_MD_keep_65 rfl ?_
        refine A_iload_n 1 d_MD_keep_67 rfl rfl ?_
        refine A_iaddv (z := (8 + i)) d_MD_keep_68 (w32_id (by unfold i32; omega)) ?_
        refine A_ialoadN d_MD_keep_69 ((congrArg (fun q => q[176]?) kk.1).trans s_176) (by omega) (by omega) ?_
        refine A_nmI (fun z31 _ => ?_)
        refine A_iastorev (j := (i).toNat) d_MD_keep_70 ((congrArg (fun q => q[176]?) kk.1).trans s_176) (by omega) (by omega) rfl (fun h32 eh32 => ?_)
        have kh32 := fk_i eh32 (by decide) kk
        refine A_iincv (z := (i + 1)) (L' := [some (av_R (some 170)), some (av_I (i + 1)), none]) d_MD_keep_71 rfl (w32_id (by unfold i32; omega)) rfl ?_
        refine A_goto (tgt := 50) d_MD_keep_74 (by decide) ?_
        exact ih (i + 1) h32 (by omega) (by omega) (by omega) kh32
  exact lp 9 0 h7 (by decide) (by decide) (by decide) kh7

theorem c_PM_putBytes_a1 {G : cx_T} (h : ah_T) (va : Int) (s_0 : h.1[0]? = some (11 + 4, 11)) (rI_0_1 : h.2.1 0 1 = 0) (rR_0_0 : h.2.2.2 0 0 = some 1) (s_1 : h.1[1]? = some (0, 2000)) : con G 0 0 0 m_PM_putBytes [av_R (some 0), av_I va] h (fun r h' => ∃ b4 : Int, ∃ b10 : Int, ∃ b16 : Int, ∃ b22 : Int, ∃ h5 : ah_T, ∃ h6 : ah_T, ∃ h11 : ah_T, ∃ h12 : ah_T, ∃ h17 : ah_T, ∃ h18 : ah_T, ∃ h23 : ah_T, h5 = st_i h 1 0 b4 ∧ h6 = st_i h5 0 1 1 ∧ h11 = st_i h6 1 1 b10 ∧ h12 = st_i h11 0 1 2 ∧ h17 = st_i h12 1 2 b16 ∧ h18 = st_i h17 0 1 3 ∧ h23 = st_i h18 1 3 b22 ∧ h' = st_i h23 0 1 4 ∧ r = none) := by
  refine con_of (L := [some (av_R (some 0)), some (av_I va), none]) (by decide +kernel) (Nat.le_of_ble_eq_true rfl) rfl ?_
  refine A_bipush d_PM_putBytes_0 rfl ?_
  refine A_istore_n 2 (L' := [some (av_R (some 0)), some (av_I va), some (av_I 24)]) d_PM_putBytes_2 rfl (Nat.le_of_ble_eq_true rfl) rfl ?_
  refine A_iload_n 2 d_PM_putBytes_3 rfl rfl ?_
  refine A_if_lt (tgt := 51) d_PM_putBytes_4 (by decide) (fun c1 => absurd c1 (by decide)) (fun c1 => ?_)
  refine A_aload_n 0 d_PM_putBytes_7 rfl rfl ?_
  refine A_getIv (z := 0) T_ok d_PM_putBytes_8 f_PM_13 s_0 rI_0_1 ?_
  refine A_aload_n 0 d_PM_putBytes_11 rfl rfl ?_
  refine A_getAv (z := (some 1)) T_ok d_PM_putBytes_12 f_PM_9 s_0 rR_0_0 ?_
  refine A_alenN d_PM_putBytes_15 s_1 (by decide) (by decide) ?_
  refine A_pc (pc' := 16) rfl ?_
  refine A_icmp_ge (tgt := 45) d_PM_putBytes_16 (by decide) (fun c2 => absurd c2 (by decide)) (fun c2 => ?_)
  refine A_aload_n 0 d_PM_putBytes_19 rfl rfl ?_
  refine A_getAv (z := (some 1)) T_ok d_PM_putBytes_20 f_PM_9 s_0 rR_0_0 ?_
  refine A_aload_n 0 d_PM_putBytes_23 rfl rfl ?_
  refine A_getIv (z := 0) T_ok d_PM_putBytes_24 f_PM_13 s_0 rI_0_1 ?_
  refine A_iload_n 1 d_PM_putBytes_27 rfl rfl ?_
  refine A_pc (pc' := 28) rfl ?_
  refine A_iload_n 2 d_PM_putBytes_28 rfl rfl ?_
  refine A_iushr d_PM_putBytes_29 ?_
  refine A_nmI (fun b3 eb3 => ?_)
  refine A_sipush d_PM_putBytes_30 rfl ?_
  refine A_iand d_PM_putBytes_33 ?_
  refine A_nmI (fun b4 eb4 => ?_)
  refine A_iastorev (j := 0) d_PM_putBytes_34 s_1 (by decide) (by decide) rfl (fun h5 eh5 => ?_)
  refine A_aload_n 0 d_PM_putBytes_35 rfl rfl ?_
  refine A_pc (pc' := 36) rfl ?_
  refine A_dupR d_PM_putBytes_36 ?_
  refine A_getIv (z := 0) T_ok d_PM_putBytes_37 f_PM_13 (sp_i eh5 s_0) (ri_o eh5 (fun q => absurd q.1 (by decide)) rI_0_1) ?_
  refine A_iconst d_PM_putBytes_40 rfl ?_
  refine A_iaddv (z := 1) d_PM_putBytes_41 (by decide +kernel) ?_
  refine A_putIv T_ok d_PM_putBytes_42 f_PM_13 (sp_i eh5 s_0) fin_f (fun h6 eh6 => ?_)
  refine A_iincv (z := 16) (L' := [some (av_R (some 0)), some (av_I va), some (av_I 16)]) d_PM_putBytes_45 rfl (by decide +kernel) rfl ?_
  refine A_pc (pc' := 48) rfl ?_
  refine A_goto (tgt := 3) d_PM_putBytes_48 (by decide) ?_
  refine A_iload_n 2 d_PM_putBytes_3 rfl rfl ?_
  refine A_if_lt (tgt := 51) d_PM_putBytes_4 (by decide) (fun c7 => absurd c7 (by decide)) (fun c7 => ?_)
  refine A_aload_n 0 d_PM_putBytes_7 rfl rfl ?_
  refine A_getIv (z := 1) T_ok d_PM_putBytes_8 f_PM_13 (sp_i eh6 (sp_i eh5 s_0)) (ri_s eh6) ?_
  refine A_aload_n 0 d_PM_putBytes_11 rfl rfl ?_
  refine A_getAv (z := (some 1)) T_ok d_PM_putBytes_12 f_PM_9 (sp_i eh6 (sp_i eh5 s_0)) (rr_i eh6 (rr_i eh5 rR_0_0)) ?_
  refine A_alenN d_PM_putBytes_15 (sp_i eh6 (sp_i eh5 s_1)) (by decide) (by decide) ?_
  refine A_pc (pc' := 16) rfl ?_
  refine A_icmp_ge (tgt := 45) d_PM_putBytes_16 (by decide) (fun c8 => absurd c8 (by decide)) (fun c8 => ?_)
  refine A_aload_n 0 d_PM_putBytes_19 rfl rfl ?_
  refine A_getAv (z := (some 1)) T_ok d_PM_putBytes_20 f_PM_9 (sp_i eh6 (sp_i eh5 s_0)) (rr_i eh6 (rr_i eh5 rR_0_0)) ?_
  refine A_aload_n 0 d_PM_putBytes_23 rfl rfl ?_
  refine A_getIv (z := 1) T_ok d_PM_putBytes_24 f_PM_13 (sp_i eh6 (sp_i eh5 s_0)) (ri_s eh6) ?_
  refine A_iload_n 1 d_PM_putBytes_27 rfl rfl ?_
  refine A_pc (pc' := 28) rfl ?_
  refine A_iload_n 2 d_PM_putBytes_28 rfl rfl ?_
  refine A_iushr d_PM_putBytes_29 ?_
  refine A_nmI (fun b9 eb9 => ?_)
  refine A_sipush d_PM_putBytes_30 rfl ?_
  refine A_iand d_PM_putBytes_33 ?_
  refine A_nmI (fun b10 eb10 => ?_)
  refine A_iastorev (j := 1) d_PM_putBytes_34 (sp_i eh6 (sp_i eh5 s_1)) (by decide) (by decide) rfl (fun h11 eh11 => ?_)
  refine A_aload_n 0 d_PM_putBytes_35 rfl rfl ?_
  refine A_pc (pc' := 36) rfl ?_
  refine A_dupR d_PM_putBytes_36 ?_
  refine A_getIv (z := 1) T_ok d_PM_putBytes_37 f_PM_13 (sp_i eh11 (sp_i eh6 (sp_i eh5 s_0))) (ri_o eh11 (fun q => absurd q.1 (by decide)) (ri_s eh6)) ?_
  refine A_iconst d_PM_putBytes_40 rfl ?_
  refine A_iaddv (z := 2) d_PM_putBytes_41 (by decide +kernel) ?_
  refine A_putIv T_ok d_PM_putBytes_42 f_PM_13 (sp_i eh11 (sp_i eh6 (sp_i eh5 s_0))) fin_f (fun h12 eh12 => ?_)
  refine A_iincv (z := 8) (L' := [some (av_R (some 0)), some (av_I va), some (av_I 8)]) d_PM_putBytes_45 rfl (by decide +kernel) rfl ?_
  refine A_pc (pc' := 48) rfl ?_
  refine A_goto (tgt := 3) d_PM_putBytes_48 (by decide) ?_
  refine A_iload_n 2 d_PM_putBytes_3 rfl rfl ?_
  refine A_if_lt (tgt := 51) d_PM_putBytes_4 (by decide) (fun c13 => absurd c13 (by decide)) (fun c13 => ?_)
  refine A_aload_n 0 d_PM_putBytes_7 rfl rfl ?_
  refine A_getIv (z := 2) T_ok d_PM_putBytes_8 f_PM_13 (sp_i eh12 (sp_i eh11 (sp_i eh6 (sp_i eh5 s_0)))) (ri_s eh12) ?_
  refine A_aload_n 0 d_PM_putBytes_11 rfl rfl ?_
  refine A_getAv (z := (some 1)) T_ok d_PM_putBytes_12 f_PM_9 (sp_i eh12 (sp_i eh11 (sp_i eh6 (sp_i eh5 s_0)))) (rr_i eh12 (rr_i eh11 (rr_i eh6 (rr_i eh5 rR_0_0)))) ?_
  refine A_alenN d_PM_putBytes_15 (sp_i eh12 (sp_i eh11 (sp_i eh6 (sp_i eh5 s_1)))) (by decide) (by decide) ?_
  refine A_pc (pc' := 16) rfl ?_
  refine A_icmp_ge (tgt := 45) d_PM_putBytes_16 (by decide) (fun c14 => absurd c14 (by decide)) (fun c14 => ?_)
  refine A_aload_n 0 d_PM_putBytes_19 rfl rfl ?_
  refine A_getAv (z := (some 1)) T_ok d_PM_putBytes_20 f_PM_9 (sp_i eh12 (sp_i eh11 (sp_i eh6 (sp_i eh5 s_0)))) (rr_i eh12 (rr_i eh11 (rr_i eh6 (rr_i eh5 rR_0_0)))) ?_
  refine A_aload_n 0 d_PM_putBytes_23 rfl rfl ?_
  refine A_getIv (z := 2) T_ok d_PM_putBytes_24 f_PM_13 (sp_i eh12 (sp_i eh11 (sp_i eh6 (sp_i eh5 s_0)))) (ri_s eh12) ?_
  refine A_iload_n 1 d_PM_putBytes_27 rfl rfl ?_
  refine A_pc (pc' := 28) rfl ?_
  refine A_iload_n 2 d_PM_putBytes_28 rfl rfl ?_
  refine A_iushr d_PM_putBytes_29 ?_
  refine A_nmI (fun b15 eb15 => ?_)
  refine A_sipush d_PM_putBytes_30 rfl ?_
  refine A_iand d_PM_putBytes_33 ?_
  refine A_nmI (fun b16 eb16 => ?_)
  refine A_iastorev (j := 2) d_PM_putBytes_34 (sp_i eh12 (sp_i eh11 (sp_i eh6 (sp_i eh5 s_1)))) (by decide) (by decide) rfl (fun h17 eh17 => ?_)
  refine A_aload_n 0 d_PM_putBytes_35 rfl rfl ?_
  refine A_pc (pc' := 36) rfl ?_
  refine A_dupR d_PM_putBytes_36 ?_
  refine A_getIv (z := 2) T_ok d_PM_putBytes_37 f_PM_13 (sp_i eh17 (sp_i eh12 (sp_i eh11 (sp_i eh6 (sp_i eh5 s_0))))) (ri_o eh17 (fun q => absurd q.1 (by decide)) (ri_s eh12)) ?_
  refine A_iconst d_PM_putBytes_40 rfl ?_
  refine A_iaddv (z := 3) d_PM_putBytes_41 (by decide +kernel) ?_
  refine A_putIv T_ok d_PM_putBytes_42 f_PM_13 (sp_i eh17 (sp_i eh12 (sp_i eh11 (sp_i eh6 (sp_i eh5 s_0))))) fin_f (fun h18 eh18 => ?_)
  refine A_iincv (z := 0) (L' := [some (av_R (some 0)), some (av_I va), some (av_I 0)]) d_PM_putBytes_45 rfl (by decide +kernel) rfl ?_
  refine A_pc (pc' := 48) rfl ?_
  refine A_goto (tgt := 3) d_PM_putBytes_48 (by decide) ?_
  refine A_iload_n 2 d_PM_putBytes_3 rfl rfl ?_
  refine A_if_lt (tgt := 51) d_PM_putBytes_4 (by decide) (fun c19 => absurd c19 (by decide)) (fun c19 => ?_)
  refine A_aload_n 0 d_PM_putBytes_7 rfl rfl ?_
  refine A_getIv (z := 3) T_ok d_PM_putBytes_8 f_PM_13 (sp_i eh18 (sp_i eh17 (sp_i eh12 (sp_i eh11 (sp_i eh6 (sp_i eh5 s_0)))))) (ri_s eh18) ?_
  refine A_aload_n 0 d_PM_putBytes_11 rfl rfl ?_
  refine A_getAv (z := (some 1)) T_ok d_PM_putBytes_12 f_PM_9 (sp_i eh18 (sp_i eh17 (sp_i eh12 (sp_i eh11 (sp_i eh6 (sp_i eh5 s_0)))))) (rr_i eh18 (rr_i eh17 (rr_i eh12 (rr_i eh11 (rr_i eh6 (rr_i eh5 rR_0_0)))))) ?_
  refine A_alenN d_PM_putBytes_15 (sp_i eh18 (sp_i eh17 (sp_i eh12 (sp_i eh11 (sp_i eh6 (sp_i eh5 s_1)))))) (by decide) (by decide) ?_
  refine A_pc (pc' := 16) rfl ?_
  refine A_icmp_ge (tgt := 45) d_PM_putBytes_16 (by decide) (fun c20 => absurd c20 (by decide)) (fun c20 => ?_)
  refine A_aload_n 0 d_PM_putBytes_19 rfl rfl ?_
  refine A_getAv (z := (some 1)) T_ok d_PM_putBytes_20 f_PM_9 (sp_i eh18 (sp_i eh17 (sp_i eh12 (sp_i eh11 (sp_i eh6 (sp_i eh5 s_0)))))) (rr_i eh18 (rr_i eh17 (rr_i eh12 (rr_i eh11 (rr_i eh6 (rr_i eh5 rR_0_0)))))) ?_
  refine A_aload_n 0 d_PM_putBytes_23 rfl rfl ?_
  refine A_getIv (z := 3) T_ok d_PM_putBytes_24 f_PM_13 (sp_i eh18 (sp_i eh17 (sp_i eh12 (sp_i eh11 (sp_i eh6 (sp_i eh5 s_0)))))) (ri_s eh18) ?_
  refine A_iload_n 1 d_PM_putBytes_27 rfl rfl ?_
  refine A_pc (pc' := 28) rfl ?_
  refine A_iload_n 2 d_PM_putBytes_28 rfl rfl ?_
  refine A_iushr d_PM_putBytes_29 ?_
  refine A_nmI (fun b21 eb21 => ?_)
  refine A_sipush d_PM_putBytes_30 rfl ?_
  refine A_iand d_PM_putBytes_33 ?_
  refine A_nmI (fun b22 eb22 => ?_)
  refine A_iastorev (j := 3) d_PM_putBytes_34 (sp_i eh18 (sp_i eh17 (sp_i eh12 (sp_i eh11 (sp_i eh6 (sp_i eh5 s_1)))))) (by decide) (by decide) rfl (fun h23 eh23 => ?_)
  refine A_aload_n 0 d_PM_putBytes_35 rfl rfl ?_
  refine A_pc (pc' := 36) rfl ?_
  refine A_dupR d_PM_putBytes_36 ?_
  refine A_getIv (z := 3) T_ok d_PM_putBytes_37 f_PM_13 (sp_i eh23 (sp_i eh18 (sp_i eh17 (sp_i eh12 (sp_i eh11 (sp_i eh6 (sp_i eh5 s_0))))))) (ri_o eh23 (fun q => absurd q.1 (by decide)) (ri_s eh18)) ?_
  refine A_iconst d_PM_putBytes_40 rfl ?_
  refine A_iaddv (z := 4) d_PM_putBytes_41 (by decide +kernel) ?_
  refine A_putIv T_ok d_PM_putBytes_42 f_PM_13 (sp_i eh23 (sp_i eh18 (sp_i eh17 (sp_i eh12 (sp_i eh11 (sp_i eh6 (sp_i eh5 s_0))))))) fin_f (fun h24 eh24 => ?_)
  refine A_iincv (z := (-8)) (L' := [some (av_R (some 0)), some (av_I va), some (av_I (-8))]) d_PM_putBytes_45 rfl (by decide +kernel) rfl ?_
  refine A_pc (pc' := 48) rfl ?_
  refine A_goto (tgt := 3) d_PM_putBytes_48 (by decide) ?_
  refine A_iload_n 2 d_PM_putBytes_3 rfl rfl ?_
  refine A_if_lt (tgt := 51) d_PM_putBytes_4 (by decide) (fun c25 => ?_) (fun c25 => absurd c25 (by decide))
  exact A_vret d_PM_putBytes_51 (by decide) rfl ⟨b4, b10, b16, b22, h5, h6, h11, h12, h17, h18, h23, eh5, eh6, eh11, eh12, eh17, eh18, eh23, eh24, rfl⟩
theorem c_PM_putBytes_a2 {G : cx_T} (h : ah_T) (vb : Int) (s_0 : h.1[0]? = some (11 + 4, 11)) (rI_0_1 : h.2.1 0 1 = 4) (rR_0_0 : h.2.2.2 0 0 = some 1) (s_1 : h.1[1]? = some (0, 2000)) : con G 0 0 0 m_PM_putBytes [av_R (some 0), av_I vb] h (fun r h' => ∃ b4 : Int, ∃ b10 : Int, ∃ b16 : Int, ∃ b22 : Int, ∃ h5 : ah_T, ∃ h6 : ah_T, ∃ h11 : ah_T, ∃ h12 : ah_T, ∃ h17 : ah_T, ∃ h18 : ah_T, ∃ h23 : ah_T, h5 = st_i h 1 4 b4 ∧ h6 = st_i h5 0 1 5 ∧ h11 = st_i h6 1 5 b10 ∧ h12 = st_i h11 0 1 6 ∧ h17 = st_i h12 1 6 b16 ∧ h18 = st_i h17 0 1 7 ∧ h23 = st_i h18 1 7 b22 ∧ h' = st_i h23 0 1 8 ∧ r = none) := by
  refine con_of (L := [some (av_R (some 0)), some (av_I vb), none]) (by decide +kernel) (Nat.le_of_ble_eq_true rfl) rfl ?_
  refine A_bipush d_PM_putBytes_0 rfl ?_
  refine A_istore_n 2 (L' := [some (av_R (some 0)), some (av_I vb), some (av_I 24)]) d_PM_putBytes_2 rfl (Nat.le_of_ble_eq_true rfl) rfl ?_
  refine A_iload_n 2 d_PM_putBytes_3 rfl rfl ?_
  refine A_if_lt (tgt := 51) d_PM_putBytes_4 (by decide) (fun c1 => absurd c1 (by decide)) (fun c1 => ?_)
  refine A_aload_n 0 d_PM_putBytes_7 rfl rfl ?_
  refine A_getIv (z := 4) T_ok d_PM_putBytes_8 f_PM_13 s_0 rI_0_1 ?_
  refine A_aload_n 0 d_PM_putBytes_11 rfl rfl ?_
  refine A_getAv (z := (some 1)) T_ok d_PM_putBytes_12 f_PM_9 s_0 rR_0_0 ?_
  refine A_alenN d_PM_putBytes_15 s_1 (by decide) (by decide) ?_
  refine A_pc (pc' := 16) rfl ?_
  refine A_icmp_ge (tgt := 45) d_PM_putBytes_16 (by decide) (fun c2 => absurd c2 (by decide)) (fun c2 => ?_)
  refine A_aload_n 0 d_PM_putBytes_19 rfl rfl ?_
  refine A_getAv (z := (some 1)) T_ok d_PM_putBytes_20 f_PM_9 s_0 rR_0_0 ?_
  refine A_aload_n 0 d_PM_putBytes_23 rfl rfl ?_
  refine A_getIv (z := 4) T_ok d_PM_putBytes_24 f_PM_13 s_0 rI_0_1 ?_
  refine A_iload_n 1 d_PM_putBytes_27 rfl rfl ?_
  refine A_pc (pc' := 28) rfl ?_
  refine A_iload_n 2 d_PM_putBytes_28 rfl rfl ?_
  refine A_iushr d_PM_putBytes_29 ?_
  refine A_nmI (fun b3 eb3 => ?_)
  refine A_sipush d_PM_putBytes_30 rfl ?_
  refine A_iand d_PM_putBytes_33 ?_
  refine A_nmI (fun b4 eb4 => ?_)
  refine A_iastorev (j := 4) d_PM_putBytes_34 s_1 (by decide) (by decide) rfl (fun h5 eh5 => ?_)
  refine A_aload_n 0 d_PM_putBytes_35 rfl rfl ?_
  refine A_pc (pc' := 36) rfl ?_
  refine A_dupR d_PM_putBytes_36 ?_
  refine A_getIv (z := 4) T_ok d_PM_putBytes_37 f_PM_13 (sp_i eh5 s_0) (ri_o eh5 (fun q => absurd q.1 (by decide)) rI_0_1) ?_
  refine A_iconst d_PM_putBytes_40 rfl ?_
  refine A_iaddv (z := 5) d_PM_putBytes_41 (by decide +kernel) ?_
  refine A_putIv T_ok d_PM_putBytes_42 f_PM_13 (sp_i eh5 s_0) fin_f (fun h6 eh6 => ?_)
  refine A_iincv (z := 16) (L' := [some (av_R (some 0)), some (av_I vb), some (av_I 16)]) d_PM_putBytes_45 rfl (by decide +kernel) rfl ?_
  refine A_pc (pc' := 48) rfl ?_
  refine A_goto (tgt := 3) d_PM_putBytes_48 (by decide) ?_
  refine A_iload_n 2 d_PM_putBytes_3 rfl rfl ?_
  refine A_if_lt (tgt := 51) d_PM_putBytes_4 (by decide) (fun c7 => absurd c7 (by decide)) (fun c7 => ?_)
  refine A_aload_n 0 d_PM_putBytes_7 rfl rfl ?_
  refine A_getIv (z := 5) T_ok d_PM_putBytes_8 f_PM_13 (sp_i eh6 (sp_i eh5 s_0)) (ri_s eh6) ?_
  refine A_aload_n 0 d_PM_putBytes_11 rfl rfl ?_
  refine A_getAv (z := (some 1)) T_ok d_PM_putBytes_12 f_PM_9 (sp_i eh6 (sp_i eh5 s_0)) (rr_i eh6 (rr_i eh5 rR_0_0)) ?_
  refine A_alenN d_PM_putBytes_15 (sp_i eh6 (sp_i eh5 s_1)) (by decide) (by decide) ?_
  refine A_pc (pc' := 16) rfl ?_
  refine A_icmp_ge (tgt := 45) d_PM_putBytes_16 (by decide) (fun c8 => absurd c8 (by decide)) (fun c8 => ?_)
  refine A_aload_n 0 d_PM_putBytes_19 rfl rfl ?_
  refine A_getAv (z := (some 1)) T_ok d_PM_putBytes_20 f_PM_9 (sp_i eh6 (sp_i eh5 s_0)) (rr_i eh6 (rr_i eh5 rR_0_0)) ?_
  refine A_aload_n 0 d_PM_putBytes_23 rfl rfl ?_
  refine A_getIv (z := 5) T_ok d_PM_putBytes_24 f_PM_13 (sp_i eh6 (sp_i eh5 s_0)) (ri_s eh6) ?_
  refine A_iload_n 1 d_PM_putBytes_27 rfl rfl ?_
  refine A_pc (pc' := 28) rfl ?_
  refine A_iload_n 2 d_PM_putBytes_28 rfl rfl ?_
  refine A_iushr d_PM_putBytes_29 ?_
  refine A_nmI (fun b9 eb9 => ?_)
  refine A_sipush d_PM_putBytes_30 rfl ?_
  refine A_iand d_PM_putBytes_33 ?_
  refine A_nmI (fun b10 eb10 => ?_)
  refine A_iastorev (j := 5) d_PM_putBytes_34 (sp_i eh6 (sp_i eh5 s_1)) (by decide) (by decide) rfl (fun h11 eh11 => ?_)
  refine A_aload_n 0 d_PM_putBytes_35 rfl rfl ?_
  refine A_pc (pc' := 36) rfl ?_
  refine A_dupR d_PM_putBytes_36 ?_
  refine A_getIv (z := 5) T_ok d_PM_putBytes_37 f_PM_13 (sp_i eh11 (sp_i eh6 (sp_i eh5 s_0))) (ri_o eh11 (fun q => absurd q.1 (by decide)) (ri_s eh6)) ?_
  refine A_iconst d_PM_putBytes_40 rfl ?_
  refine A_iaddv (z := 6) d_PM_putBytes_41 (by decide +kernel) ?_
  refine A_putIv T_ok d_PM_putBytes_42 f_PM_13 (sp_i eh11 (sp_i eh6 (sp_i eh5 s_0))) fin_f (fun h12 eh12 => ?_)
  refine A_iincv (z := 8) (L' := [some (av_R (some 0)), some (av_I vb), some (av_I 8)]) d_PM_putBytes_45 rfl (by decide +kernel) rfl ?_
  refine A_pc (pc' := 48) rfl ?_
  refine A_goto (tgt := 3) d_PM_putBytes_48 (by decide) ?_
  refine A_iload_n 2 d_PM_putBytes_3 rfl rfl ?_
  refine A_if_lt (tgt := 51) d_PM_putBytes_4 (by decide) (fun c13 => absurd c13 (by decide)) (fun c13 => ?_)
  refine A_aload_n 0 d_PM_putBytes_7 rfl rfl ?_
  refine A_getIv (z := 6) T_ok d_PM_putBytes_8 f_PM_13 (sp_i eh12 (sp_i eh11 (sp_i eh6 (sp_i eh5 s_0)))) (ri_s eh12) ?_
  refine A_aload_n 0 d_PM_putBytes_11 rfl rfl ?_
  refine A_getAv (z := (some 1)) T_ok d_PM_putBytes_12 f_PM_9 (sp_i eh12 (sp_i eh11 (sp_i eh6 (sp_i eh5 s_0)))) (rr_i eh12 (rr_i eh11 (rr_i eh6 (rr_i eh5 rR_0_0)))) ?_
  refine A_alenN d_PM_putBytes_15 (sp_i eh12 (sp_i eh11 (sp_i eh6 (sp_i eh5 s_1)))) (by decide) (by decide) ?_
  refine A_pc (pc' := 16) rfl ?_
  refine A_icmp_ge (tgt := 45) d_PM_putBytes_16 (by decide) (fun c14 => absurd c14 (by decide)) (fun c14 => ?_)
  refine A_aload_n 0 d_PM_putBytes_19 rfl rfl ?_
  refine A_getAv (z := (some 1)) T_ok d_PM_putBytes_20 f_PM_9 (sp_i eh12 (sp_i eh11 (sp_i eh6 (sp_i eh5 s_0)))) (rr_i eh12 (rr_i eh11 (rr_i eh6 (rr_i eh5 rR_0_0)))) ?_
  refine A_aload_n 0 d_PM_putBytes_23 rfl rfl ?_
  refine A_getIv (z := 6) T_ok d_PM_putBytes_24 f_PM_13 (sp_i eh12 (sp_i eh11 (sp_i eh6 (sp_i eh5 s_0)))) (ri_s eh12) ?_
  refine A_iload_n 1 d_PM_putBytes_27 rfl rfl ?_
  refine A_pc (pc' := 28) rfl ?_
  refine A_iload_n 2 d_PM_putBytes_28 rfl rfl ?_
  refine A_iushr d_PM_putBytes_29 ?_
  refine A_nmI (fun b15 eb15 => ?_)
  refine A_sipush d_PM_putBytes_30 rfl ?_
  refine A_iand d_PM_putBytes_33 ?_
  refine A_nmI (fun b16 eb16 => ?_)
  refine A_iastorev (j := 6) d_PM_putBytes_34 (sp_i eh12 (sp_i eh11 (sp_i eh6 (sp_i eh5 s_1)))) (by decide) (by decide) rfl (fun h17 eh17 => ?_)
  refine A_aload_n 0 d_PM_putBytes_35 rfl rfl ?_
  refine A_pc (pc' := 36) rfl ?_
  refine A_dupR d_PM_putBytes_36 ?_
  refine A_getIv (z := 6) T_ok d_PM_putBytes_37 f_PM_13 (sp_i eh17 (sp_i eh12 (sp_i eh11 (sp_i eh6 (sp_i eh5 s_0))))) (ri_o eh17 (fun q => absurd q.1 (by decide)) (ri_s eh12)) ?_
  refine A_iconst d_PM_putBytes_40 rfl ?_
  refine A_iaddv (z := 7) d_PM_putBytes_41 (by decide +kernel) ?_
  refine A_putIv T_ok d_PM_putBytes_42 f_PM_13 (sp_i eh17 (sp_i eh12 (sp_i eh11 (sp_i eh6 (sp_i eh5 s_0))))) fin_f (fun h18 eh18 => ?_)
  refine A_iincv (z := 0) (L' := [some (av_R (some 0)), some (av_I vb), some (av_I 0)]) d_PM_putBytes_45 rfl (by decide +kernel) rfl ?_
  refine A_pc (pc' := 48) rfl ?_
  refine A_goto (tgt := 3) d_PM_putBytes_48 (by decide) ?_
  refine A_iload_n 2 d_PM_putBytes_3 rfl rfl ?_
  refine A_if_lt (tgt := 51) d_PM_putBytes_4 (by decide) (fun c19 => absurd c19 (by decide)) (fun c19 => ?_)
  refine A_aload_n 0 d_PM_putBytes_7 rfl rfl ?_
  refine A_getIv (z := 7) T_ok d_PM_putBytes_8 f_PM_13 (sp_i eh18 (sp_i eh17 (sp_i eh12 (sp_i eh11 (sp_i eh6 (sp_i eh5 s_0)))))) (ri_s eh18) ?_
  refine A_aload_n 0 d_PM_putBytes_11 rfl rfl ?_
  refine A_getAv (z := (some 1)) T_ok d_PM_putBytes_12 f_PM_9 (sp_i eh18 (sp_i eh17 (sp_i eh12 (sp_i eh11 (sp_i eh6 (sp_i eh5 s_0)))))) (rr_i eh18 (rr_i eh17 (rr_i eh12 (rr_i eh11 (rr_i eh6 (rr_i eh5 rR_0_0)))))) ?_
  refine A_alenN d_PM_putBytes_15 (sp_i eh18 (sp_i eh17 (sp_i eh12 (sp_i eh11 (sp_i eh6 (sp_i eh5 s_1)))))) (by decide) (by decide) ?_
  refine A_pc (pc' := 16) rfl ?_
  refine A_icmp_ge (tgt := 45) d_PM_putBytes_16 (by decide) (fun c20 => absurd c20 (by decide)) (fun c20 => ?_)
  refine A_aload_n 0 d_PM_putBytes_19 rfl rfl ?_
  refine A_getAv (z := (some 1)) T_ok d_PM_putBytes_20 f_PM_9 (sp_i eh18 (sp_i eh17 (sp_i eh12 (sp_i eh11 (sp_i eh6 (sp_i eh5 s_0)))))) (rr_i eh18 (rr_i eh17 (rr_i eh12 (rr_i eh11 (rr_i eh6 (rr_i eh5 rR_0_0)))))) ?_
  refine A_aload_n 0 d_PM_putBytes_23 rfl rfl ?_
  refine A_getIv (z := 7) T_ok d_PM_putBytes_24 f_PM_13 (sp_i eh18 (sp_i eh17 (sp_i eh12 (sp_i eh11 (sp_i eh6 (sp_i eh5 s_0)))))) (ri_s eh18) ?_
  refine A_iload_n 1 d_PM_putBytes_27 rfl rfl ?_
  refine A_pc (pc' := 28) rfl ?_
  refine A_iload_n 2 d_PM_putBytes_28 rfl rfl ?_
  refine A_iushr d_PM_putBytes_29 ?_
  refine A_nmI (fun b21 eb21 => ?_)
  refine A_sipush d_PM_putBytes_30 rfl ?_
  refine A_iand d_PM_putBytes_33 ?_
  refine A_nmI (fun b22 eb22 => ?_)
  refine A_iastorev (j := 7) d_PM_putBytes_34 (sp_i eh18 (sp_i eh17 (sp_i eh12 (sp_i eh11 (sp_i eh6 (sp_i eh5 s_1)))))) (by decide) (by decide) rfl (fun h23 eh23 => ?_)
  refine A_aload_n 0 d_PM_putBytes_35 rfl rfl ?_
  refine A_pc (pc' := 36) rfl ?_
  refine A_dupR d_PM_putBytes_36 ?_
  refine A_getIv (z := 7) T_ok d_PM_putBytes_37 f_PM_13 (sp_i eh23 (sp_i eh18 (sp_i eh17 (sp_i eh12 (sp_i eh11 (sp_i eh6 (sp_i eh5 s_0))))))) (ri_o eh23 (fun q => absurd q.1 (by decide)) (ri_s eh18)) ?_
  refine A_iconst d_PM_putBytes_40 rfl ?_
  refine A_iaddv (z := 8) d_PM_putBytes_41 (by decide +kernel) ?_
  refine A_putIv T_ok d_PM_putBytes_42 f_PM_13 (sp_i eh23 (sp_i eh18 (sp_i eh17 (sp_i eh12 (sp_i eh11 (sp_i eh6 (sp_i eh5 s_0))))))) fin_f (fun h24 eh24 => ?_)
  refine A_iincv (z := (-8)) (L' := [some (av_R (some 0)), some (av_I vb), some (av_I (-8))]) d_PM_putBytes_45 rfl (by decide +kernel) rfl ?_
  refine A_pc (pc' := 48) rfl ?_
  refine A_goto (tgt := 3) d_PM_putBytes_48 (by decide) ?_
  refine A_iload_n 2 d_PM_putBytes_3 rfl rfl ?_
  refine A_if_lt (tgt := 51) d_PM_putBytes_4 (by decide) (fun c25 => ?_) (fun c25 => absurd c25 (by decide))
  exact A_vret d_PM_putBytes_51 (by decide) rfl ⟨b4, b10, b16, b22, h5, h6, h11, h12, h17, h18, h23, eh5, eh6, eh11, eh12, eh17, eh18, eh23, eh24, rfl⟩
theorem c_PM_putBytes_a3 {G : cx_T} (h : ah_T) (vc : Int) (s_0 : h.1[0]? = some (11 + 4, 11)) (rI_0_1 : h.2.1 0 1 = 8) (rR_0_0 : h.2.2.2 0 0 = some 1) (s_1 : h.1[1]? = some (0, 2000)) : con G 0 0 0 m_PM_putBytes [av_R (some 0), av_I vc] h (fun r h' => ∃ b4 : Int, ∃ b10 : Int, ∃ b16 : Int, ∃ b22 : Int, ∃ h5 : ah_T, ∃ h6 : ah_T, ∃ h11 : ah_T, ∃ h12 : ah_T, ∃ h17 : ah_T, ∃ h18 : ah_T, ∃ h23 : ah_T, h5 = st_i h 1 8 b4 ∧ h6 = st_i h5 0 1 9 ∧ h11 = st_i h6 1 9 b10 ∧ h12 = st_i h11 0 1 10 ∧ h17 = st_i h12 1 10 b16 ∧ h18 = st_i h17 0 1 11 ∧ h23 = st_i h18 1 11 b22 ∧ h' = st_i h23 0 1 12 ∧ r = none) := by
  refine con_of (L := [some (av_R (some 0)), some (av_I vc), none]) (by decide +kernel) (Nat.le_of_ble_eq_true rfl) rfl ?_
  refine A_bipush d_PM_putBytes_0 rfl ?_
  refine A_istore_n 2 (L' := [some (av_R (some 0)), some (av_I vc), some (av_I 24)]) d_PM_putBytes_2 rfl (Nat.le_of_ble_eq_true rfl) rfl ?_
  refine A_iload_n 2 d_PM_putBytes_3 rfl rfl ?_
  refine A_if_lt (tgt := 51) d_PM_putBytes_4 (by decide) (fun c1 => absurd c1 (by decide)) (fun c1 => ?_)
  refine A_aload_n 0 d_PM_putBytes_7 rfl rfl ?_
  refine A_getIv (z := 8) T_ok d_PM_putBytes_8 f_PM_13 s_0 rI_0_1 ?_
  refine A_aload_n 0 d_PM_putBytes_11 rfl rfl ?_
  refine A_getAv (z := (some 1)) T_ok d_PM_putBytes_12 f_PM_9 s_0 rR_0_0 ?_
  refine A_alenN d_PM_putBytes_15 s_1 (by decide) (by decide) ?_
  refine A_pc (pc' := 16) rfl ?_
  refine A_icmp_ge (tgt := 45) d_PM_putBytes_16 (by decide) (fun c2 => absurd c2 (by decide)) (fun c2 => ?_)
  refine A_aload_n 0 d_PM_putBytes_19 rfl rfl ?_
  refine A_getAv (z := (some 1)) T_ok d_PM_putBytes_20 f_PM_9 s_0 rR_0_0 ?_
  refine A_aload_n 0 d_PM_putBytes_23 rfl rfl ?_
  refine A_getIv (z := 8) T_ok d_PM_putBytes_24 f_PM_13 s_0 rI_0_1 ?_
  refine A_iload_n 1 d_PM_putBytes_27 rfl rfl ?_
  refine A_pc (pc' := 28) rfl ?_
  refine A_iload_n 2 d_PM_putBytes_28 rfl rfl ?_
  refine A_iushr d_PM_putBytes_29 ?_
  refine A_nmI (fun b3 eb3 => ?_)
  refine A_sipush d_PM_putBytes_30 rfl ?_
  refine A_iand d_PM_putBytes_33 ?_
  refine A_nmI (fun b4 eb4 => ?_)
  refine A_iastorev (j := 8) d_PM_putBytes_34 s_1 (by decide) (by decide) rfl (fun h5 eh5 => ?_)
  refine A_aload_n 0 d_PM_putBytes_35 rfl rfl ?_
  refine A_pc (pc' := 36) rfl ?_
  refine A_dupR d_PM_putBytes_36 ?_
  refine A_getIv (z := 8) T_ok d_PM_putBytes_37 f_PM_13 (sp_i eh5 s_0) (ri_o eh5 (fun q => absurd q.1 (by decide)) rI_0_1) ?_
  refine A_iconst d_PM_putBytes_40 rfl ?_
  refine A_iaddv (z := 9) d_PM_putBytes_41 (by decide +kernel) ?_
  refine A_putIv T_ok d_PM_putBytes_42 f_PM_13 (sp_i eh5 s_0) fin_f (fun h6 eh6 => ?_)
  refine A_iincv (z := 16) (L' := [some (av_R (some 0)), some (av_I vc), some (av_I 16)]) d_PM_putBytes_45 rfl (by decide +kernel) rfl ?_
  refine A_pc (pc' := 48) rfl ?_
  refine A_goto (tgt := 3) d_PM_putBytes_48 (by decide) ?_
  refine A_iload_n 2 d_PM_putBytes_3 rfl rfl ?_
  refine A_if_lt (tgt := 51) d_PM_putBytes_4 (by decide) (fun c7 => absurd c7 (by decide)) (fun c7 => ?_)
  refine A_aload_n 0 d_PM_putBytes_7 rfl rfl ?_
  refine A_getIv (z := 9) T_ok d_PM_putBytes_8 f_PM_13 (sp_i eh6 (sp_i eh5 s_0)) (ri_s eh6) ?_
  refine A_aload_n 0 d_PM_putBytes_11 rfl rfl ?_
  refine A_getAv (z := (some 1)) T_ok d_PM_putBytes_12 f_PM_9 (sp_i eh6 (sp_i eh5 s_0)) (rr_i eh6 (rr_i eh5 rR_0_0)) ?_
  refine A_alenN d_PM_putBytes_15 (sp_i eh6 (sp_i eh5 s_1)) (by decide) (by decide) ?_
  refine A_pc (pc' := 16) rfl ?_
  refine A_icmp_ge (tgt := 45) d_PM_putBytes_16 (by decide) (fun c8 => absurd c8 (by decide)) (fun c8 => ?_)
  refine A_aload_n 0 d_PM_putBytes_19 rfl rfl ?_
  refine A_getAv (z := (some 1)) T_ok d_PM_putBytes_20 f_PM_9 (sp_i eh6 (sp_i eh5 s_0)) (rr_i eh6 (rr_i eh5 rR_0_0)) ?_
  refine A_aload_n 0 d_PM_putBytes_23 rfl rfl ?_
  refine A_getIv (z := 9) T_ok d_PM_putBytes_24 f_PM_13 (sp_i eh6 (sp_i eh5 s_0)) (ri_s eh6) ?_
  refine A_iload_n 1 d_PM_putBytes_27 rfl rfl ?_
  refine A_pc (pc' := 28) rfl ?_
  refine A_iload_n 2 d_PM_putBytes_28 rfl rfl ?_
  refine A_iushr d_PM_putBytes_29 ?_
  refine A_nmI (fun b9 eb9 => ?_)
  refine A_sipush d_PM_putBytes_30 rfl ?_
  refine A_iand d_PM_putBytes_33 ?_
  refine A_nmI (fun b10 eb10 => ?_)
  refine A_iastorev (j := 9) d_PM_putBytes_34 (sp_i eh6 (sp_i eh5 s_1)) (by decide) (by decide) rfl (fun h11 eh11 => ?_)
  refine A_aload_n 0 d_PM_putBytes_35 rfl rfl ?_
  refine A_pc (pc' := 36) rfl ?_
  refine A_dupR d_PM_putBytes_36 ?_
  refine A_getIv (z := 9) T_ok d_PM_putBytes_37 f_PM_13 (sp_i eh11 (sp_i eh6 (sp_i eh5 s_0))) (ri_o eh11 (fun q => absurd q.1 (by decide)) (ri_s eh6)) ?_
  refine A_iconst d_PM_putBytes_40 rfl ?_
  refine A_iaddv (z := 10) d_PM_putBytes_41 (by decide +kernel) ?_
  refine A_putIv T_ok d_PM_putBytes_42 f_PM_13 (sp_i eh11 (sp_i eh6 (sp_i eh5 s_0))) fin_f (fun h12 eh12 => ?_)
  refine A_iincv (z := 8) (L' := [some (av_R (some 0)), some (av_I vc), some (av_I 8)]) d_PM_putBytes_45 rfl (by decide +kernel) rfl ?_
  refine A_pc (pc' := 48) rfl ?_
  refine A_goto (tgt := 3) d_PM_putBytes_48 (by decide) ?_
  refine A_iload_n 2 d_PM_putBytes_3 rfl rfl ?_
  refine A_if_lt (tgt := 51) d_PM_putBytes_4 (by decide) (fun c13 => absurd c13 (by decide)) (fun c13 => ?_)
  refine A_aload_n 0 d_PM_putBytes_7 rfl rfl ?_
  refine A_getIv (z := 10) T_ok d_PM_putBytes_8 f_PM_13 (sp_i eh12 (sp_i eh11 (sp_i eh6 (sp_i eh5 s_0)))) (ri_s eh12) ?_
  refine A_aload_n 0 d_PM_putBytes_11 rfl rfl ?_
  refine A_getAv (z := (some 1)) T_ok d_PM_putBytes_12 f_PM_9 (sp_i eh12 (sp_i eh11 (sp_i eh6 (sp_i eh5 s_0)))) (rr_i eh12 (rr_i eh11 (rr_i eh6 (rr_i eh5 rR_0_0)))) ?_
  refine A_alenN d_PM_putBytes_15 (sp_i eh12 (sp_i eh11 (sp_i eh6 (sp_i eh5 s_1)))) (by decide) (by decide) ?_
  refine A_pc (pc' := 16) rfl ?_
  refine A_icmp_ge (tgt := 45) d_PM_putBytes_16 (by decide) (fun c14 => absurd c14 (by decide)) (fun c14 => ?_)
  refine A_aload_n 0 d_PM_putBytes_19 rfl rfl ?_
  refine A_getAv (z := (some 1)) T_ok d_PM_putBytes_20 f_PM_9 (sp_i eh12 (sp_i eh11 (sp_i eh6 (sp_i eh5 s_0)))) (rr_i eh12 (rr_i eh11 (rr_i eh6 (rr_i eh5 rR_0_0)))) ?_
  refine A_aload_n 0 d_PM_putBytes_23 rfl rfl ?_
  refine A_getIv (z := 10) T_ok d_PM_putBytes_24 f_PM_13 (sp_i eh12 (sp_i eh11 (sp_i eh6 (sp_i eh5 s_0)))) (ri_s eh12) ?_
  refine A_iload_n 1 d_PM_putBytes_27 rfl rfl ?_
  refine A_pc (pc' := 28) rfl ?_
  refine A_iload_n 2 d_PM_putBytes_28 rfl rfl ?_
  refine A_iushr d_PM_putBytes_29 ?_
  refine A_nmI (fun b15 eb15 => ?_)
  refine A_sipush d_PM_putBytes_30 rfl ?_
  refine A_iand d_PM_putBytes_33 ?_
  refine A_nmI (fun b16 eb16 => ?_)
  refine A_iastorev (j := 10) d_PM_putBytes_34 (sp_i eh12 (sp_i eh11 (sp_i eh6 (sp_i eh5 s_1)))) (by decide) (by decide) rfl (fun h17 eh17 => ?_)
  refine A_aload_n 0 d_PM_putBytes_35 rfl rfl ?_
  refine A_pc (pc' := 36) rfl ?_
  refine A_dupR d_PM_putBytes_36 ?_
  refine A_getIv (z := 10) T_ok d_PM_putBytes_37 f_PM_13 (sp_i eh17 (sp_i eh12 (sp_i eh11 (sp_i eh6 (sp_i eh5 s_0))))) (ri_o eh17 (fun q => absurd q.1 (by decide)) (ri_s eh12)) ?_
  refine A_iconst d_PM_putBytes_40 rfl ?_
  refine A_iaddv (z := 11) d_PM_putBytes_41 (by decide +kernel) ?_
  refine A_putIv T_ok d_PM_putBytes_42 f_PM_13 (sp_i eh17 (sp_i eh12 (sp_i eh11 (sp_i eh6 (sp_i eh5 s_0))))) fin_f (fun h18 eh18 => ?_)
  refine A_iincv (z := 0) (L' := [some (av_R (some 0)), some (av_I vc), some (av_I 0)]) d_PM_putBytes_45 rfl (by decide +kernel) rfl ?_
  refine A_pc (pc' := 48) rfl ?_
  refine A_goto (tgt := 3) d_PM_putBytes_48 (by decide) ?_
  refine A_iload_n 2 d_PM_putBytes_3 rfl rfl ?_
  refine A_if_lt (tgt := 51) d_PM_putBytes_4 (by decide) (fun c19 => absurd c19 (by decide)) (fun c19 => ?_)
  refine A_aload_n 0 d_PM_putBytes_7 rfl rfl ?_
  refine A_getIv (z := 11) T_ok d_PM_putBytes_8 f_PM_13 (sp_i eh18 (sp_i eh17 (sp_i eh12 (sp_i eh11 (sp_i eh6 (sp_i eh5 s_0)))))) (ri_s eh18) ?_
  refine A_aload_n 0 d_PM_putBytes_11 rfl rfl ?_
  refine A_getAv (z := (some 1)) T_ok d_PM_putBytes_12 f_PM_9 (sp_i eh18 (sp_i eh17 (sp_i eh12 (sp_i eh11 (sp_i eh6 (sp_i eh5 s_0)))))) (rr_i eh18 (rr_i eh17 (rr_i eh12 (rr_i eh11 (rr_i eh6 (rr_i eh5 rR_0_0)))))) ?_
  refine A_alenN d_PM_putBytes_15 (sp_i eh18 (sp_i eh17 (sp_i eh12 (sp_i eh11 (sp_i eh6 (sp_i eh5 s_1)))))) (by decide) (by decide) ?_
  refine A_pc (pc' := 16) rfl ?_
  refine A_icmp_ge (tgt := 45) d_PM_putBytes_16 (by decide) (fun c20 => absurd c20 (by decide)) (fun c20 => ?_)
  refine A_aload_n 0 d_PM_putBytes_19 rfl rfl ?_
  refine A_getAv (z := (some 1)) T_ok d_PM_putBytes_20 f_PM_9 (sp_i eh18 (sp_i eh17 (sp_i eh12 (sp_i eh11 (sp_i eh6 (sp_i eh5 s_0)))))) (rr_i eh18 (rr_i eh17 (rr_i eh12 (rr_i eh11 (rr_i eh6 (rr_i eh5 rR_0_0)))))) ?_
  refine A_aload_n 0 d_PM_putBytes_23 rfl rfl ?_
  refine A_getIv (z := 11) T_ok d_PM_putBytes_24 f_PM_13 (sp_i eh18 (sp_i eh17 (sp_i eh12 (sp_i eh11 (sp_i eh6 (sp_i eh5 s_0)))))) (ri_s eh18) ?_
  refine A_iload_n 1 d_PM_putBytes_27 rfl rfl ?_
  refine A_pc (pc' := 28) rfl ?_
  refine A_iload_n 2 d_PM_putBytes_28 rfl rfl ?_
  refine A_iushr d_PM_putBytes_29 ?_
  refine A_nmI (fun b21 eb21 => ?_)
  refine A_sipush d_PM_putBytes_30 rfl ?_
  refine A_iand d_PM_putBytes_33 ?_
  refine A_nmI (fun b22 eb22 => ?_)
  refine A_iastorev (j := 11) d_PM_putBytes_34 (sp_i eh18 (sp_i eh17 (sp_i eh12 (sp_i eh11 (sp_i eh6 (sp_i eh5 s_1)))))) (by decide) (by decide) rfl (fun h23 eh23 => ?_)
  refine A_aload_n 0 d_PM_putBytes_35 rfl rfl ?_
  refine A_pc (pc' := 36) rfl ?_
  refine A_dupR d_PM_putBytes_36 ?_
  refine A_getIv (z := 11) T_ok d_PM_putBytes_37 f_PM_13 (sp_i eh23 (sp_i eh18 (sp_i eh17 (sp_i eh12 (sp_i eh11 (sp_i eh6 (sp_i eh5 s_0))))))) (ri_o eh23 (fun q => absurd q.1 (by decide)) (ri_s eh18)) ?_
  refine A_iconst d_PM_putBytes_40 rfl ?_
  refine A_iaddv (z := 12) d_PM_putBytes_41 (by decide +kernel) ?_
  refine A_putIv T_ok d_PM_putBytes_42 f_PM_13 (sp_i eh23 (sp_i eh18 (sp_i eh17 (sp_i eh12 (sp_i eh11 (sp_i eh6 (sp_i eh5 s_0))))))) fin_f (fun h24 eh24 => ?_)
  refine A_iincv (z := (-8)) (L' := [some (av_R (some 0)), some (av_I vc), some (av_I (-8))]) d_PM_putBytes_45 rfl (by decide +kernel) rfl ?_
  refine A_pc (pc' := 48) rfl ?_
  refine A_goto (tgt := 3) d_PM_putBytes_48 (by decide) ?_
  refine A_iload_n 2 d_PM_putBytes_3 rfl rfl ?_
  refine A_if_lt (tgt := 51) d_PM_putBytes_4 (by decide) (fun c25 => ?_) (fun c25 => absurd c25 (by decide))
  exact A_vret d_PM_putBytes_51 (by decide) rfl ⟨b4, b10, b16, b22, h5, h6, h11, h12, h17, h18, h23, eh5, eh6, eh11, eh12, eh17, eh18, eh23, eh24, rfl⟩
theorem c_PM_putBytes_a4 {G : cx_T} (h : ah_T) (vd : Int) (s_0 : h.1[0]? = some (11 + 4, 11)) (rI_0_1 : h.2.1 0 1 = 12) (rR_0_0 : h.2.2.2 0 0 = some 1) (s_1 : h.1[1]? = some (0, 2000)) : con G 0 0 0 m_PM_putBytes [av_R (some 0), av_I vd] h (fun r h' => ∃ b4 : Int, ∃ b10 : Int, ∃ b16 : Int, ∃ b22 : Int, ∃ h5 : ah_T, ∃ h6 : ah_T, ∃ h11 : ah_T, ∃ h12 : ah_T, ∃ h17 : ah_T, ∃ h18 : ah_T, ∃ h23 : ah_T, h5 = st_i h 1 12 b4 ∧ h6 = st_i h5 0 1 13 ∧ h11 = st_i h6 1 13 b10 ∧ h12 = st_i h11 0 1 14 ∧ h17 = st_i h12 1 14 b16 ∧ h18 = st_i h17 0 1 15 ∧ h23 = st_i h18 1 15 b22 ∧ h' = st_i h23 0 1 16 ∧ r = none) := by
  refine con_of (L := [some (av_R (some 0)), some (av_I vd), none]) (by decide +kernel) (Nat.le_of_ble_eq_true rfl) rfl ?_
  refine A_bipush d_PM_putBytes_0 rfl ?_
  refine A_istore_n 2 (L' := [some (av_R (some 0)), some (av_I vd), some (av_I 24)]) d_PM_putBytes_2 rfl (Nat.le_of_ble_eq_true rfl) rfl ?_
  refine A_iload_n 2 d_PM_putBytes_3 rfl rfl ?_
  refine A_if_lt (tgt := 51) d_PM_putBytes_4 (by decide) (fun c1 => absurd c1 (by decide)) (fun c1 => ?_)
  refine A_aload_n 0 d_PM_putBytes_7 rfl rfl ?_
  refine A_getIv (z := 12) T_ok d_PM_putBytes_8 f_PM_13 s_0 rI_0_1 ?_
  refine A_aload_n 0 d_PM_putBytes_11 rfl rfl ?_
  refine A_getAv (z := (some 1)) T_ok d_PM_putBytes_12 f_PM_9 s_0 rR_0_0 ?_
  refine A_alenN d_PM_putBytes_15 s_1 (by decide) (by decide) ?_
  refine A_pc (pc' := 16) rfl ?_
  refine A_icmp_ge (tgt := 45) d_PM_putBytes_16 (by decide) (fun c2 => absurd c2 (by decide)) (fun c2 => ?_)
  refine A_aload_n 0 d_PM_putBytes_19 rfl rfl ?_
  refine A_getAv (z := (some 1)) T_ok d_PM_putBytes_20 f_PM_9 s_0 rR_0_0 ?_
  refine A_aload_n 0 d_PM_putBytes_23 rfl rfl ?_
  refine A_getIv (z := 12) T_ok d_PM_putBytes_24 f_PM_13 s_0 rI_0_1 ?_
  refine A_iload_n 1 d_PM_putBytes_27 rfl rfl ?_
  refine A_pc (pc' := 28) rfl ?_
  refine A_iload_n 2 d_PM_putBytes_28 rfl rfl ?_
  refine A_iushr d_PM_putBytes_29 ?_
  refine A_nmI (fun b3 eb3 => ?_)
  refine A_sipush d_PM_putBytes_30 rfl ?_
  refine A_iand d_PM_putBytes_33 ?_
  refine A_nmI (fun b4 eb4 => ?_)
  refine A_iastorev (j := 12) d_PM_putBytes_34 s_1 (by decide) (by decide) rfl (fun h5 eh5 => ?_)
  refine A_aload_n 0 d_PM_putBytes_35 rfl rfl ?_
  refine A_pc (pc' := 36) rfl ?_
  refine A_dupR d_PM_putBytes_36 ?_
  refine A_getIv (z := 12) T_ok d_PM_putBytes_37 f_PM_13 (sp_i eh5 s_0) (ri_o eh5 (fun q => absurd q.1 (by decide)) rI_0_1) ?_
  refine A_iconst d_PM_putBytes_40 rfl ?_
  refine A_iaddv (z := 13) d_PM_putBytes_41 (by decide +kernel) ?_
  refine A_putIv T_ok d_PM_putBytes_42 f_PM_13 (sp_i eh5 s_0) fin_f (fun h6 eh6 => ?_)
  refine A_iincv (z := 16) (L' := [some (av_R (some 0)), some (av_I vd), some (av_I 16)]) d_PM_putBytes_45 rfl (by decide +kernel) rfl ?_
  refine A_pc (pc' := 48) rfl ?_
  refine A_goto (tgt := 3) d_PM_putBytes_48 (by decide) ?_
  refine A_iload_n 2 d_PM_putBytes_3 rfl rfl ?_
  refine A_if_lt (tgt := 51) d_PM_putBytes_4 (by decide) (fun c7 => absurd c7 (by decide)) (fun c7 => ?_)
  refine A_aload_n 0 d_PM_putBytes_7 rfl rfl ?_
  refine A_getIv (z := 13) T_ok d_PM_putBytes_8 f_PM_13 (sp_i eh6 (sp_i eh5 s_0)) (ri_s eh6) ?_
  refine A_aload_n 0 d_PM_putBytes_11 rfl rfl ?_
  refine A_getAv (z := (some 1)) T_ok d_PM_putBytes_12 f_PM_9 (sp_i eh6 (sp_i eh5 s_0)) (rr_i eh6 (rr_i eh5 rR_0_0)) ?_
  refine A_alenN d_PM_putBytes_15 (sp_i eh6 (sp_i eh5 s_1)) (by decide) (by decide) ?_
  refine A_pc (pc' := 16) rfl ?_
  refine A_icmp_ge (tgt := 45) d_PM_putBytes_16 (by decide) (fun c8 => absurd c8 (by decide)) (fun c8 => ?_)
  refine A_aload_n 0 d_PM_putBytes_19 rfl rfl ?_
  refine A_getAv (z := (some 1)) T_ok d_PM_putBytes_20 f_PM_9 (sp_i eh6 (sp_i eh5 s_0)) (rr_i eh6 (rr_i eh5 rR_0_0)) ?_
  refine A_aload_n 0 d_PM_putBytes_23 rfl rfl ?_
  refine A_getIv (z := 13) T_ok d_PM_putBytes_24 f_PM_13 (sp_i eh6 (sp_i eh5 s_0)) (ri_s eh6) ?_
  refine A_iload_n 1 d_PM_putBytes_27 rfl rfl ?_
  refine A_pc (pc' := 28) rfl ?_
  refine A_iload_n 2 d_PM_putBytes_28 rfl rfl ?_
  refine A_iushr d_PM_putBytes_29 ?_
  refine A_nmI (fun b9 eb9 => ?_)
  refine A_sipush d_PM_putBytes_30 rfl ?_
  refine A_iand d_PM_putBytes_33 ?_
  refine A_nmI (fun b10 eb10 => ?_)
  refine A_iastorev (j := 13) d_PM_putBytes_34 (sp_i eh6 (sp_i eh5 s_1)) (by decide) (by decide) rfl (fun h11 eh11 => ?_)
  refine A_aload_n 0 d_PM_putBytes_35 rfl rfl ?_
  refine A_pc (pc' := 36) rfl ?_
  refine A_dupR d_PM_putBytes_36 ?_
  refine A_getIv (z := 13) T_ok d_PM_putBytes_37 f_PM_13 (sp_i eh11 (sp_i eh6 (sp_i eh5 s_0))) (ri_o eh11 (fun q => absurd q.1 (by decide)) (ri_s eh6)) ?_
  refine A_iconst d_PM_putBytes_40 rfl ?_
  refine A_iaddv (z := 14) d_PM_putBytes_41 (by decide +kernel) ?_
  refine A_putIv T_ok d_PM_putBytes_42 f_PM_13 (sp_i eh11 (sp_i eh6 (sp_i eh5 s_0))) fin_f (fun h12 eh12 => ?_)
  refine A_iincv (z := 8) (L' := [some (av_R (some 0)), some (av_I vd), some (av_I 8)]) d_PM_putBytes_45 rfl (by decide +kernel) rfl ?_
  refine A_pc (pc' := 48) rfl ?_
  refine A_goto (tgt := 3) d_PM_putBytes_48 (by decide) ?_
  refine A_iload_n 2 d_PM_putBytes_3 rfl rfl ?_
  refine A_if_lt (tgt := 51) d_PM_putBytes_4 (by decide) (fun c13 => absurd c13 (by decide)) (fun c13 => ?_)
  refine A_aload_n 0 d_PM_putBytes_7 rfl rfl ?_
  refine A_getIv (z := 14) T_ok d_PM_putBytes_8 f_PM_13 (sp_i eh12 (sp_i eh11 (sp_i eh6 (sp_i eh5 s_0)))) (ri_s eh12) ?_
  refine A_aload_n 0 d_PM_putBytes_11 rfl rfl ?_
  refine A_getAv (z := (some 1)) T_ok d_PM_putBytes_12 f_PM_9 (sp_i eh12 (sp_i eh11 (sp_i eh6 (sp_i eh5 s_0)))) (rr_i eh12 (rr_i eh11 (rr_i eh6 (rr_i eh5 rR_0_0)))) ?_
  refine A_alenN d_PM_putBytes_15 (sp_i eh12 (sp_i eh11 (sp_i eh6 (sp_i eh5 s_1)))) (by decide) (by decide) ?_
  refine A_pc (pc' := 16) rfl ?_
  refine A_icmp_ge (tgt := 45) d_PM_putBytes_16 (by decide) (fun c14 => absurd c14 (by decide)) (fun c14 => ?_)
  refine A_aload_n 0 d_PM_putBytes_19 rfl rfl ?_
  refine A_getAv (z := (some 1)) T_ok d_PM_putBytes_20 f_PM_9 (sp_i eh12 (sp_i eh11 (sp_i eh6 (sp_i eh5 s_0)))) (rr_i eh12 (rr_i eh11 (rr_i eh6 (rr_i eh5 rR_0_0)))) ?_
  refine A_aload_n 0 d_PM_putBytes_23 rfl rfl ?_
  refine A_getIv (z := 14) T_ok d_PM_putBytes_24 f_PM_13 (sp_i eh12 (sp_i eh11 (sp_i eh6 (sp_i eh5 s_0)))) (ri_s eh12) ?_
  refine A_iload_n 1 d_PM_putBytes_27 rfl rfl ?_
  refine A_pc (pc' := 28) rfl ?_
  refine A_iload_n 2 d_PM_putBytes_28 rfl rfl ?_
  refine A_iushr d_PM_putBytes_29 ?_
  refine A_nmI (fun b15 eb15 => ?_)
  refine A_sipush d_PM_putBytes_30 rfl ?_
  refine A_iand d_PM_putBytes_33 ?_
  refine A_nmI (fun b16 eb16 => ?_)
  refine A_iastorev (j := 14) d_PM_putBytes_34 (sp_i eh12 (sp_i eh11 (sp_i eh6 (sp_i eh5 s_1)))) (by decide) (by decide) rfl (fun h17 eh17 => ?_)
  refine A_aload_n 0 d_PM_putBytes_35 rfl rfl ?_
  refine A_pc (pc' := 36) rfl ?_
  refine A_dupR d_PM_putBytes_36 ?_
  refine A_getIv (z := 14) T_ok d_PM_putBytes_37 f_PM_13 (sp_i eh17 (sp_i eh12 (sp_i eh11 (sp_i eh6 (sp_i eh5 s_0))))) (ri_o eh17 (fun q => absurd q.1 (by decide)) (ri_s eh12)) ?_
  refine A_iconst d_PM_putBytes_40 rfl ?_
  refine A_iaddv (z := 15) d_PM_putBytes_41 (by decide +kernel) ?_
  refine A_putIv T_ok d_PM_putBytes_42 f_PM_13 (sp_i eh17 (sp_i eh12 (sp_i eh11 (sp_i eh6 (sp_i eh5 s_0))))) fin_f (fun h18 eh18 => ?_)
  refine A_iincv (z := 0) (L' := [some (av_R (some 0)), some (av_I vd), some (av_I 0)]) d_PM_putBytes_45 rfl (by decide +kernel) rfl ?_
  refine A_pc (pc' := 48) rfl ?_
  refine A_goto (tgt := 3) d_PM_putBytes_48 (by decide) ?_
  refine A_iload_n 2 d_PM_putBytes_3 rfl rfl ?_
  refine A_if_lt (tgt := 51) d_PM_putBytes_4 (by decide) (fun c19 => absurd c19 (by decide)) (fun c19 => ?_)
  refine A_aload_n 0 d_PM_putBytes_7 rfl rfl ?_
  refine A_getIv (z := 15) T_ok d_PM_putBytes_8 f_PM_13 (sp_i eh18 (sp_i eh17 (sp_i eh12 (sp_i eh11 (sp_i eh6 (sp_i eh5 s_0)))))) (ri_s eh18) ?_
  refine A_aload_n 0 d_PM_putBytes_11 rfl rfl ?_
  refine A_getAv (z := (some 1)) T_ok d_PM_putBytes_12 f_PM_9 (sp_i eh18 (sp_i eh17 (sp_i eh12 (sp_i eh11 (sp_i eh6 (sp_i eh5 s_0)))))) (rr_i eh18 (rr_i eh17 (rr_i eh12 (rr_i eh11 (rr_i eh6 (rr_i eh5 rR_0_0)))))) ?_
  refine A_alenN d_PM_putBytes_15 (sp_i eh18 (sp_i eh17 (sp_i eh12 (sp_i eh11 (sp_i eh6 (sp_i eh5 s_1)))))) (by decide) (by decide) ?_
  refine A_pc (pc' := 16) rfl ?_
  refine A_icmp_ge (tgt := 45) d_PM_putBytes_16 (by decide) (fun c20 => absurd c20 (by decide)) (fun c20 => ?_)
  refine A_aload_n 0 d_PM_putBytes_19 rfl rfl ?_
  refine A_getAv (z := (some 1)) T_ok d_PM_putBytes_20 f_PM_9 (sp_i eh18 (sp_i eh17 (sp_i eh12 (sp_i eh11 (sp_i eh6 (sp_i eh5 s_0)))))) (rr_i eh18 (rr_i eh17 (rr_i eh12 (rr_i eh11 (rr_i eh6 (rr_i eh5 rR_0_0)))))) ?_
  refine A_aload_n 0 d_PM_putBytes_23 rfl rfl ?_
  refine A_getIv (z := 15) T_ok d_PM_putBytes_24 f_PM_13 (sp_i eh18 (sp_i eh17 (sp_i eh12 (sp_i eh11 (sp_i eh6 (sp_i eh5 s_0)))))) (ri_s eh18) ?_
  refine A_iload_n 1 d_PM_putBytes_27 rfl rfl ?_
  refine A_pc (pc' := 28) rfl ?_
  refine A_iload_n 2 d_PM_putBytes_28 rfl rfl ?_
  refine A_iushr d_PM_putBytes_29 ?_
  refine A_nmI (fun b21 eb21 => ?_)
  refine A_sipush d_PM_putBytes_30 rfl ?_
  refine A_iand d_PM_putBytes_33 ?_
  refine A_nmI (fun b22 eb22 => ?_)
  refine A_iastorev (j := 15) d_PM_putBytes_34 (sp_i eh18 (sp_i eh17 (sp_i eh12 (sp_i eh11 (sp_i eh6 (sp_i eh5 s_1)))))) (by decide) (by decide) rfl (fun h23 eh23 => ?_)
  refine A_aload_n 0 d_PM_putBytes_35 rfl rfl ?_
  refine A_pc (pc' := 36) rfl ?_
  refine A_dupR d_PM_putBytes_36 ?_
  refine A_getIv (z := 15) T_ok d_PM_putBytes_37 f_PM_13 (sp_i eh23 (sp_i eh18 (sp_i eh17 (sp_i eh12 (sp_i eh11 (sp_i eh6 (sp_i eh5 s_0))))))) (ri_o eh23 (fun q => absurd q.1 (by decide)) (ri_s eh18)) ?_
  refine A_iconst d_PM_putBytes_40 rfl ?_
  refine A_iaddv (z := 16) d_PM_putBytes_41 (by decide +kernel) ?_
  refine A_putIv T_ok d_PM_putBytes_42 f_PM_13 (sp_i eh23 (sp_i eh18 (sp_i eh17 (sp_i eh12 (sp_i eh11 (sp_i eh6 (sp_i eh5 s_0))))))) fin_f (fun h24 eh24 => ?_)
  refine A_iincv (z := (-8)) (L' := [some (av_R (some 0)), some (av_I vd), some (av_I (-8))]) d_PM_putBytes_45 rfl (by decide +kernel) rfl ?_
  refine A_pc (pc' := 48) rfl ?_
  refine A_goto (tgt := 3) d_PM_putBytes_48 (by decide) ?_
  refine A_iload_n 2 d_PM_putBytes_3 rfl rfl ?_
  refine A_if_lt (tgt := 51) d_PM_putBytes_4 (by decide) (fun c25 => ?_) (fun c25 => absurd c25 (by decide))
  exact A_vret d_PM_putBytes_51 (by decide) rfl ⟨b4, b10, b16, b22, h5, h6, h11, h12, h17, h18, h23, eh5, eh6, eh11, eh12, eh17, eh18, eh23, eh24, rfl⟩
theorem c_PM_putBytes_a5 {G : cx_T} (h : ah_T) (ve : Int) (s_0 : h.1[0]? = some (11 + 4, 11)) (rI_0_1 : h.2.1 0 1 = 16) (rR_0_0 : h.2.2.2 0 0 = some 1) (s_1 : h.1[1]? = some (0, 2000)) : con G 0 0 0 m_PM_putBytes [av_R (some 0), av_I ve] h (fun r h' => ∃ b4 : Int, ∃ b10 : Int, ∃ b16 : Int, ∃ b22 : Int, ∃ h5 : ah_T, ∃ h6 : ah_T, ∃ h11 : ah_T, ∃ h12 : ah_T, ∃ h17 : ah_T, ∃ h18 : ah_T, ∃ h23 : ah_T, h5 = st_i h 1 16 b4 ∧ h6 = st_i h5 0 1 17 ∧ h11 = st_i h6 1 17 b10 ∧ h12 = st_i h11 0 1 18 ∧ h17 = st_i h12 1 18 b16 ∧ h18 = st_i h17 0 1 19 ∧ h23 = st_i h18 1 19 b22 ∧ h' = st_i h23 0 1 20 ∧ r = none) := by
  refine con_of (L := [some (av_R (some 0)), some (av_I ve), none]) (by decide +kernel) (Nat.le_of_ble_eq_true rfl) rfl ?_
  refine A_bipush d_PM_putBytes_0 rfl ?_
  refine A_istore_n 2 (L' := [some (av_R (some 0)), some (av_I ve), some (av_I 24)]) d_PM_putBytes_2 rfl (Nat.le_of_ble_eq_true rfl) rfl ?_
  refine A_iload_n 2 d_PM_putBytes_3 rfl rfl ?_
  refine A_if_lt (tgt := 51) d_PM_putBytes_4 (by decide) (fun c1 => absurd c1 (by decide)) (fun c1 => ?_)
  refine A_aload_n 0 d_PM_putBytes_7 rfl rfl ?_
  refine A_getIv (z := 16) T_ok d_PM_putBytes_8 f_PM_13 s_0 rI_0_1 ?_
  refine A_aload_n 0 d_PM_putBytes_11 rfl rfl ?_
  refine A_getAv (z := (some 1)) T_ok d_PM_putBytes_12 f_PM_9 s_0 rR_0_0 ?_
  refine A_alenN d_PM_putBytes_15 s_1 (by decide) (by decide) ?_
  refine A_pc (pc' := 16) rfl ?_
  refine A_icmp_ge (tgt := 45) d_PM_putBytes_16 (by decide) (fun c2 => absurd c2 (by decide)) (fun c2 => ?_)
  refine A_aload_n 0 d_PM_putBytes_19 rfl rfl ?_
  refine A_getAv (z := (some 1)) T_ok d_PM_putBytes_20 f_PM_9 s_0 rR_0_0 ?_
  refine A_aload_n 0 d_PM_putBytes_23 rfl rfl ?_
  refine A_getIv (z := 16) T_ok d_PM_putBytes_24 f_PM_13 s_0 rI_0_1 ?_
  refine A_iload_n 1 d_PM_putBytes_27 rfl rfl ?_
  refine A_pc (pc' := 28) rfl ?_
  refine A_iload_n 2 d_PM_putBytes_28 rfl rfl ?_
  refine A_iushr d_PM_putBytes_29 ?_
  refine A_nmI (fun b3 eb3 => ?_)
  refine A_sipush d_PM_putBytes_30 rfl ?_
  refine A_iand d_PM_putBytes_33 ?_
  refine A_nmI (fun b4 eb4 => ?_)
  refine A_iastorev (j := 16) d_PM_putBytes_34 s_1 (by decide) (by decide) rfl (fun h5 eh5 => ?_)
  refine A_aload_n 0 d_PM_putBytes_35 rfl rfl ?_
  refine A_pc (pc' := 36) rfl ?_
  refine A_dupR d_PM_putBytes_36 ?_
  refine A_getIv (z := 16) T_ok d_PM_putBytes_37 f_PM_13 (sp_i eh5 s_0) (ri_o eh5 (fun q => absurd q.1 (by decide)) rI_0_1) ?_
  refine A_iconst d_PM_putBytes_40 rfl ?_
  refine A_iaddv (z := 17) d_PM_putBytes_41 (by decide +kernel) ?_
  refine A_putIv T_ok d_PM_putBytes_42 f_PM_13 (sp_i eh5 s_0) fin_f (fun h6 eh6 => ?_)
  refine A_iincv (z := 16) (L' := [some (av_R (some 0)), some (av_I ve), some (av_I 16)]) d_PM_putBytes_45 rfl (by decide +kernel) rfl ?_
  refine A_pc (pc' := 48) rfl ?_
  refine A_goto (tgt := 3) d_PM_putBytes_48 (by decide) ?_
  refine A_iload_n 2 d_PM_putBytes_3 rfl rfl ?_
  refine A_if_lt (tgt := 51) d_PM_putBytes_4 (by decide) (fun c7 => absurd c7 (by decide)) (fun c7 => ?_)
  refine A_aload_n 0 d_PM_putBytes_7 rfl rfl ?_
  refine A_getIv (z := 17) T_ok d_PM_putBytes_8 f_PM_13 (sp_i eh6 (sp_i eh5 s_0)) (ri_s eh6) ?_
  refine A_aload_n 0 d_PM_putBytes_11 rfl rfl ?_
  refine A_getAv (z := (some 1)) T_ok d_PM_putBytes_12 f_PM_9 (sp_i eh6 (sp_i eh5 s_0)) (rr_i eh6 (rr_i eh5 rR_0_0)) ?_
  refine A_alenN d_PM_putBytes_15 (sp_i eh6 (sp_i eh5 s_1)) (by decide) (by decide) ?_
  refine A_pc (pc' := 16) rfl ?_
  refine A_icmp_ge (tgt := 45) d_PM_putBytes_16 (by decide) (fun c8 => absurd c8 (by decide)) (fun c8 => ?_)
  refine A_aload_n 0 d_PM_putBytes_19 rfl rfl ?_
  refine A_getAv (z := (some 1)) T_ok d_PM_putBytes_20 f_PM_9 (sp_i eh6 (sp_i eh5 s_0)) (rr_i eh6 (rr_i eh5 rR_0_0)) ?_
  refine A_aload_n 0 d_PM_putBytes_23 rfl rfl ?_
  refine A_getIv (z := 17) T_ok d_PM_putBytes_24 f_PM_13 (sp_i eh6 (sp_i eh5 s_0)) (ri_s eh6) ?_
  refine A_iload_n 1 d_PM_putBytes_27 rfl rfl ?_
  refine A_pc (pc' := 28) rfl ?_
  refine A_iload_n 2 d_PM_putBytes_28 rfl rfl ?_
  refine A_iushr d_PM_putBytes_29 ?_
  refine A_nmI (fun b9 eb9 => ?_)
  refine A_sipush d_PM_putBytes_30 rfl ?_
  refine A_iand d_PM_putBytes_33 ?_
  refine A_nmI (fun b10 eb10 => ?_)
  refine A_iastorev (j := 17) d_PM_putBytes_34 (sp_i eh6 (sp_i eh5 s_1)) (by decide) (by decide) rfl (fun h11 eh11 => ?_)
  refine A_aload_n 0 d_PM_putBytes_35 rfl rfl ?_
  refine A_pc (pc' := 36) rfl ?_
  refine A_dupR d_PM_putBytes_36 ?_
  refine A_getIv (z := 17) T_ok d_PM_putBytes_37 f_PM_13 (sp_i eh11 (sp_i eh6 (sp_i eh5 s_0))) (ri_o eh11 (fun q => absurd q.1 (by decide)) (ri_s eh6)) ?_
  refine A_iconst d_PM_putBytes_40 rfl ?_
  refine A_iaddv (z := 18) d_PM_putBytes_41 (by decide +kernel) ?_
  refine A_putIv T_ok d_PM_putBytes_42 f_PM_13 (sp_i eh11 (sp_i eh6 (sp_i eh5 s_0))) fin_f (fun h12 eh12 => ?_)
  refine A_iincv (z := 8) (L' := [some (av_R (some 0)), some (av_I ve), some (av_I 8)]) d_PM_putBytes_45 rfl (by decide +kernel) rfl ?_
  refine A_pc (pc' := 48) rfl ?_
  refine A_goto (tgt := 3) d_PM_putBytes_48 (by decide) ?_
  refine A_iload_n 2 d_PM_putBytes_3 rfl rfl ?_
  refine A_if_lt (tgt := 51) d_PM_putBytes_4 (by decide) (fun c13 => absurd c13 (by decide)) (fun c13 => ?_)
  refine A_aload_n 0 d_PM_putBytes_7 rfl rfl ?_
  refine A_getIv (z := 18) T_ok d_PM_putBytes_8 f_PM_13 (sp_i eh12 (sp_i eh11 (sp_i eh6 (sp_i eh5 s_0)))) (ri_s eh12) ?_
  refine A_aload_n 0 d_PM_putBytes_11 rfl rfl ?_
  refine A_getAv (z := (some 1)) T_ok d_PM_putBytes_12 f_PM_9 (sp_i eh12 (sp_i eh11 (sp_i eh6 (sp_i eh5 s_0)))) (rr_i eh12 (rr_i eh11 (rr_i eh6 (rr_i eh5 rR_0_0)))) ?_
  refine A_alenN d_PM_putBytes_15 (sp_i eh12 (sp_i eh11 (sp_i eh6 (sp_i eh5 s_1)))) (by decide) (by decide) ?_
  refine A_pc (pc' := 16) rfl ?_
  refine A_icmp_ge (tgt := 45) d_PM_putBytes_16 (by decide) (fun c14 => absurd c14 (by decide)) (fun c14 => ?_)
  refine A_aload_n 0 d_PM_putBytes_19 rfl rfl ?_
  refine A_getAv (z := (some 1)) T_ok d_PM_putBytes_20 f_PM_9 (sp_i eh12 (sp_i eh11 (sp_i eh6 (sp_i eh5 s_0)))) (rr_i eh12 (rr_i eh11 (rr_i eh6 (rr_i eh5 rR_0_0)))) ?_
  refine A_aload_n 0 d_PM_putBytes_23 rfl rfl ?_
  refine A_getIv (z := 18) T_ok d_PM_putBytes_24 f_PM_13 (sp_i eh12 (sp_i eh11 (sp_i eh6 (sp_i eh5 s_0)))) (ri_s eh12) ?_
  refine A_iload_n 1 d_PM_putBytes_27 rfl rfl ?_
  refine A_pc (pc' := 28) rfl ?_
  refine A_iload_n 2 d_PM_putBytes_28 rfl rfl ?_
  refine A_iushr d_PM_putBytes_29 ?_
  refine A_nmI (fun b15 eb15 => ?_)
  refine A_sipush d_PM_putBytes_30 rfl ?_
  refine A_iand d_PM_putBytes_33 ?_
  refine A_nmI (fun b16 eb16 => ?_)
  refine A_iastorev (j := 18) d_PM_putBytes_34 (sp_i eh12 (sp_i eh11 (sp_i eh6 (sp_i eh5 s_1)))) (by decide) (by decide) rfl (fun h17 eh17 => ?_)
  refine A_aload_n 0 d_PM_putBytes_35 rfl rfl ?_
  refine A_pc (pc' := 36) rfl ?_
  refine A_dupR d_PM_putBytes_36 ?_
  refine A_getIv (z := 18) T_ok d_PM_putBytes_37 f_PM_13 (sp_i eh17 (sp_i eh12 (sp_i eh11 (sp_i eh6 (sp_i eh5 s_0))))) (ri_o eh17 (fun q => absurd q.1 (by decide)) (ri_s eh12)) ?_
  refine A_iconst d_PM_putBytes_40 rfl ?_
  refine A_iaddv (z := 19) d_PM_putBytes_41 (by decide +kernel) ?_
  refine A_putIv T_ok d_PM_putBytes_42 f_PM_13 (sp_i eh17 (sp_i eh12 (sp_i eh11 (sp_i eh6 (sp_i eh5 s_0))))) fin_f (fun h18 eh18 => ?_)
  refine A_iincv (z := 0) (L' := [some (av_R (some 0)), some (av_I ve), some (av_I 0)]) d_PM_putBytes_45 rfl (by decide +kernel) rfl ?_
  refine A_pc (pc' := 48) rfl ?_
  refine A_goto (tgt := 3) d_PM_putBytes_48 (by decide) ?_
  refine A_iload_n 2 d_PM_putBytes_3 rfl rfl ?_
  refine A_if_lt (tgt := 51) d_PM_putBytes_4 (by decide) (fun c19 => absurd c19 (by decide)) (fun c19 => ?_)
  refine A_aload_n 0 d_PM_putBytes_7 rfl rfl ?_
  refine A_getIv (z := 19) T_ok d_PM_putBytes_8 f_PM_13 (sp_i eh18 (sp_i eh17 (sp_i eh12 (sp_i eh11 (sp_i eh6 (sp_i eh5 s_0)))))) (ri_s eh18) ?_
  refine A_aload_n 0 d_PM_putBytes_11 rfl rfl ?_
  refine A_getAv (z := (some 1)) T_ok d_PM_putBytes_12 f_PM_9 (sp_i eh18 (sp_i eh17 (sp_i eh12 (sp_i eh11 (sp_i eh6 (sp_i eh5 s_0)))))) (rr_i eh18 (rr_i eh17 (rr_i eh12 (rr_i eh11 (rr_i eh6 (rr_i eh5 rR_0_0)))))) ?_
  refine A_alenN d_PM_putBytes_15 (sp_i eh18 (sp_i eh17 (sp_i eh12 (sp_i eh11 (sp_i eh6 (sp_i eh5 s_1)))))) (by decide) (by decide) ?_
  refine A_pc (pc' := 16) rfl ?_
  refine A_icmp_ge (tgt := 45) d_PM_putBytes_16 (by decide) (fun c20 => absurd c20 (by decide)) (fun c20 => ?_)
  refine A_aload_n 0 d_PM_putBytes_19 rfl rfl ?_
  refine A_getAv (z := (some 1)) T_ok d_PM_putBytes_20 f_PM_9 (sp_i eh18 (sp_i eh17 (sp_i eh12 (sp_i eh11 (sp_i eh6 (sp_i eh5 s_0)))))) (rr_i eh18 (rr_i eh17 (rr_i eh12 (rr_i eh11 (rr_i eh6 (rr_i eh5 rR_0_0)))))) ?_
  refine A_aload_n 0 d_PM_putBytes_23 rfl rfl ?_
  refine A_getIv (z := 19) T_ok d_PM_putBytes_24 f_PM_13 (sp_i eh18 (sp_i eh17 (sp_i eh12 (sp_i eh11 (sp_i eh6 (sp_i eh5 s_0)))))) (ri_s eh18) ?_
  refine A_iload_n 1 d_PM_putBytes_27 rfl rfl ?_
  refine A_pc (pc' := 28) rfl ?_
  refine A_iload_n 2 d_PM_putBytes_28 rfl rfl ?_
  refine A_iushr d_PM_putBytes_29 ?_
  refine A_nmI (fun b21 eb21 => ?_)
  refine A_sipush d_PM_putBytes_30 rfl ?_
  refine A_iand d_PM_putBytes_33 ?_
  refine A_nmI (fun b22 eb22 => ?_)
  refine A_iastorev (j := 19) d_PM_putBytes_34 (sp_i eh18 (sp_i eh17 (sp_i eh12 (sp_i eh11 (sp_i eh6 (sp_i eh5 s_1)))))) (by decide) (by decide) rfl (fun h23 eh23 => ?_)
  refine A_aload_n 0 d_PM_putBytes_35 rfl rfl ?_
  refine A_pc (pc' := 36) rfl ?_
  refine A_dupR d_PM_putBytes_36 ?_
  refine A_getIv (z := 19) T_ok d_PM_putBytes_37 f_PM_13 (sp_i eh23 (sp_i eh18 (sp_i eh17 (sp_i eh12 (sp_i eh11 (sp_i eh6 (sp_i eh5 s_0))))))) (ri_o eh23 (fun q => absurd q.1 (by decide)) (ri_s eh18)) ?_
  refine A_iconst d_PM_putBytes_40 rfl ?_
  refine A_iaddv (z := 20) d_PM_putBytes_41 (by decide +kernel) ?_
  refine A_putIv T_ok d_PM_putBytes_42 f_PM_13 (sp_i eh23 (sp_i eh18 (sp_i eh17 (sp_i eh12 (sp_i eh11 (sp_i eh6 (sp_i eh5 s_0))))))) fin_f (fun h24 eh24 => ?_)
  refine A_iincv (z := (-8)) (L' := [some (av_R (some 0)), some (av_I ve), some (av_I (-8))]) d_PM_putBytes_45 rfl (by decide +kernel) rfl ?_
  refine A_pc (pc' := 48) rfl ?_
  refine A_goto (tgt := 3) d_PM_putBytes_48 (by decide) ?_
  refine A_iload_n 2 d_PM_putBytes_3 rfl rfl ?_
  refine A_if_lt (tgt := 51) d_PM_putBytes_4 (by decide) (fun c25 => ?_) (fun c25 => absurd c25 (by decide))
  exact A_vret d_PM_putBytes_51 (by decide) rfl ⟨b4, b10, b16, b22, h5, h6, h11, h12, h17, h18, h23, eh5, eh6, eh11, eh12, eh17, eh18, eh23, eh24, rfl⟩
theorem t_x_feed {G : cx_T} (h : ah_T) (hw : eqr 0 170 h) (va vb vc vd ve : Int) : con G 1 0 0 m_PM_feed [av_R (some 0), av_I va, av_I vb, av_I vc, av_I vd, av_I ve] h (fun r h' => (∃ v : Int, r = some (av_I v) ∧ v = 20) ∧ frm 170 h h') := by
  refine con_of (L := [some (av_R (some 0)), some (av_I va), some (av_I vb), some (av_I vc), some (av_I vd), some (av_I ve)]) (by decide +kernel) (Nat.le_of_ble_eq_true rfl) rfl ?_
  refine A_aload_n 0 d_PM_feed_0 rfl rfl ?_
  refine A_getIv (z := 0) T_ok d_PM_feed_1 f_PM_13 (sb_s hw q_s_0) (rb_I hw (by decide) (by decide) q_I_0_1) ?_
  refine A_bipush d_PM_feed_4 rfl ?_
  refine A_iaddv (z := 20) d_PM_feed_6 (by decide +kernel) ?_
  refine A_sipush d_PM_feed_7 rfl ?_
  refine A_pc (pc' := 10) rfl ?_
  refine A_icmp_le (tgt := 16) d_PM_feed_10 (by decide) (fun c1 => ?_) (fun c1 => absurd c1 (by decide))
  refine A_aload_n 0 d_PM_feed_16 rfl rfl ?_
  refine A_iload_n 1 d_PM_feed_17 rfl rfl ?_
  refine A_callV1 m_PM_putBytes T_ok d_PM_feed_18 l_PM_76 k_PM_putBytes (sb_s hw q_s_0) rfl (by decide) (by decide) (Nat.le_of_ble_eq_true rfl) (c_PM_putBytes_a1 h _ (sb_s hw q_s_0) (rb_I hw (by decide) (by decide) q_I_0_1) (rb_R hw (by decide) (by decide) q_R_0_0) (sb_s hw q_s_1)) (fun r h2 hq => ?_)
  obtain ⟨z3, z4, z5, z6, h7, h8, h9, h10, h11, h12, h13, eh7, eh8, eh9, eh10, eh11, eh12, eh13, eh2, rfl⟩ := hq
  refine A_aload_n 0 d_PM_feed_21 rfl rfl ?_
  refine A_iload_n 2 d_PM_feed_22 rfl rfl ?_
  refine A_callV1 m_PM_putBytes T_ok d_PM_feed_23 l_PM_76 k_PM_putBytes (sp_i eh2 (sp_i eh13 (sp_i eh12 (sp_i eh11 (sp_i eh10 (sp_i eh9 (sp_i eh8 (sp_i eh7 (sb_s hw q_s_0))))))))) rfl (by decide) (by decide) (Nat.le_of_ble_eq_true rfl) (c_PM_putBytes_a2 h2 _ (sp_i eh2 (sp_i eh13 (sp_i eh12 (sp_i eh11 (sp_i eh10 (sp_i eh9 (sp_i eh8 (sp_i eh7 (sb_s hw q_s_0))))))))) (ri_s eh2) (rr_i eh2 (rr_i eh13 (rr_i eh12 (rr_i eh11 (rr_i eh10 (rr_i eh9 (rr_i eh8 (rr_i eh7 (rb_R hw (by decide) (by decide) q_R_0_0))))))))) (sp_i eh2 (sp_i eh13 (sp_i eh12 (sp_i eh11 (sp_i eh10 (sp_i eh9 (sp_i eh8 (sp_i eh7 (sb_s hw q_s_1)))))))))) (fun r h14 hq => ?_)
  obtain ⟨z15, z16, z17, z18, h19, h20, h21, h22, h23, h24, h25, eh19, eh20, eh21, eh22, eh23, eh24, eh25, eh14, rfl⟩ := hq
  refine A_aload_n 0 d_PM_feed_26 rfl rfl ?_
  refine A_iload_n 3 d_PM_feed_27 rfl rfl ?_
  refine A_callV1 m_PM_putBytes T_ok d_PM_feed_28 l_PM_76 k_PM_putBytes (sp_i eh14 (sp_i eh25 (sp_i eh24 (sp_i eh23 (sp_i eh22 (sp_i eh21 (sp_i eh20 (sp_i eh19 (sp_i eh2 (sp_i eh13 (sp_i eh12 (sp_i eh11 (sp_i eh10 (sp_i eh9 (sp_i eh8 (sp_i eh7 (sb_s hw q_s_0))))))))))))))))) rfl (by decide) (by decide) (Nat.le_of_ble_eq_true rfl) (c_PM_putBytes_a3 h14 _ (sp_i eh14 (sp_i eh25 (sp_i eh24 (sp_i eh23 (sp_i eh22 (sp_i eh21 (sp_i eh20 (sp_i eh19 (sp_i eh2 (sp_i eh13 (sp_i eh12 (sp_i eh11 (sp_i eh10 (sp_i eh9 (sp_i eh8 (sp_i eh7 (sb_s hw q_s_0))))))))))))))))) (ri_s eh14) (rr_i eh14 (rr_i eh25 (rr_i eh24 (rr_i eh23 (rr_i eh22 (rr_i eh21 (rr_i eh20 (rr_i eh19 (rr_i eh2 (rr_i eh13 (rr_i eh12 (rr_i eh11 (rr_i eh10 (rr_i eh9 (rr_i eh8 (rr_i eh7 (rb_R hw (by decide) (by decide) q_R_0_0))))))))))))))))) (sp_i eh14 (sp_i eh25 (sp_i eh24 (sp_i eh23 (sp_i eh22 (sp_i eh21 (sp_i eh20 (sp_i eh19 (sp_i eh2 (sp_i eh13 (sp_i eh12 (sp_i eh11 (sp_i eh10 (sp_i eh9 (sp_i eh8 (sp_i eh7 (sb_s hw q_s_1)))))))))))))))))) (fun r h26 hq => ?_)
  obtain ⟨z27, z28, z29, z30, h31, h32, h33, h34, h35, h36, h37, eh31, eh32, eh33, eh34, eh35, eh36, eh37, eh26, rfl⟩ := hq
  refine A_aload_n 0 d_PM_feed_31 rfl rfl ?_
  refine A_iload d_PM_feed_32 rfl ?_
  refine A_callV1 m_PM_putBytes T_ok d_PM_feed_34 l_PM_76 k_PM_putBytes (sp_i eh26 (sp_i eh37 (sp_i eh36 (sp_i eh35 (sp_i eh34 (sp_i eh33 (sp_i eh32 (sp_i eh31 (sp_i eh14 (sp_i eh25 (sp_i eh24 (sp_i eh23 (sp_i eh22 (sp_i eh21 (sp_i eh20 (sp_i eh19 (sp_i eh2 (sp_i eh13 (sp_i eh12 (sp_i eh11 (sp_i eh10 (sp_i eh9 (sp_i eh8 (sp_i eh7 (sb_s hw q_s_0))))))))))))))))))))))))) rfl (by decide) (by decide) (Nat.le_of_ble_eq_true rfl) (c_PM_putBytes_a4 h26 _ (sp_i eh26 (sp_i eh37 (sp_i eh36 (sp_i eh35 (sp_i eh34 (sp_i eh33 (sp_i eh32 (sp_i eh31 (sp_i eh14 (sp_i eh25 (sp_i eh24 (sp_i eh23 (sp_i eh22 (sp_i eh21 (sp_i eh20 (sp_i eh19 (sp_i eh2 (sp_i eh13 (sp_i eh12 (sp_i eh11 (sp_i eh10 (sp_i eh9 (sp_i eh8 (sp_i eh7 (sb_s hw q_s_0))))))))))))))))))))))))) (ri_s eh26) (rr_i eh26 (rr_i eh37 (rr_i eh36 (rr_i eh35 (rr_i eh34 (rr_i eh33 (rr_i eh32 (rr_i eh31 (rr_i eh14 (rr_i eh25 (rr_i eh24 (rr_i eh23 (rr_i eh22 (rr_i eh21 (rr_i eh20 (rr_i eh19 (rr_i eh2 (rr_i eh13 (rr_i eh12 (rr_i eh11 (rr_i eh10 (rr_i eh9 (rr_i eh8 (rr_i eh7 (rb_R hw (by decide) (by decide) q_R_0_0))))))))))))))))))))))))) (sp_i eh26 (sp_i eh37 (sp_i eh36 (sp_i eh35 (sp_i eh34 (sp_i eh33 (sp_i eh32 (sp_i eh31 (sp_i eh14 (sp_i eh25 (sp_i eh24 (sp_i eh23 (sp_i eh22 (sp_i eh21 (sp_i eh20 (sp_i eh19 (sp_i eh2 (sp_i eh13 (sp_i eh12 (sp_i eh11 (sp_i eh10 (sp_i eh9 (sp_i eh8 (sp_i eh7 (sb_s hw q_s_1)))))))))))))))))))))))))) (fun r h38 hq => ?_)
  obtain ⟨z39, z40, z41, z42, h43, h44, h45, h46, h47, h48, h49, eh43, eh44, eh45, eh46, eh47, eh48, eh49, eh38, rfl⟩ := hq
  refine A_aload_n 0 d_PM_feed_37 rfl rfl ?_
  refine A_iload d_PM_feed_38 rfl ?_
  refine A_callV1 m_PM_putBytes T_ok d_PM_feed_40 l_PM_76 k_PM_putBytes (sp_i eh38 (sp_i eh49 (sp_i eh48 (sp_i eh47 (sp_i eh46 (sp_i eh45 (sp_i eh44 (sp_i eh43 (sp_i eh26 (sp_i eh37 (sp_i eh36 (sp_i eh35 (sp_i eh34 (sp_i eh33 (sp_i eh32 (sp_i eh31 (sp_i eh14 (sp_i eh25 (sp_i eh24 (sp_i eh23 (sp_i eh22 (sp_i eh21 (sp_i eh20 (sp_i eh19 (sp_i eh2 (sp_i eh13 (sp_i eh12 (sp_i eh11 (sp_i eh10 (sp_i eh9 (sp_i eh8 (sp_i eh7 (sb_s hw q_s_0))))))))))))))))))))))))))))))))) rfl (by decide) (by decide) (Nat.le_of_ble_eq_true rfl) (c_PM_putBytes_a5 h38 _ (sp_i eh38 (sp_i eh49 (sp_i eh48 (sp_i eh47 (sp_i eh46 (sp_i eh45 (sp_i eh44 (sp_i eh43 (sp_i eh26 (sp_i eh37 (sp_i eh36 (sp_i eh35 (sp_i eh34 (sp_i eh33 (sp_i eh32 (sp_i eh31 (sp_i eh14 (sp_i eh25 (sp_i eh24 (sp_i eh23 (sp_i eh22 (sp_i eh21 (sp_i eh20 (sp_i eh19 (sp_i eh2 (sp_i eh13 (sp_i eh12 (sp_i eh11 (sp_i eh10 (sp_i eh9 (sp_i eh8 (sp_i eh7 (sb_s hw q_s_0))))))))))))))))))))))))))))))))) (ri_s eh38) (rr_i eh38 (rr_i eh49 (rr_i eh48 (rr_i eh47 (rr_i eh46 (rr_i eh45 (rr_i eh44 (rr_i eh43 (rr_i eh26 (rr_i eh37 (rr_i eh36 (rr_i eh35 (rr_i eh34 (rr_i eh33 (rr_i eh32 (rr_i eh31 (rr_i eh14 (rr_i eh25 (rr_i eh24 (rr_i eh23 (rr_i eh22 (rr_i eh21 (rr_i eh20 (rr_i eh19 (rr_i eh2 (rr_i eh13 (rr_i eh12 (rr_i eh11 (rr_i eh10 (rr_i eh9 (rr_i eh8 (rr_i eh7 (rb_R hw (by decide) (by decide) q_R_0_0))))))))))))))))))))))))))))))))) (sp_i eh38 (sp_i eh49 (sp_i eh48 (sp_i eh47 (sp_i eh46 (sp_i eh45 (sp_i eh44 (sp_i eh43 (sp_i eh26 (sp_i eh37 (sp_i eh36 (sp_i eh35 (sp_i eh34 (sp_i eh33 (sp_i eh32 (sp_i eh31 (sp_i eh14 (sp_i eh25 (sp_i eh24 (sp_i eh23 (sp_i eh22 (sp_i eh21 (sp_i eh20 (sp_i eh19 (sp_i eh2 (sp_i eh13 (sp_i eh12 (sp_i eh11 (sp_i eh10 (sp_i eh9 (sp_i eh8 (sp_i eh7 (sb_s hw q_s_1)))))))))))))))))))))))))))))))))) (fun r h50 hq => ?_)
  obtain ⟨z51, z52, z53, z54, h55, h56, h57, h58, h59, h60, h61, eh55, eh56, eh57, eh58, eh59, eh60, eh61, eh50, rfl⟩ := hq
  refine A_aload_n 0 d_PM_feed_43 rfl rfl ?_
  refine A_getIv (z := 20) T_ok d_PM_feed_44 f_PM_13 (sp_i eh50 (sp_i eh61 (sp_i eh60 (sp_i eh59 (sp_i eh58 (sp_i eh57 (sp_i eh56 (sp_i eh55 (sp_i eh38 (sp_i eh49 (sp_i eh48 (sp_i eh47 (sp_i eh46 (sp_i eh45 (sp_i eh44 (sp_i eh43 (sp_i eh26 (sp_i eh37 (sp_i eh36 (sp_i eh35 (sp_i eh34 (sp_i eh33 (sp_i eh32 (sp_i eh31 (sp_i eh14 (sp_i eh25 (sp_i eh24 (sp_i eh23 (sp_i eh22 (sp_i eh21 (sp_i eh20 (sp_i eh19 (sp_i eh2 (sp_i eh13 (sp_i eh12 (sp_i eh11 (sp_i eh10 (sp_i eh9 (sp_i eh8 (sp_i eh7 (sb_s hw q_s_0))))))))))))))))))))))))))))))))))))))))) (ri_s eh50) ?_
  exact A_iret d_PM_feed_47 (by decide) rfl ⟨⟨20, rfl, by (try unfold w32); omega⟩, (fr_i eh50 (by decide) (fr_i eh61 (by decide) (fr_i eh60 (by decide) (fr_i eh59 (by decide) (fr_i eh58 (by decide) (fr_i eh57 (by decide) (fr_i eh56 (by decide) (fr_i eh55 (by decide) (fr_i eh38 (by decide) (fr_i eh49 (by decide) (fr_i eh48 (by decide) (fr_i eh47 (by decide) (fr_i eh46 (by decide) (fr_i eh45 (by decide) (fr_i eh44 (by decide) (fr_i eh43 (by decide) (fr_i eh26 (by decide) (fr_i eh37 (by decide) (fr_i eh36 (by decide) (fr_i eh35 (by decide) (fr_i eh34 (by decide) (fr_i eh33 (by decide) (fr_i eh32 (by decide) (fr_i eh31 (by decide) (fr_i eh14 (by decide) (fr_i eh25 (by decide) (fr_i eh24 (by decide) (fr_i eh23 (by decide) (fr_i eh22 (by decide) (fr_i eh21 (by decide) (fr_i eh20 (by decide) (fr_i eh19 (by decide) (fr_i eh2 (by decide) (fr_i eh13 (by decide) (fr_i eh12 (by decide) (fr_i eh11 (by decide) (fr_i eh10 (by decide) (fr_i eh9 (by decide) (fr_i eh8 (by decide) (fr_i eh7 (by decide) (fr_0 _ _)))))))))))))))))))))))))))))))))))))))))⟩
theorem t_x_cut {G : cx_T} (h : ah_T) (hw : eqr 0 170 h) (vn : Int) : con G 0 0 0 m_PM_cut [av_R (some 0), av_I vn] h (fun r h' => (∃ v : Int, r = some (av_I v) ∧ ((vn < 0 ∨ 0 < vn) → v = -1) ∧ (¬ (vn < 0 ∨ 0 < vn) → v = 0)) ∧ frm 170 h h') := by
  refine con_of (L := [some (av_R (some 0)), some (av_I vn)]) (by decide +kernel) (Nat.le_of_ble_eq_true rfl) rfl ?_
  refine A_iload_n 1 d_PM_cut_0 rfl rfl ?_
  refine A_if_lt (tgt := 12) d_PM_cut_1 (by decide) (fun c1 => ?_) (fun c1 => ?_)
  · refine A_iconst d_PM_cut_12 rfl ?_
    exact A_iret d_PM_cut_13 (by decide) rfl ⟨⟨(-1), rfl, by (try unfold w32); omega⟩, (fr_0 _ _)⟩
  · refine A_iload_n 1 d_PM_cut_4 rfl rfl ?_
    refine A_aload_n 0 d_PM_cut_5 rfl rfl ?_
    refine A_getIv (z := 0) T_ok d_PM_cut_6 f_PM_13 (sb_s hw q_s_0) (rb_I hw (by decide) (by decide) q_I_0_1) ?_
    refine A_icmp_le (tgt := 14) d_PM_cut_9 (by decide) (fun c2 => ?_) (fun c2 => ?_)
    · refine A_aload_n 0 d_PM_cut_14 rfl rfl ?_
      refine A_dupR d_PM_cut_15 ?_
      refine A_getIv (z := 0) T_ok d_PM_cut_16 f_PM_13 (sb_s hw q_s_0) (rb_I hw (by decide) (by decide) q_I_0_1) ?_
      refine A_iload_n 1 d_PM_cut_19 rfl rfl ?_
      refine A_isubv (z := (w32 (0 - vn))) d_PM_cut_20 rfl ?_
      refine A_pc (pc' := 21) rfl ?_
      refine A_putIv T_ok d_PM_cut_21 f_PM_13 (sb_s hw q_s_0) fin_f (fun h3 eh3 => ?_)
      refine A_aload_n 0 d_PM_cut_24 rfl rfl ?_
      refine A_getIv (z := (w32 (0 - vn))) T_ok d_PM_cut_25 f_PM_13 (sp_i eh3 (sb_s hw q_s_0)) (ri_s eh3) ?_
      exact A_iret d_PM_cut_28 (by decide) rfl ⟨⟨(w32 (0 - vn)), rfl, by (try unfold w32); omega⟩, (fr_i eh3 (by decide) (fr_0 _ _))⟩
    · refine A_iconst d_PM_cut_12 rfl ?_
      exact A_iret d_PM_cut_13 (by decide) rfl ⟨⟨(-1), rfl, by (try unfold w32); omega⟩, (fr_0 _ _)⟩
theorem c_Score_clear_a1 {G : cx_T} (h : ah_T)  (s_17 : h.1[17]? = some (6 + 4, 13)) : con G 0 0 0 m_Score_clear [av_R (some 17)] h (fun r h' => ∃ h1 : ah_T, ∃ h2 : ah_T, ∃ h3 : ah_T, ∃ h4 : ah_T, ∃ h5 : ah_T, ∃ h6 : ah_T, h1 = st_i h 17 1 0 ∧ h2 = st_i h1 17 2 4 ∧ h3 = st_i h2 17 3 4 ∧ h4 = st_i h3 17 4 0 ∧ h5 = st_i h4 17 6 0 ∧ h6 = st_i h5 17 10 0 ∧ h' = st_i h6 17 12 0 ∧ r = none) := by
  refine con_of (L := [some (av_R (some 17))]) (by decide +kernel) (Nat.le_of_ble_eq_true rfl) rfl ?_
  refine A_aload_n 0 d_Score_clear_0 rfl rfl ?_
  refine A_iconst d_Score_clear_1 rfl ?_
  refine A_putIv T_ok d_Score_clear_2 f_Score_41 s_17 fin_f (fun h1 eh1 => ?_)
  refine A_aload_n 0 d_Score_clear_5 rfl rfl ?_
  refine A_iconst d_Score_clear_6 rfl ?_
  refine A_pc (pc' := 7) rfl ?_
  refine A_putIv T_ok d_Score_clear_7 f_Score_17 (sp_i eh1 s_17) fin_f (fun h2 eh2 => ?_)
  refine A_aload_n 0 d_Score_clear_10 rfl rfl ?_
  refine A_iconst d_Score_clear_11 rfl ?_
  refine A_putIv T_ok d_Score_clear_12 f_Score_21 (sp_i eh2 (sp_i eh1 s_17)) fin_f (fun h3 eh3 => ?_)
  refine A_aload_n 0 d_Score_clear_15 rfl rfl ?_
  refine A_iconst d_Score_clear_16 rfl ?_
  refine A_pc (pc' := 17) rfl ?_
  refine A_putZv T_ok d_Score_clear_17 f_Score_44 (sp_i eh3 (sp_i eh2 (sp_i eh1 s_17))) fin_f (Or.inl rfl) (fun h4 eh4 => ?_)
  refine A_aload_n 0 d_Score_clear_20 rfl rfl ?_
  refine A_iconst d_Score_clear_21 rfl ?_
  refine A_putIv T_ok d_Score_clear_22 f_Score_48 (sp_i eh4 (sp_i eh3 (sp_i eh2 (sp_i eh1 s_17)))) fin_f (fun h5 eh5 => ?_)
  refine A_aload_n 0 d_Score_clear_25 rfl rfl ?_
  refine A_iconst d_Score_clear_26 rfl ?_
  refine A_pc (pc' := 27) rfl ?_
  refine A_putIv T_ok d_Score_clear_27 f_Score_51 (sp_i eh5 (sp_i eh4 (sp_i eh3 (sp_i eh2 (sp_i eh1 s_17))))) fin_f (fun h6 eh6 => ?_)
  refine A_aload_n 0 d_Score_clear_30 rfl rfl ?_
  refine A_iconst d_Score_clear_31 rfl ?_
  refine A_putIv T_ok d_Score_clear_32 f_Score_54 (sp_i eh6 (sp_i eh5 (sp_i eh4 (sp_i eh3 (sp_i eh2 (sp_i eh1 s_17)))))) fin_f (fun h7 eh7 => ?_)
  exact A_vret d_Score_clear_35 (by decide) rfl ⟨h1, h2, h3, h4, h5, h6, eh1, eh2, eh3, eh4, eh5, eh6, eh7, rfl⟩
theorem c_Tokens_skipBlanks_a1 {G : cx_T} (h : ah_T)  (s_3 : h.1[3]? = some (8 + 4, 13)) (rI_3_8 : h.2.1 3 8 = 0) (rI_3_7 : h.2.1 3 7 = 0) : con G 1 0 0 m_Tokens_skipBlanks [av_R (some 3)] h (fun r h' => r = none ∧ h = h') := by
  refine con_of (L := [some (av_R (some 3)), none, none]) (by decide +kernel) (Nat.le_of_ble_eq_true rfl) rfl ?_
  refine A_iconst d_Tokens_skipBlanks_0 rfl ?_
  refine A_istore_n 1 (L' := [some (av_R (some 3)), some (av_I 0), none]) d_Tokens_skipBlanks_1 rfl (Nat.le_of_ble_eq_true rfl) rfl ?_
  refine A_aload_n 0 d_Tokens_skipBlanks_2 rfl rfl ?_
  refine A_getIv (z := 0) T_ok d_Tokens_skipBlanks_3 f_Tokens_38 s_3 rI_3_8 ?_
  refine A_aload_n 0 d_Tokens_skipBlanks_6 rfl rfl ?_
  refine A_pc (pc' := 7) rfl ?_
  refine A_getIv (z := 0) T_ok d_Tokens_skipBlanks_7 f_Tokens_34 s_3 rI_3_7 ?_
  refine A_icmp_ge (tgt := 80) d_Tokens_skipBlanks_10 (by decide) (fun c1 => ?_) (fun c1 => absurd c1 (by decide))
  exact A_vret d_Tokens_skipBlanks_80 (by decide) rfl ⟨rfl, rfl⟩
theorem c_Tokens_byteAt_a1 {G : cx_T} (h : ah_T)  (s_3 : h.1[3]? = some (8 + 4, 13)) (rI_3_7 : h.2.1 3 7 = 0) : con G 0 0 0 m_Tokens_byteAt [av_R (some 3), av_I 0] h (fun r h' => r = some (av_I (-1)) ∧ h = h') := by
  refine con_of (L := [some (av_R (some 3)), some (av_I 0)]) (by decide +kernel) (Nat.le_of_ble_eq_true rfl) rfl ?_
  refine A_iload_n 1 d_Tokens_byteAt_0 rfl rfl ?_
  refine A_if_lt (tgt := 30) d_Tokens_byteAt_1 (by decide) (fun c1 => absurd c1 (by decide)) (fun c1 => ?_)
  refine A_iload_n 1 d_Tokens_byteAt_4 rfl rfl ?_
  refine A_aload_n 0 d_Tokens_byteAt_5 rfl rfl ?_
  refine A_getIv (z := 0) T_ok d_Tokens_byteAt_6 f_Tokens_34 s_3 rI_3_7 ?_
  refine A_icmp_ge (tgt := 30) d_Tokens_byteAt_9 (by decide) (fun c2 => ?_) (fun c2 => absurd c2 (by decide))
  refine A_iconst d_Tokens_byteAt_30 rfl ?_
  exact A_iret d_Tokens_byteAt_31 (by decide) rfl ⟨rfl, rfl⟩
theorem c_Tokens_cutOne_a1 {G : cx_T} (h : ah_T)  (s_3 : h.1[3]? = some (8 + 4, 13)) (rI_3_8 : h.2.1 3 8 = 0) (rI_3_7 : h.2.1 3 7 = 0) (rI_3_4 : h.2.1 3 4 = 0) (rR_3_0 : h.2.2.2 3 0 = some 4) (s_4 : h.1[4]? = some (0, 2001)) (rR_3_1 : h.2.2.2 3 1 = some 5) (s_5 : h.1[5]? = some (0, 2001)) (rR_3_2 : h.2.2.2 3 2 = some 6) (rL_3_11 : h.2.2.1 3 11 = 0) (s_6 : h.1[6]? = some (1, 2001)) (rR_3_3 : h.2.2.2 3 3 = some 7) (rI_3_12 : h.2.1 3 12 = 0) (s_7 : h.1[7]? = some (0, 2001)) : con G 9 0 0 m_Tokens_cutOne [av_R (some 3)] h (fun r h' => ∃ h2 : ah_T, ∃ h4 : ah_T, ∃ h5 : ah_T, ∃ h6 : ah_T, ∃ h7 : ah_T, h2 = st_i h 3 9 256 ∧ h4 = st_i h2 4 0 256 ∧ h5 = st_i h4 5 0 0 ∧ h6 = st_l h5 6 0 0 ∧ h7 = st_i h6 7 0 0 ∧ h' = st_i h7 3 4 1 ∧ r = some (av_I 0)) := by
  refine con_of (L := [some (av_R (some 3)), none, none]) (by decide +kernel) (Nat.le_of_ble_eq_true rfl) rfl ?_
  refine A_aload_n 0 d_Tokens_cutOne_0 rfl rfl ?_
  refine A_callV0 m_Tokens_skipBlanks T_ok d_Tokens_cutOne_1 l_Tokens_67 k_Tokens_skipBlanks s_3 rfl (by decide) (by decide) (Nat.le_of_ble_eq_true rfl) (c_Tokens_skipBlanks_a1 h s_3 rI_3_8 rI_3_7) (fun r hx hq => ?_)
  obtain ⟨rfl, rfl⟩ := hq
  refine A_aload_n 0 d_Tokens_cutOne_4 rfl rfl ?_
  refine A_getIv (z := 0) T_ok d_Tokens_cutOne_5 f_Tokens_38 s_3 rI_3_8 ?_
  refine A_istore_n 1 (L' := [some (av_R (some 3)), some (av_I 0), none]) d_Tokens_cutOne_8 rfl (Nat.le_of_ble_eq_true rfl) rfl ?_
  refine A_aload_n 0 d_Tokens_cutOne_9 rfl rfl ?_
  refine A_aload_n 0 d_Tokens_cutOne_10 rfl rfl ?_
  refine A_pc (pc' := 11) rfl ?_
  refine A_getIv (z := 0) T_ok d_Tokens_cutOne_11 f_Tokens_38 s_3 rI_3_8 ?_
  refine A_callV1 m_Tokens_byteAt T_ok d_Tokens_cutOne_14 l_Tokens_70 k_Tokens_byteAt s_3 rfl (by decide) (by decide) (Nat.le_of_ble_eq_true rfl) (c_Tokens_byteAt_a1 h s_3 rI_3_7) (fun r hx hq => ?_)
  obtain ⟨rfl, rfl⟩ := hq
  refine A_istore_n 2 (L' := [some (av_R (some 3)), some (av_I 0), some (av_I (-1))]) d_Tokens_cutOne_17 rfl (Nat.le_of_ble_eq_true rfl) rfl ?_
  refine A_iload_n 2 d_Tokens_cutOne_18 rfl rfl ?_
  refine A_if_ge (tgt := 32) d_Tokens_cutOne_19 (by decide) (fun c1 => absurd c1 (by decide)) (fun c1 => ?_)
  refine A_aload_n 0 d_Tokens_cutOne_22 rfl rfl ?_
  refine A_sipush d_Tokens_cutOne_23 rfl ?_
  refine A_putIv T_ok d_Tokens_cutOne_26 f_Tokens_54 s_3 fin_f (fun h2 eh2 => ?_)
  refine A_goto (tgt := 111) d_Tokens_cutOne_29 (by decide) ?_
  refine A_aload_n 0 d_Tokens_cutOne_111 rfl rfl ?_
  refine A_getIv (z := 0) T_ok d_Tokens_cutOne_112 f_Tokens_41 (sp_i eh2 s_3) (ri_o eh2 (fun q => absurd q.2 (by decide)) rI_3_4) ?_
  refine A_aload_n 0 d_Tokens_cutOne_115 rfl rfl ?_
  refine A_getAv (z := (some 4)) T_ok d_Tokens_cutOne_116 f_Tokens_9 (sp_i eh2 s_3) (rr_i eh2 rR_3_0) ?_
  refine A_alenN d_Tokens_cutOne_119 (sp_i eh2 s_4) (by decide) (by decide) ?_
  refine A_pc (pc' := 120) rfl ?_
  refine A_icmp_ge (tgt := 182) d_Tokens_cutOne_120 (by decide) (fun c3 => absurd c3 (by decide)) (fun c3 => ?_)
  refine A_aload_n 0 d_Tokens_cutOne_123 rfl rfl ?_
  refine A_getAv (z := (some 4)) T_ok d_Tokens_cutOne_124 f_Tokens_9 (sp_i eh2 s_3) (rr_i eh2 rR_3_0) ?_
  refine A_aload_n 0 d_Tokens_cutOne_127 rfl rfl ?_
  refine A_getIv (z := 0) T_ok d_Tokens_cutOne_128 f_Tokens_41 (sp_i eh2 s_3) (ri_o eh2 (fun q => absurd q.2 (by decide)) rI_3_4) ?_
  refine A_aload_n 0 d_Tokens_cutOne_131 rfl rfl ?_
  refine A_pc (pc' := 132) rfl ?_
  refine A_getIv (z := 256) T_ok d_Tokens_cutOne_132 f_Tokens_54 (sp_i eh2 s_3) (ri_s eh2) ?_
  refine A_iastorev (j := 0) d_Tokens_cutOne_135 (sp_i eh2 s_4) (by decide) (by decide) rfl (fun h4 eh4 => ?_)
  refine A_aload_n 0 d_Tokens_cutOne_136 rfl rfl ?_
  refine A_getAv (z := (some 5)) T_ok d_Tokens_cutOne_137 f_Tokens_15 (sp_i eh4 (sp_i eh2 s_3)) (rr_i eh4 (rr_i eh2 rR_3_1)) ?_
  refine A_aload_n 0 d_Tokens_cutOne_140 rfl rfl ?_
  refine A_getIv (z := 0) T_ok d_Tokens_cutOne_141 f_Tokens_41 (sp_i eh4 (sp_i eh2 s_3)) (ri_o eh4 (fun q => absurd q.1 (by decide)) (ri_o eh2 (fun q => absurd q.2 (by decide)) rI_3_4)) ?_
  refine A_pc (pc' := 144) rfl ?_
  refine A_iload_n 1 d_Tokens_cutOne_144 rfl rfl ?_
  refine A_iastorev (j := 0) d_Tokens_cutOne_145 (sp_i eh4 (sp_i eh2 s_5)) (by decide) (by decide) rfl (fun h5 eh5 => ?_)
  refine A_aload_n 0 d_Tokens_cutOne_146 rfl rfl ?_
  refine A_getAv (z := (some 6)) T_ok d_Tokens_cutOne_147 f_Tokens_18 (sp_i eh5 (sp_i eh4 (sp_i eh2 s_3))) (rr_i eh5 (rr_i eh4 (rr_i eh2 rR_3_2))) ?_
  refine A_aload_n 0 d_Tokens_cutOne_150 rfl rfl ?_
  refine A_getIv (z := 0) T_ok d_Tokens_cutOne_151 f_Tokens_41 (sp_i eh5 (sp_i eh4 (sp_i eh2 s_3))) (ri_o eh5 (fun q => absurd q.1 (by decide)) (ri_o eh4 (fun q => absurd q.1 (by decide)) (ri_o eh2 (fun q => absurd q.2 (by decide)) rI_3_4))) ?_
  refine A_pc (pc' := 154) rfl ?_
  refine A_aload_n 0 d_Tokens_cutOne_154 rfl rfl ?_
  refine A_getLv (z := 0) T_ok d_Tokens_cutOne_155 f_Tokens_60 (sp_i eh5 (sp_i eh4 (sp_i eh2 s_3))) (rl_i eh5 (rl_i eh4 (rl_i eh2 rL_3_11))) ?_
  refine A_lastorev (j := 0) d_Tokens_cutOne_158 (sp_i eh5 (sp_i eh4 (sp_i eh2 s_6))) (by decide) (by decide) rfl (fun h6 eh6 => ?_)
  refine A_aload_n 0 d_Tokens_cutOne_159 rfl rfl ?_
  refine A_getAv (z := (some 7)) T_ok d_Tokens_cutOne_160 f_Tokens_22 (sp_l eh6 (sp_i eh5 (sp_i eh4 (sp_i eh2 s_3)))) (rr_l eh6 (rr_i eh5 (rr_i eh4 (rr_i eh2 rR_3_3)))) ?_
  refine A_aload_n 0 d_Tokens_cutOne_163 rfl rfl ?_
  refine A_pc (pc' := 164) rfl ?_
  refine A_getIv (z := 0) T_ok d_Tokens_cutOne_164 f_Tokens_41 (sp_l eh6 (sp_i eh5 (sp_i eh4 (sp_i eh2 s_3)))) (ri_l eh6 (ri_o eh5 (fun q => absurd q.1 (by decide)) (ri_o eh4 (fun q => absurd q.1 (by decide)) (ri_o eh2 (fun q => absurd q.2 (by decide)) rI_3_4)))) ?_
  refine A_aload_n 0 d_Tokens_cutOne_167 rfl rfl ?_
  refine A_getIv (z := 0) T_ok d_Tokens_cutOne_168 f_Tokens_64 (sp_l eh6 (sp_i eh5 (sp_i eh4 (sp_i eh2 s_3)))) (ri_l eh6 (ri_o eh5 (fun q => absurd q.1 (by decide)) (ri_o eh4 (fun q => absurd q.1 (by decide)) (ri_o eh2 (fun q => absurd q.2 (by decide)) rI_3_12)))) ?_
  refine A_iastorev (j := 0) d_Tokens_cutOne_171 (sp_l eh6 (sp_i eh5 (sp_i eh4 (sp_i eh2 s_7)))) (by decide) (by decide) rfl (fun h7 eh7 => ?_)
  refine A_aload_n 0 d_Tokens_cutOne_172 rfl rfl ?_
  refine A_dupR d_Tokens_cutOne_173 ?_
  refine A_pc (pc' := 174) rfl ?_
  refine A_getIv (z := 0) T_ok d_Tokens_cutOne_174 f_Tokens_41 (sp_i eh7 (sp_l eh6 (sp_i eh5 (sp_i eh4 (sp_i eh2 s_3))))) (ri_o eh7 (fun q => absurd q.1 (by decide)) (ri_l eh6 (ri_o eh5 (fun q => absurd q.1 (by decide)) (ri_o eh4 (fun q => absurd q.1 (by decide)) (ri_o eh2 (fun q => absurd q.2 (by decide)) rI_3_4))))) ?_
  refine A_iconst d_Tokens_cutOne_177 rfl ?_
  refine A_iaddv (z := 1) d_Tokens_cutOne_178 (by decide +kernel) ?_
  refine A_putIv T_ok d_Tokens_cutOne_179 f_Tokens_41 (sp_i eh7 (sp_l eh6 (sp_i eh5 (sp_i eh4 (sp_i eh2 s_3))))) fin_f (fun h8 eh8 => ?_)
  refine A_aload_n 0 d_Tokens_cutOne_182 rfl rfl ?_
  refine A_getIv (z := 256) T_ok d_Tokens_cutOne_183 f_Tokens_54 (sp_i eh8 (sp_i eh7 (sp_l eh6 (sp_i eh5 (sp_i eh4 (sp_i eh2 s_3)))))) (ri_o eh8 (fun q => absurd q.2 (by decide)) (ri_o eh7 (fun q => absurd q.1 (by decide)) (ri_l eh6 (ri_o eh5 (fun q => absurd q.1 (by decide)) (ri_o eh4 (fun q => absurd q.1 (by decide)) (ri_s eh2)))))) ?_
  refine A_pc (pc' := 186) rfl ?_
  refine A_sipush d_Tokens_cutOne_186 rfl ?_
  refine A_icmp_eq (tgt := 206) d_Tokens_cutOne_189 (by decide) (fun c9 => ?_) (fun c9 => absurd c9 (by decide))
  refine A_iconst d_Tokens_cutOne_206 rfl ?_
  exact A_zret d_Tokens_cutOne_207 (by decide) rfl (Or.inl rfl) ⟨h2, h4, h5, h6, h7, eh2, eh4, eh5, eh6, eh7, eh8, rfl⟩
theorem c_Tokens_next_a1 {G : cx_T} (h : ah_T)  (s_3 : h.1[3]? = some (8 + 4, 13)) (rI_3_5 : h.2.1 3 5 = (-1)) (rI_3_4 : h.2.1 3 4 = 1) (rR_3_0 : h.2.2.2 3 0 = some 4) (s_4 : h.1[4]? = some (0, 2001)) (rI_4_0 : h.2.1 4 0 = 256) (rR_3_1 : h.2.2.2 3 1 = some 5) (rI_5_0 : h.2.1 5 0 = 0) (s_5 : h.1[5]? = some (0, 2001)) (rR_3_2 : h.2.2.2 3 2 = some 6) (rL_6_0 : h.2.2.1 6 0 = 0) (s_6 : h.1[6]? = some (1, 2001)) (rR_3_3 : h.2.2.2 3 3 = some 7) (rI_7_0 : h.2.1 7 0 = 0) (s_7 : h.1[7]? = some (0, 2001)) : con G 0 0 0 m_Tokens_next [av_R (some 3)] h (fun r h' => ∃ h3 : ah_T, ∃ h4 : ah_T, ∃ h5 : ah_T, ∃ h6 : ah_T, h3 = st_i h 3 5 0 ∧ h4 = st_i h3 3 9 256 ∧ h5 = st_i h4 3 10 0 ∧ h6 = st_l h5 3 11 0 ∧ h' = st_i h6 3 12 0 ∧ r = none) := by
  refine con_of (L := [some (av_R (some 3))]) (by decide +kernel) (Nat.le_of_ble_eq_true rfl) rfl ?_
  refine A_aload_n 0 d_Tokens_next_0 rfl rfl ?_
  refine A_getIv (z := (-1)) T_ok d_Tokens_next_1 f_Tokens_48 s_3 rI_3_5 ?_
  refine A_iconst d_Tokens_next_4 rfl ?_
  refine A_iaddv (z := 0) d_Tokens_next_5 (by decide +kernel) ?_
  refine A_aload_n 0 d_Tokens_next_6 rfl rfl ?_
  refine A_pc (pc' := 7) rfl ?_
  refine A_getIv (z := 1) T_ok d_Tokens_next_7 f_Tokens_41 s_3 rI_3_4 ?_
  refine A_icmp_ge (tgt := 89) d_Tokens_next_10 (by decide) (fun c1 => absurd c1 (by decide)) (fun c1 => ?_)
  refine A_aload_n 0 d_Tokens_next_13 rfl rfl ?_
  refine A_getIv (z := (-1)) T_ok d_Tokens_next_14 f_Tokens_48 s_3 rI_3_5 ?_
  refine A_iconst d_Tokens_next_17 rfl ?_
  refine A_iaddv (z := 0) d_Tokens_next_18 (by decide +kernel) ?_
  refine A_aload_n 0 d_Tokens_next_19 rfl rfl ?_
  refine A_pc (pc' := 20) rfl ?_
  refine A_getAv (z := (some 4)) T_ok d_Tokens_next_20 f_Tokens_9 s_3 rR_3_0 ?_
  refine A_alenN d_Tokens_next_23 s_4 (by decide) (by decide) ?_
  refine A_icmp_ge (tgt := 89) d_Tokens_next_24 (by decide) (fun c2 => absurd c2 (by decide)) (fun c2 => ?_)
  refine A_aload_n 0 d_Tokens_next_27 rfl rfl ?_
  refine A_dupR d_Tokens_next_28 ?_
  refine A_getIv (z := (-1)) T_ok d_Tokens_next_29 f_Tokens_48 s_3 rI_3_5 ?_
  refine A_iconst d_Tokens_next_32 rfl ?_
  refine A_iaddv (z := 0) d_Tokens_next_33 (by decide +kernel) ?_
  refine A_pc (pc' := 34) rfl ?_
  refine A_putIv T_ok d_Tokens_next_34 f_Tokens_48 s_3 fin_f (fun h3 eh3 => ?_)
  refine A_aload_n 0 d_Tokens_next_37 rfl rfl ?_
  refine A_aload_n 0 d_Tokens_next_38 rfl rfl ?_
  refine A_getAv (z := (some 4)) T_ok d_Tokens_next_39 f_Tokens_9 (sp_i eh3 s_3) (rr_i eh3 rR_3_0) ?_
  refine A_aload_n 0 d_Tokens_next_42 rfl rfl ?_
  refine A_getIv (z := 0) T_ok d_Tokens_next_43 f_Tokens_48 (sp_i eh3 s_3) (ri_s eh3) ?_
  refine A_pc (pc' := 46) rfl ?_
  refine A_ialoadv (z := 256) d_Tokens_next_46 (sp_i eh3 s_4) (by decide) (by decide) (ri_o eh3 (fun q => absurd q.1 (by decide)) rI_4_0) ?_
  refine A_putIv T_ok d_Tokens_next_47 f_Tokens_54 (sp_i eh3 s_3) fin_f (fun h4 eh4 => ?_)
  refine A_aload_n 0 d_Tokens_next_50 rfl rfl ?_
  refine A_aload_n 0 d_Tokens_next_51 rfl rfl ?_
  refine A_getAv (z := (some 5)) T_ok d_Tokens_next_52 f_Tokens_15 (sp_i eh4 (sp_i eh3 s_3)) (rr_i eh4 (rr_i eh3 rR_3_1)) ?_
  refine A_aload_n 0 d_Tokens_next_55 rfl rfl ?_
  refine A_pc (pc' := 56) rfl ?_
  refine A_getIv (z := 0) T_ok d_Tokens_next_56 f_Tokens_48 (sp_i eh4 (sp_i eh3 s_3)) (ri_o eh4 (fun q => absurd q.2 (by decide)) (ri_s eh3)) ?_
  refine A_ialoadv (z := 0) d_Tokens_next_59 (sp_i eh4 (sp_i eh3 s_5)) (by decide) (by decide) (ri_o eh4 (fun q => absurd q.1 (by decide)) (ri_o eh3 (fun q => absurd q.1 (by decide)) rI_5_0)) ?_
  refine A_putIv T_ok d_Tokens_next_60 f_Tokens_57 (sp_i eh4 (sp_i eh3 s_3)) fin_f (fun h5 eh5 => ?_)
  refine A_aload_n 0 d_Tokens_next_63 rfl rfl ?_
  refine A_aload_n 0 d_Tokens_next_64 rfl rfl ?_
  refine A_getAv (z := (some 6)) T_ok d_Tokens_next_65 f_Tokens_18 (sp_i eh5 (sp_i eh4 (sp_i eh3 s_3))) (rr_i eh5 (rr_i eh4 (rr_i eh3 rR_3_2))) ?_
  refine A_pc (pc' := 68) rfl ?_
  refine A_aload_n 0 d_Tokens_next_68 rfl rfl ?_
  refine A_getIv (z := 0) T_ok d_Tokens_next_69 f_Tokens_48 (sp_i eh5 (sp_i eh4 (sp_i eh3 s_3))) (ri_o eh5 (fun q => absurd q.2 (by decide)) (ri_o eh4 (fun q => absurd q.2 (by decide)) (ri_s eh3))) ?_
  refine A_laloadv (z := 0) d_Tokens_next_72 (sp_i eh5 (sp_i eh4 (sp_i eh3 s_6))) (by decide) (by decide) (rl_i eh5 (rl_i eh4 (rl_i eh3 rL_6_0))) ?_
  refine A_putLv T_ok d_Tokens_next_73 f_Tokens_60 (sp_i eh5 (sp_i eh4 (sp_i eh3 s_3))) fin_f (fun h6 eh6 => ?_)
  refine A_aload_n 0 d_Tokens_next_76 rfl rfl ?_
  refine A_aload_n 0 d_Tokens_next_77 rfl rfl ?_
  refine A_pc (pc' := 78) rfl ?_
  refine A_getAv (z := (some 7)) T_ok d_Tokens_next_78 f_Tokens_22 (sp_l eh6 (sp_i eh5 (sp_i eh4 (sp_i eh3 s_3)))) (rr_l eh6 (rr_i eh5 (rr_i eh4 (rr_i eh3 rR_3_3)))) ?_
  refine A_aload_n 0 d_Tokens_next_81 rfl rfl ?_
  refine A_getIv (z := 0) T_ok d_Tokens_next_82 f_Tokens_48 (sp_l eh6 (sp_i eh5 (sp_i eh4 (sp_i eh3 s_3)))) (ri_l eh6 (ri_o eh5 (fun q => absurd q.2 (by decide)) (ri_o eh4 (fun q => absurd q.2 (by decide)) (ri_s eh3)))) ?_
  refine A_ialoadv (z := 0) d_Tokens_next_85 (sp_l eh6 (sp_i eh5 (sp_i eh4 (sp_i eh3 s_7)))) (by decide) (by decide) (ri_l eh6 (ri_o eh5 (fun q => absurd q.1 (by decide)) (ri_o eh4 (fun q => absurd q.1 (by decide)) (ri_o eh3 (fun q => absurd q.1 (by decide)) rI_7_0)))) ?_
  refine A_putIv T_ok d_Tokens_next_86 f_Tokens_64 (sp_l eh6 (sp_i eh5 (sp_i eh4 (sp_i eh3 s_3)))) fin_f (fun h7 eh7 => ?_)
  exact A_vret d_Tokens_next_89 (by decide) rfl ⟨h3, h4, h5, h6, eh3, eh4, eh5, eh6, eh7, rfl⟩
set_option maxRecDepth 100000 in
set_option maxHeartbeats 8000000 in
theorem c_Tokens_cutAll_a1 {G : cx_T} (h : ah_T)  (s_3 : h.1[3]? = some (8 + 4, 13)) (s_1 : h.1[1]? = some (0, 2000)) (rR_3_0 : h.2.2.2 3 0 = some 4) (s_4 : h.1[4]? = some (0, 2001)) (rR_3_1 : h.2.2.2 3 1 = some 5) (s_5 : h.1[5]? = some (0, 2001)) (rR_3_2 : h.2.2.2 3 2 = some 6) (rL_3_11 : h.2.2.1 3 11 = 0) (s_6 : h.1[6]? = some (1, 2001)) (rR_3_3 : h.2.2.2 3 3 = some 7) (rI_3_12 : h.2.1 3 12 = 0) (s_7 : h.1[7]? = some (0, 2001)) : con G 10 0 0 m_Tokens_cutAll [av_R (some 3), av_R (some 1), av_I 0] h (fun r h' => ∃ h1 : ah_T, ∃ h2 : ah_T, ∃ h3 : ah_T, ∃ h4 : ah_T, ∃ h8 : ah_T, ∃ h9 : ah_T, ∃ h10 : ah_T, ∃ h11 : ah_T, ∃ h12 : ah_T, ∃ h7 : ah_T, ∃ h15 : ah_T, ∃ h17 : ah_T, ∃ h18 : ah_T, ∃ h19 : ah_T, ∃ h20 : ah_T, h1 = st_r h 3 6 (some 1) ∧ h2 = st_i h1 3 7 0 ∧ h3 = st_i h2 3 8 0 ∧ h4 = st_i h3 3 4 0 ∧ h8 = st_i h4 3 9 256 ∧ h9 = st_i h8 4 0 256 ∧ h10 = st_i h9 5 0 0 ∧ h11 = st_l h10 6 0 0 ∧ h12 = st_i h11 7 0 0 ∧ h7 = st_i h12 3 4 1 ∧ h15 = st_i h7 3 5 (-1) ∧ h17 = st_i h15 3 5 0 ∧ h18 = st_i h17 3 9 256 ∧ h19 = st_i h18 3 10 0 ∧ h20 = st_l h19 3 11 0 ∧ h' = st_i h20 3 12 0 ∧ r = none) := by
  refine con_of (L := [some (av_R (some 3)), some (av_R (some 1)), some (av_I 0), none, none]) (by decide +kernel) (Nat.le_of_ble_eq_true rfl) rfl ?_
  have hsh : h.1 = h.1 := rfl
  have hrr : h.2.2.2 = h.2.2.2 := rfl
  have hag : agr [] h h := fun _ _ _ => rfl
  refine A_aload_n 0 d_Tokens_cutAll_0 rfl rfl ?_
  refine A_aload_n 1 d_Tokens_cutAll_1 rfl rfl ?_
  refine A_putRv T_ok d_Tokens_cutAll_2 f_Tokens_25 ty_a s_3 fin_f (fun h1 eh1 => ?_)
  replace hsh := (lh_sr eh1).trans hsh
  replace hag := ag_r eh1 hag
  refine A_aload_n 0 d_Tokens_cutAll_5 rfl rfl ?_
  refine A_iload_n 2 d_Tokens_cutAll_6 rfl rfl ?_
  refine A_pc (pc' := 7) rfl ?_
  refine A_aload_n 1 d_Tokens_cutAll_7 rfl rfl ?_
  refine A_alenN d_Tokens_cutAll_8 ((congrArg (fun q => q[1]?) hsh).trans s_1) (by decide) (by decide) ?_
  refine A_sipush d_Tokens_cutAll_9 rfl ?_
  refine A_mmin (z := 2000) d_Tokens_cutAll_12 lm_Tokens_28 ma_min (by decide) (by decide) (Nat.le_of_ble_eq_true rfl) (by decide) ?_
  refine A_mmin (z := 0) d_Tokens_cutAll_15 lm_Tokens_28 ma_min (by decide) (by decide) (Nat.le_of_ble_eq_true rfl) (by decide) ?_
  refine A_putIv T_ok d_Tokens_cutAll_18 f_Tokens_34 ((congrArg (fun q => q[3]?) hsh).trans s_3) fin_f (fun h2 eh2 => ?_)
  replace hsh := (lh_si eh2).trans hsh
  replace hag := ag_i eh2 hag
  refine A_pc (pc' := 21) rfl ?_
  refine A_aload_n 0 d_Tokens_cutAll_21 rfl rfl ?_
  refine A_iconst d_Tokens_cutAll_22 rfl ?_
  refine A_putIv T_ok d_Tokens_cutAll_23 f_Tokens_38 ((congrArg (fun q => q[3]?) hsh).trans s_3) fin_f (fun h3 eh3 => ?_)
  replace hsh := (lh_si eh3).trans hsh
  replace hag := ag_i eh3 hag
  refine A_aload_n 0 d_Tokens_cutAll_26 rfl rfl ?_
  refine A_iconst d_Tokens_cutAll_27 rfl ?_
  refine A_putIv T_ok d_Tokens_cutAll_28 f_Tokens_41 ((congrArg (fun q => q[3]?) hsh).trans s_3) fin_f (fun h4 eh4 => ?_)
  replace hsh := (lh_si eh4).trans hsh
  replace hag := ag_i eh4 hag
  refine A_pc (pc' := 31) rfl ?_
  refine A_iconst d_Tokens_cutAll_31 rfl ?_
  refine A_istore_n 3 (L' := [some (av_R (some 3)), some (av_R (some 1)), some (av_I 0), some (av_I 1), none]) d_Tokens_cutAll_32 rfl (Nat.le_of_ble_eq_true rfl) rfl ?_
  refine A_iconst d_Tokens_cutAll_33 rfl ?_
  refine A_istore (L' := [some (av_R (some 3)), some (av_R (some 1)), some (av_I 0), some (av_I 1), some (av_I 0)]) d_Tokens_cutAll_34 (Nat.le_of_ble_eq_true rfl) rfl ?_
  refine A_iload d_Tokens_cutAll_36 rfl ?_
  refine A_sipush d_Tokens_cutAll_38 rfl ?_
  refine A_pc (pc' := 41) rfl ?_
  refine A_icmp_gt (tgt := 59) d_Tokens_cutAll_41 (by decide) (fun c5 => absurd c5 (by decide)) (fun c5 => ?_)
  refine A_iload_n 3 d_Tokens_cutAll_44 rfl rfl ?_
  refine A_if_eq (tgt := 59) d_Tokens_cutAll_45 (by decide) (fun c6 => absurd c6 (by decide)) (fun c6 => ?_)
  refine A_aload_n 0 d_Tokens_cutAll_48 rfl rfl ?_
  refine A_callV0 m_Tokens_cutOne T_ok d_Tokens_cutAll_49 l_Tokens_44 k_Tokens_cutOne ((congrArg (fun q => q[3]?) hsh).trans s_3) rfl (by decide) (by decide) (Nat.le_of_ble_eq_true rfl) (c_Tokens_cutOne_a1 h4 ((congrArg (fun q => q[3]?) hsh).trans s_3) (ri_o eh4 (fun q => absurd q.2 (by decide)) (ri_s eh3)) (ri_o eh4 (fun q => absurd q.2 (by decide)) (ri_o eh3 (fun q => absurd q.2 (by decide)) (ri_s eh2))) (ri_s eh4) (rr_i eh4 (rr_i eh3 (rr_i eh2 (rr_o eh1 (fun q => absurd q.2 (by decide)) rR_3_0)))) ((congrArg (fun q => q[4]?) hsh).trans s_4) (rr_i eh4 (rr_i eh3 (rr_i eh2 (rr_o eh1 (fun q => absurd q.2 (by decide)) rR_3_1)))) ((congrArg (fun q => q[5]?) hsh).trans s_5) (rr_i eh4 (rr_i eh3 (rr_i eh2 (rr_o eh1 (fun q => absurd q.2 (by decide)) rR_3_2)))) (rl_i eh4 (rl_i eh3 (rl_i eh2 (rl_r eh1 rL_3_11)))) ((congrArg (fun q => q[6]?) hsh).trans s_6) (rr_i eh4 (rr_i eh3 (rr_i eh2 (rr_o eh1 (fun q => absurd q.2 (by decide)) rR_3_3)))) ((hag 3 12 (by decide)).trans rI_3_12) ((congrArg (fun q => q[7]?) hsh).trans s_7)) (fun r h7 hq => ?_)
  obtain ⟨h8, h9, h10, h11, h12, eh8, eh9, eh10, eh11, eh12, eh7, rfl⟩ := hq
  replace hsh := (lh_si eh8).trans hsh
  replace hag := ag_i eh8 hag
  replace hsh := (lh_si eh9).trans hsh
  replace hag := ag_i eh9 hag
  replace hsh := (lh_si eh10).trans hsh
  replace hag := ag_i eh10 hag
  replace hsh := (lh_sl eh11).trans hsh
  replace hag := ag_l eh11 hag
  replace hsh := (lh_si eh12).trans hsh
  replace hag := ag_i eh12 hag
  replace hsh := (lh_si eh7).trans hsh
  replace hag := ag_i eh7 hag
  refine A_istore_n 3 (L' := [some (av_R (some 3)), some (av_R (some 1)), some (av_I 0), some (av_I 0), some (av_I 0)]) d_Tokens_cutAll_52 rfl (Nat.le_of_ble_eq_true rfl) rfl ?_
  refine A_iincv (z := 1) (L' := [some (av_R (some 3)), some (av_R (some 1)), some (av_I 0), some (av_I 0), some (av_I 1)]) d_Tokens_cutAll_53 rfl (by decide +kernel) rfl ?_
  refine A_goto (tgt := 36) d_Tokens_cutAll_56 (by decide) ?_
  refine A_iload d_Tokens_cutAll_36 rfl ?_
  refine A_sipush d_Tokens_cutAll_38 rfl ?_
  refine A_icmp_gt (tgt := 59) d_Tokens_cutAll_41 (by decide) (fun c13 => absurd c13 (by decide)) (fun c13 => ?_)
  refine A_iload_n 3 d_Tokens_cutAll_44 rfl rfl ?_
  refine A_if_eq (tgt := 59) d_Tokens_cutAll_45 (by decide) (fun c14 => ?_) (fun c14 => absurd c14 (by decide))
  refine A_aload_n 0 d_Tokens_cutAll_59 rfl rfl ?_
  refine A_iconst d_Tokens_cutAll_60 rfl ?_
  refine A_putIv T_ok d_Tokens_cutAll_61 f_Tokens_48 ((congrArg (fun q => q[3]?) hsh).trans s_3) fin_f (fun h15 eh15 => ?_)
  replace hsh := (lh_si eh15).trans hsh
  replace hag := ag_i eh15 hag
  refine A_aload_n 0 d_Tokens_cutAll_64 rfl rfl ?_
  refine A_callV0 m_Tokens_next T_ok d_Tokens_cutAll_65 l_Tokens_51 k_Tokens_next ((congrArg (fun q => q[3]?) hsh).trans s_3) rfl (by decide) (by decide) (Nat.le_of_ble_eq_true rfl) (c_Tokens_next_a1 h15 ((congrArg (fun q => q[3]?) hsh).trans s_3) (ri_s eh15) (ri_o eh15 (fun q => absurd q.2 (by decide)) (ri_s eh7)) (rr_i eh15 (rr_i eh7 (rr_i eh12 (rr_l eh11 (rr_i eh10 (rr_i eh9 (rr_i eh8 (rr_i eh4 (rr_i eh3 (rr_i eh2 (rr_o eh1 (fun q => absurd q.2 (by decide)) rR_3_0))))))))))) ((congrArg (fun q => q[4]?) hsh).trans s_4) (ri_o eh15 (fun q => absurd q.1 (by decide)) (ri_o eh7 (fun q => absurd q.1 (by decide)) (ri_o eh12 (fun q => absurd q.1 (by decide)) (ri_l eh11 (ri_o eh10 (fun q => absurd q.1 (by decide)) (ri_s eh9)))))) (rr_i eh15 (rr_i eh7 (rr_i eh12 (rr_l eh11 (rr_i eh10 (rr_i eh9 (rr_i eh8 (rr_i eh4 (rr_i eh3 (rr_i eh2 (rr_o eh1 (fun q => absurd q.2 (by decide)) rR_3_1))))))))))) (ri_o eh15 (fun q => absurd q.1 (by decide)) (ri_o eh7 (fun q => absurd q.1 (by decide)) (ri_o eh12 (fun q => absurd q.1 (by decide)) (ri_l eh11 (ri_s eh10))))) ((congrArg (fun q => q[5]?) hsh).trans s_5) (rr_i eh15 (rr_i eh7 (rr_i eh12 (rr_l eh11 (rr_i eh10 (rr_i eh9 (rr_i eh8 (rr_i eh4 (rr_i eh3 (rr_i eh2 (rr_o eh1 (fun q => absurd q.2 (by decide)) rR_3_2))))))))))) (rl_i eh15 (rl_i eh7 (rl_i eh12 (rl_s eh11)))) ((congrArg (fun q => q[6]?) hsh).trans s_6) (rr_i eh15 (rr_i eh7 (rr_i eh12 (rr_l eh11 (rr_i eh10 (rr_i eh9 (rr_i eh8 (rr_i eh4 (rr_i eh3 (rr_i eh2 (rr_o eh1 (fun q => absurd q.2 (by decide)) rR_3_3))))))))))) (ri_o eh15 (fun q => absurd q.1 (by decide)) (ri_o eh7 (fun q => absurd q.1 (by decide)) (ri_s eh12))) ((congrArg (fun q => q[7]?) hsh).trans s_7)) (fun r h16 hq => ?_)
  obtain ⟨h17, h18, h19, h20, eh17, eh18, eh19, eh20, eh16, rfl⟩ := hq
  replace hsh := (lh_si eh17).trans hsh
  replace hag := ag_i eh17 hag
  replace hsh := (lh_si eh18).trans hsh
  replace hag := ag_i eh18 hag
  replace hsh := (lh_si eh19).trans hsh
  replace hag := ag_i eh19 hag
  replace hsh := (lh_sl eh20).trans hsh
  replace hag := ag_l eh20 hag
  replace hsh := (lh_si eh16).trans hsh
  replace hag := ag_i eh16 hag
  exact A_vret d_Tokens_cutAll_68 (by decide) rfl ⟨h1, h2, h3, h4, h8, h9, h10, h11, h12, h7, h15, h17, h18, h19, h20, eh1, eh2, eh3, eh4, eh8, eh9, eh10, eh11, eh12, eh7, eh15, eh17, eh18, eh19, eh20, eh16, rfl⟩
set_option maxRecDepth 100000 in
set_option maxHeartbeats 8000000 in
theorem c_Reader_read_a1 {G : cx_T} (h : ah_T)  (s_2 : h.1[2]? = some (5 + 4, 8)) (rR_2_5 : h.2.2.2 2 5 = some 17) (s_17 : h.1[17]? = some (6 + 4, 13)) (rR_2_0 : h.2.2.2 2 0 = some 3) (s_3 : h.1[3]? = some (8 + 4, 13)) (s_1 : h.1[1]? = some (0, 2000)) (rR_3_0 : h.2.2.2 3 0 = some 4) (s_4 : h.1[4]? = some (0, 2001)) (rR_3_1 : h.2.2.2 3 1 = some 5) (s_5 : h.1[5]? = some (0, 2001)) (rR_3_2 : h.2.2.2 3 2 = some 6) (rL_3_11 : h.2.2.1 3 11 = 0) (s_6 : h.1[6]? = some (1, 2001)) (rR_3_3 : h.2.2.2 3 3 = some 7) (rI_3_12 : h.2.1 3 12 = 0) (s_7 : h.1[7]? = some (0, 2001)) : con G 11 0 0 m_Reader_read [av_R (some 2), av_R (some 1), av_I 0] h (fun r h' => ∃ h2 : ah_T, ∃ h3 : ah_T, ∃ h4 : ah_T, ∃ h5 : ah_T, ∃ h6 : ah_T, ∃ h7 : ah_T, ∃ h1 : ah_T, ∃ h8 : ah_T, ∃ h9 : ah_T, ∃ h11 : ah_T, ∃ h12 : ah_T, ∃ h13 : ah_T, ∃ h14 : ah_T, ∃ h15 : ah_T, ∃ h16 : ah_T, ∃ h17 : ah_T, ∃ h18 : ah_T, ∃ h19 : ah_T, ∃ h20 : ah_T, ∃ h21 : ah_T, ∃ h22 : ah_T, ∃ h23 : ah_T, ∃ h24 : ah_T, ∃ h25 : ah_T, h2 = st_i h 17 1 0 ∧ h3 = st_i h2 17 2 4 ∧ h4 = st_i h3 17 3 4 ∧ h5 = st_i h4 17 4 0 ∧ h6 = st_i h5 17 6 0 ∧ h7 = st_i h6 17 10 0 ∧ h1 = st_i h7 17 12 0 ∧ h8 = st_i h1 2 3 0 ∧ h9 = st_i h8 2 6 0 ∧ h11 = st_r h9 3 6 (some 1) ∧ h12 = st_i h11 3 7 0 ∧ h13 = st_i h12 3 8 0 ∧ h14 = st_i h13 3 4 0 ∧ h15 = st_i h14 3 9 256 ∧ h16 = st_i h15 4 0 256 ∧ h17 = st_i h16 5 0 0 ∧ h18 = st_l h17 6 0 0 ∧ h19 = st_i h18 7 0 0 ∧ h20 = st_i h19 3 4 1 ∧ h21 = st_i h20 3 5 (-1) ∧ h22 = st_i h21 3 5 0 ∧ h23 = st_i h22 3 9 256 ∧ h24 = st_i h23 3 10 0 ∧ h25 = st_l h24 3 11 0 ∧ h' = st_i h25 3 12 0 ∧ r = some (av_I 0)) := by
  refine con_of (L := [some (av_R (some 2)), some (av_R (some 1)), some (av_I 0), none, none]) (by decide +kernel) (Nat.le_of_ble_eq_true rfl) rfl ?_
  have hsh : h.1 = h.1 := rfl
  have hrr : h.2.2.2 = h.2.2.2 := rfl
  have hag : agr [] h h := fun _ _ _ => rfl
  refine A_aload_n 0 d_Reader_read_0 rfl rfl ?_
  refine A_getOv (z := (some 17)) T_ok d_Reader_read_1 f_Reader_32 s_2 rR_2_5 ?_
  refine A_callV0 m_Score_clear T_ok d_Reader_read_4 l_Reader_36 k_Score_clear s_17 rfl (by decide) (by decide) (Nat.le_of_ble_eq_true rfl) (c_Score_clear_a1 h s_17) (fun r h1 hq => ?_)
  obtain ⟨h2, h3, h4, h5, h6, h7, eh2, eh3, eh4, eh5, eh6, eh7, eh1, rfl⟩ := hq
  replace hsh := (lh_si eh2).trans hsh
  replace hag := ag_i eh2 hag
  replace hrr := (lh_ri eh2).trans hrr
  replace hsh := (lh_si eh3).trans hsh
  replace hag := ag_i eh3 hag
  replace hrr := (lh_ri eh3).trans hrr
  replace hsh := (lh_si eh4).trans hsh
  replace hag := ag_i eh4 hag
  replace hrr := (lh_ri eh4).trans hrr
  replace hsh := (lh_si eh5).trans hsh
  replace hag := ag_i eh5 hag
  replace hrr := (lh_ri eh5).trans hrr
  replace hsh := (lh_si eh6).trans hsh
  replace hag := ag_i eh6 hag
  replace hrr := (lh_ri eh6).trans hrr
  replace hsh := (lh_si eh7).trans hsh
  replace hag := ag_i eh7 hag
  replace hrr := (lh_ri eh7).trans hrr
  replace hsh := (lh_si eh1).trans hsh
  replace hag := ag_i eh1 hag
  replace hrr := (lh_ri eh1).trans hrr
  refine A_aload_n 0 d_Reader_read_7 rfl rfl ?_
  refine A_iconst d_Reader_read_8 rfl ?_
  refine A_putIv T_ok d_Reader_read_9 f_Reader_39 ((congrArg (fun q => q[2]?) hsh).trans s_2) fin_f (fun h8 eh8 => ?_)
  replace hsh := (lh_si eh8).trans hsh
  replace hag := ag_i eh8 hag
  replace hrr := (lh_ri eh8).trans hrr
  refine A_aload_n 0 d_Reader_read_12 rfl rfl ?_
  refine A_iconst d_Reader_read_13 rfl ?_
  refine A_pc (pc' := 14) rfl ?_
  refine A_putIv T_ok d_Reader_read_14 f_Reader_43 ((congrArg (fun q => q[2]?) hsh).trans s_2) fin_f (fun h9 eh9 => ?_)
  replace hsh := (lh_si eh9).trans hsh
  replace hag := ag_i eh9 hag
  replace hrr := (lh_ri eh9).trans hrr
  refine A_aload_n 0 d_Reader_read_17 rfl rfl ?_
  refine A_getOv (z := (some 3)) T_ok d_Reader_read_18 f_Reader_12 ((congrArg (fun q => q[2]?) hsh).trans s_2) ((congrFun (congrFun hrr 2) 0).trans rR_2_0) ?_
  refine A_aload_n 1 d_Reader_read_21 rfl rfl ?_
  refine A_iload_n 2 d_Reader_read_22 rfl rfl ?_
  refine A_callV2 m_Tokens_cutAll T_ok d_Reader_read_23 l_Reader_46 k_Tokens_cutAll ((congrArg (fun q => q[3]?) hsh).trans s_3) rfl (by decide) (by decide) (Nat.le_of_ble_eq_true rfl) (c_Tokens_cutAll_a1 h9 ((congrArg (fun q => q[3]?) hsh).trans s_3) ((congrArg (fun q => q[1]?) hsh).trans s_1) ((congrFun (congrFun hrr 3) 0).trans rR_3_0) ((congrArg (fun q => q[4]?) hsh).trans s_4) ((congrFun (congrFun hrr 3) 1).trans rR_3_1) ((congrArg (fun q => q[5]?) hsh).trans s_5) ((congrFun (congrFun hrr 3) 2).trans rR_3_2) (rl_i eh9 (rl_i eh8 (rl_i eh1 (rl_i eh7 (rl_i eh6 (rl_i eh5 (rl_i eh4 (rl_i eh3 (rl_i eh2 rL_3_11))))))))) ((congrArg (fun q => q[6]?) hsh).trans s_6) ((congrFun (congrFun hrr 3) 3).trans rR_3_3) ((hag 3 12 (by decide)).trans rI_3_12) ((congrArg (fun q => q[7]?) hsh).trans s_7)) (fun r h10 hq => ?_)
  obtain ⟨h11, h12, h13, h14, h15, h16, h17, h18, h19, h20, h21, h22, h23, h24, h25, eh11, eh12, eh13, eh14, eh15, eh16, eh17, eh18, eh19, eh20, eh21, eh22, eh23, eh24, eh25, eh10, rfl⟩ := hq
  replace hsh := (lh_sr eh11).trans hsh
  replace hag := ag_r eh11 hag
  replace hsh := (lh_si eh12).trans hsh
  replace hag := ag_i eh12 hag
  replace hsh := (lh_si eh13).trans hsh
  replace hag := ag_i eh13 hag
  replace hsh := (lh_si eh14).trans hsh
  replace hag := ag_i eh14 hag
  replace hsh := (lh_si eh15).trans hsh
  replace hag := ag_i eh15 hag
  replace hsh := (lh_si eh16).trans hsh
  replace hag := ag_i eh16 hag
  replace hsh := (lh_si eh17).trans hsh
  replace hag := ag_i eh17 hag
  replace hsh := (lh_sl eh18).trans hsh
  replace hag := ag_l eh18 hag
  replace hsh := (lh_si eh19).trans hsh
  replace hag := ag_i eh19 hag
  replace hsh := (lh_si eh20).trans hsh
  replace hag := ag_i eh20 hag
  replace hsh := (lh_si eh21).trans hsh
  replace hag := ag_i eh21 hag
  replace hsh := (lh_si eh22).trans hsh
  replace hag := ag_i eh22 hag
  replace hsh := (lh_si eh23).trans hsh
  replace hag := ag_i eh23 hag
  replace hsh := (lh_si eh24).trans hsh
  replace hag := ag_i eh24 hag
  replace hsh := (lh_sl eh25).trans hsh
  replace hag := ag_l eh25 hag
  replace hsh := (lh_si eh10).trans hsh
  replace hag := ag_i eh10 hag
  refine A_iconst d_Reader_read_26 rfl ?_
  refine A_istore_n 3 (L' := [some (av_R (some 2)), some (av_R (some 1)), some (av_I 0), some (av_I 1), none]) d_Reader_read_27 rfl (Nat.le_of_ble_eq_true rfl) rfl ?_
  refine A_iconst d_Reader_read_28 rfl ?_
  refine A_istore (L' := [some (av_R (some 2)), some (av_R (some 1)), some (av_I 0), some (av_I 1), some (av_I 0)]) d_Reader_read_29 (Nat.le_of_ble_eq_true rfl) rfl ?_
  refine A_iload d_Reader_read_31 rfl ?_
  refine A_pc (pc' := 33) rfl ?_
  refine A_sipush d_Reader_read_33 rfl ?_
  refine A_icmp_ge (tgt := 156) d_Reader_read_36 (by decide) (fun c26 => absurd c26 (by decide)) (fun c26 => ?_)
  refine A_iload_n 3 d_Reader_read_39 rfl rfl ?_
  refine A_if_eq (tgt := 156) d_Reader_read_40 (by decide) (fun c27 => absurd c27 (by decide)) (fun c27 => ?_)
  refine A_aload_n 0 d_Reader_read_43 rfl rfl ?_
  refine A_getOv (z := (some 3)) T_ok d_Reader_read_44 f_Reader_12 ((congrArg (fun q => q[2]?) hsh).trans s_2) (rr_i eh10 (rr_l eh25 (rr_i eh24 (rr_i eh23 (rr_i eh22 (rr_i eh21 (rr_i eh20 (rr_i eh19 (rr_l eh18 (rr_i eh17 (rr_i eh16 (rr_i eh15 (rr_i eh14 (rr_i eh13 (rr_i eh12 (rr_o eh11 (fun q => absurd q.1 (by decide)) (rr_i eh9 (rr_i eh8 (rr_i eh1 (rr_i eh7 (rr_i eh6 (rr_i eh5 (rr_i eh4 (rr_i eh3 (rr_i eh2 rR_2_0))))))))))))))))))))))))) ?_
  refine A_getIv (z := 256) T_ok d_Reader_read_47 f_Reader_50 ((congrArg (fun q => q[3]?) hsh).trans s_3) (ri_o eh10 (fun q => absurd q.2 (by decide)) (ri_l eh25 (ri_o eh24 (fun q => absurd q.2 (by decide)) (ri_s eh23)))) ?_
  refine A_tabOut (tgt := 124) d_Reader_read_50 (by decide) (by decide) ?_
  refine A_aload_n 0 d_Reader_read_124 rfl rfl ?_
  refine A_getOv (z := (some 3)) T_ok d_Reader_read_125 f_Reader_12 ((congrArg (fun q => q[2]?) hsh).trans s_2) (rr_i eh10 (rr_l eh25 (rr_i eh24 (rr_i eh23 (rr_i eh22 (rr_i eh21 (rr_i eh20 (rr_i eh19 (rr_l eh18 (rr_i eh17 (rr_i eh16 (rr_i eh15 (rr_i eh14 (rr_i eh13 (rr_i eh12 (rr_o eh11 (fun q => absurd q.1 (by decide)) (rr_i eh9 (rr_i eh8 (rr_i eh1 (rr_i eh7 (rr_i eh6 (rr_i eh5 (rr_i eh4 (rr_i eh3 (rr_i eh2 rR_2_0))))))))))))))))))))))))) ?_
  refine A_getIv (z := 256) T_ok d_Reader_read_128 f_Reader_50 ((congrArg (fun q => q[3]?) hsh).trans s_3) (ri_o eh10 (fun q => absurd q.2 (by decide)) (ri_l eh25 (ri_o eh24 (fun q => absurd q.2 (by decide)) (ri_s eh23)))) ?_
  refine A_sipush d_Reader_read_131 rfl ?_
  refine A_icmp_eq (tgt := 148) d_Reader_read_134 (by decide) (fun c28 => ?_) (fun c28 => absurd c28 (by decide))
  refine A_iconst d_Reader_read_148 rfl ?_
  refine A_istore_n 3 (L' := [some (av_R (some 2)), some (av_R (some 1)), some (av_I 0), some (av_I 0), some (av_I 0)]) d_Reader_read_149 rfl (Nat.le_of_ble_eq_true rfl) rfl ?_
  refine A_iincv (z := 1) (L' := [some (av_R (some 2)), some (av_R (some 1)), some (av_I 0), some (av_I 0), some (av_I 1)]) d_Reader_read_150 rfl (by decide +kernel) rfl ?_
  refine A_goto (tgt := 31) d_Reader_read_153 (by decide) ?_
  refine A_iload d_Reader_read_31 rfl ?_
  refine A_sipush d_Reader_read_33 rfl ?_
  refine A_icmp_ge (tgt := 156) d_Reader_read_36 (by decide) (fun c29 => absurd c29 (by decide)) (fun c29 => ?_)
  refine A_iload_n 3 d_Reader_read_39 rfl rfl ?_
  refine A_if_eq (tgt := 156) d_Reader_read_40 (by decide) (fun c30 => ?_) (fun c30 => absurd c30 (by decide))
  refine A_aload_n 0 d_Reader_read_156 rfl rfl ?_
  refine A_getIv (z := 0) T_ok d_Reader_read_157 f_Reader_43 ((congrArg (fun q => q[2]?) hsh).trans s_2) (ri_o eh10 (fun q => absurd q.1 (by decide)) (ri_l eh25 (ri_o eh24 (fun q => absurd q.1 (by decide)) (ri_o eh23 (fun q => absurd q.1 (by decide)) (ri_o eh22 (fun q => absurd q.1 (by decide)) (ri_o eh21 (fun q => absurd q.1 (by decide)) (ri_o eh20 (fun q => absurd q.1 (by decide)) (ri_o eh19 (fun q => absurd q.1 (by decide)) (ri_l eh18 (ri_o eh17 (fun q => absurd q.1 (by decide)) (ri_o eh16 (fun q => absurd q.1 (by decide)) (ri_o eh15 (fun q => absurd q.1 (by decide)) (ri_o eh14 (fun q => absurd q.1 (by decide)) (ri_o eh13 (fun q => absurd q.1 (by decide)) (ri_o eh12 (fun q => absurd q.1 (by decide)) (ri_r eh11 (ri_s eh9))))))))))))))))) ?_
  exact A_iret d_Reader_read_160 (by decide) rfl ⟨h2, h3, h4, h5, h6, h7, h1, h8, h9, h11, h12, h13, h14, h15, h16, h17, h18, h19, h20, h21, h22, h23, h24, h25, eh2, eh3, eh4, eh5, eh6, eh7, eh1, eh8, eh9, eh11, eh12, eh13, eh14, eh15, eh16, eh17, eh18, eh19, eh20, eh21, eh22, eh23, eh24, eh25, eh10, rfl⟩
theorem c_Reader_swap_a1 {G : cx_T} (h : ah_T)  (s_2 : h.1[2]? = some (5 + 4, 8)) (rR_2_5 : h.2.2.2 2 5 = some 17) : con G 0 0 0 m_Reader_swap [av_R (some 2), av_R (some 80)] h (fun r h' => h' = st_r h 2 5 (some 80) ∧ r = some (av_R (some 17))) := by
  refine con_of (L := [some (av_R (some 2)), some (av_R (some 80)), none]) (by decide +kernel) (Nat.le_of_ble_eq_true rfl) rfl ?_
  refine A_aload_n 0 d_Reader_swap_0 rfl rfl ?_
  refine A_getOv (z := (some 17)) T_ok d_Reader_swap_1 f_Reader_32 s_2 rR_2_5 ?_
  refine A_astore_n 2 (L' := [some (av_R (some 2)), some (av_R (some 80)), some (av_R (some 17))]) d_Reader_swap_4 rfl (Nat.le_of_ble_eq_true rfl) rfl ?_
  refine A_aload_n 0 d_Reader_swap_5 rfl rfl ?_
  refine A_aload_n 1 d_Reader_swap_6 rfl rfl ?_
  refine A_pc (pc' := 7) rfl ?_
  refine A_putRv T_ok d_Reader_swap_7 f_Reader_32 ty_o s_2 fin_f (fun h1 eh1 => ?_)
  refine A_aload_n 2 d_Reader_swap_10 rfl rfl ?_
  exact A_aret d_Reader_swap_11 (by decide) rfl ty_o ⟨eh1, rfl⟩
theorem c_Judge_forget_a1 {G : cx_T} (h : ah_T)  (s_143 : h.1[143]? = some (1 + 4, 3)) : con G 0 0 0 m_Judge_forget [av_R (some 143)] h (fun r h' => h' = st_i h 143 1 0 ∧ r = none) := by
  refine con_of (L := [some (av_R (some 143))]) (by decide +kernel) (Nat.le_of_ble_eq_true rfl) rfl ?_
  refine A_aload_n 0 d_Judge_forget_0 rfl rfl ?_
  refine A_iconst d_Judge_forget_1 rfl ?_
  refine A_putIv T_ok d_Judge_forget_2 f_Judge_18 s_143 fin_f (fun h1 eh1 => ?_)
  exact A_vret d_Judge_forget_5 (by decide) rfl ⟨eh1, rfl⟩
theorem c_Beams_forget_a1 {G : cx_T} (h : ah_T)  (s_146 : h.1[146]? = some (0 + 4, 4)) : con G 0 0 0 m_Beams_forget [av_R (some 146)] h (fun r h' => h' = st_i h 146 1 0 ∧ r = none) := by
  refine con_of (L := [some (av_R (some 146))]) (by decide +kernel) (Nat.le_of_ble_eq_true rfl) rfl ?_
  refine A_aload_n 0 d_Beams_forget_0 rfl rfl ?_
  refine A_iconst d_Beams_forget_1 rfl ?_
  refine A_putIv T_ok d_Beams_forget_2 f_Beams_21 s_146 fin_f (fun h1 eh1 => ?_)
  exact A_vret d_Beams_forget_5 (by decide) rfl ⟨eh1, rfl⟩
theorem c_Page_forget_a1 {G : cx_T} (h : ah_T)  (s_150 : h.1[150]? = some (2 + 4, 8)) : con G 0 0 0 m_Page_forget [av_R (some 150)] h (fun r h' => h' = st_i h 150 1 0 ∧ r = none) := by
  refine con_of (L := [some (av_R (some 150))]) (by decide +kernel) (Nat.le_of_ble_eq_true rfl) rfl ?_
  refine A_aload_n 0 d_Page_forget_0 rfl rfl ?_
  refine A_iconst d_Page_forget_1 rfl ?_
  refine A_putIv T_ok d_Page_forget_2 f_Page_34 s_150 fin_f (fun h1 eh1 => ?_)
  exact A_vret d_Page_forget_5 (by decide) rfl ⟨eh1, rfl⟩
theorem c_Seconds_forget_a1 {G : cx_T} (h : ah_T)  (s_158 : h.1[158]? = some (7 + 4, 8)) : con G 0 0 0 m_Seconds_forget [av_R (some 158)] h (fun r h' => h' = st_i h 158 1 0 ∧ r = none) := by
  refine con_of (L := [some (av_R (some 158))]) (by decide +kernel) (Nat.le_of_ble_eq_true rfl) rfl ?_
  refine A_aload_n 0 d_Seconds_forget_0 rfl rfl ?_
  refine A_iconst d_Seconds_forget_1 rfl ?_
  refine A_putIv T_ok d_Seconds_forget_2 f_Seconds_22 s_158 fin_f (fun h1 eh1 => ?_)
  exact A_vret d_Seconds_forget_5 (by decide) rfl ⟨eh1, rfl⟩
theorem c_Trees_forget_a1 {G : cx_T} (h : ah_T)  (s_162 : h.1[162]? = some (9 + 4, 6)) : con G 0 0 0 m_Trees_forget [av_R (some 162)] h (fun r h' => h' = st_i h 162 1 0 ∧ r = none) := by
  refine con_of (L := [some (av_R (some 162))]) (by decide +kernel) (Nat.le_of_ble_eq_true rfl) rfl ?_
  refine A_aload_n 0 d_Trees_forget_0 rfl rfl ?_
  refine A_iconst d_Trees_forget_1 rfl ?_
  refine A_putIv T_ok d_Trees_forget_2 f_Trees_15 s_162 fin_f (fun h1 eh1 => ?_)
  exact A_vret d_Trees_forget_5 (by decide) rfl ⟨eh1, rfl⟩
theorem c_Pairing_forget_a1 {G : cx_T} (h : ah_T)  (s_164 : h.1[164]? = some (3 + 4, 8)) : con G 0 0 0 m_Pairing_forget [av_R (some 164)] h (fun r h' => ∃ h1 : ah_T, h1 = st_i h 164 5 0 ∧ h' = st_i h1 164 7 0 ∧ r = none) := by
  refine con_of (L := [some (av_R (some 164))]) (by decide +kernel) (Nat.le_of_ble_eq_true rfl) rfl ?_
  refine A_aload_n 0 d_Pairing_forget_0 rfl rfl ?_
  refine A_iconst d_Pairing_forget_1 rfl ?_
  refine A_putIv T_ok d_Pairing_forget_2 f_Pairing_27 s_164 fin_f (fun h1 eh1 => ?_)
  refine A_aload_n 0 d_Pairing_forget_5 rfl rfl ?_
  refine A_iconst d_Pairing_forget_6 rfl ?_
  refine A_pc (pc' := 7) rfl ?_
  refine A_putIv T_ok d_Pairing_forget_7 f_Pairing_31 (sp_i eh1 s_164) fin_f (fun h2 eh2 => ?_)
  exact A_vret d_Pairing_forget_10 (by decide) rfl ⟨h1, eh1, eh2, rfl⟩
theorem c_PM_forgetFindings_a1 {G : cx_T} (h : ah_T)  (s_0 : h.1[0]? = some (11 + 4, 11)) (rR_0_5 : h.2.2.2 0 5 = some 143) (s_143 : h.1[143]? = some (1 + 4, 3)) (rR_0_6 : h.2.2.2 0 6 = some 146) (s_146 : h.1[146]? = some (0 + 4, 4)) (rR_0_7 : h.2.2.2 0 7 = some 150) (s_150 : h.1[150]? = some (2 + 4, 8)) (rR_0_8 : h.2.2.2 0 8 = some 158) (s_158 : h.1[158]? = some (7 + 4, 8)) (rR_0_9 : h.2.2.2 0 9 = some 162) (s_162 : h.1[162]? = some (9 + 4, 6)) (rR_0_10 : h.2.2.2 0 10 = some 164) (s_164 : h.1[164]? = some (3 + 4, 8)) : con G 1 0 0 m_PM_forgetFindings [av_R (some 0)] h (fun r h' => ∃ h1 : ah_T, ∃ h2 : ah_T, ∃ h3 : ah_T, ∃ h4 : ah_T, ∃ h5 : ah_T, ∃ h7 : ah_T, h1 = st_i h 143 1 0 ∧ h2 = st_i h1 146 1 0 ∧ h3 = st_i h2 150 1 0 ∧ h4 = st_i h3 158 1 0 ∧ h5 = st_i h4 162 1 0 ∧ h7 = st_i h5 164 5 0 ∧ h' = st_i h7 164 7 0 ∧ r = none) := by
  refine con_of (L := [some (av_R (some 0))]) (by decide +kernel) (Nat.le_of_ble_eq_true rfl) rfl ?_
  refine A_aload_n 0 d_PM_forgetFindings_0 rfl rfl ?_
  refine A_getOv (z := (some 143)) T_ok d_PM_forgetFindings_1 f_PM_37 s_0 rR_0_5 ?_
  refine A_callV0 m_Judge_forget T_ok d_PM_forgetFindings_4 l_PM_96 k_Judge_forget s_143 rfl (by decide) (by decide) (Nat.le_of_ble_eq_true rfl) (c_Judge_forget_a1 h s_143) (fun r h1 hq => ?_)
  obtain ⟨eh1, rfl⟩ := hq
  refine A_aload_n 0 d_PM_forgetFindings_7 rfl rfl ?_
  refine A_getOv (z := (some 146)) T_ok d_PM_forgetFindings_8 f_PM_44 (sp_i eh1 s_0) (rr_i eh1 rR_0_6) ?_
  refine A_callV0 m_Beams_forget T_ok d_PM_forgetFindings_11 l_PM_99 k_Beams_forget (sp_i eh1 s_146) rfl (by decide) (by decide) (Nat.le_of_ble_eq_true rfl) (c_Beams_forget_a1 h1 (sp_i eh1 s_146)) (fun r h2 hq => ?_)
  obtain ⟨eh2, rfl⟩ := hq
  refine A_aload_n 0 d_PM_forgetFindings_14 rfl rfl ?_
  refine A_getOv (z := (some 150)) T_ok d_PM_forgetFindings_15 f_PM_51 (sp_i eh2 (sp_i eh1 s_0)) (rr_i eh2 (rr_i eh1 rR_0_7)) ?_
  refine A_callV0 m_Page_forget T_ok d_PM_forgetFindings_18 l_PM_100 k_Page_forget (sp_i eh2 (sp_i eh1 s_150)) rfl (by decide) (by decide) (Nat.le_of_ble_eq_true rfl) (c_Page_forget_a1 h2 (sp_i eh2 (sp_i eh1 s_150))) (fun r h3 hq => ?_)
  obtain ⟨eh3, rfl⟩ := hq
  refine A_aload_n 0 d_PM_forgetFindings_21 rfl rfl ?_
  refine A_getOv (z := (some 158)) T_ok d_PM_forgetFindings_22 f_PM_58 (sp_i eh3 (sp_i eh2 (sp_i eh1 s_0))) (rr_i eh3 (rr_i eh2 (rr_i eh1 rR_0_8))) ?_
  refine A_callV0 m_Seconds_forget T_ok d_PM_forgetFindings_25 l_PM_101 k_Seconds_forget (sp_i eh3 (sp_i eh2 (sp_i eh1 s_158))) rfl (by decide) (by decide) (Nat.le_of_ble_eq_true rfl) (c_Seconds_forget_a1 h3 (sp_i eh3 (sp_i eh2 (sp_i eh1 s_158)))) (fun r h4 hq => ?_)
  obtain ⟨eh4, rfl⟩ := hq
  refine A_aload_n 0 d_PM_forgetFindings_28 rfl rfl ?_
  refine A_getOv (z := (some 162)) T_ok d_PM_forgetFindings_29 f_PM_65 (sp_i eh4 (sp_i eh3 (sp_i eh2 (sp_i eh1 s_0)))) (rr_i eh4 (rr_i eh3 (rr_i eh2 (rr_i eh1 rR_0_9)))) ?_
  refine A_callV0 m_Trees_forget T_ok d_PM_forgetFindings_32 l_PM_102 k_Trees_forget (sp_i eh4 (sp_i eh3 (sp_i eh2 (sp_i eh1 s_162)))) rfl (by decide) (by decide) (Nat.le_of_ble_eq_true rfl) (c_Trees_forget_a1 h4 (sp_i eh4 (sp_i eh3 (sp_i eh2 (sp_i eh1 s_162))))) (fun r h5 hq => ?_)
  obtain ⟨eh5, rfl⟩ := hq
  refine A_aload_n 0 d_PM_forgetFindings_35 rfl rfl ?_
  refine A_getOv (z := (some 164)) T_ok d_PM_forgetFindings_36 f_PM_72 (sp_i eh5 (sp_i eh4 (sp_i eh3 (sp_i eh2 (sp_i eh1 s_0))))) (rr_i eh5 (rr_i eh4 (rr_i eh3 (rr_i eh2 (rr_i eh1 rR_0_10))))) ?_
  refine A_callV0 m_Pairing_forget T_ok d_PM_forgetFindings_39 l_PM_103 k_Pairing_forget (sp_i eh5 (sp_i eh4 (sp_i eh3 (sp_i eh2 (sp_i eh1 s_164))))) rfl (by decide) (by decide) (Nat.le_of_ble_eq_true rfl) (c_Pairing_forget_a1 h5 (sp_i eh5 (sp_i eh4 (sp_i eh3 (sp_i eh2 (sp_i eh1 s_164)))))) (fun r h6 hq => ?_)
  obtain ⟨h7, eh7, eh6, rfl⟩ := hq
  exact A_vret d_PM_forgetFindings_42 (by decide) rfl ⟨h1, h2, h3, h4, h5, h7, eh1, eh2, eh3, eh4, eh5, eh7, eh6, rfl⟩
theorem c_Score_allEvents_a1 {G : cx_T} (h : ah_T)  (s_17 : h.1[17]? = some (6 + 4, 13)) (rI_17_1 : h.2.1 17 1 = 0) : con G 1 0 0 m_Score_allEvents [av_R (some 17)] h (fun r h' => r = some (av_I 0) ∧ h = h') := by
  refine con_of (L := [some (av_R (some 17)), none, none, none]) (by decide +kernel) (Nat.le_of_ble_eq_true rfl) rfl ?_
  refine A_iconst d_Score_allEvents_0 rfl ?_
  refine A_istore_n 1 (L' := [some (av_R (some 17)), some (av_I 0), none, none]) d_Score_allEvents_1 rfl (Nat.le_of_ble_eq_true rfl) rfl ?_
  refine A_iconst d_Score_allEvents_2 rfl ?_
  refine A_istore_n 2 (L' := [some (av_R (some 17)), some (av_I 0), some (av_I 0), none]) d_Score_allEvents_3 rfl (Nat.le_of_ble_eq_true rfl) rfl ?_
  refine A_iload_n 2 d_Score_allEvents_4 rfl rfl ?_
  refine A_pc (pc' := 5) rfl ?_
  refine A_aload_n 0 d_Score_allEvents_5 rfl rfl ?_
  refine A_getIv (z := 0) T_ok d_Score_allEvents_6 f_Score_41 s_17 rI_17_1 ?_
  refine A_icmp_ge (tgt := 39) d_Score_allEvents_9 (by decide) (fun c1 => ?_) (fun c1 => absurd c1 (by decide))
  refine A_iload_n 1 d_Score_allEvents_39 rfl rfl ?_
  exact A_iret d_Score_allEvents_40 (by decide) rfl ⟨rfl, rfl⟩
theorem t_x_score {G : cx_T} (h : ah_T) (hw : eqr 0 170 h) : con G 12 0 0 m_PM_score [av_R (some 0)] h (fun r h' => (∃ v : Int, r = some (av_I v) ∧ v = 0) ∧ frm 170 h h') := by
  refine con_of (L := [some (av_R (some 0)), none]) (by decide +kernel) (Nat.le_of_ble_eq_true rfl) rfl ?_
  refine A_aload_n 0 d_PM_score_0 rfl rfl ?_
  refine A_getOv (z := (some 2)) T_ok d_PM_score_1 f_PM_20 (sb_s hw q_s_0) (rb_R hw (by decide) (by decide) q_R_0_2) ?_
  refine A_aload_n 0 d_PM_score_4 rfl rfl ?_
  refine A_getAv (z := (some 1)) T_ok d_PM_score_5 f_PM_9 (sb_s hw q_s_0) (rb_R hw (by decide) (by decide) q_R_0_0) ?_
  refine A_aload_n 0 d_PM_score_8 rfl rfl ?_
  refine A_pc (pc' := 9) rfl ?_
  refine A_getIv (z := 0) T_ok d_PM_score_9 f_PM_13 (sb_s hw q_s_0) (rb_I hw (by decide) (by decide) q_I_0_1) ?_
  refine A_callV2 m_Reader_read T_ok d_PM_score_12 l_PM_80 k_Reader_read (sb_s hw q_s_2) rfl (by decide) (by decide) (Nat.le_of_ble_eq_true rfl) (c_Reader_read_a1 h (sb_s hw q_s_2) (rb_R hw (by decide) (by decide) q_R_2_5) (sb_s hw q_s_17) (rb_R hw (by decide) (by decide) q_R_2_0) (sb_s hw q_s_3) (sb_s hw q_s_1) (rb_R hw (by decide) (by decide) q_R_3_0) (sb_s hw q_s_4) (rb_R hw (by decide) (by decide) q_R_3_1) (sb_s hw q_s_5) (rb_R hw (by decide) (by decide) q_R_3_2) (rb_L hw (by decide) (by decide) q_L_3_11) (sb_s hw q_s_6) (rb_R hw (by decide) (by decide) q_R_3_3) (rb_I hw (by decide) (by decide) q_I_3_12) (sb_s hw q_s_7)) (fun r h1 hq => ?_)
  obtain ⟨h2, h3, h4, h5, h6, h7, h8, h9, h10, h11, h12, h13, h14, h15, h16, h17, h18, h19, h20, h21, h22, h23, h24, h25, eh2, eh3, eh4, eh5, eh6, eh7, eh8, eh9, eh10, eh11, eh12, eh13, eh14, eh15, eh16, eh17, eh18, eh19, eh20, eh21, eh22, eh23, eh24, eh25, eh1, rfl⟩ := hq
  refine A_istore_n 1 (L' := [some (av_R (some 0)), some (av_I 0)]) d_PM_score_15 rfl (Nat.le_of_ble_eq_true rfl) rfl ?_
  refine A_aload_n 0 d_PM_score_16 rfl rfl ?_
  refine A_iconst d_PM_score_17 rfl ?_
  refine A_putIv T_ok d_PM_score_18 f_PM_13 (sp_i eh1 (sp_l eh25 (sp_i eh24 (sp_i eh23 (sp_i eh22 (sp_i eh21 (sp_i eh20 (sp_i eh19 (sp_l eh18 (sp_i eh17 (sp_i eh16 (sp_i eh15 (sp_i eh14 (sp_i eh13 (sp_i eh12 (sp_r eh11 (sp_i eh10 (sp_i eh9 (sp_i eh8 (sp_i eh7 (sp_i eh6 (sp_i eh5 (sp_i eh4 (sp_i eh3 (sp_i eh2 (sb_s hw q_s_0)))))))))))))))))))))))))) fin_f (fun h26 eh26 => ?_)
  refine A_iload_n 1 d_PM_score_21 rfl rfl ?_
  refine A_pc (pc' := 22) rfl ?_
  refine A_if_eq (tgt := 41) d_PM_score_22 (by decide) (fun c27 => ?_) (fun c27 => absurd c27 (by decide))
  refine A_aload_n 0 d_PM_score_41 rfl rfl ?_
  refine A_bipush d_PM_score_42 rfl ?_
  refine A_putIv T_ok d_PM_score_44 f_PM_31 (sp_i eh26 (sp_i eh1 (sp_l eh25 (sp_i eh24 (sp_i eh23 (sp_i eh22 (sp_i eh21 (sp_i eh20 (sp_i eh19 (sp_l eh18 (sp_i eh17 (sp_i eh16 (sp_i eh15 (sp_i eh14 (sp_i eh13 (sp_i eh12 (sp_r eh11 (sp_i eh10 (sp_i eh9 (sp_i eh8 (sp_i eh7 (sp_i eh6 (sp_i eh5 (sp_i eh4 (sp_i eh3 (sp_i eh2 (sb_s hw q_s_0))))))))))))))))))))))))))) fin_f (fun h28 eh28 => ?_)
  refine A_aload_n 0 d_PM_score_47 rfl rfl ?_
  refine A_aload_n 0 d_PM_score_48 rfl rfl ?_
  refine A_pc (pc' := 49) rfl ?_
  refine A_getOv (z := (some 2)) T_ok d_PM_score_49 f_PM_20 (sp_i eh28 (sp_i eh26 (sp_i eh1 (sp_l eh25 (sp_i eh24 (sp_i eh23 (sp_i eh22 (sp_i eh21 (sp_i eh20 (sp_i eh19 (sp_l eh18 (sp_i eh17 (sp_i eh16 (sp_i eh15 (sp_i eh14 (sp_i eh13 (sp_i eh12 (sp_r eh11 (sp_i eh10 (sp_i eh9 (sp_i eh8 (sp_i eh7 (sp_i eh6 (sp_i eh5 (sp_i eh4 (sp_i eh3 (sp_i eh2 (sb_s hw q_s_0)))))))))))))))))))))))))))) (rr_i eh28 (rr_i eh26 (rr_i eh1 (rr_l eh25 (rr_i eh24 (rr_i eh23 (rr_i eh22 (rr_i eh21 (rr_i eh20 (rr_i eh19 (rr_l eh18 (rr_i eh17 (rr_i eh16 (rr_i eh15 (rr_i eh14 (rr_i eh13 (rr_i eh12 (rr_o eh11 (fun q => absurd q.1 (by decide)) (rr_i eh10 (rr_i eh9 (rr_i eh8 (rr_i eh7 (rr_i eh6 (rr_i eh5 (rr_i eh4 (rr_i eh3 (rr_i eh2 (rb_R hw (by decide) (by decide) q_R_0_2)))))))))))))))))))))))))))) ?_
  refine A_aload_n 0 d_PM_score_52 rfl rfl ?_
  refine A_getOv (z := (some 80)) T_ok d_PM_score_53 f_PM_27 (sp_i eh28 (sp_i eh26 (sp_i eh1 (sp_l eh25 (sp_i eh24 (sp_i eh23 (sp_i eh22 (sp_i eh21 (sp_i eh20 (sp_i eh19 (sp_l eh18 (sp_i eh17 (sp_i eh16 (sp_i eh15 (sp_i eh14 (sp_i eh13 (sp_i eh12 (sp_r eh11 (sp_i eh10 (sp_i eh9 (sp_i eh8 (sp_i eh7 (sp_i eh6 (sp_i eh5 (sp_i eh4 (sp_i eh3 (sp_i eh2 (sb_s hw q_s_0)))))))))))))))))))))))))))) (rr_i eh28 (rr_i eh26 (rr_i eh1 (rr_l eh25 (rr_i eh24 (rr_i eh23 (rr_i eh22 (rr_i eh21 (rr_i eh20 (rr_i eh19 (rr_l eh18 (rr_i eh17 (rr_i eh16 (rr_i eh15 (rr_i eh14 (rr_i eh13 (rr_i eh12 (rr_o eh11 (fun q => absurd q.1 (by decide)) (rr_i eh10 (rr_i eh9 (rr_i eh8 (rr_i eh7 (rr_i eh6 (rr_i eh5 (rr_i eh4 (rr_i eh3 (rr_i eh2 (rb_R hw (by decide) (by decide) q_R_0_3)))))))))))))))))))))))))))) ?_
  refine A_callV1 m_Reader_swap T_ok d_PM_score_56 l_PM_85 k_Reader_swap (sp_i eh28 (sp_i eh26 (sp_i eh1 (sp_l eh25 (sp_i eh24 (sp_i eh23 (sp_i eh22 (sp_i eh21 (sp_i eh20 (sp_i eh19 (sp_l eh18 (sp_i eh17 (sp_i eh16 (sp_i eh15 (sp_i eh14 (sp_i eh13 (sp_i eh12 (sp_r eh11 (sp_i eh10 (sp_i eh9 (sp_i eh8 (sp_i eh7 (sp_i eh6 (sp_i eh5 (sp_i eh4 (sp_i eh3 (sp_i eh2 (sb_s hw q_s_2)))))))))))))))))))))))))))) rfl (by decide) (by decide) (Nat.le_of_ble_eq_true rfl) (c_Reader_swap_a1 h28 (sp_i eh28 (sp_i eh26 (sp_i eh1 (sp_l eh25 (sp_i eh24 (sp_i eh23 (sp_i eh22 (sp_i eh21 (sp_i eh20 (sp_i eh19 (sp_l eh18 (sp_i eh17 (sp_i eh16 (sp_i eh15 (sp_i eh14 (sp_i eh13 (sp_i eh12 (sp_r eh11 (sp_i eh10 (sp_i eh9 (sp_i eh8 (sp_i eh7 (sp_i eh6 (sp_i eh5 (sp_i eh4 (sp_i eh3 (sp_i eh2 (sb_s hw q_s_2)))))))))))))))))))))))))))) (rr_i eh28 (rr_i eh26 (rr_i eh1 (rr_l eh25 (rr_i eh24 (rr_i eh23 (rr_i eh22 (rr_i eh21 (rr_i eh20 (rr_i eh19 (rr_l eh18 (rr_i eh17 (rr_i eh16 (rr_i eh15 (rr_i eh14 (rr_i eh13 (rr_i eh12 (rr_o eh11 (fun q => absurd q.1 (by decide)) (rr_i eh10 (rr_i eh9 (rr_i eh8 (rr_i eh7 (rr_i eh6 (rr_i eh5 (rr_i eh4 (rr_i eh3 (rr_i eh2 (rb_R hw (by decide) (by decide) q_R_2_5))))))))))))))))))))))))))))) (fun r h29 hq => ?_)
  obtain ⟨eh29, rfl⟩ := hq
  refine A_putRv T_ok d_PM_score_59 f_PM_27 ty_o (sp_r eh29 (sp_i eh28 (sp_i eh26 (sp_i eh1 (sp_l eh25 (sp_i eh24 (sp_i eh23 (sp_i eh22 (sp_i eh21 (sp_i eh20 (sp_i eh19 (sp_l eh18 (sp_i eh17 (sp_i eh16 (sp_i eh15 (sp_i eh14 (sp_i eh13 (sp_i eh12 (sp_r eh11 (sp_i eh10 (sp_i eh9 (sp_i eh8 (sp_i eh7 (sp_i eh6 (sp_i eh5 (sp_i eh4 (sp_i eh3 (sp_i eh2 (sb_s hw q_s_0))))))))))))))))))))))))))))) fin_f (fun h30 eh30 => ?_)
  refine A_aload_n 0 d_PM_score_62 rfl rfl ?_
  refine A_callV0 m_PM_forgetFindings T_ok d_PM_score_63 l_PM_89 k_PM_forgetFindings (sp_r eh30 (sp_r eh29 (sp_i eh28 (sp_i eh26 (sp_i eh1 (sp_l eh25 (sp_i eh24 (sp_i eh23 (sp_i eh22 (sp_i eh21 (sp_i eh20 (sp_i eh19 (sp_l eh18 (sp_i eh17 (sp_i eh16 (sp_i eh15 (sp_i eh14 (sp_i eh13 (sp_i eh12 (sp_r eh11 (sp_i eh10 (sp_i eh9 (sp_i eh8 (sp_i eh7 (sp_i eh6 (sp_i eh5 (sp_i eh4 (sp_i eh3 (sp_i eh2 (sb_s hw q_s_0)))))))))))))))))))))))))))))) rfl (by decide) (by decide) (Nat.le_of_ble_eq_true rfl) (c_PM_forgetFindings_a1 h30 (sp_r eh30 (sp_r eh29 (sp_i eh28 (sp_i eh26 (sp_i eh1 (sp_l eh25 (sp_i eh24 (sp_i eh23 (sp_i eh22 (sp_i eh21 (sp_i eh20 (sp_i eh19 (sp_l eh18 (sp_i eh17 (sp_i eh16 (sp_i eh15 (sp_i eh14 (sp_i eh13 (sp_i eh12 (sp_r eh11 (sp_i eh10 (sp_i eh9 (sp_i eh8 (sp_i eh7 (sp_i eh6 (sp_i eh5 (sp_i eh4 (sp_i eh3 (sp_i eh2 (sb_s hw q_s_0)))))))))))))))))))))))))))))) (rr_o eh30 (fun q => absurd q.2 (by decide)) (rr_o eh29 (fun q => absurd q.1 (by decide)) (rr_i eh28 (rr_i eh26 (rr_i eh1 (rr_l eh25 (rr_i eh24 (rr_i eh23 (rr_i eh22 (rr_i eh21 (rr_i eh20 (rr_i eh19 (rr_l eh18 (rr_i eh17 (rr_i eh16 (rr_i eh15 (rr_i eh14 (rr_i eh13 (rr_i eh12 (rr_o eh11 (fun q => absurd q.1 (by decide)) (rr_i eh10 (rr_i eh9 (rr_i eh8 (rr_i eh7 (rr_i eh6 (rr_i eh5 (rr_i eh4 (rr_i eh3 (rr_i eh2 (rb_R hw (by decide) (by decide) q_R_0_5)))))))))))))))))))))))))))))) (sp_r eh30 (sp_r eh29 (sp_i eh28 (sp_i eh26 (sp_i eh1 (sp_l eh25 (sp_i eh24 (sp_i eh23 (sp_i eh22 (sp_i eh21 (sp_i eh20 (sp_i eh19 (sp_l eh18 (sp_i eh17 (sp_i eh16 (sp_i eh15 (sp_i eh14 (sp_i eh13 (sp_i eh12 (sp_r eh11 (sp_i eh10 (sp_i eh9 (sp_i eh8 (sp_i eh7 (sp_i eh6 (sp_i eh5 (sp_i eh4 (sp_i eh3 (sp_i eh2 (sb_s hw q_s_143)))))))))))))))))))))))))))))) (rr_o eh30 (fun q => absurd q.2 (by decide)) (rr_o eh29 (fun q => absurd q.1 (by decide)) (rr_i eh28 (rr_i eh26 (rr_i eh1 (rr_l eh25 (rr_i eh24 (rr_i eh23 (rr_i eh22 (rr_i eh21 (rr_i eh20 (rr_i eh19 (rr_l eh18 (rr_i eh17 (rr_i eh16 (rr_i eh15 (rr_i eh14 (rr_i eh13 (rr_i eh12 (rr_o eh11 (fun q => absurd q.1 (by decide)) (rr_i eh10 (rr_i eh9 (rr_i eh8 (rr_i eh7 (rr_i eh6 (rr_i eh5 (rr_i eh4 (rr_i eh3 (rr_i eh2 (rb_R hw (by decide) (by decide) q_R_0_6)))))))))))))))))))))))))))))) (sp_r eh30 (sp_r eh29 (sp_i eh28 (sp_i eh26 (sp_i eh1 (sp_l eh25 (sp_i eh24 (sp_i eh23 (sp_i eh22 (sp_i eh21 (sp_i eh20 (sp_i eh19 (sp_l eh18 (sp_i eh17 (sp_i eh16 (sp_i eh15 (sp_i eh14 (sp_i eh13 (sp_i eh12 (sp_r eh11 (sp_i eh10 (sp_i eh9 (sp_i eh8 (sp_i eh7 (sp_i eh6 (sp_i eh5 (sp_i eh4 (sp_i eh3 (sp_i eh2 (sb_s hw q_s_146)))))))))))))))))))))))))))))) (rr_o eh30 (fun q => absurd q.2 (by decide)) (rr_o eh29 (fun q => absurd q.1 (by decide)) (rr_i eh28 (rr_i eh26 (rr_i eh1 (rr_l eh25 (rr_i eh24 (rr_i eh23 (rr_i eh22 (rr_i eh21 (rr_i eh20 (rr_i eh19 (rr_l eh18 (rr_i eh17 (rr_i eh16 (rr_i eh15 (rr_i eh14 (rr_i eh13 (rr_i eh12 (rr_o eh11 (fun q => absurd q.1 (by decide)) (rr_i eh10 (rr_i eh9 (rr_i eh8 (rr_i eh7 (rr_i eh6 (rr_i eh5 (rr_i eh4 (rr_i eh3 (rr_i eh2 (rb_R hw (by decide) (by decide) q_R_0_7)))))))))))))))))))))))))))))) (sp_r eh30 (sp_r eh29 (sp_i eh28 (sp_i eh26 (sp_i eh1 (sp_l eh25 (sp_i eh24 (sp_i eh23 (sp_i eh22 (sp_i eh21 (sp_i eh20 (sp_i eh19 (sp_l eh18 (sp_i eh17 (sp_i eh16 (sp_i eh15 (sp_i eh14 (sp_i eh13 (sp_i eh12 (sp_r eh11 (sp_i eh10 (sp_i eh9 (sp_i eh8 (sp_i eh7 (sp_i eh6 (sp_i eh5 (sp_i eh4 (sp_i eh3 (sp_i eh2 (sb_s hw q_s_150)))))))))))))))))))))))))))))) (rr_o eh30 (fun q => absurd q.2 (by decide)) (rr_o eh29 (fun q => absurd q.1 (by decide)) (rr_i eh28 (rr_i eh26 (rr_i eh1 (rr_l eh25 (rr_i eh24 (rr_i eh23 (rr_i eh22 (rr_i eh21 (rr_i eh20 (rr_i eh19 (rr_l eh18 (rr_i eh17 (rr_i eh16 (rr_i eh15 (rr_i eh14 (rr_i eh13 (rr_i eh12 (rr_o eh11 (fun q => absurd q.1 (by decide)) (rr_i eh10 (rr_i eh9 (rr_i eh8 (rr_i eh7 (rr_i eh6 (rr_i eh5 (rr_i eh4 (rr_i eh3 (rr_i eh2 (rb_R hw (by decide) (by decide) q_R_0_8)))))))))))))))))))))))))))))) (sp_r eh30 (sp_r eh29 (sp_i eh28 (sp_i eh26 (sp_i eh1 (sp_l eh25 (sp_i eh24 (sp_i eh23 (sp_i eh22 (sp_i eh21 (sp_i eh20 (sp_i eh19 (sp_l eh18 (sp_i eh17 (sp_i eh16 (sp_i eh15 (sp_i eh14 (sp_i eh13 (sp_i eh12 (sp_r eh11 (sp_i eh10 (sp_i eh9 (sp_i eh8 (sp_i eh7 (sp_i eh6 (sp_i eh5 (sp_i eh4 (sp_i eh3 (sp_i eh2 (sb_s hw q_s_158)))))))))))))))))))))))))))))) (rr_o eh30 (fun q => absurd q.2 (by decide)) (rr_o eh29 (fun q => absurd q.1 (by decide)) (rr_i eh28 (rr_i eh26 (rr_i eh1 (rr_l eh25 (rr_i eh24 (rr_i eh23 (rr_i eh22 (rr_i eh21 (rr_i eh20 (rr_i eh19 (rr_l eh18 (rr_i eh17 (rr_i eh16 (rr_i eh15 (rr_i eh14 (rr_i eh13 (rr_i eh12 (rr_o eh11 (fun q => absurd q.1 (by decide)) (rr_i eh10 (rr_i eh9 (rr_i eh8 (rr_i eh7 (rr_i eh6 (rr_i eh5 (rr_i eh4 (rr_i eh3 (rr_i eh2 (rb_R hw (by decide) (by decide) q_R_0_9)))))))))))))))))))))))))))))) (sp_r eh30 (sp_r eh29 (sp_i eh28 (sp_i eh26 (sp_i eh1 (sp_l eh25 (sp_i eh24 (sp_i eh23 (sp_i eh22 (sp_i eh21 (sp_i eh20 (sp_i eh19 (sp_l eh18 (sp_i eh17 (sp_i eh16 (sp_i eh15 (sp_i eh14 (sp_i eh13 (sp_i eh12 (sp_r eh11 (sp_i eh10 (sp_i eh9 (sp_i eh8 (sp_i eh7 (sp_i eh6 (sp_i eh5 (sp_i eh4 (sp_i eh3 (sp_i eh2 (sb_s hw q_s_162)))))))))))))))))))))))))))))) (rr_o eh30 (fun q => absurd q.2 (by decide)) (rr_o eh29 (fun q => absurd q.1 (by decide)) (rr_i eh28 (rr_i eh26 (rr_i eh1 (rr_l eh25 (rr_i eh24 (rr_i eh23 (rr_i eh22 (rr_i eh21 (rr_i eh20 (rr_i eh19 (rr_l eh18 (rr_i eh17 (rr_i eh16 (rr_i eh15 (rr_i eh14 (rr_i eh13 (rr_i eh12 (rr_o eh11 (fun q => absurd q.1 (by decide)) (rr_i eh10 (rr_i eh9 (rr_i eh8 (rr_i eh7 (rr_i eh6 (rr_i eh5 (rr_i eh4 (rr_i eh3 (rr_i eh2 (rb_R hw (by decide) (by decide) q_R_0_10)))))))))))))))))))))))))))))) (sp_r eh30 (sp_r eh29 (sp_i eh28 (sp_i eh26 (sp_i eh1 (sp_l eh25 (sp_i eh24 (sp_i eh23 (sp_i eh22 (sp_i eh21 (sp_i eh20 (sp_i eh19 (sp_l eh18 (sp_i eh17 (sp_i eh16 (sp_i eh15 (sp_i eh14 (sp_i eh13 (sp_i eh12 (sp_r eh11 (sp_i eh10 (sp_i eh9 (sp_i eh8 (sp_i eh7 (sp_i eh6 (sp_i eh5 (sp_i eh4 (sp_i eh3 (sp_i eh2 (sb_s hw q_s_164))))))))))))))))))))))))))))))) (fun r h31 hq => ?_)
  obtain ⟨h32, h33, h34, h35, h36, h37, eh32, eh33, eh34, eh35, eh36, eh37, eh31, rfl⟩ := hq
  refine A_aload_n 0 d_PM_score_66 rfl rfl ?_
  refine A_getOv (z := (some 17)) T_ok d_PM_score_67 f_PM_27 (sp_i eh31 (sp_i eh37 (sp_i eh36 (sp_i eh35 (sp_i eh34 (sp_i eh33 (sp_i eh32 (sp_r eh30 (sp_r eh29 (sp_i eh28 (sp_i eh26 (sp_i eh1 (sp_l eh25 (sp_i eh24 (sp_i eh23 (sp_i eh22 (sp_i eh21 (sp_i eh20 (sp_i eh19 (sp_l eh18 (sp_i eh17 (sp_i eh16 (sp_i eh15 (sp_i eh14 (sp_i eh13 (sp_i eh12 (sp_r eh11 (sp_i eh10 (sp_i eh9 (sp_i eh8 (sp_i eh7 (sp_i eh6 (sp_i eh5 (sp_i eh4 (sp_i eh3 (sp_i eh2 (sb_s hw q_s_0))))))))))))))))))))))))))))))))))))) (rr_i eh31 (rr_i eh37 (rr_i eh36 (rr_i eh35 (rr_i eh34 (rr_i eh33 (rr_i eh32 (rr_s eh30)))))))) ?_
  refine A_callV0 m_Score_allEvents T_ok d_PM_score_70 l_PM_92 k_Score_allEvents (sp_i eh31 (sp_i eh37 (sp_i eh36 (sp_i eh35 (sp_i eh34 (sp_i eh33 (sp_i eh32 (sp_r eh30 (sp_r eh29 (sp_i eh28 (sp_i eh26 (sp_i eh1 (sp_l eh25 (sp_i eh24 (sp_i eh23 (sp_i eh22 (sp_i eh21 (sp_i eh20 (sp_i eh19 (sp_l eh18 (sp_i eh17 (sp_i eh16 (sp_i eh15 (sp_i eh14 (sp_i eh13 (sp_i eh12 (sp_r eh11 (sp_i eh10 (sp_i eh9 (sp_i eh8 (sp_i eh7 (sp_i eh6 (sp_i eh5 (sp_i eh4 (sp_i eh3 (sp_i eh2 (sb_s hw q_s_17))))))))))))))))))))))))))))))))))))) rfl (by decide) (by decide) (Nat.le_of_ble_eq_true rfl) (c_Score_allEvents_a1 h31 (sp_i eh31 (sp_i eh37 (sp_i eh36 (sp_i eh35 (sp_i eh34 (sp_i eh33 (sp_i eh32 (sp_r eh30 (sp_r eh29 (sp_i eh28 (sp_i eh26 (sp_i eh1 (sp_l eh25 (sp_i eh24 (sp_i eh23 (sp_i eh22 (sp_i eh21 (sp_i eh20 (sp_i eh19 (sp_l eh18 (sp_i eh17 (sp_i eh16 (sp_i eh15 (sp_i eh14 (sp_i eh13 (sp_i eh12 (sp_r eh11 (sp_i eh10 (sp_i eh9 (sp_i eh8 (sp_i eh7 (sp_i eh6 (sp_i eh5 (sp_i eh4 (sp_i eh3 (sp_i eh2 (sb_s hw q_s_17))))))))))))))))))))))))))))))))))))) (ri_o eh31 (fun q => absurd q.1 (by decide)) (ri_o eh37 (fun q => absurd q.1 (by decide)) (ri_o eh36 (fun q => absurd q.1 (by decide)) (ri_o eh35 (fun q => absurd q.1 (by decide)) (ri_o eh34 (fun q => absurd q.1 (by decide)) (ri_o eh33 (fun q => absurd q.1 (by decide)) (ri_o eh32 (fun q => absurd q.1 (by decide)) (ri_r eh30 (ri_r eh29 (ri_o eh28 (fun q => absurd q.1 (by decide)) (ri_o eh26 (fun q => absurd q.1 (by decide)) (ri_o eh1 (fun q => absurd q.1 (by decide)) (ri_l eh25 (ri_o eh24 (fun q => absurd q.1 (by decide)) (ri_o eh23 (fun q => absurd q.1 (by decide)) (ri_o eh22 (fun q => absurd q.1 (by decide)) (ri_o eh21 (fun q => absurd q.1 (by decide)) (ri_o eh20 (fun q => absurd q.1 (by decide)) (ri_o eh19 (fun q => absurd q.1 (by decide)) (ri_l eh18 (ri_o eh17 (fun q => absurd q.1 (by decide)) (ri_o eh16 (fun q => absurd q.1 (by decide)) (ri_o eh15 (fun q => absurd q.1 (by decide)) (ri_o eh14 (fun q => absurd q.1 (by decide)) (ri_o eh13 (fun q => absurd q.1 (by decide)) (ri_o eh12 (fun q => absurd q.1 (by decide)) (ri_r eh11 (ri_o eh10 (fun q => absurd q.1 (by decide)) (ri_o eh9 (fun q => absurd q.1 (by decide)) (ri_o eh8 (fun q => absurd q.2 (by decide)) (ri_o eh7 (fun q => absurd q.2 (by decide)) (ri_o eh6 (fun q => absurd q.2 (by decide)) (ri_o eh5 (fun q => absurd q.2 (by decide)) (ri_o eh4 (fun q => absurd q.2 (by decide)) (ri_o eh3 (fun q => absurd q.2 (by decide)) (ri_s eh2))))))))))))))))))))))))))))))))))))) (fun r hx hq => ?_)
  obtain ⟨rfl, rfl⟩ := hq
  exact A_iret d_PM_score_73 (by decide) rfl ⟨⟨0, rfl, by (try unfold w32); omega⟩, (fr_i eh31 (by decide) (fr_i eh37 (by decide) (fr_i eh36 (by decide) (fr_i eh35 (by decide) (fr_i eh34 (by decide) (fr_i eh33 (by decide) (fr_i eh32 (by decide) (fr_r eh30 (by decide) (fr_r eh29 (by decide) (fr_i eh28 (by decide) (fr_i eh26 (by decide) (fr_i eh1 (by decide) (fr_l eh25 (by decide) (fr_i eh24 (by decide) (fr_i eh23 (by decide) (fr_i eh22 (by decide) (fr_i eh21 (by decide) (fr_i eh20 (by decide) (fr_i eh19 (by decide) (fr_l eh18 (by decide) (fr_i eh17 (by decide) (fr_i eh16 (by decide) (fr_i eh15 (by decide) (fr_i eh14 (by decide) (fr_i eh13 (by decide) (fr_i eh12 (by decide) (fr_r eh11 (by decide) (fr_i eh10 (by decide) (fr_i eh9 (by decide) (fr_i eh8 (by decide) (fr_i eh7 (by decide) (fr_i eh6 (by decide) (fr_i eh5 (by decide) (fr_i eh4 (by decide) (fr_i eh3 (by decide) (fr_i eh2 (by decide) (fr_0 _ _)))))))))))))))))))))))))))))))))))))⟩
theorem t_x_place {G : cx_T} (h : ah_T) (hw : eqr 0 170 h) : con G 0 0 0 m_PM_place [av_R (some 0)] h (fun r h' => (∃ v : Int, r = some (av_I v) ∧ v = -2) ∧ frm 170 h h') := by
  refine con_of (L := [some (av_R (some 0))]) (by decide +kernel) (Nat.le_of_ble_eq_true rfl) rfl ?_
  refine A_aload_n 0 d_PM_place_0 rfl rfl ?_
  refine A_getIv (z := (-2)) T_ok d_PM_place_1 f_PM_31 (sb_s hw q_s_0) (rb_I hw (by decide) (by decide) q_I_0_4) ?_
  exact A_iret d_PM_place_4 (by decide) rfl ⟨⟨(-2), rfl, by (try unfold w32); omega⟩, (fr_0 _ _)⟩
theorem c_Score_mostBars_a1 {G : cx_T} (h : ah_T)  (s_80 : h.1[80]? = some (6 + 4, 13)) (rI_80_1 : h.2.1 80 1 = 0) : con G 1 0 0 m_Score_mostBars [av_R (some 80)] h (fun r h' => r = some (av_I 0) ∧ h = h') := by
  refine con_of (L := [some (av_R (some 80)), none, none, none]) (by decide +kernel) (Nat.le_of_ble_eq_true rfl) rfl ?_
  refine A_iconst d_Score_mostBars_0 rfl ?_
  refine A_istore_n 1 (L' := [some (av_R (some 80)), some (av_I 0), none, none]) d_Score_mostBars_1 rfl (Nat.le_of_ble_eq_true rfl) rfl ?_
  refine A_iconst d_Score_mostBars_2 rfl ?_
  refine A_istore_n 2 (L' := [some (av_R (some 80)), some (av_I 0), some (av_I 0), none]) d_Score_mostBars_3 rfl (Nat.le_of_ble_eq_true rfl) rfl ?_
  refine A_iload_n 2 d_Score_mostBars_4 rfl rfl ?_
  refine A_pc (pc' := 5) rfl ?_
  refine A_aload_n 0 d_Score_mostBars_5 rfl rfl ?_
  refine A_getIv (z := 0) T_ok d_Score_mostBars_6 f_Score_41 s_80 rI_80_1 ?_
  refine A_icmp_ge (tgt := 41) d_Score_mostBars_9 (by decide) (fun c1 => ?_) (fun c1 => absurd c1 (by decide))
  refine A_iload_n 1 d_Score_mostBars_41 rfl rfl ?_
  exact A_iret d_Score_mostBars_42 (by decide) rfl ⟨rfl, rfl⟩
theorem t_x_told {G : cx_T} (h : ah_T) (hw : eqr 0 170 h) (vn : Int) : con G 2 0 0 m_PM_told [av_R (some 0), av_I vn] h (fun r h' => (∃ v : Int, r = some (av_I v) ∧ (vn = 5 → v = 4) ∧ (vn = 6 → v = 4) ∧ (0 ≤ vn ∧ vn ≤ 4 → v = 0) ∧ (vn < 0 ∨ 6 < vn → v = -1)) ∧ frm 170 h h') := by
  refine con_of (L := [some (av_R (some 0)), some (av_I vn)]) (by decide +kernel) (Nat.le_of_ble_eq_true rfl) rfl ?_
  refine A_iload_n 1 d_PM_told_0 rfl rfl ?_
  rcases (by omega : vn < 0 ∨ vn = 0 ∨ vn = 1 ∨ vn = 2 ∨ vn = 3 ∨ vn = 4 ∨ vn = 5 ∨ vn = 6 ∨ 6 < vn) with c1 | c1 | c1 | c1 | c1 | c1 | c1 | c1 | c1
  · refine A_tabOut (tgt := 100) d_PM_told_1 (by omega) (by decide) ?_
    refine A_iconst d_PM_told_100 rfl ?_
    exact A_iret d_PM_told_101 (by decide) rfl ⟨⟨(-1), rfl, by (try unfold w32); omega⟩, (fr_0 _ _)⟩
  · refine A_tabIn (tgt := 44) d_PM_told_1 (by omega) (by omega) (by rw [c1]; rfl) (by decide) ?_
    refine A_aload_n 0 d_PM_told_44 rfl rfl ?_
    refine A_getOv (z := (some 80)) T_ok d_PM_told_45 f_PM_27 (sb_s hw q_s_0) (rb_R hw (by decide) (by decide) q_R_0_3) ?_
    refine A_getIv (z := 0) T_ok d_PM_told_48 f_PM_104 (sb_s hw q_s_80) (rb_I hw (by decide) (by decide) q_I_80_1) ?_
    exact A_iret d_PM_told_51 (by decide) rfl ⟨⟨0, rfl, by (try unfold w32); omega⟩, (fr_0 _ _)⟩
  · refine A_tabIn (tgt := 52) d_PM_told_1 (by omega) (by omega) (by rw [c1]; rfl) (by decide) ?_
    refine A_aload_n 0 d_PM_told_52 rfl rfl ?_
    refine A_getOv (z := (some 80)) T_ok d_PM_told_53 f_PM_27 (sb_s hw q_s_0) (rb_R hw (by decide) (by decide) q_R_0_3) ?_
    refine A_getIv (z := 0) T_ok d_PM_told_56 f_PM_107 (sb_s hw q_s_80) (rb_I hw (by decide) (by decide) q_I_80_6) ?_
    exact A_iret d_PM_told_59 (by decide) rfl ⟨⟨0, rfl, by (try unfold w32); omega⟩, (fr_0 _ _)⟩
  · refine A_tabIn (tgt := 60) d_PM_told_1 (by omega) (by omega) (by rw [c1]; rfl) (by decide) ?_
    refine A_aload_n 0 d_PM_told_60 rfl rfl ?_
    refine A_getOv (z := (some 80)) T_ok d_PM_told_61 f_PM_27 (sb_s hw q_s_0) (rb_R hw (by decide) (by decide) q_R_0_3) ?_
    refine A_getIv (z := 0) T_ok d_PM_told_64 f_PM_110 (sb_s hw q_s_80) (rb_I hw (by decide) (by decide) q_I_80_10) ?_
    exact A_iret d_PM_told_67 (by decide) rfl ⟨⟨0, rfl, by (try unfold w32); omega⟩, (fr_0 _ _)⟩
  · refine A_tabIn (tgt := 68) d_PM_told_1 (by omega) (by omega) (by rw [c1]; rfl) (by decide) ?_
    refine A_aload_n 0 d_PM_told_68 rfl rfl ?_
    refine A_getOv (z := (some 80)) T_ok d_PM_told_69 f_PM_27 (sb_s hw q_s_0) (rb_R hw (by decide) (by decide) q_R_0_3) ?_
    refine A_getIv (z := 0) T_ok d_PM_told_72 f_PM_113 (sb_s hw q_s_80) (rb_I hw (by decide) (by decide) q_I_80_12) ?_
    exact A_iret d_PM_told_75 (by decide) rfl ⟨⟨0, rfl, by (try unfold w32); omega⟩, (fr_0 _ _)⟩
  · refine A_tabIn (tgt := 76) d_PM_told_1 (by omega) (by omega) (by rw [c1]; rfl) (by decide) ?_
    refine A_aload_n 0 d_PM_told_76 rfl rfl ?_
    refine A_getOv (z := (some 80)) T_ok d_PM_told_77 f_PM_27 (sb_s hw q_s_0) (rb_R hw (by decide) (by decide) q_R_0_3) ?_
    refine A_callV0 m_Score_mostBars T_ok d_PM_told_80 l_PM_116 k_Score_mostBars (sb_s hw q_s_80) rfl (by decide) (by decide) (Nat.le_of_ble_eq_true rfl) (c_Score_mostBars_a1 h (sb_s hw q_s_80) (rb_I hw (by decide) (by decide) q_I_80_1)) (fun r hx hq => ?_)
    obtain ⟨rfl, rfl⟩ := hq
    exact A_iret d_PM_told_83 (by decide) rfl ⟨⟨0, rfl, by (try unfold w32); omega⟩, (fr_0 _ _)⟩
  · refine A_tabIn (tgt := 84) d_PM_told_1 (by omega) (by omega) (by rw [c1]; rfl) (by decide) ?_
    refine A_aload_n 0 d_PM_told_84 rfl rfl ?_
    refine A_getOv (z := (some 80)) T_ok d_PM_told_85 f_PM_27 (sb_s hw q_s_0) (rb_R hw (by decide) (by decide) q_R_0_3) ?_
    refine A_getIv (z := 4) T_ok d_PM_told_88 f_PM_119 (sb_s hw q_s_80) (rb_I hw (by decide) (by decide) q_I_80_2) ?_
    exact A_iret d_PM_told_91 (by decide) rfl ⟨⟨4, rfl, by (try unfold w32); omega⟩, (fr_0 _ _)⟩
  · refine A_tabIn (tgt := 92) d_PM_told_1 (by omega) (by omega) (by rw [c1]; rfl) (by decide) ?_
    refine A_aload_n 0 d_PM_told_92 rfl rfl ?_
    refine A_getOv (z := (some 80)) T_ok d_PM_told_93 f_PM_27 (sb_s hw q_s_0) (rb_R hw (by decide) (by decide) q_R_0_3) ?_
    refine A_getIv (z := 4) T_ok d_PM_told_96 f_PM_122 (sb_s hw q_s_80) (rb_I hw (by decide) (by decide) q_I_80_3) ?_
    exact A_iret d_PM_told_99 (by decide) rfl ⟨⟨4, rfl, by (try unfold w32); omega⟩, (fr_0 _ _)⟩
  · refine A_tabOut (tgt := 100) d_PM_told_1 (by omega) (by decide) ?_
    refine A_iconst d_PM_told_100 rfl ?_
    exact A_iret d_PM_told_101 (by decide) rfl ⟨⟨(-1), rfl, by (try unfold w32); omega⟩, (fr_0 _ _)⟩
theorem c_Score_voiceAt_a1 {G : cx_T} (h : ah_T) (vn : Int) (s_80 : h.1[80]? = some (6 + 4, 13)) (rI_80_1 : h.2.1 80 1 = 0) : con G 0 0 0 m_Score_voiceAt [av_R (some 80), av_I vn] h (fun r h' => r = some (av_R none) ∧ h = h') := by
  refine con_of (L := [some (av_R (some 80)), some (av_I vn)]) (by decide +kernel) (Nat.le_of_ble_eq_true rfl) rfl ?_
  refine A_iload_n 1 d_Score_voiceAt_0 rfl rfl ?_
  refine A_if_lt (tgt := 30) d_Score_voiceAt_1 (by decide) (fun c1 => ?_) (fun c1 => ?_)
  · refine A_null d_Score_voiceAt_30 ?_
    exact A_aret d_Score_voiceAt_31 (by decide) rfl ty_o ⟨rfl, rfl⟩
  · refine A_iload_n 1 d_Score_voiceAt_4 rfl rfl ?_
    refine A_aload_n 0 d_Score_voiceAt_5 rfl rfl ?_
    refine A_getIv (z := 0) T_ok d_Score_voiceAt_6 f_Score_41 s_80 rI_80_1 ?_
    refine A_icmp_ge (tgt := 30) d_Score_voiceAt_9 (by decide) (fun c2 => ?_) (fun c2 => False.elim (by omega))
    refine A_null d_Score_voiceAt_30 ?_
    exact A_aret d_Score_voiceAt_31 (by decide) rfl ty_o ⟨rfl, rfl⟩
theorem t_x_count {G : cx_T} (h : ah_T) (hw : eqr 0 170 h) (vn vw : Int) : con G 1 0 0 m_PM_count [av_R (some 0), av_I vn, av_I vw] h (fun r h' => (∃ v : Int, r = some (av_I v) ∧ v = -1) ∧ frm 170 h h') := by
  refine con_of (L := [some (av_R (some 0)), some (av_I vn), some (av_I vw), none]) (by decide +kernel) (Nat.le_of_ble_eq_true rfl) rfl ?_
  refine A_aload_n 0 d_PM_count_0 rfl rfl ?_
  refine A_getOv (z := (some 80)) T_ok d_PM_count_1 f_PM_27 (sb_s hw q_s_0) (rb_R hw (by decide) (by decide) q_R_0_3) ?_
  refine A_iload_n 1 d_PM_count_4 rfl rfl ?_
  refine A_callV1 m_Score_voiceAt T_ok d_PM_count_5 l_PM_125 k_Score_voiceAt (sb_s hw q_s_80) rfl (by decide) (by decide) (Nat.le_of_ble_eq_true rfl) (c_Score_voiceAt_a1 h _ (sb_s hw q_s_80) (rb_I hw (by decide) (by decide) q_I_80_1)) (fun r hx hq => ?_)
  obtain ⟨rfl, rfl⟩ := hq
  refine A_astore_n 3 (L' := [some (av_R (some 0)), some (av_I vn), some (av_I vw), some (av_R none)]) d_PM_count_8 rfl (Nat.le_of_ble_eq_true rfl) rfl ?_
  refine A_aload_n 3 d_PM_count_9 rfl rfl ?_
  refine A_ifnonnull (tgt := 15) d_PM_count_10 (by decide) (fun a q => by cases q) (fun _ => ?_)
  refine A_iconst d_PM_count_13 rfl ?_
  exact A_iret d_PM_count_14 (by decide) rfl ⟨⟨(-1), rfl, by (try unfold w32); omega⟩, (fr_0 _ _)⟩
theorem c_Score_voiceAt_a2 {G : cx_T} (h : ah_T) (vn : Int) (s_80 : h.1[80]? = some (6 + 4, 13)) (rI_80_1 : h.2.1 80 1 = 0) : con G 0 0 0 m_Score_voiceAt [av_R (some 80), av_I vn] h (fun r h' => r = some (av_R none) ∧ h = h') := by
  refine con_of (L := [some (av_R (some 80)), some (av_I vn)]) (by decide +kernel) (Nat.le_of_ble_eq_true rfl) rfl ?_
  refine A_iload_n 1 d_Score_voiceAt_0 rfl rfl ?_
  refine A_if_lt (tgt := 30) d_Score_voiceAt_1 (by decide) (fun c1 => ?_) (fun c1 => ?_)
  · refine A_null d_Score_voiceAt_30 ?_
    exact A_aret d_Score_voiceAt_31 (by decide) rfl ty_o ⟨rfl, rfl⟩
  · refine A_iload_n 1 d_Score_voiceAt_4 rfl rfl ?_
    refine A_aload_n 0 d_Score_voiceAt_5 rfl rfl ?_
    refine A_getIv (z := 0) T_ok d_Score_voiceAt_6 f_Score_41 s_80 rI_80_1 ?_
    refine A_icmp_ge (tgt := 30) d_Score_voiceAt_9 (by decide) (fun c2 => ?_) (fun c2 => False.elim (by omega))
    refine A_null d_Score_voiceAt_30 ?_
    exact A_aret d_Score_voiceAt_31 (by decide) rfl ty_o ⟨rfl, rfl⟩
theorem t_x_event {G : cx_T} (h : ah_T) (hw : eqr 0 170 h) (vn vi vw : Int) : con G 2 0 0 m_PM_event [av_R (some 0), av_I vn, av_I vi, av_I vw] h (fun r h' => (∃ v : Int, r = some (av_L v) ∧ v = 10000) ∧ frm 170 h h') := by
  refine con_of (L := [some (av_R (some 0)), some (av_I vn), some (av_I vi), some (av_I vw), none]) (by decide +kernel) (Nat.le_of_ble_eq_true rfl) rfl ?_
  refine A_aload_n 0 d_PM_event_0 rfl rfl ?_
  refine A_getOv (z := (some 80)) T_ok d_PM_event_1 f_PM_27 (sb_s hw q_s_0) (rb_R hw (by decide) (by decide) q_R_0_3) ?_
  refine A_iload_n 1 d_PM_event_4 rfl rfl ?_
  refine A_callV1 m_Score_voiceAt T_ok d_PM_event_5 l_PM_125 k_Score_voiceAt (sb_s hw q_s_80) rfl (by decide) (by decide) (Nat.le_of_ble_eq_true rfl) (c_Score_voiceAt_a2 h _ (sb_s hw q_s_80) (rb_I hw (by decide) (by decide) q_I_80_1)) (fun r hx hq => ?_)
  obtain ⟨rfl, rfl⟩ := hq
  refine A_astore (L' := [some (av_R (some 0)), some (av_I vn), some (av_I vi), some (av_I vw), some (av_R none)]) d_PM_event_8 (Nat.le_of_ble_eq_true rfl) rfl ?_
  refine A_aload d_PM_event_10 rfl ?_
  refine A_ifnull (tgt := 28) d_PM_event_12 (by decide) (fun _ => ?_) (fun a q => by cases q)
  refine A_ldc2 (z := 10000) d_PM_event_28 cst_PM_137 rfl ?_
  exact A_lret d_PM_event_31 (by decide) rfl ⟨⟨10000, rfl, by (try unfold w32); omega⟩, (fr_0 _ _)⟩
theorem c_Judge_hear_a1 {G : cx_T} (h : ah_T)  (s_143 : h.1[143]? = some (1 + 4, 3)) (s_80 : h.1[80]? = some (6 + 4, 13)) (rI_80_1 : h.2.1 80 1 = 0) : con G 5 0 0 m_Judge_hear [av_R (some 143), av_R (some 80)] h (fun r h' => h' = st_i h 143 1 0 ∧ r = some (av_I 0)) := by
  refine con_of (L := [some (av_R (some 143)), some (av_R (some 80)), none, none]) (by decide +kernel) (Nat.le_of_ble_eq_true rfl) rfl ?_
  refine A_aload_n 0 d_Judge_hear_0 rfl rfl ?_
  refine A_iconst d_Judge_hear_1 rfl ?_
  refine A_putIv T_ok d_Judge_hear_2 f_Judge_18 s_143 fin_f (fun h1 eh1 => ?_)
  refine A_iconst d_Judge_hear_5 rfl ?_
  refine A_istore_n 2 (L' := [some (av_R (some 143)), some (av_R (some 80)), some (av_I 0), none]) d_Judge_hear_6 rfl (Nat.le_of_ble_eq_true rfl) rfl ?_
  refine A_pc (pc' := 7) rfl ?_
  refine A_iload_n 2 d_Judge_hear_7 rfl rfl ?_
  refine A_aload_n 1 d_Judge_hear_8 rfl rfl ?_
  refine A_getIv (z := 0) T_ok d_Judge_hear_9 f_Judge_22 (sp_i eh1 s_80) (ri_o eh1 (fun q => absurd q.1 (by decide)) rI_80_1) ?_
  refine A_icmp_ge (tgt := 38) d_Judge_hear_12 (by decide) (fun c2 => ?_) (fun c2 => absurd c2 (by decide))
  refine A_aload_n 0 d_Judge_hear_38 rfl rfl ?_
  refine A_getIv (z := 0) T_ok d_Judge_hear_39 f_Judge_18 (sp_i eh1 s_143) (ri_s eh1) ?_
  exact A_iret d_Judge_hear_42 (by decide) rfl ⟨eh1, rfl⟩
theorem t_x_judge {G : cx_T} (h : ah_T) (hw : eqr 0 170 h) : con G 6 0 0 m_PM_judge [av_R (some 0)] h (fun r h' => (∃ v : Int, r = some (av_I v) ∧ v = 0) ∧ frm 170 h h') := by
  refine con_of (L := [some (av_R (some 0))]) (by decide +kernel) (Nat.le_of_ble_eq_true rfl) rfl ?_
  refine A_aload_n 0 d_PM_judge_0 rfl rfl ?_
  refine A_getOv (z := (some 143)) T_ok d_PM_judge_1 f_PM_37 (sb_s hw q_s_0) (rb_R hw (by decide) (by decide) q_R_0_5) ?_
  refine A_aload_n 0 d_PM_judge_4 rfl rfl ?_
  refine A_getOv (z := (some 80)) T_ok d_PM_judge_5 f_PM_27 (sb_s hw q_s_0) (rb_R hw (by decide) (by decide) q_R_0_3) ?_
  refine A_callV1 m_Judge_hear T_ok d_PM_judge_8 l_PM_157 k_Judge_hear (sb_s hw q_s_143) rfl (by decide) (by decide) (Nat.le_of_ble_eq_true rfl) (c_Judge_hear_a1 h (sb_s hw q_s_143) (sb_s hw q_s_80) (rb_I hw (by decide) (by decide) q_I_80_1)) (fun r h1 hq => ?_)
  obtain ⟨eh1, rfl⟩ := hq
  exact A_iret d_PM_judge_11 (by decide) rfl ⟨⟨0, rfl, by (try unfold w32); omega⟩, (fr_i eh1 (by decide) (fr_0 _ _))⟩
theorem c_Judge_detailOf_a1 {G : cx_T} (h : ah_T) (vk : Int) (vw : Int) (s_143 : h.1[143]? = some (1 + 4, 3)) (rI_143_1 : h.2.1 143 1 = 0) : con G 0 0 0 m_Judge_detailOf [av_R (some 143), av_I vk, av_I vw] h (fun r h' => r = some (av_I (-1)) ∧ h = h') := by
  refine con_of (L := [some (av_R (some 143)), some (av_I vk), some (av_I vw), none]) (by decide +kernel) (Nat.le_of_ble_eq_true rfl) rfl ?_
  refine A_iload_n 1 d_Judge_detailOf_0 rfl rfl ?_
  refine A_if_lt (tgt := 21) d_Judge_detailOf_1 (by decide) (fun c1 => ?_) (fun c1 => ?_)
  · refine A_iconst d_Judge_detailOf_21 rfl ?_
    exact A_iret d_Judge_detailOf_22 (by decide) rfl ⟨rfl, rfl⟩
  · refine A_iload_n 1 d_Judge_detailOf_4 rfl rfl ?_
    refine A_aload_n 0 d_Judge_detailOf_5 rfl rfl ?_
    refine A_getIv (z := 0) T_ok d_Judge_detailOf_6 f_Judge_18 s_143 rI_143_1 ?_
    refine A_icmp_ge (tgt := 21) d_Judge_detailOf_9 (by decide) (fun c2 => ?_) (fun c2 => False.elim (by omega))
    refine A_iconst d_Judge_detailOf_21 rfl ?_
    exact A_iret d_Judge_detailOf_22 (by decide) rfl ⟨rfl, rfl⟩
theorem t_x_fault {G : cx_T} (h : ah_T) (hw : eqr 0 170 h) (vk vw : Int) : con G 1 0 0 m_PM_fault [av_R (some 0), av_I vk, av_I vw] h (fun r h' => (∃ v : Int, r = some (av_I v) ∧ v = -1) ∧ frm 170 h h') := by
  refine con_of (L := [some (av_R (some 0)), some (av_I vk), some (av_I vw)]) (by decide +kernel) (Nat.le_of_ble_eq_true rfl) rfl ?_
  refine A_aload_n 0 d_PM_fault_0 rfl rfl ?_
  refine A_getOv (z := (some 143)) T_ok d_PM_fault_1 f_PM_37 (sb_s hw q_s_0) (rb_R hw (by decide) (by decide) q_R_0_5) ?_
  refine A_iload_n 1 d_PM_fault_4 rfl rfl ?_
  refine A_iload_n 2 d_PM_fault_5 rfl rfl ?_
  refine A_callV2 m_Judge_detailOf T_ok d_PM_fault_6 l_PM_161 k_Judge_detailOf (sb_s hw q_s_143) rfl (by decide) (by decide) (Nat.le_of_ble_eq_true rfl) (c_Judge_detailOf_a1 h _ _ (sb_s hw q_s_143) (rb_I hw (by decide) (by decide) q_I_143_1)) (fun r hx hq => ?_)
  obtain ⟨rfl, rfl⟩ := hq
  exact A_iret d_PM_fault_9 (by decide) rfl ⟨⟨(-1), rfl, by (try unfold w32); omega⟩, (fr_0 _ _)⟩
theorem c_Score_voiceAt_a3 {G : cx_T} (h : ah_T) (vn : Int) (s_80 : h.1[80]? = some (6 + 4, 13)) (rI_80_1 : h.2.1 80 1 = 0) : con G 0 0 0 m_Score_voiceAt [av_R (some 80), av_I vn] h (fun r h' => r = some (av_R none) ∧ h = h') := by
  refine con_of (L := [some (av_R (some 80)), some (av_I vn)]) (by decide +kernel) (Nat.le_of_ble_eq_true rfl) rfl ?_
  refine A_iload_n 1 d_Score_voiceAt_0 rfl rfl ?_
  refine A_if_lt (tgt := 30) d_Score_voiceAt_1 (by decide) (fun c1 => ?_) (fun c1 => ?_)
  · refine A_null d_Score_voiceAt_30 ?_
    exact A_aret d_Score_voiceAt_31 (by decide) rfl ty_o ⟨rfl, rfl⟩
  · refine A_iload_n 1 d_Score_voiceAt_4 rfl rfl ?_
    refine A_aload_n 0 d_Score_voiceAt_5 rfl rfl ?_
    refine A_getIv (z := 0) T_ok d_Score_voiceAt_6 f_Score_41 s_80 rI_80_1 ?_
    refine A_icmp_ge (tgt := 30) d_Score_voiceAt_9 (by decide) (fun c2 => ?_) (fun c2 => False.elim (by omega))
    refine A_null d_Score_voiceAt_30 ?_
    exact A_aret d_Score_voiceAt_31 (by decide) rfl ty_o ⟨rfl, rfl⟩
theorem t_x_beam {G : cx_T} (h : ah_T) (hw : eqr 0 170 h) (vn vb : Int) : con G 5 0 0 m_PM_beam [av_R (some 0), av_I vn, av_I vb] h (fun r h' => (∃ v : Int, r = some (av_I v) ∧ v = -1) ∧ frm 170 h h') := by
  refine con_of (L := [some (av_R (some 0)), some (av_I vn), some (av_I vb), none]) (by decide +kernel) (Nat.le_of_ble_eq_true rfl) rfl ?_
  refine A_aload_n 0 d_PM_beam_0 rfl rfl ?_
  refine A_getOv (z := (some 80)) T_ok d_PM_beam_1 f_PM_27 (sb_s hw q_s_0) (rb_R hw (by decide) (by decide) q_R_0_3) ?_
  refine A_iload_n 1 d_PM_beam_4 rfl rfl ?_
  refine A_callV1 m_Score_voiceAt T_ok d_PM_beam_5 l_PM_125 k_Score_voiceAt (sb_s hw q_s_80) rfl (by decide) (by decide) (Nat.le_of_ble_eq_true rfl) (c_Score_voiceAt_a3 h _ (sb_s hw q_s_80) (rb_I hw (by decide) (by decide) q_I_80_1)) (fun r hx hq => ?_)
  obtain ⟨rfl, rfl⟩ := hq
  refine A_astore_n 3 (L' := [some (av_R (some 0)), some (av_I vn), some (av_I vb), some (av_R none)]) d_PM_beam_8 rfl (Nat.le_of_ble_eq_true rfl) rfl ?_
  refine A_aload_n 3 d_PM_beam_9 rfl rfl ?_
  refine A_ifnull (tgt := 25) d_PM_beam_10 (by decide) (fun _ => ?_) (fun a q => by cases q)
  refine A_iconst d_PM_beam_25 rfl ?_
  exact A_iret d_PM_beam_26 (by decide) rfl ⟨⟨(-1), rfl, by (try unfold w32); omega⟩, (fr_0 _ _)⟩
theorem c_Beams_eventsIn_a1 {G : cx_T} (h : ah_T) (vi : Int) (s_146 : h.1[146]? = some (0 + 4, 4)) (rI_146_1 : h.2.1 146 1 = 0) : con G 0 0 0 m_Beams_eventsIn [av_R (some 146), av_I vi] h (fun r h' => r = some (av_I 0) ∧ h = h') := by
  refine con_of (L := [some (av_R (some 146)), some (av_I vi)]) (by decide +kernel) (Nat.le_of_ble_eq_true rfl) rfl ?_
  refine A_iload_n 1 d_Beams_eventsIn_0 rfl rfl ?_
  refine A_if_lt (tgt := 30) d_Beams_eventsIn_1 (by decide) (fun c1 => ?_) (fun c1 => ?_)
  · refine A_iconst d_Beams_eventsIn_30 rfl ?_
    exact A_iret d_Beams_eventsIn_31 (by decide) rfl ⟨rfl, rfl⟩
  · refine A_iload_n 1 d_Beams_eventsIn_4 rfl rfl ?_
    refine A_aload_n 0 d_Beams_eventsIn_5 rfl rfl ?_
    refine A_getIv (z := 0) T_ok d_Beams_eventsIn_6 f_Beams_21 s_146 rI_146_1 ?_
    refine A_icmp_ge (tgt := 30) d_Beams_eventsIn_9 (by decide) (fun c2 => ?_) (fun c2 => False.elim (by omega))
    refine A_iconst d_Beams_eventsIn_30 rfl ?_
    exact A_iret d_Beams_eventsIn_31 (by decide) rfl ⟨rfl, rfl⟩
theorem t_x_group {G : cx_T} (h : ah_T) (hw : eqr 0 170 h) (vi : Int) : con G 1 0 0 m_PM_group [av_R (some 0), av_I vi] h (fun r h' => (∃ v : Int, r = some (av_I v) ∧ v = 0) ∧ frm 170 h h') := by
  refine con_of (L := [some (av_R (some 0)), some (av_I vi)]) (by decide +kernel) (Nat.le_of_ble_eq_true rfl) rfl ?_
  refine A_aload_n 0 d_PM_group_0 rfl rfl ?_
  refine A_getOv (z := (some 146)) T_ok d_PM_group_1 f_PM_44 (sb_s hw q_s_0) (rb_R hw (by decide) (by decide) q_R_0_6) ?_
  refine A_iload_n 1 d_PM_group_4 rfl rfl ?_
  refine A_callV1 m_Beams_eventsIn T_ok d_PM_group_5 l_PM_168 k_Beams_eventsIn (sb_s hw q_s_146) rfl (by decide) (by decide) (Nat.le_of_ble_eq_true rfl) (c_Beams_eventsIn_a1 h _ (sb_s hw q_s_146) (rb_I hw (by decide) (by decide) q_I_146_1)) (fun r hx hq => ?_)
  obtain ⟨rfl, rfl⟩ := hq
  exact A_iret d_PM_group_8 (by decide) rfl ⟨⟨0, rfl, by (try unfold w32); omega⟩, (fr_0 _ _)⟩
theorem t_x_breaks {G : cx_T} (h : ah_T) (hw : eqr 0 170 h) (vn : Int) : con G 6 0 0 m_PM_breaks [av_R (some 0), av_I vn] h (fun r h' => (∃ v : Int, r = some (av_I v) ∧ (vn < 1 ∨ 1000 < vn → v = -1) ∧ (¬ (vn < 1 ∨ 1000 < vn) → v = -2)) ∧ frm 170 h h') := by
  refine con_of (L := [some (av_R (some 0)), some (av_I vn)]) (by decide +kernel) (Nat.le_of_ble_eq_true rfl) rfl ?_
  refine A_iload_n 1 d_PM_breaks_0 rfl rfl ?_
  refine A_iconst d_PM_breaks_1 rfl ?_
  refine A_icmp_lt (tgt := 12) d_PM_breaks_2 (by decide) (fun c1 => ?_) (fun c1 => ?_)
  · refine A_iconst d_PM_breaks_12 rfl ?_
    exact A_iret d_PM_breaks_13 (by decide) rfl ⟨⟨(-1), rfl, by (try unfold w32); omega⟩, (fr_0 _ _)⟩
  · refine A_iload_n 1 d_PM_breaks_5 rfl rfl ?_
    refine A_sipush d_PM_breaks_6 rfl ?_
    refine A_icmp_le (tgt := 14) d_PM_breaks_9 (by decide) (fun c2 => ?_) (fun c2 => ?_)
    · refine A_aload_n 0 d_PM_breaks_14 rfl rfl ?_
      refine A_getOv (z := (some 80)) T_ok d_PM_breaks_15 f_PM_27 (sb_s hw q_s_0) (rb_R hw (by decide) (by decide) q_R_0_3) ?_
      refine A_getIv (z := 0) T_ok d_PM_breaks_18 f_PM_104 (sb_s hw q_s_80) (rb_I hw (by decide) (by decide) q_I_80_1) ?_
      refine A_if_ne (tgt := 27) d_PM_breaks_21 (by decide) (fun c3 => absurd c3 (by decide)) (fun c3 => ?_)
      refine A_bipush d_PM_breaks_24 rfl ?_
      exact A_iret d_PM_breaks_26 (by decide) rfl ⟨⟨(-2), rfl, by (try unfold w32); omega⟩, (fr_0 _ _)⟩
    · refine A_iconst d_PM_breaks_12 rfl ?_
      exact A_iret d_PM_breaks_13 (by decide) rfl ⟨⟨(-1), rfl, by (try unfold w32); omega⟩, (fr_0 _ _)⟩
theorem c_Page_barsIn_a1 {G : cx_T} (h : ah_T) (vi : Int) (s_150 : h.1[150]? = some (2 + 4, 8)) (rI_150_1 : h.2.1 150 1 = 0) : con G 0 0 0 m_Page_barsIn [av_R (some 150), av_I vi] h (fun r h' => r = some (av_I 0) ∧ h = h') := by
  refine con_of (L := [some (av_R (some 150)), some (av_I vi)]) (by decide +kernel) (Nat.le_of_ble_eq_true rfl) rfl ?_
  refine A_iload_n 1 d_Page_barsIn_0 rfl rfl ?_
  refine A_if_lt (tgt := 30) d_Page_barsIn_1 (by decide) (fun c1 => ?_) (fun c1 => ?_)
  · refine A_iconst d_Page_barsIn_30 rfl ?_
    exact A_iret d_Page_barsIn_31 (by decide) rfl ⟨rfl, rfl⟩
  · refine A_iload_n 1 d_Page_barsIn_4 rfl rfl ?_
    refine A_aload_n 0 d_Page_barsIn_5 rfl rfl ?_
    refine A_getIv (z := 0) T_ok d_Page_barsIn_6 f_Page_34 s_150 rI_150_1 ?_
    refine A_icmp_ge (tgt := 30) d_Page_barsIn_9 (by decide) (fun c2 => ?_) (fun c2 => False.elim (by omega))
    refine A_iconst d_Page_barsIn_30 rfl ?_
    exact A_iret d_Page_barsIn_31 (by decide) rfl ⟨rfl, rfl⟩
theorem t_x_line {G : cx_T} (h : ah_T) (hw : eqr 0 170 h) (vi : Int) : con G 1 0 0 m_PM_line [av_R (some 0), av_I vi] h (fun r h' => (∃ v : Int, r = some (av_I v) ∧ v = 0) ∧ frm 170 h h') := by
  refine con_of (L := [some (av_R (some 0)), some (av_I vi)]) (by decide +kernel) (Nat.le_of_ble_eq_true rfl) rfl ?_
  refine A_aload_n 0 d_PM_line_0 rfl rfl ?_
  refine A_getOv (z := (some 150)) T_ok d_PM_line_1 f_PM_51 (sb_s hw q_s_0) (rb_R hw (by decide) (by decide) q_R_0_7) ?_
  refine A_iload_n 1 d_PM_line_4 rfl rfl ?_
  refine A_callV1 m_Page_barsIn T_ok d_PM_line_5 l_PM_174 k_Page_barsIn (sb_s hw q_s_150) rfl (by decide) (by decide) (Nat.le_of_ble_eq_true rfl) (c_Page_barsIn_a1 h _ (sb_s hw q_s_150) (rb_I hw (by decide) (by decide) q_I_150_1)) (fun r hx hq => ?_)
  obtain ⟨rfl, rfl⟩ := hq
  exact A_iret d_PM_line_8 (by decide) rfl ⟨⟨0, rfl, by (try unfold w32); omega⟩, (fr_0 _ _)⟩
theorem c_Score_mostBars_a2 {G : cx_T} (h : ah_T)  (s_80 : h.1[80]? = some (6 + 4, 13)) (rI_80_1 : h.2.1 80 1 = 0) : con G 1 0 0 m_Score_mostBars [av_R (some 80)] h (fun r h' => r = some (av_I 0) ∧ h = h') := by
  refine con_of (L := [some (av_R (some 80)), none, none, none]) (by decide +kernel) (Nat.le_of_ble_eq_true rfl) rfl ?_
  refine A_iconst d_Score_mostBars_0 rfl ?_
  refine A_istore_n 1 (L' := [some (av_R (some 80)), some (av_I 0), none, none]) d_Score_mostBars_1 rfl (Nat.le_of_ble_eq_true rfl) rfl ?_
  refine A_iconst d_Score_mostBars_2 rfl ?_
  refine A_istore_n 2 (L' := [some (av_R (some 80)), some (av_I 0), some (av_I 0), none]) d_Score_mostBars_3 rfl (Nat.le_of_ble_eq_true rfl) rfl ?_
  refine A_iload_n 2 d_Score_mostBars_4 rfl rfl ?_
  refine A_pc (pc' := 5) rfl ?_
  refine A_aload_n 0 d_Score_mostBars_5 rfl rfl ?_
  refine A_getIv (z := 0) T_ok d_Score_mostBars_6 f_Score_41 s_80 rI_80_1 ?_
  refine A_icmp_ge (tgt := 41) d_Score_mostBars_9 (by decide) (fun c1 => ?_) (fun c1 => absurd c1 (by decide))
  refine A_iload_n 1 d_Score_mostBars_41 rfl rfl ?_
  exact A_iret d_Score_mostBars_42 (by decide) rfl ⟨rfl, rfl⟩
theorem t_x_width {G : cx_T} (h : ah_T) (hw : eqr 0 170 h) (vb : Int) : con G 5 0 0 m_PM_width [av_R (some 0), av_I vb] h (fun r h' => (∃ v : Int, r = some (av_I v) ∧ v = -1) ∧ frm 170 h h') := by
  refine con_of (L := [some (av_R (some 0)), some (av_I vb)]) (by decide +kernel) (Nat.le_of_ble_eq_true rfl) rfl ?_
  refine A_iload_n 1 d_PM_width_0 rfl rfl ?_
  refine A_if_lt (tgt := 15) d_PM_width_1 (by decide) (fun c1 => ?_) (fun c1 => ?_)
  · refine A_iconst d_PM_width_15 rfl ?_
    exact A_iret d_PM_width_16 (by decide) rfl ⟨⟨(-1), rfl, by (try unfold w32); omega⟩, (fr_0 _ _)⟩
  · refine A_iload_n 1 d_PM_width_4 rfl rfl ?_
    refine A_aload_n 0 d_PM_width_5 rfl rfl ?_
    refine A_getOv (z := (some 80)) T_ok d_PM_width_6 f_PM_27 (sb_s hw q_s_0) (rb_R hw (by decide) (by decide) q_R_0_3) ?_
    refine A_callV0 m_Score_mostBars T_ok d_PM_width_9 l_PM_116 k_Score_mostBars (sb_s hw q_s_80) rfl (by decide) (by decide) (Nat.le_of_ble_eq_true rfl) (c_Score_mostBars_a2 h (sb_s hw q_s_80) (rb_I hw (by decide) (by decide) q_I_80_1)) (fun r hx hq => ?_)
    obtain ⟨rfl, rfl⟩ := hq
    refine A_icmp_lt (tgt := 17) d_PM_width_12 (by decide) (fun c2 => False.elim (by omega)) (fun c2 => ?_)
    refine A_iconst d_PM_width_15 rfl ?_
    exact A_iret d_PM_width_16 (by decide) rfl ⟨⟨(-1), rfl, by (try unfold w32); omega⟩, (fr_0 _ _)⟩
theorem t_x_lines {G : cx_T} (h : ah_T) (hw : eqr 0 170 h) (vn vm vr : Int) : con G 5 0 0 m_PM_lines [av_R (some 0), av_I vn, av_I vm, av_I vr] h (fun r h' => (∃ v : Int, r = some (av_I v) ∧ (vn < 0 ∨ 120 < vm ∨ vm < vn ∨ vr < 0 ∨ 511 < vr → v = -1) ∧ (¬ (vn < 0 ∨ 120 < vm ∨ vm < vn ∨ vr < 0 ∨ 511 < vr) → v = -2)) ∧ frm 170 h h') := by
  refine con_of (L := [some (av_R (some 0)), some (av_I vn), some (av_I vm), some (av_I vr)]) (by decide +kernel) (Nat.le_of_ble_eq_true rfl) rfl ?_
  refine A_iload_n 1 d_PM_lines_0 rfl rfl ?_
  refine A_if_lt (tgt := 26) d_PM_lines_1 (by decide) (fun c1 => ?_) (fun c1 => ?_)
  · refine A_iconst d_PM_lines_26 rfl ?_
    exact A_iret d_PM_lines_27 (by decide) rfl ⟨⟨(-1), rfl, by (try unfold w32); omega⟩, (fr_0 _ _)⟩
  · refine A_iload_n 2 d_PM_lines_4 rfl rfl ?_
    refine A_bipush d_PM_lines_5 rfl ?_
    refine A_icmp_gt (tgt := 26) d_PM_lines_7 (by decide) (fun c2 => ?_) (fun c2 => ?_)
    · refine A_iconst d_PM_lines_26 rfl ?_
      exact A_iret d_PM_lines_27 (by decide) rfl ⟨⟨(-1), rfl, by (try unfold w32); omega⟩, (fr_0 _ _)⟩
    · refine A_iload_n 1 d_PM_lines_10 rfl rfl ?_
      refine A_iload_n 2 d_PM_lines_11 rfl rfl ?_
      refine A_icmp_gt (tgt := 26) d_PM_lines_12 (by decide) (fun c3 => ?_) (fun c3 => ?_)
      · refine A_iconst d_PM_lines_26 rfl ?_
        exact A_iret d_PM_lines_27 (by decide) rfl ⟨⟨(-1), rfl, by (try unfold w32); omega⟩, (fr_0 _ _)⟩
      · refine A_iload_n 3 d_PM_lines_15 rfl rfl ?_
        refine A_if_lt (tgt := 26) d_PM_lines_16 (by decide) (fun c4 => ?_) (fun c4 => ?_)
        · refine A_iconst d_PM_lines_26 rfl ?_
          exact A_iret d_PM_lines_27 (by decide) rfl ⟨⟨(-1), rfl, by (try unfold w32); omega⟩, (fr_0 _ _)⟩
        · refine A_iload_n 3 d_PM_lines_19 rfl rfl ?_
          refine A_sipush d_PM_lines_20 rfl ?_
          refine A_icmp_le (tgt := 28) d_PM_lines_23 (by decide) (fun c5 => ?_) (fun c5 => ?_)
          · refine A_aload_n 0 d_PM_lines_28 rfl rfl ?_
            refine A_getOv (z := (some 80)) T_ok d_PM_lines_29 f_PM_27 (sb_s hw q_s_0) (rb_R hw (by decide) (by decide) q_R_0_3) ?_
            refine A_getIv (z := 0) T_ok d_PM_lines_32 f_PM_107 (sb_s hw q_s_80) (rb_I hw (by decide) (by decide) q_I_80_6) ?_
            refine A_if_ne (tgt := 41) d_PM_lines_35 (by decide) (fun c6 => absurd c6 (by decide)) (fun c6 => ?_)
            refine A_bipush d_PM_lines_38 rfl ?_
            exact A_iret d_PM_lines_40 (by decide) rfl ⟨⟨(-2), rfl, by (try unfold w32); omega⟩, (fr_0 _ _)⟩
          · refine A_iconst d_PM_lines_26 rfl ?_
            exact A_iret d_PM_lines_27 (by decide) rfl ⟨⟨(-1), rfl, by (try unfold w32); omega⟩, (fr_0 _ _)⟩
theorem c_Seconds_keyIn_a1 {G : cx_T} (h : ah_T) (vk : Int) (vi : Int) (s_158 : h.1[158]? = some (7 + 4, 8)) (rI_158_1 : h.2.1 158 1 = 0) : con G 2 0 0 m_Seconds_keyIn [av_R (some 158), av_I vk, av_I vi] h (fun r h' => r = some (av_I (-1)) ∧ h = h') := by
  refine con_of (L := [some (av_R (some 158)), some (av_I vk), some (av_I vi), none, none]) (by decide +kernel) (Nat.le_of_ble_eq_true rfl) rfl ?_
  refine A_iload_n 1 d_Seconds_keyIn_0 rfl rfl ?_
  refine A_if_lt (tgt := 32) d_Seconds_keyIn_1 (by decide) (fun c1 => ?_) (fun c1 => ?_)
  · refine A_iconst d_Seconds_keyIn_32 rfl ?_
    exact A_iret d_Seconds_keyIn_33 (by decide) rfl ⟨rfl, rfl⟩
  · refine A_iload_n 1 d_Seconds_keyIn_4 rfl rfl ?_
    refine A_aload_n 0 d_Seconds_keyIn_5 rfl rfl ?_
    refine A_getIv (z := 0) T_ok d_Seconds_keyIn_6 f_Seconds_22 s_158 rI_158_1 ?_
    refine A_icmp_ge (tgt := 32) d_Seconds_keyIn_9 (by decide) (fun c2 => ?_) (fun c2 => False.elim (by omega))
    refine A_iconst d_Seconds_keyIn_32 rfl ?_
    exact A_iret d_Seconds_keyIn_33 (by decide) rfl ⟨rfl, rfl⟩
theorem t_x_second {G : cx_T} (h : ah_T) (hw : eqr 0 170 h) (vk vi : Int) : con G 3 0 0 m_PM_second [av_R (some 0), av_I vk, av_I vi] h (fun r h' => (∃ v : Int, r = some (av_I v) ∧ v = -1) ∧ frm 170 h h') := by
  refine con_of (L := [some (av_R (some 0)), some (av_I vk), some (av_I vi)]) (by decide +kernel) (Nat.le_of_ble_eq_true rfl) rfl ?_
  refine A_aload_n 0 d_PM_second_0 rfl rfl ?_
  refine A_getOv (z := (some 158)) T_ok d_PM_second_1 f_PM_58 (sb_s hw q_s_0) (rb_R hw (by decide) (by decide) q_R_0_8) ?_
  refine A_iload_n 1 d_PM_second_4 rfl rfl ?_
  refine A_iload_n 2 d_PM_second_5 rfl rfl ?_
  refine A_callV2 m_Seconds_keyIn T_ok d_PM_second_6 l_PM_183 k_Seconds_keyIn (sb_s hw q_s_158) rfl (by decide) (by decide) (Nat.le_of_ble_eq_true rfl) (c_Seconds_keyIn_a1 h _ _ (sb_s hw q_s_158) (rb_I hw (by decide) (by decide) q_I_158_1)) (fun r hx hq => ?_)
  obtain ⟨rfl, rfl⟩ := hq
  exact A_iret d_PM_second_9 (by decide) rfl ⟨⟨(-1), rfl, by (try unfold w32); omega⟩, (fr_0 _ _)⟩
theorem t_x_readings {G : cx_T} (h : ah_T) (hw : eqr 0 170 h) : con G 6 0 0 m_PM_readings [av_R (some 0)] h (fun r h' => (∃ v : Int, r = some (av_I v) ∧ v = -2) ∧ frm 170 h h') := by
  refine con_of (L := [some (av_R (some 0))]) (by decide +kernel) (Nat.le_of_ble_eq_true rfl) rfl ?_
  refine A_aload_n 0 d_PM_readings_0 rfl rfl ?_
  refine A_getOv (z := (some 80)) T_ok d_PM_readings_1 f_PM_27 (sb_s hw q_s_0) (rb_R hw (by decide) (by decide) q_R_0_3) ?_
  refine A_getIv (z := 0) T_ok d_PM_readings_4 f_PM_110 (sb_s hw q_s_80) (rb_I hw (by decide) (by decide) q_I_80_10) ?_
  refine A_if_eq (tgt := 20) d_PM_readings_7 (by decide) (fun c1 => ?_) (fun c1 => absurd c1 (by decide))
  refine A_bipush d_PM_readings_20 rfl ?_
  exact A_iret d_PM_readings_22 (by decide) rfl ⟨⟨(-2), rfl, by (try unfold w32); omega⟩, (fr_0 _ _)⟩
theorem c_Trees_ruleIn_a1 {G : cx_T} (h : ah_T) (vk : Int) (vi : Int) (s_162 : h.1[162]? = some (9 + 4, 6)) (rI_162_1 : h.2.1 162 1 = 0) : con G 5 0 0 m_Trees_ruleIn [av_R (some 162), av_R (some 80), av_I vk, av_I vi] h (fun r h' => r = some (av_I (-1)) ∧ h = h') := by
  refine con_of (L := [some (av_R (some 162)), some (av_R (some 80)), some (av_I vk), some (av_I vi), none, none, none, none, none, none]) (by decide +kernel) (Nat.le_of_ble_eq_true rfl) rfl ?_
  refine A_iload_n 2 d_Trees_ruleIn_0 rfl rfl ?_
  refine A_if_lt (tgt := 28) d_Trees_ruleIn_1 (by decide) (fun c1 => ?_) (fun c1 => ?_)
  · refine A_iconst d_Trees_ruleIn_28 rfl ?_
    exact A_iret d_Trees_ruleIn_29 (by decide) rfl ⟨rfl, rfl⟩
  · refine A_iload_n 2 d_Trees_ruleIn_4 rfl rfl ?_
    refine A_aload_n 0 d_Trees_ruleIn_5 rfl rfl ?_
    refine A_getIv (z := 0) T_ok d_Trees_ruleIn_6 f_Trees_15 s_162 rI_162_1 ?_
    refine A_icmp_ge (tgt := 28) d_Trees_ruleIn_9 (by decide) (fun c2 => ?_) (fun c2 => False.elim (by omega))
    refine A_iconst d_Trees_ruleIn_28 rfl ?_
    exact A_iret d_Trees_ruleIn_29 (by decide) rfl ⟨rfl, rfl⟩
theorem t_x_tree {G : cx_T} (h : ah_T) (hw : eqr 0 170 h) (vk vi : Int) : con G 6 0 0 m_PM_tree [av_R (some 0), av_I vk, av_I vi] h (fun r h' => (∃ v : Int, r = some (av_I v) ∧ v = -1) ∧ frm 170 h h') := by
  refine con_of (L := [some (av_R (some 0)), some (av_I vk), some (av_I vi)]) (by decide +kernel) (Nat.le_of_ble_eq_true rfl) rfl ?_
  refine A_aload_n 0 d_PM_tree_0 rfl rfl ?_
  refine A_getOv (z := (some 162)) T_ok d_PM_tree_1 f_PM_65 (sb_s hw q_s_0) (rb_R hw (by decide) (by decide) q_R_0_9) ?_
  refine A_aload_n 0 d_PM_tree_4 rfl rfl ?_
  refine A_getOv (z := (some 80)) T_ok d_PM_tree_5 f_PM_27 (sb_s hw q_s_0) (rb_R hw (by decide) (by decide) q_R_0_3) ?_
  refine A_iload_n 1 d_PM_tree_8 rfl rfl ?_
  refine A_pc (pc' := 9) rfl ?_
  refine A_iload_n 2 d_PM_tree_9 rfl rfl ?_
  refine A_callV3 m_Trees_ruleIn T_ok d_PM_tree_10 l_PM_188 k_Trees_ruleIn (sb_s hw q_s_162) rfl (by decide) (by decide) (Nat.le_of_ble_eq_true rfl) (c_Trees_ruleIn_a1 h _ _ (sb_s hw q_s_162) (rb_I hw (by decide) (by decide) q_I_162_1)) (fun r hx hq => ?_)
  obtain ⟨rfl, rfl⟩ := hq
  exact A_iret d_PM_tree_13 (by decide) rfl ⟨⟨(-1), rfl, by (try unfold w32); omega⟩, (fr_0 _ _)⟩
theorem c_Score_voiceAt_a4 {G : cx_T} (h : ah_T) (vn : Int) (s_80 : h.1[80]? = some (6 + 4, 13)) (rI_80_1 : h.2.1 80 1 = 0) : con G 0 0 0 m_Score_voiceAt [av_R (some 80), av_I vn] h (fun r h' => r = some (av_R none) ∧ h = h') := by
  refine con_of (L := [some (av_R (some 80)), some (av_I vn)]) (by decide +kernel) (Nat.le_of_ble_eq_true rfl) rfl ?_
  refine A_iload_n 1 d_Score_voiceAt_0 rfl rfl ?_
  refine A_if_lt (tgt := 30) d_Score_voiceAt_1 (by decide) (fun c1 => ?_) (fun c1 => ?_)
  · refine A_null d_Score_voiceAt_30 ?_
    exact A_aret d_Score_voiceAt_31 (by decide) rfl ty_o ⟨rfl, rfl⟩
  · refine A_iload_n 1 d_Score_voiceAt_4 rfl rfl ?_
    refine A_aload_n 0 d_Score_voiceAt_5 rfl rfl ?_
    refine A_getIv (z := 0) T_ok d_Score_voiceAt_6 f_Score_41 s_80 rI_80_1 ?_
    refine A_icmp_ge (tgt := 30) d_Score_voiceAt_9 (by decide) (fun c2 => ?_) (fun c2 => False.elim (by omega))
    refine A_null d_Score_voiceAt_30 ?_
    exact A_aret d_Score_voiceAt_31 (by decide) rfl ty_o ⟨rfl, rfl⟩
theorem c_Score_voiceAt_a5 {G : cx_T} (h : ah_T) (vw : Int) (s_80 : h.1[80]? = some (6 + 4, 13)) (rI_80_1 : h.2.1 80 1 = 0) : con G 0 0 0 m_Score_voiceAt [av_R (some 80), av_I vw] h (fun r h' => r = some (av_R none) ∧ h = h') := by
  refine con_of (L := [some (av_R (some 80)), some (av_I vw)]) (by decide +kernel) (Nat.le_of_ble_eq_true rfl) rfl ?_
  refine A_iload_n 1 d_Score_voiceAt_0 rfl rfl ?_
  refine A_if_lt (tgt := 30) d_Score_voiceAt_1 (by decide) (fun c1 => ?_) (fun c1 => ?_)
  · refine A_null d_Score_voiceAt_30 ?_
    exact A_aret d_Score_voiceAt_31 (by decide) rfl ty_o ⟨rfl, rfl⟩
  · refine A_iload_n 1 d_Score_voiceAt_4 rfl rfl ?_
    refine A_aload_n 0 d_Score_voiceAt_5 rfl rfl ?_
    refine A_getIv (z := 0) T_ok d_Score_voiceAt_6 f_Score_41 s_80 rI_80_1 ?_
    refine A_icmp_ge (tgt := 30) d_Score_voiceAt_9 (by decide) (fun c2 => ?_) (fun c2 => False.elim (by omega))
    refine A_null d_Score_voiceAt_30 ?_
    exact A_aret d_Score_voiceAt_31 (by decide) rfl ty_o ⟨rfl, rfl⟩
theorem t_x_beside {G : cx_T} (h : ah_T) (hw : eqr 0 170 h) (vn vw : Int) : con G 6 0 0 m_PM_beside [av_R (some 0), av_I vn, av_I vw] h (fun r h' => (∃ v : Int, r = some (av_I v) ∧ v = -1) ∧ frm 170 h h') := by
  refine con_of (L := [some (av_R (some 0)), some (av_I vn), some (av_I vw), none, none]) (by decide +kernel) (Nat.le_of_ble_eq_true rfl) rfl ?_
  refine A_aload_n 0 d_PM_beside_0 rfl rfl ?_
  refine A_getOv (z := (some 80)) T_ok d_PM_beside_1 f_PM_27 (sb_s hw q_s_0) (rb_R hw (by decide) (by decide) q_R_0_3) ?_
  refine A_iload_n 1 d_PM_beside_4 rfl rfl ?_
  refine A_callV1 m_Score_voiceAt T_ok d_PM_beside_5 l_PM_125 k_Score_voiceAt (sb_s hw q_s_80) rfl (by decide) (by decide) (Nat.le_of_ble_eq_true rfl) (c_Score_voiceAt_a4 h _ (sb_s hw q_s_80) (rb_I hw (by decide) (by decide) q_I_80_1)) (fun r hx hq => ?_)
  obtain ⟨rfl, rfl⟩ := hq
  refine A_astore_n 3 (L' := [some (av_R (some 0)), some (av_I vn), some (av_I vw), some (av_R none), none]) d_PM_beside_8 rfl (Nat.le_of_ble_eq_true rfl) rfl ?_
  refine A_aload_n 0 d_PM_beside_9 rfl rfl ?_
  refine A_getOv (z := (some 80)) T_ok d_PM_beside_10 f_PM_27 (sb_s hw q_s_0) (rb_R hw (by decide) (by decide) q_R_0_3) ?_
  refine A_iload_n 2 d_PM_beside_13 rfl rfl ?_
  refine A_callV1 m_Score_voiceAt T_ok d_PM_beside_14 l_PM_125 k_Score_voiceAt (sb_s hw q_s_80) rfl (by decide) (by decide) (Nat.le_of_ble_eq_true rfl) (c_Score_voiceAt_a5 h _ (sb_s hw q_s_80) (rb_I hw (by decide) (by decide) q_I_80_1)) (fun r hx hq => ?_)
  obtain ⟨rfl, rfl⟩ := hq
  refine A_astore (L' := [some (av_R (some 0)), some (av_I vn), some (av_I vw), some (av_R none), some (av_R none)]) d_PM_beside_17 (Nat.le_of_ble_eq_true rfl) rfl ?_
  refine A_aload_n 3 d_PM_beside_19 rfl rfl ?_
  refine A_ifnull (tgt := 28) d_PM_beside_20 (by decide) (fun _ => ?_) (fun a q => by cases q)
  refine A_iconst d_PM_beside_28 rfl ?_
  exact A_iret d_PM_beside_29 (by decide) rfl ⟨⟨(-1), rfl, by (try unfold w32); omega⟩, (fr_0 _ _)⟩
theorem c_Pairing_partnerOf_a1 {G : cx_T} (h : ah_T) (vi : Int) (s_164 : h.1[164]? = some (3 + 4, 8)) (rI_164_5 : h.2.1 164 5 = 0) : con G 0 0 0 m_Pairing_partnerOf [av_R (some 164), av_I vi] h (fun r h' => r = some (av_I (-1)) ∧ h = h') := by
  refine con_of (L := [some (av_R (some 164)), some (av_I vi)]) (by decide +kernel) (Nat.le_of_ble_eq_true rfl) rfl ?_
  refine A_iload_n 1 d_Pairing_partnerOf_0 rfl rfl ?_
  refine A_if_lt (tgt := 30) d_Pairing_partnerOf_1 (by decide) (fun c1 => ?_) (fun c1 => ?_)
  · refine A_iconst d_Pairing_partnerOf_30 rfl ?_
    exact A_iret d_Pairing_partnerOf_31 (by decide) rfl ⟨rfl, rfl⟩
  · refine A_iload_n 1 d_Pairing_partnerOf_4 rfl rfl ?_
    refine A_aload_n 0 d_Pairing_partnerOf_5 rfl rfl ?_
    refine A_getIv (z := 0) T_ok d_Pairing_partnerOf_6 f_Pairing_27 s_164 rI_164_5 ?_
    refine A_icmp_ge (tgt := 30) d_Pairing_partnerOf_9 (by decide) (fun c2 => ?_) (fun c2 => False.elim (by omega))
    refine A_iconst d_Pairing_partnerOf_30 rfl ?_
    exact A_iret d_Pairing_partnerOf_31 (by decide) rfl ⟨rfl, rfl⟩
theorem t_x_partner {G : cx_T} (h : ah_T) (hw : eqr 0 170 h) (vi : Int) : con G 1 0 0 m_PM_partner [av_R (some 0), av_I vi] h (fun r h' => (∃ v : Int, r = some (av_I v) ∧ v = -1) ∧ frm 170 h h') := by
  refine con_of (L := [some (av_R (some 0)), some (av_I vi)]) (by decide +kernel) (Nat.le_of_ble_eq_true rfl) rfl ?_
  refine A_aload_n 0 d_PM_partner_0 rfl rfl ?_
  refine A_getOv (z := (some 164)) T_ok d_PM_partner_1 f_PM_72 (sb_s hw q_s_0) (rb_R hw (by decide) (by decide) q_R_0_10) ?_
  refine A_iload_n 1 d_PM_partner_4 rfl rfl ?_
  refine A_callV1 m_Pairing_partnerOf T_ok d_PM_partner_5 l_PM_195 k_Pairing_partnerOf (sb_s hw q_s_164) rfl (by decide) (by decide) (Nat.le_of_ble_eq_true rfl) (c_Pairing_partnerOf_a1 h _ (sb_s hw q_s_164) (rb_I hw (by decide) (by decide) q_I_164_5)) (fun r hx hq => ?_)
  obtain ⟨rfl, rfl⟩ := hq
  exact A_iret d_PM_partner_8 (by decide) rfl ⟨⟨(-1), rfl, by (try unfold w32); omega⟩, (fr_0 _ _)⟩
theorem t_x_ways {G : cx_T} (h : ah_T) (hw : eqr 0 170 h) : con G 0 0 0 m_PM_ways [av_R (some 0)] h (fun r h' => (∃ v : Int, r = some (av_I v) ∧ v = 0) ∧ frm 170 h h') := by
  refine con_of (L := [some (av_R (some 0))]) (by decide +kernel) (Nat.le_of_ble_eq_true rfl) rfl ?_
  refine A_aload_n 0 d_PM_ways_0 rfl rfl ?_
  refine A_getOv (z := (some 164)) T_ok d_PM_ways_1 f_PM_72 (sb_s hw q_s_0) (rb_R hw (by decide) (by decide) q_R_0_10) ?_
  refine A_getIv (z := 0) T_ok d_PM_ways_4 f_PM_198 (sb_s hw q_s_164) (rb_I hw (by decide) (by decide) q_I_164_7) ?_
  exact A_iret d_PM_ways_7 (by decide) rfl ⟨⟨0, rfl, by (try unfold w32); omega⟩, (fr_0 _ _)⟩
theorem t_x_sample {G : cx_T} (h : ah_T) (hw : eqr 0 170 h) (vn vr : Int) : con G 5 0 0 m_PM_sample [av_R (some 0), av_I vn, av_I vr] h (fun r h' => r = some (av_D FP.dconst0) ∧ frm 170 h h') := by
  refine con_of (L := [some (av_R (some 0)), some (av_I vn), some (av_I vr), none, none, none, none]) (by decide +kernel) (Nat.le_of_ble_eq_true rfl) rfl ?_
  refine A_dconst_0 d_PM_sample_0 ?_
  refine A_dstore_n 3 (L' := [some (av_R (some 0)), some (av_I vn), some (av_I vr), some (av_D FP.dconst0), none, none, none]) d_PM_sample_1 rfl (Nat.le_of_ble_eq_true rfl) rfl ?_
  refine A_iload_n 1 d_PM_sample_2 rfl rfl ?_
  refine A_if_lt (tgt := 18) d_PM_sample_3 (by decide) (fun c1 => ?_) (fun c1 => ?_)
  · refine A_dload_n 3 d_PM_sample_18 rfl rfl ?_
    exact A_dret d_PM_sample_19 (by decide) rfl ⟨rfl, (fr_0 _ _)⟩
  · refine A_iload_n 2 d_PM_sample_6 rfl rfl ?_
    refine A_iconst d_PM_sample_7 rfl ?_
    refine A_icmp_lt (tgt := 18) d_PM_sample_8 (by decide) (fun c2 => ?_) (fun c2 => ?_)
    · refine A_dload_n 3 d_PM_sample_18 rfl rfl ?_
      exact A_dret d_PM_sample_19 (by decide) rfl ⟨rfl, (fr_0 _ _)⟩
    · refine A_iload_n 2 d_PM_sample_11 rfl rfl ?_
      refine A_sipush d_PM_sample_12 rfl ?_
      refine A_icmp_le (tgt := 20) d_PM_sample_15 (by decide) (fun c3 => ?_) (fun c3 => ?_)
      · refine A_iconst d_PM_sample_20 rfl ?_
        refine A_istore (L' := [some (av_R (some 0)), some (av_I vn), some (av_I vr), some (av_D FP.dconst0), none, some (av_I 0), none]) d_PM_sample_21 (Nat.le_of_ble_eq_true rfl) rfl ?_
        refine A_iload d_PM_sample_23 rfl ?_
        refine A_aload_n 0 d_PM_sample_25 rfl rfl ?_
        refine A_getOv (z := (some 80)) T_ok d_PM_sample_26 f_PM_27 (sb_s hw q_s_0) (rb_R hw (by decide) (by decide) q_R_0_3) ?_
        refine A_pc (pc' := 29) rfl ?_
        refine A_getIv (z := 0) T_ok d_PM_sample_29 f_PM_104 (sb_s hw q_s_80) (rb_I hw (by decide) (by decide) q_I_80_1) ?_
        refine A_icmp_ge (tgt := 66) d_PM_sample_32 (by decide) (fun c4 => ?_) (fun c4 => absurd c4 (by decide))
        refine A_dload_n 3 d_PM_sample_66 rfl rfl ?_
        exact A_dret d_PM_sample_67 (by decide) rfl ⟨rfl, (fr_0 _ _)⟩
      · refine A_dload_n 3 d_PM_sample_18 rfl rfl ?_
        exact A_dret d_PM_sample_19 (by decide) rfl ⟨rfl, (fr_0 _ _)⟩
theorem c_MD_lay_a1 {G : cx_T} (h : ah_T) (va : Int) (s_170 : h.1[170]? = some (12 + 4, 111)) (rR_170_0 : h.2.2.2 170 0 = some 171) (rI_170_1 : h.2.1 170 1 = 0) (s_171 : h.1[171]? = some (0, 2000)) : con G 0 0 0 m_MD_lay [av_R (some 170), av_I va] h (fun r h' => ∃ b3 : Int, ∃ b8 : Int, ∃ b13 : Int, ∃ b18 : Int, ∃ h4 : ah_T, ∃ h5 : ah_T, ∃ h9 : ah_T, ∃ h10 : ah_T, ∃ h14 : ah_T, ∃ h15 : ah_T, ∃ h19 : ah_T, h4 = st_i h 171 0 b3 ∧ h5 = st_i h4 170 1 1 ∧ h9 = st_i h5 171 1 b8 ∧ h10 = st_i h9 170 1 2 ∧ h14 = st_i h10 171 2 b13 ∧ h15 = st_i h14 170 1 3 ∧ h19 = st_i h15 171 3 b18 ∧ h' = st_i h19 170 1 4 ∧ r = none) := by
  refine con_of (L := [some (av_R (some 170)), some (av_I va), none]) (by decide +kernel) (Nat.le_of_ble_eq_true rfl) rfl ?_
  refine A_bipush d_MD_lay_0 rfl ?_
  refine A_istore_n 2 (L' := [some (av_R (some 170)), some (av_I va), some (av_I 24)]) d_MD_lay_2 rfl (Nat.le_of_ble_eq_true rfl) rfl ?_
  refine A_iload_n 2 d_MD_lay_3 rfl rfl ?_
  refine A_if_lt (tgt := 39) d_MD_lay_4 (by decide) (fun c1 => absurd c1 (by decide)) (fun c1 => ?_)
  refine A_aload_n 0 d_MD_lay_7 rfl rfl ?_
  refine A_getAv (z := (some 171)) T_ok d_MD_lay_8 f_MD_7 s_170 rR_170_0 ?_
  refine A_aload_n 0 d_MD_lay_11 rfl rfl ?_
  refine A_getIv (z := 0) T_ok d_MD_lay_12 f_MD_226 s_170 rI_170_1 ?_
  refine A_iload_n 1 d_MD_lay_15 rfl rfl ?_
  refine A_pc (pc' := 16) rfl ?_
  refine A_iload_n 2 d_MD_lay_16 rfl rfl ?_
  refine A_ishr d_MD_lay_17 ?_
  refine A_nmI (fun b2 eb2 => ?_)
  refine A_sipush d_MD_lay_18 rfl ?_
  refine A_iand d_MD_lay_21 ?_
  refine A_nmI (fun b3 eb3 => ?_)
  refine A_iastorev (j := 0) d_MD_lay_22 s_171 (by decide) (by decide) rfl (fun h4 eh4 => ?_)
  refine A_aload_n 0 d_MD_lay_23 rfl rfl ?_
  refine A_pc (pc' := 24) rfl ?_
  refine A_dupR d_MD_lay_24 ?_
  refine A_getIv (z := 0) T_ok d_MD_lay_25 f_MD_226 (sp_i eh4 s_170) (ri_o eh4 (fun q => absurd q.1 (by decide)) rI_170_1) ?_
  refine A_iconst d_MD_lay_28 rfl ?_
  refine A_iaddv (z := 1) d_MD_lay_29 (by decide +kernel) ?_
  refine A_putIv T_ok d_MD_lay_30 f_MD_226 (sp_i eh4 s_170) fin_f (fun h5 eh5 => ?_)
  refine A_iincv (z := 16) (L' := [some (av_R (some 170)), some (av_I va), some (av_I 16)]) d_MD_lay_33 rfl (by decide +kernel) rfl ?_
  refine A_pc (pc' := 36) rfl ?_
  refine A_goto (tgt := 3) d_MD_lay_36 (by decide) ?_
  refine A_iload_n 2 d_MD_lay_3 rfl rfl ?_
  refine A_if_lt (tgt := 39) d_MD_lay_4 (by decide) (fun c6 => absurd c6 (by decide)) (fun c6 => ?_)
  refine A_aload_n 0 d_MD_lay_7 rfl rfl ?_
  refine A_getAv (z := (some 171)) T_ok d_MD_lay_8 f_MD_7 (sp_i eh5 (sp_i eh4 s_170)) (rr_i eh5 (rr_i eh4 rR_170_0)) ?_
  refine A_aload_n 0 d_MD_lay_11 rfl rfl ?_
  refine A_getIv (z := 1) T_ok d_MD_lay_12 f_MD_226 (sp_i eh5 (sp_i eh4 s_170)) (ri_s eh5) ?_
  refine A_iload_n 1 d_MD_lay_15 rfl rfl ?_
  refine A_pc (pc' := 16) rfl ?_
  refine A_iload_n 2 d_MD_lay_16 rfl rfl ?_
  refine A_ishr d_MD_lay_17 ?_
  refine A_nmI (fun b7 eb7 => ?_)
  refine A_sipush d_MD_lay_18 rfl ?_
  refine A_iand d_MD_lay_21 ?_
  refine A_nmI (fun b8 eb8 => ?_)
  refine A_iastorev (j := 1) d_MD_lay_22 (sp_i eh5 (sp_i eh4 s_171)) (by decide) (by decide) rfl (fun h9 eh9 => ?_)
  refine A_aload_n 0 d_MD_lay_23 rfl rfl ?_
  refine A_pc (pc' := 24) rfl ?_
  refine A_dupR d_MD_lay_24 ?_
  refine A_getIv (z := 1) T_ok d_MD_lay_25 f_MD_226 (sp_i eh9 (sp_i eh5 (sp_i eh4 s_170))) (ri_o eh9 (fun q => absurd q.1 (by decide)) (ri_s eh5)) ?_
  refine A_iconst d_MD_lay_28 rfl ?_
  refine A_iaddv (z := 2) d_MD_lay_29 (by decide +kernel) ?_
  refine A_putIv T_ok d_MD_lay_30 f_MD_226 (sp_i eh9 (sp_i eh5 (sp_i eh4 s_170))) fin_f (fun h10 eh10 => ?_)
  refine A_iincv (z := 8) (L' := [some (av_R (some 170)), some (av_I va), some (av_I 8)]) d_MD_lay_33 rfl (by decide +kernel) rfl ?_
  refine A_pc (pc' := 36) rfl ?_
  refine A_goto (tgt := 3) d_MD_lay_36 (by decide) ?_
  refine A_iload_n 2 d_MD_lay_3 rfl rfl ?_
  refine A_if_lt (tgt := 39) d_MD_lay_4 (by decide) (fun c11 => absurd c11 (by decide)) (fun c11 => ?_)
  refine A_aload_n 0 d_MD_lay_7 rfl rfl ?_
  refine A_getAv (z := (some 171)) T_ok d_MD_lay_8 f_MD_7 (sp_i eh10 (sp_i eh9 (sp_i eh5 (sp_i eh4 s_170)))) (rr_i eh10 (rr_i eh9 (rr_i eh5 (rr_i eh4 rR_170_0)))) ?_
  refine A_aload_n 0 d_MD_lay_11 rfl rfl ?_
  refine A_getIv (z := 2) T_ok d_MD_lay_12 f_MD_226 (sp_i eh10 (sp_i eh9 (sp_i eh5 (sp_i eh4 s_170)))) (ri_s eh10) ?_
  refine A_iload_n 1 d_MD_lay_15 rfl rfl ?_
  refine A_pc (pc' := 16) rfl ?_
  refine A_iload_n 2 d_MD_lay_16 rfl rfl ?_
  refine A_ishr d_MD_lay_17 ?_
  refine A_nmI (fun b12 eb12 => ?_)
  refine A_sipush d_MD_lay_18 rfl ?_
  refine A_iand d_MD_lay_21 ?_
  refine A_nmI (fun b13 eb13 => ?_)
  refine A_iastorev (j := 2) d_MD_lay_22 (sp_i eh10 (sp_i eh9 (sp_i eh5 (sp_i eh4 s_171)))) (by decide) (by decide) rfl (fun h14 eh14 => ?_)
  refine A_aload_n 0 d_MD_lay_23 rfl rfl ?_
  refine A_pc (pc' := 24) rfl ?_
  refine A_dupR d_MD_lay_24 ?_
  refine A_getIv (z := 2) T_ok d_MD_lay_25 f_MD_226 (sp_i eh14 (sp_i eh10 (sp_i eh9 (sp_i eh5 (sp_i eh4 s_170))))) (ri_o eh14 (fun q => absurd q.1 (by decide)) (ri_s eh10)) ?_
  refine A_iconst d_MD_lay_28 rfl ?_
  refine A_iaddv (z := 3) d_MD_lay_29 (by decide +kernel) ?_
  refine A_putIv T_ok d_MD_lay_30 f_MD_226 (sp_i eh14 (sp_i eh10 (sp_i eh9 (sp_i eh5 (sp_i eh4 s_170))))) fin_f (fun h15 eh15 => ?_)
  refine A_iincv (z := 0) (L' := [some (av_R (some 170)), some (av_I va), some (av_I 0)]) d_MD_lay_33 rfl (by decide +kernel) rfl ?_
  refine A_pc (pc' := 36) rfl ?_
  refine A_goto (tgt := 3) d_MD_lay_36 (by decide) ?_
  refine A_iload_n 2 d_MD_lay_3 rfl rfl ?_
  refine A_if_lt (tgt := 39) d_MD_lay_4 (by decide) (fun c16 => absurd c16 (by decide)) (fun c16 => ?_)
  refine A_aload_n 0 d_MD_lay_7 rfl rfl ?_
  refine A_getAv (z := (some 171)) T_ok d_MD_lay_8 f_MD_7 (sp_i eh15 (sp_i eh14 (sp_i eh10 (sp_i eh9 (sp_i eh5 (sp_i eh4 s_170)))))) (rr_i eh15 (rr_i eh14 (rr_i eh10 (rr_i eh9 (rr_i eh5 (rr_i eh4 rR_170_0)))))) ?_
  refine A_aload_n 0 d_MD_lay_11 rfl rfl ?_
  refine A_getIv (z := 3) T_ok d_MD_lay_12 f_MD_226 (sp_i eh15 (sp_i eh14 (sp_i eh10 (sp_i eh9 (sp_i eh5 (sp_i eh4 s_170)))))) (ri_s eh15) ?_
  refine A_iload_n 1 d_MD_lay_15 rfl rfl ?_
  refine A_pc (pc' := 16) rfl ?_
  refine A_iload_n 2 d_MD_lay_16 rfl rfl ?_
  refine A_ishr d_MD_lay_17 ?_
  refine A_nmI (fun b17 eb17 => ?_)
  refine A_sipush d_MD_lay_18 rfl ?_
  refine A_iand d_MD_lay_21 ?_
  refine A_nmI (fun b18 eb18 => ?_)
  refine A_iastorev (j := 3) d_MD_lay_22 (sp_i eh15 (sp_i eh14 (sp_i eh10 (sp_i eh9 (sp_i eh5 (sp_i eh4 s_171)))))) (by decide) (by decide) rfl (fun h19 eh19 => ?_)
  refine A_aload_n 0 d_MD_lay_23 rfl rfl ?_
  refine A_pc (pc' := 24) rfl ?_
  refine A_dupR d_MD_lay_24 ?_
  refine A_getIv (z := 3) T_ok d_MD_lay_25 f_MD_226 (sp_i eh19 (sp_i eh15 (sp_i eh14 (sp_i eh10 (sp_i eh9 (sp_i eh5 (sp_i eh4 s_170))))))) (ri_o eh19 (fun q => absurd q.1 (by decide)) (ri_s eh15)) ?_
  refine A_iconst d_MD_lay_28 rfl ?_
  refine A_iaddv (z := 4) d_MD_lay_29 (by decide +kernel) ?_
  refine A_putIv T_ok d_MD_lay_30 f_MD_226 (sp_i eh19 (sp_i eh15 (sp_i eh14 (sp_i eh10 (sp_i eh9 (sp_i eh5 (sp_i eh4 s_170))))))) fin_f (fun h20 eh20 => ?_)
  refine A_iincv (z := (-8)) (L' := [some (av_R (some 170)), some (av_I va), some (av_I (-8))]) d_MD_lay_33 rfl (by decide +kernel) rfl ?_
  refine A_pc (pc' := 36) rfl ?_
  refine A_goto (tgt := 3) d_MD_lay_36 (by decide) ?_
  refine A_iload_n 2 d_MD_lay_3 rfl rfl ?_
  refine A_if_lt (tgt := 39) d_MD_lay_4 (by decide) (fun c21 => ?_) (fun c21 => absurd c21 (by decide))
  exact A_vret d_MD_lay_39 (by decide) rfl ⟨b3, b8, b13, b18, h4, h5, h9, h10, h14, h15, h19, eh4, eh5, eh9, eh10, eh14, eh15, eh19, eh20, rfl⟩
theorem c_MD_lay_a2 {G : cx_T} (h : ah_T) (vb : Int) (s_170 : h.1[170]? = some (12 + 4, 111)) (rR_170_0 : h.2.2.2 170 0 = some 171) (rI_170_1 : h.2.1 170 1 = 4) (s_171 : h.1[171]? = some (0, 2000)) : con G 0 0 0 m_MD_lay [av_R (some 170), av_I vb] h (fun r h' => ∃ b3 : Int, ∃ b8 : Int, ∃ b13 : Int, ∃ b18 : Int, ∃ h4 : ah_T, ∃ h5 : ah_T, ∃ h9 : ah_T, ∃ h10 : ah_T, ∃ h14 : ah_T, ∃ h15 : ah_T, ∃ h19 : ah_T, h4 = st_i h 171 4 b3 ∧ h5 = st_i h4 170 1 5 ∧ h9 = st_i h5 171 5 b8 ∧ h10 = st_i h9 170 1 6 ∧ h14 = st_i h10 171 6 b13 ∧ h15 = st_i h14 170 1 7 ∧ h19 = st_i h15 171 7 b18 ∧ h' = st_i h19 170 1 8 ∧ r = none) := by
  refine con_of (L := [some (av_R (some 170)), some (av_I vb), none]) (by decide +kernel) (Nat.le_of_ble_eq_true rfl) rfl ?_
  refine A_bipush d_MD_lay_0 rfl ?_
  refine A_istore_n 2 (L' := [some (av_R (some 170)), some (av_I vb), some (av_I 24)]) d_MD_lay_2 rfl (Nat.le_of_ble_eq_true rfl) rfl ?_
  refine A_iload_n 2 d_MD_lay_3 rfl rfl ?_
  refine A_if_lt (tgt := 39) d_MD_lay_4 (by decide) (fun c1 => absurd c1 (by decide)) (fun c1 => ?_)
  refine A_aload_n 0 d_MD_lay_7 rfl rfl ?_
  refine A_getAv (z := (some 171)) T_ok d_MD_lay_8 f_MD_7 s_170 rR_170_0 ?_
  refine A_aload_n 0 d_MD_lay_11 rfl rfl ?_
  refine A_getIv (z := 4) T_ok d_MD_lay_12 f_MD_226 s_170 rI_170_1 ?_
  refine A_iload_n 1 d_MD_lay_15 rfl rfl ?_
  refine A_pc (pc' := 16) rfl ?_
  refine A_iload_n 2 d_MD_lay_16 rfl rfl ?_
  refine A_ishr d_MD_lay_17 ?_
  refine A_nmI (fun b2 eb2 => ?_)
  refine A_sipush d_MD_lay_18 rfl ?_
  refine A_iand d_MD_lay_21 ?_
  refine A_nmI (fun b3 eb3 => ?_)
  refine A_iastorev (j := 4) d_MD_lay_22 s_171 (by decide) (by decide) rfl (fun h4 eh4 => ?_)
  refine A_aload_n 0 d_MD_lay_23 rfl rfl ?_
  refine A_pc (pc' := 24) rfl ?_
  refine A_dupR d_MD_lay_24 ?_
  refine A_getIv (z := 4) T_ok d_MD_lay_25 f_MD_226 (sp_i eh4 s_170) (ri_o eh4 (fun q => absurd q.1 (by decide)) rI_170_1) ?_
  refine A_iconst d_MD_lay_28 rfl ?_
  refine A_iaddv (z := 5) d_MD_lay_29 (by decide +kernel) ?_
  refine A_putIv T_ok d_MD_lay_30 f_MD_226 (sp_i eh4 s_170) fin_f (fun h5 eh5 => ?_)
  refine A_iincv (z := 16) (L' := [some (av_R (some 170)), some (av_I vb), some (av_I 16)]) d_MD_lay_33 rfl (by decide +kernel) rfl ?_
  refine A_pc (pc' := 36) rfl ?_
  refine A_goto (tgt := 3) d_MD_lay_36 (by decide) ?_
  refine A_iload_n 2 d_MD_lay_3 rfl rfl ?_
  refine A_if_lt (tgt := 39) d_MD_lay_4 (by decide) (fun c6 => absurd c6 (by decide)) (fun c6 => ?_)
  refine A_aload_n 0 d_MD_lay_7 rfl rfl ?_
  refine A_getAv (z := (some 171)) T_ok d_MD_lay_8 f_MD_7 (sp_i eh5 (sp_i eh4 s_170)) (rr_i eh5 (rr_i eh4 rR_170_0)) ?_
  refine A_aload_n 0 d_MD_lay_11 rfl rfl ?_
  refine A_getIv (z := 5) T_ok d_MD_lay_12 f_MD_226 (sp_i eh5 (sp_i eh4 s_170)) (ri_s eh5) ?_
  refine A_iload_n 1 d_MD_lay_15 rfl rfl ?_
  refine A_pc (pc' := 16) rfl ?_
  refine A_iload_n 2 d_MD_lay_16 rfl rfl ?_
  refine A_ishr d_MD_lay_17 ?_
  refine A_nmI (fun b7 eb7 => ?_)
  refine A_sipush d_MD_lay_18 rfl ?_
  refine A_iand d_MD_lay_21 ?_
  refine A_nmI (fun b8 eb8 => ?_)
  refine A_iastorev (j := 5) d_MD_lay_22 (sp_i eh5 (sp_i eh4 s_171)) (by decide) (by decide) rfl (fun h9 eh9 => ?_)
  refine A_aload_n 0 d_MD_lay_23 rfl rfl ?_
  refine A_pc (pc' := 24) rfl ?_
  refine A_dupR d_MD_lay_24 ?_
  refine A_getIv (z := 5) T_ok d_MD_lay_25 f_MD_226 (sp_i eh9 (sp_i eh5 (sp_i eh4 s_170))) (ri_o eh9 (fun q => absurd q.1 (by decide)) (ri_s eh5)) ?_
  refine A_iconst d_MD_lay_28 rfl ?_
  refine A_iaddv (z := 6) d_MD_lay_29 (by decide +kernel) ?_
  refine A_putIv T_ok d_MD_lay_30 f_MD_226 (sp_i eh9 (sp_i eh5 (sp_i eh4 s_170))) fin_f (fun h10 eh10 => ?_)
  refine A_iincv (z := 8) (L' := [some (av_R (some 170)), some (av_I vb), some (av_I 8)]) d_MD_lay_33 rfl (by decide +kernel) rfl ?_
  refine A_pc (pc' := 36) rfl ?_
  refine A_goto (tgt := 3) d_MD_lay_36 (by decide) ?_
  refine A_iload_n 2 d_MD_lay_3 rfl rfl ?_
  refine A_if_lt (tgt := 39) d_MD_lay_4 (by decide) (fun c11 => absurd c11 (by decide)) (fun c11 => ?_)
  refine A_aload_n 0 d_MD_lay_7 rfl rfl ?_
  refine A_getAv (z := (some 171)) T_ok d_MD_lay_8 f_MD_7 (sp_i eh10 (sp_i eh9 (sp_i eh5 (sp_i eh4 s_170)))) (rr_i eh10 (rr_i eh9 (rr_i eh5 (rr_i eh4 rR_170_0)))) ?_
  refine A_aload_n 0 d_MD_lay_11 rfl rfl ?_
  refine A_getIv (z := 6) T_ok d_MD_lay_12 f_MD_226 (sp_i eh10 (sp_i eh9 (sp_i eh5 (sp_i eh4 s_170)))) (ri_s eh10) ?_
  refine A_iload_n 1 d_MD_lay_15 rfl rfl ?_
  refine A_pc (pc' := 16) rfl ?_
  refine A_iload_n 2 d_MD_lay_16 rfl rfl ?_
  refine A_ishr d_MD_lay_17 ?_
  refine A_nmI (fun b12 eb12 => ?_)
  refine A_sipush d_MD_lay_18 rfl ?_
  refine A_iand d_MD_lay_21 ?_
  refine A_nmI (fun b13 eb13 => ?_)
  refine A_iastorev (j := 6) d_MD_lay_22 (sp_i eh10 (sp_i eh9 (sp_i eh5 (sp_i eh4 s_171)))) (by decide) (by decide) rfl (fun h14 eh14 => ?_)
  refine A_aload_n 0 d_MD_lay_23 rfl rfl ?_
  refine A_pc (pc' := 24) rfl ?_
  refine A_dupR d_MD_lay_24 ?_
  refine A_getIv (z := 6) T_ok d_MD_lay_25 f_MD_226 (sp_i eh14 (sp_i eh10 (sp_i eh9 (sp_i eh5 (sp_i eh4 s_170))))) (ri_o eh14 (fun q => absurd q.1 (by decide)) (ri_s eh10)) ?_
  refine A_iconst d_MD_lay_28 rfl ?_
  refine A_iaddv (z := 7) d_MD_lay_29 (by decide +kernel) ?_
  refine A_putIv T_ok d_MD_lay_30 f_MD_226 (sp_i eh14 (sp_i eh10 (sp_i eh9 (sp_i eh5 (sp_i eh4 s_170))))) fin_f (fun h15 eh15 => ?_)
  refine A_iincv (z := 0) (L' := [some (av_R (some 170)), some (av_I vb), some (av_I 0)]) d_MD_lay_33 rfl (by decide +kernel) rfl ?_
  refine A_pc (pc' := 36) rfl ?_
  refine A_goto (tgt := 3) d_MD_lay_36 (by decide) ?_
  refine A_iload_n 2 d_MD_lay_3 rfl rfl ?_
  refine A_if_lt (tgt := 39) d_MD_lay_4 (by decide) (fun c16 => absurd c16 (by decide)) (fun c16 => ?_)
  refine A_aload_n 0 d_MD_lay_7 rfl rfl ?_
  refine A_getAv (z := (some 171)) T_ok d_MD_lay_8 f_MD_7 (sp_i eh15 (sp_i eh14 (sp_i eh10 (sp_i eh9 (sp_i eh5 (sp_i eh4 s_170)))))) (rr_i eh15 (rr_i eh14 (rr_i eh10 (rr_i eh9 (rr_i eh5 (rr_i eh4 rR_170_0)))))) ?_
  refine A_aload_n 0 d_MD_lay_11 rfl rfl ?_
  refine A_getIv (z := 7) T_ok d_MD_lay_12 f_MD_226 (sp_i eh15 (sp_i eh14 (sp_i eh10 (sp_i eh9 (sp_i eh5 (sp_i eh4 s_170)))))) (ri_s eh15) ?_
  refine A_iload_n 1 d_MD_lay_15 rfl rfl ?_
  refine A_pc (pc' := 16) rfl ?_
  refine A_iload_n 2 d_MD_lay_16 rfl rfl ?_
  refine A_ishr d_MD_lay_17 ?_
  refine A_nmI (fun b17 eb17 => ?_)
  refine A_sipush d_MD_lay_18 rfl ?_
  refine A_iand d_MD_lay_21 ?_
  refine A_nmI (fun b18 eb18 => ?_)
  refine A_iastorev (j := 7) d_MD_lay_22 (sp_i eh15 (sp_i eh14 (sp_i eh10 (sp_i eh9 (sp_i eh5 (sp_i eh4 s_171)))))) (by decide) (by decide) rfl (fun h19 eh19 => ?_)
  refine A_aload_n 0 d_MD_lay_23 rfl rfl ?_
  refine A_pc (pc' := 24) rfl ?_
  refine A_dupR d_MD_lay_24 ?_
  refine A_getIv (z := 7) T_ok d_MD_lay_25 f_MD_226 (sp_i eh19 (sp_i eh15 (sp_i eh14 (sp_i eh10 (sp_i eh9 (sp_i eh5 (sp_i eh4 s_170))))))) (ri_o eh19 (fun q => absurd q.1 (by decide)) (ri_s eh15)) ?_
  refine A_iconst d_MD_lay_28 rfl ?_
  refine A_iaddv (z := 8) d_MD_lay_29 (by decide +kernel) ?_
  refine A_putIv T_ok d_MD_lay_30 f_MD_226 (sp_i eh19 (sp_i eh15 (sp_i eh14 (sp_i eh10 (sp_i eh9 (sp_i eh5 (sp_i eh4 s_170))))))) fin_f (fun h20 eh20 => ?_)
  refine A_iincv (z := (-8)) (L' := [some (av_R (some 170)), some (av_I vb), some (av_I (-8))]) d_MD_lay_33 rfl (by decide +kernel) rfl ?_
  refine A_pc (pc' := 36) rfl ?_
  refine A_goto (tgt := 3) d_MD_lay_36 (by decide) ?_
  refine A_iload_n 2 d_MD_lay_3 rfl rfl ?_
  refine A_if_lt (tgt := 39) d_MD_lay_4 (by decide) (fun c21 => ?_) (fun c21 => absurd c21 (by decide))
  exact A_vret d_MD_lay_39 (by decide) rfl ⟨b3, b8, b13, b18, h4, h5, h9, h10, h14, h15, h19, eh4, eh5, eh9, eh10, eh14, eh15, eh19, eh20, rfl⟩
theorem c_MD_lay_a3 {G : cx_T} (h : ah_T) (vc : Int) (s_170 : h.1[170]? = some (12 + 4, 111)) (rR_170_0 : h.2.2.2 170 0 = some 171) (rI_170_1 : h.2.1 170 1 = 8) (s_171 : h.1[171]? = some (0, 2000)) : con G 0 0 0 m_MD_lay [av_R (some 170), av_I vc] h (fun r h' => ∃ b3 : Int, ∃ b8 : Int, ∃ b13 : Int, ∃ b18 : Int, ∃ h4 : ah_T, ∃ h5 : ah_T, ∃ h9 : ah_T, ∃ h10 : ah_T, ∃ h14 : ah_T, ∃ h15 : ah_T, ∃ h19 : ah_T, h4 = st_i h 171 8 b3 ∧ h5 = st_i h4 170 1 9 ∧ h9 = st_i h5 171 9 b8 ∧ h10 = st_i h9 170 1 10 ∧ h14 = st_i h10 171 10 b13 ∧ h15 = st_i h14 170 1 11 ∧ h19 = st_i h15 171 11 b18 ∧ h' = st_i h19 170 1 12 ∧ r = none) := by
  refine con_of (L := [some (av_R (some 170)), some (av_I vc), none]) (by decide +kernel) (Nat.le_of_ble_eq_true rfl) rfl ?_
  refine A_bipush d_MD_lay_0 rfl ?_
  refine A_istore_n 2 (L' := [some (av_R (some 170)), some (av_I vc), some (av_I 24)]) d_MD_lay_2 rfl (Nat.le_of_ble_eq_true rfl) rfl ?_
  refine A_iload_n 2 d_MD_lay_3 rfl rfl ?_
  refine A_if_lt (tgt := 39) d_MD_lay_4 (by decide) (fun c1 => absurd c1 (by decide)) (fun c1 => ?_)
  refine A_aload_n 0 d_MD_lay_7 rfl rfl ?_
  refine A_getAv (z := (some 171)) T_ok d_MD_lay_8 f_MD_7 s_170 rR_170_0 ?_
  refine A_aload_n 0 d_MD_lay_11 rfl rfl ?_
  refine A_getIv (z := 8) T_ok d_MD_lay_12 f_MD_226 s_170 rI_170_1 ?_
  refine A_iload_n 1 d_MD_lay_15 rfl rfl ?_
  refine A_pc (pc' := 16) rfl ?_
  refine A_iload_n 2 d_MD_lay_16 rfl rfl ?_
  refine A_ishr d_MD_lay_17 ?_
  refine A_nmI (fun b2 eb2 => ?_)
  refine A_sipush d_MD_lay_18 rfl ?_
  refine A_iand d_MD_lay_21 ?_
  refine A_nmI (fun b3 eb3 => ?_)
  refine A_iastorev (j := 8) d_MD_lay_22 s_171 (by decide) (by decide) rfl (fun h4 eh4 => ?_)
  refine A_aload_n 0 d_MD_lay_23 rfl rfl ?_
  refine A_pc (pc' := 24) rfl ?_
  refine A_dupR d_MD_lay_24 ?_
  refine A_getIv (z := 8) T_ok d_MD_lay_25 f_MD_226 (sp_i eh4 s_170) (ri_o eh4 (fun q => absurd q.1 (by decide)) rI_170_1) ?_
  refine A_iconst d_MD_lay_28 rfl ?_
  refine A_iaddv (z := 9) d_MD_lay_29 (by decide +kernel) ?_
  refine A_putIv T_ok d_MD_lay_30 f_MD_226 (sp_i eh4 s_170) fin_f (fun h5 eh5 => ?_)
  refine A_iincv (z := 16) (L' := [some (av_R (some 170)), some (av_I vc), some (av_I 16)]) d_MD_lay_33 rfl (by decide +kernel) rfl ?_
  refine A_pc (pc' := 36) rfl ?_
  refine A_goto (tgt := 3) d_MD_lay_36 (by decide) ?_
  refine A_iload_n 2 d_MD_lay_3 rfl rfl ?_
  refine A_if_lt (tgt := 39) d_MD_lay_4 (by decide) (fun c6 => absurd c6 (by decide)) (fun c6 => ?_)
  refine A_aload_n 0 d_MD_lay_7 rfl rfl ?_
  refine A_getAv (z := (some 171)) T_ok d_MD_lay_8 f_MD_7 (sp_i eh5 (sp_i eh4 s_170)) (rr_i eh5 (rr_i eh4 rR_170_0)) ?_
  refine A_aload_n 0 d_MD_lay_11 rfl rfl ?_
  refine A_getIv (z := 9) T_ok d_MD_lay_12 f_MD_226 (sp_i eh5 (sp_i eh4 s_170)) (ri_s eh5) ?_
  refine A_iload_n 1 d_MD_lay_15 rfl rfl ?_
  refine A_pc (pc' := 16) rfl ?_
  refine A_iload_n 2 d_MD_lay_16 rfl rfl ?_
  refine A_ishr d_MD_lay_17 ?_
  refine A_nmI (fun b7 eb7 => ?_)
  refine A_sipush d_MD_lay_18 rfl ?_
  refine A_iand d_MD_lay_21 ?_
  refine A_nmI (fun b8 eb8 => ?_)
  refine A_iastorev (j := 9) d_MD_lay_22 (sp_i eh5 (sp_i eh4 s_171)) (by decide) (by decide) rfl (fun h9 eh9 => ?_)
  refine A_aload_n 0 d_MD_lay_23 rfl rfl ?_
  refine A_pc (pc' := 24) rfl ?_
  refine A_dupR d_MD_lay_24 ?_
  refine A_getIv (z := 9) T_ok d_MD_lay_25 f_MD_226 (sp_i eh9 (sp_i eh5 (sp_i eh4 s_170))) (ri_o eh9 (fun q => absurd q.1 (by decide)) (ri_s eh5)) ?_
  refine A_iconst d_MD_lay_28 rfl ?_
  refine A_iaddv (z := 10) d_MD_lay_29 (by decide +kernel) ?_
  refine A_putIv T_ok d_MD_lay_30 f_MD_226 (sp_i eh9 (sp_i eh5 (sp_i eh4 s_170))) fin_f (fun h10 eh10 => ?_)
  refine A_iincv (z := 8) (L' := [some (av_R (some 170)), some (av_I vc), some (av_I 8)]) d_MD_lay_33 rfl (by decide +kernel) rfl ?_
  refine A_pc (pc' := 36) rfl ?_
  refine A_goto (tgt := 3) d_MD_lay_36 (by decide) ?_
  refine A_iload_n 2 d_MD_lay_3 rfl rfl ?_
  refine A_if_lt (tgt := 39) d_MD_lay_4 (by decide) (fun c11 => absurd c11 (by decide)) (fun c11 => ?_)
  refine A_aload_n 0 d_MD_lay_7 rfl rfl ?_
  refine A_getAv (z := (some 171)) T_ok d_MD_lay_8 f_MD_7 (sp_i eh10 (sp_i eh9 (sp_i eh5 (sp_i eh4 s_170)))) (rr_i eh10 (rr_i eh9 (rr_i eh5 (rr_i eh4 rR_170_0)))) ?_
  refine A_aload_n 0 d_MD_lay_11 rfl rfl ?_
  refine A_getIv (z := 10) T_ok d_MD_lay_12 f_MD_226 (sp_i eh10 (sp_i eh9 (sp_i eh5 (sp_i eh4 s_170)))) (ri_s eh10) ?_
  refine A_iload_n 1 d_MD_lay_15 rfl rfl ?_
  refine A_pc (pc' := 16) rfl ?_
  refine A_iload_n 2 d_MD_lay_16 rfl rfl ?_
  refine A_ishr d_MD_lay_17 ?_
  refine A_nmI (fun b12 eb12 => ?_)
  refine A_sipush d_MD_lay_18 rfl ?_
  refine A_iand d_MD_lay_21 ?_
  refine A_nmI (fun b13 eb13 => ?_)
  refine A_iastorev (j := 10) d_MD_lay_22 (sp_i eh10 (sp_i eh9 (sp_i eh5 (sp_i eh4 s_171)))) (by decide) (by decide) rfl (fun h14 eh14 => ?_)
  refine A_aload_n 0 d_MD_lay_23 rfl rfl ?_
  refine A_pc (pc' := 24) rfl ?_
  refine A_dupR d_MD_lay_24 ?_
  refine A_getIv (z := 10) T_ok d_MD_lay_25 f_MD_226 (sp_i eh14 (sp_i eh10 (sp_i eh9 (sp_i eh5 (sp_i eh4 s_170))))) (ri_o eh14 (fun q => absurd q.1 (by decide)) (ri_s eh10)) ?_
  refine A_iconst d_MD_lay_28 rfl ?_
  refine A_iaddv (z := 11) d_MD_lay_29 (by decide +kernel) ?_
  refine A_putIv T_ok d_MD_lay_30 f_MD_226 (sp_i eh14 (sp_i eh10 (sp_i eh9 (sp_i eh5 (sp_i eh4 s_170))))) fin_f (fun h15 eh15 => ?_)
  refine A_iincv (z := 0) (L' := [some (av_R (some 170)), some (av_I vc), some (av_I 0)]) d_MD_lay_33 rfl (by decide +kernel) rfl ?_
  refine A_pc (pc' := 36) rfl ?_
  refine A_goto (tgt := 3) d_MD_lay_36 (by decide) ?_
  refine A_iload_n 2 d_MD_lay_3 rfl rfl ?_
  refine A_if_lt (tgt := 39) d_MD_lay_4 (by decide) (fun c16 => absurd c16 (by decide)) (fun c16 => ?_)
  refine A_aload_n 0 d_MD_lay_7 rfl rfl ?_
  refine A_getAv (z := (some 171)) T_ok d_MD_lay_8 f_MD_7 (sp_i eh15 (sp_i eh14 (sp_i eh10 (sp_i eh9 (sp_i eh5 (sp_i eh4 s_170)))))) (rr_i eh15 (rr_i eh14 (rr_i eh10 (rr_i eh9 (rr_i eh5 (rr_i eh4 rR_170_0)))))) ?_
  refine A_aload_n 0 d_MD_lay_11 rfl rfl ?_
  refine A_getIv (z := 11) T_ok d_MD_lay_12 f_MD_226 (sp_i eh15 (sp_i eh14 (sp_i eh10 (sp_i eh9 (sp_i eh5 (sp_i eh4 s_170)))))) (ri_s eh15) ?_
  refine A_iload_n 1 d_MD_lay_15 rfl rfl ?_
  refine A_pc (pc' := 16) rfl ?_
  refine A_iload_n 2 d_MD_lay_16 rfl rfl ?_
  refine A_ishr d_MD_lay_17 ?_
  refine A_nmI (fun b17 eb17 => ?_)
  refine A_sipush d_MD_lay_18 rfl ?_
  refine A_iand d_MD_lay_21 ?_
  refine A_nmI (fun b18 eb18 => ?_)
  refine A_iastorev (j := 11) d_MD_lay_22 (sp_i eh15 (sp_i eh14 (sp_i eh10 (sp_i eh9 (sp_i eh5 (sp_i eh4 s_171)))))) (by decide) (by decide) rfl (fun h19 eh19 => ?_)
  refine A_aload_n 0 d_MD_lay_23 rfl rfl ?_
  refine A_pc (pc' := 24) rfl ?_
  refine A_dupR d_MD_lay_24 ?_
  refine A_getIv (z := 11) T_ok d_MD_lay_25 f_MD_226 (sp_i eh19 (sp_i eh15 (sp_i eh14 (sp_i eh10 (sp_i eh9 (sp_i eh5 (sp_i eh4 s_170))))))) (ri_o eh19 (fun q => absurd q.1 (by decide)) (ri_s eh15)) ?_
  refine A_iconst d_MD_lay_28 rfl ?_
  refine A_iaddv (z := 12) d_MD_lay_29 (by decide +kernel) ?_
  refine A_putIv T_ok d_MD_lay_30 f_MD_226 (sp_i eh19 (sp_i eh15 (sp_i eh14 (sp_i eh10 (sp_i eh9 (sp_i eh5 (sp_i eh4 s_170))))))) fin_f (fun h20 eh20 => ?_)
  refine A_iincv (z := (-8)) (L' := [some (av_R (some 170)), some (av_I vc), some (av_I (-8))]) d_MD_lay_33 rfl (by decide +kernel) rfl ?_
  refine A_pc (pc' := 36) rfl ?_
  refine A_goto (tgt := 3) d_MD_lay_36 (by decide) ?_
  refine A_iload_n 2 d_MD_lay_3 rfl rfl ?_
  refine A_if_lt (tgt := 39) d_MD_lay_4 (by decide) (fun c21 => ?_) (fun c21 => absurd c21 (by decide))
  exact A_vret d_MD_lay_39 (by decide) rfl ⟨b3, b8, b13, b18, h4, h5, h9, h10, h14, h15, h19, eh4, eh5, eh9, eh10, eh14, eh15, eh19, eh20, rfl⟩
theorem c_MD_lay_a4 {G : cx_T} (h : ah_T) (vd : Int) (s_170 : h.1[170]? = some (12 + 4, 111)) (rR_170_0 : h.2.2.2 170 0 = some 171) (rI_170_1 : h.2.1 170 1 = 12) (s_171 : h.1[171]? = some (0, 2000)) : con G 0 0 0 m_MD_lay [av_R (some 170), av_I vd] h (fun r h' => ∃ b3 : Int, ∃ b8 : Int, ∃ b13 : Int, ∃ b18 : Int, ∃ h4 : ah_T, ∃ h5 : ah_T, ∃ h9 : ah_T, ∃ h10 : ah_T, ∃ h14 : ah_T, ∃ h15 : ah_T, ∃ h19 : ah_T, h4 = st_i h 171 12 b3 ∧ h5 = st_i h4 170 1 13 ∧ h9 = st_i h5 171 13 b8 ∧ h10 = st_i h9 170 1 14 ∧ h14 = st_i h10 171 14 b13 ∧ h15 = st_i h14 170 1 15 ∧ h19 = st_i h15 171 15 b18 ∧ h' = st_i h19 170 1 16 ∧ r = none) := by
  refine con_of (L := [some (av_R (some 170)), some (av_I vd), none]) (by decide +kernel) (Nat.le_of_ble_eq_true rfl) rfl ?_
  refine A_bipush d_MD_lay_0 rfl ?_
  refine A_istore_n 2 (L' := [some (av_R (some 170)), some (av_I vd), some (av_I 24)]) d_MD_lay_2 rfl (Nat.le_of_ble_eq_true rfl) rfl ?_
  refine A_iload_n 2 d_MD_lay_3 rfl rfl ?_
  refine A_if_lt (tgt := 39) d_MD_lay_4 (by decide) (fun c1 => absurd c1 (by decide)) (fun c1 => ?_)
  refine A_aload_n 0 d_MD_lay_7 rfl rfl ?_
  refine A_getAv (z := (some 171)) T_ok d_MD_lay_8 f_MD_7 s_170 rR_170_0 ?_
  refine A_aload_n 0 d_MD_lay_11 rfl rfl ?_
  refine A_getIv (z := 12) T_ok d_MD_lay_12 f_MD_226 s_170 rI_170_1 ?_
  refine A_iload_n 1 d_MD_lay_15 rfl rfl ?_
  refine A_pc (pc' := 16) rfl ?_
  refine A_iload_n 2 d_MD_lay_16 rfl rfl ?_
  refine A_ishr d_MD_lay_17 ?_
  refine A_nmI (fun b2 eb2 => ?_)
  refine A_sipush d_MD_lay_18 rfl ?_
  refine A_iand d_MD_lay_21 ?_
  refine A_nmI (fun b3 eb3 => ?_)
  refine A_iastorev (j := 12) d_MD_lay_22 s_171 (by decide) (by decide) rfl (fun h4 eh4 => ?_)
  refine A_aload_n 0 d_MD_lay_23 rfl rfl ?_
  refine A_pc (pc' := 24) rfl ?_
  refine A_dupR d_MD_lay_24 ?_
  refine A_getIv (z := 12) T_ok d_MD_lay_25 f_MD_226 (sp_i eh4 s_170) (ri_o eh4 (fun q => absurd q.1 (by decide)) rI_170_1) ?_
  refine A_iconst d_MD_lay_28 rfl ?_
  refine A_iaddv (z := 13) d_MD_lay_29 (by decide +kernel) ?_
  refine A_putIv T_ok d_MD_lay_30 f_MD_226 (sp_i eh4 s_170) fin_f (fun h5 eh5 => ?_)
  refine A_iincv (z := 16) (L' := [some (av_R (some 170)), some (av_I vd), some (av_I 16)]) d_MD_lay_33 rfl (by decide +kernel) rfl ?_
  refine A_pc (pc' := 36) rfl ?_
  refine A_goto (tgt := 3) d_MD_lay_36 (by decide) ?_
  refine A_iload_n 2 d_MD_lay_3 rfl rfl ?_
  refine A_if_lt (tgt := 39) d_MD_lay_4 (by decide) (fun c6 => absurd c6 (by decide)) (fun c6 => ?_)
  refine A_aload_n 0 d_MD_lay_7 rfl rfl ?_
  refine A_getAv (z := (some 171)) T_ok d_MD_lay_8 f_MD_7 (sp_i eh5 (sp_i eh4 s_170)) (rr_i eh5 (rr_i eh4 rR_170_0)) ?_
  refine A_aload_n 0 d_MD_lay_11 rfl rfl ?_
  refine A_getIv (z := 13) T_ok d_MD_lay_12 f_MD_226 (sp_i eh5 (sp_i eh4 s_170)) (ri_s eh5) ?_
  refine A_iload_n 1 d_MD_lay_15 rfl rfl ?_
  refine A_pc (pc' := 16) rfl ?_
  refine A_iload_n 2 d_MD_lay_16 rfl rfl ?_
  refine A_ishr d_MD_lay_17 ?_
  refine A_nmI (fun b7 eb7 => ?_)
  refine A_sipush d_MD_lay_18 rfl ?_
  refine A_iand d_MD_lay_21 ?_
  refine A_nmI (fun b8 eb8 => ?_)
  refine A_iastorev (j := 13) d_MD_lay_22 (sp_i eh5 (sp_i eh4 s_171)) (by decide) (by decide) rfl (fun h9 eh9 => ?_)
  refine A_aload_n 0 d_MD_lay_23 rfl rfl ?_
  refine A_pc (pc' := 24) rfl ?_
  refine A_dupR d_MD_lay_24 ?_
  refine A_getIv (z := 13) T_ok d_MD_lay_25 f_MD_226 (sp_i eh9 (sp_i eh5 (sp_i eh4 s_170))) (ri_o eh9 (fun q => absurd q.1 (by decide)) (ri_s eh5)) ?_
  refine A_iconst d_MD_lay_28 rfl ?_
  refine A_iaddv (z := 14) d_MD_lay_29 (by decide +kernel) ?_
  refine A_putIv T_ok d_MD_lay_30 f_MD_226 (sp_i eh9 (sp_i eh5 (sp_i eh4 s_170))) fin_f (fun h10 eh10 => ?_)
  refine A_iincv (z := 8) (L' := [some (av_R (some 170)), some (av_I vd), some (av_I 8)]) d_MD_lay_33 rfl (by decide +kernel) rfl ?_
  refine A_pc (pc' := 36) rfl ?_
  refine A_goto (tgt := 3) d_MD_lay_36 (by decide) ?_
  refine A_iload_n 2 d_MD_lay_3 rfl rfl ?_
  refine A_if_lt (tgt := 39) d_MD_lay_4 (by decide) (fun c11 => absurd c11 (by decide)) (fun c11 => ?_)
  refine A_aload_n 0 d_MD_lay_7 rfl rfl ?_
  refine A_getAv (z := (some 171)) T_ok d_MD_lay_8 f_MD_7 (sp_i eh10 (sp_i eh9 (sp_i eh5 (sp_i eh4 s_170)))) (rr_i eh10 (rr_i eh9 (rr_i eh5 (rr_i eh4 rR_170_0)))) ?_
  refine A_aload_n 0 d_MD_lay_11 rfl rfl ?_
  refine A_getIv (z := 14) T_ok d_MD_lay_12 f_MD_226 (sp_i eh10 (sp_i eh9 (sp_i eh5 (sp_i eh4 s_170)))) (ri_s eh10) ?_
  refine A_iload_n 1 d_MD_lay_15 rfl rfl ?_
  refine A_pc (pc' := 16) rfl ?_
  refine A_iload_n 2 d_MD_lay_16 rfl rfl ?_
  refine A_ishr d_MD_lay_17 ?_
  refine A_nmI (fun b12 eb12 => ?_)
  refine A_sipush d_MD_lay_18 rfl ?_
  refine A_iand d_MD_lay_21 ?_
  refine A_nmI (fun b13 eb13 => ?_)
  refine A_iastorev (j := 14) d_MD_lay_22 (sp_i eh10 (sp_i eh9 (sp_i eh5 (sp_i eh4 s_171)))) (by decide) (by decide) rfl (fun h14 eh14 => ?_)
  refine A_aload_n 0 d_MD_lay_23 rfl rfl ?_
  refine A_pc (pc' := 24) rfl ?_
  refine A_dupR d_MD_lay_24 ?_
  refine A_getIv (z := 14) T_ok d_MD_lay_25 f_MD_226 (sp_i eh14 (sp_i eh10 (sp_i eh9 (sp_i eh5 (sp_i eh4 s_170))))) (ri_o eh14 (fun q => absurd q.1 (by decide)) (ri_s eh10)) ?_
  refine A_iconst d_MD_lay_28 rfl ?_
  refine A_iaddv (z := 15) d_MD_lay_29 (by decide +kernel) ?_
  refine A_putIv T_ok d_MD_lay_30 f_MD_226 (sp_i eh14 (sp_i eh10 (sp_i eh9 (sp_i eh5 (sp_i eh4 s_170))))) fin_f (fun h15 eh15 => ?_)
  refine A_iincv (z := 0) (L' := [some (av_R (some 170)), some (av_I vd), some (av_I 0)]) d_MD_lay_33 rfl (by decide +kernel) rfl ?_
  refine A_pc (pc' := 36) rfl ?_
  refine A_goto (tgt := 3) d_MD_lay_36 (by decide) ?_
  refine A_iload_n 2 d_MD_lay_3 rfl rfl ?_
  refine A_if_lt (tgt := 39) d_MD_lay_4 (by decide) (fun c16 => absurd c16 (by decide)) (fun c16 => ?_)
  refine A_aload_n 0 d_MD_lay_7 rfl rfl ?_
  refine A_getAv (z := (some 171)) T_ok d_MD_lay_8 f_MD_7 (sp_i eh15 (sp_i eh14 (sp_i eh10 (sp_i eh9 (sp_i eh5 (sp_i eh4 s_170)))))) (rr_i eh15 (rr_i eh14 (rr_i eh10 (rr_i eh9 (rr_i eh5 (rr_i eh4 rR_170_0)))))) ?_
  refine A_aload_n 0 d_MD_lay_11 rfl rfl ?_
  refine A_getIv (z := 15) T_ok d_MD_lay_12 f_MD_226 (sp_i eh15 (sp_i eh14 (sp_i eh10 (sp_i eh9 (sp_i eh5 (sp_i eh4 s_170)))))) (ri_s eh15) ?_
  refine A_iload_n 1 d_MD_lay_15 rfl rfl ?_
  refine A_pc (pc' := 16) rfl ?_
  refine A_iload_n 2 d_MD_lay_16 rfl rfl ?_
  refine A_ishr d_MD_lay_17 ?_
  refine A_nmI (fun b17 eb17 => ?_)
  refine A_sipush d_MD_lay_18 rfl ?_
  refine A_iand d_MD_lay_21 ?_
  refine A_nmI (fun b18 eb18 => ?_)
  refine A_iastorev (j := 15) d_MD_lay_22 (sp_i eh15 (sp_i eh14 (sp_i eh10 (sp_i eh9 (sp_i eh5 (sp_i eh4 s_171)))))) (by decide) (by decide) rfl (fun h19 eh19 => ?_)
  refine A_aload_n 0 d_MD_lay_23 rfl rfl ?_
  refine A_pc (pc' := 24) rfl ?_
  refine A_dupR d_MD_lay_24 ?_
  refine A_getIv (z := 15) T_ok d_MD_lay_25 f_MD_226 (sp_i eh19 (sp_i eh15 (sp_i eh14 (sp_i eh10 (sp_i eh9 (sp_i eh5 (sp_i eh4 s_170))))))) (ri_o eh19 (fun q => absurd q.1 (by decide)) (ri_s eh15)) ?_
  refine A_iconst d_MD_lay_28 rfl ?_
  refine A_iaddv (z := 16) d_MD_lay_29 (by decide +kernel) ?_
  refine A_putIv T_ok d_MD_lay_30 f_MD_226 (sp_i eh19 (sp_i eh15 (sp_i eh14 (sp_i eh10 (sp_i eh9 (sp_i eh5 (sp_i eh4 s_170))))))) fin_f (fun h20 eh20 => ?_)
  refine A_iincv (z := (-8)) (L' := [some (av_R (some 170)), some (av_I vd), some (av_I (-8))]) d_MD_lay_33 rfl (by decide +kernel) rfl ?_
  refine A_pc (pc' := 36) rfl ?_
  refine A_goto (tgt := 3) d_MD_lay_36 (by decide) ?_
  refine A_iload_n 2 d_MD_lay_3 rfl rfl ?_
  refine A_if_lt (tgt := 39) d_MD_lay_4 (by decide) (fun c21 => ?_) (fun c21 => absurd c21 (by decide))
  exact A_vret d_MD_lay_39 (by decide) rfl ⟨b3, b8, b13, b18, h4, h5, h9, h10, h14, h15, h19, eh4, eh5, eh9, eh10, eh14, eh15, eh19, eh20, rfl⟩
theorem c_MD_lay_a5 {G : cx_T} (h : ah_T) (ve : Int) (s_170 : h.1[170]? = some (12 + 4, 111)) (rR_170_0 : h.2.2.2 170 0 = some 171) (rI_170_1 : h.2.1 170 1 = 16) (s_171 : h.1[171]? = some (0, 2000)) : con G 0 0 0 m_MD_lay [av_R (some 170), av_I ve] h (fun r h' => ∃ b3 : Int, ∃ b8 : Int, ∃ b13 : Int, ∃ b18 : Int, ∃ h4 : ah_T, ∃ h5 : ah_T, ∃ h9 : ah_T, ∃ h10 : ah_T, ∃ h14 : ah_T, ∃ h15 : ah_T, ∃ h19 : ah_T, h4 = st_i h 171 16 b3 ∧ h5 = st_i h4 170 1 17 ∧ h9 = st_i h5 171 17 b8 ∧ h10 = st_i h9 170 1 18 ∧ h14 = st_i h10 171 18 b13 ∧ h15 = st_i h14 170 1 19 ∧ h19 = st_i h15 171 19 b18 ∧ h' = st_i h19 170 1 20 ∧ r = none) := by
  refine con_of (L := [some (av_R (some 170)), some (av_I ve), none]) (by decide +kernel) (Nat.le_of_ble_eq_true rfl) rfl ?_
  refine A_bipush d_MD_lay_0 rfl ?_
  refine A_istore_n 2 (L' := [some (av_R (some 170)), some (av_I ve), some (av_I 24)]) d_MD_lay_2 rfl (Nat.le_of_ble_eq_true rfl) rfl ?_
  refine A_iload_n 2 d_MD_lay_3 rfl rfl ?_
  refine A_if_lt (tgt := 39) d_MD_lay_4 (by decide) (fun c1 => absurd c1 (by decide)) (fun c1 => ?_)
  refine A_aload_n 0 d_MD_lay_7 rfl rfl ?_
  refine A_getAv (z := (some 171)) T_ok d_MD_lay_8 f_MD_7 s_170 rR_170_0 ?_
  refine A_aload_n 0 d_MD_lay_11 rfl rfl ?_
  refine A_getIv (z := 16) T_ok d_MD_lay_12 f_MD_226 s_170 rI_170_1 ?_
  refine A_iload_n 1 d_MD_lay_15 rfl rfl ?_
  refine A_pc (pc' := 16) rfl ?_
  refine A_iload_n 2 d_MD_lay_16 rfl rfl ?_
  refine A_ishr d_MD_lay_17 ?_
  refine A_nmI (fun b2 eb2 => ?_)
  refine A_sipush d_MD_lay_18 rfl ?_
  refine A_iand d_MD_lay_21 ?_
  refine A_nmI (fun b3 eb3 => ?_)
  refine A_iastorev (j := 16) d_MD_lay_22 s_171 (by decide) (by decide) rfl (fun h4 eh4 => ?_)
  refine A_aload_n 0 d_MD_lay_23 rfl rfl ?_
  refine A_pc (pc' := 24) rfl ?_
  refine A_dupR d_MD_lay_24 ?_
  refine A_getIv (z := 16) T_ok d_MD_lay_25 f_MD_226 (sp_i eh4 s_170) (ri_o eh4 (fun q => absurd q.1 (by decide)) rI_170_1) ?_
  refine A_iconst d_MD_lay_28 rfl ?_
  refine A_iaddv (z := 17) d_MD_lay_29 (by decide +kernel) ?_
  refine A_putIv T_ok d_MD_lay_30 f_MD_226 (sp_i eh4 s_170) fin_f (fun h5 eh5 => ?_)
  refine A_iincv (z := 16) (L' := [some (av_R (some 170)), some (av_I ve), some (av_I 16)]) d_MD_lay_33 rfl (by decide +kernel) rfl ?_
  refine A_pc (pc' := 36) rfl ?_
  refine A_goto (tgt := 3) d_MD_lay_36 (by decide) ?_
  refine A_iload_n 2 d_MD_lay_3 rfl rfl ?_
  refine A_if_lt (tgt := 39) d_MD_lay_4 (by decide) (fun c6 => absurd c6 (by decide)) (fun c6 => ?_)
  refine A_aload_n 0 d_MD_lay_7 rfl rfl ?_
  refine A_getAv (z := (some 171)) T_ok d_MD_lay_8 f_MD_7 (sp_i eh5 (sp_i eh4 s_170)) (rr_i eh5 (rr_i eh4 rR_170_0)) ?_
  refine A_aload_n 0 d_MD_lay_11 rfl rfl ?_
  refine A_getIv (z := 17) T_ok d_MD_lay_12 f_MD_226 (sp_i eh5 (sp_i eh4 s_170)) (ri_s eh5) ?_
  refine A_iload_n 1 d_MD_lay_15 rfl rfl ?_
  refine A_pc (pc' := 16) rfl ?_
  refine A_iload_n 2 d_MD_lay_16 rfl rfl ?_
  refine A_ishr d_MD_lay_17 ?_
  refine A_nmI (fun b7 eb7 => ?_)
  refine A_sipush d_MD_lay_18 rfl ?_
  refine A_iand d_MD_lay_21 ?_
  refine A_nmI (fun b8 eb8 => ?_)
  refine A_iastorev (j := 17) d_MD_lay_22 (sp_i eh5 (sp_i eh4 s_171)) (by decide) (by decide) rfl (fun h9 eh9 => ?_)
  refine A_aload_n 0 d_MD_lay_23 rfl rfl ?_
  refine A_pc (pc' := 24) rfl ?_
  refine A_dupR d_MD_lay_24 ?_
  refine A_getIv (z := 17) T_ok d_MD_lay_25 f_MD_226 (sp_i eh9 (sp_i eh5 (sp_i eh4 s_170))) (ri_o eh9 (fun q => absurd q.1 (by decide)) (ri_s eh5)) ?_
  refine A_iconst d_MD_lay_28 rfl ?_
  refine A_iaddv (z := 18) d_MD_lay_29 (by decide +kernel) ?_
  refine A_putIv T_ok d_MD_lay_30 f_MD_226 (sp_i eh9 (sp_i eh5 (sp_i eh4 s_170))) fin_f (fun h10 eh10 => ?_)
  refine A_iincv (z := 8) (L' := [some (av_R (some 170)), some (av_I ve), some (av_I 8)]) d_MD_lay_33 rfl (by decide +kernel) rfl ?_
  refine A_pc (pc' := 36) rfl ?_
  refine A_goto (tgt := 3) d_MD_lay_36 (by decide) ?_
  refine A_iload_n 2 d_MD_lay_3 rfl rfl ?_
  refine A_if_lt (tgt := 39) d_MD_lay_4 (by decide) (fun c11 => absurd c11 (by decide)) (fun c11 => ?_)
  refine A_aload_n 0 d_MD_lay_7 rfl rfl ?_
  refine A_getAv (z := (some 171)) T_ok d_MD_lay_8 f_MD_7 (sp_i eh10 (sp_i eh9 (sp_i eh5 (sp_i eh4 s_170)))) (rr_i eh10 (rr_i eh9 (rr_i eh5 (rr_i eh4 rR_170_0)))) ?_
  refine A_aload_n 0 d_MD_lay_11 rfl rfl ?_
  refine A_getIv (z := 18) T_ok d_MD_lay_12 f_MD_226 (sp_i eh10 (sp_i eh9 (sp_i eh5 (sp_i eh4 s_170)))) (ri_s eh10) ?_
  refine A_iload_n 1 d_MD_lay_15 rfl rfl ?_
  refine A_pc (pc' := 16) rfl ?_
  refine A_iload_n 2 d_MD_lay_16 rfl rfl ?_
  refine A_ishr d_MD_lay_17 ?_
  refine A_nmI (fun b12 eb12 => ?_)
  refine A_sipush d_MD_lay_18 rfl ?_
  refine A_iand d_MD_lay_21 ?_
  refine A_nmI (fun b13 eb13 => ?_)
  refine A_iastorev (j := 18) d_MD_lay_22 (sp_i eh10 (sp_i eh9 (sp_i eh5 (sp_i eh4 s_171)))) (by decide) (by decide) rfl (fun h14 eh14 => ?_)
  refine A_aload_n 0 d_MD_lay_23 rfl rfl ?_
  refine A_pc (pc' := 24) rfl ?_
  refine A_dupR d_MD_lay_24 ?_
  refine A_getIv (z := 18) T_ok d_MD_lay_25 f_MD_226 (sp_i eh14 (sp_i eh10 (sp_i eh9 (sp_i eh5 (sp_i eh4 s_170))))) (ri_o eh14 (fun q => absurd q.1 (by decide)) (ri_s eh10)) ?_
  refine A_iconst d_MD_lay_28 rfl ?_
  refine A_iaddv (z := 19) d_MD_lay_29 (by decide +kernel) ?_
  refine A_putIv T_ok d_MD_lay_30 f_MD_226 (sp_i eh14 (sp_i eh10 (sp_i eh9 (sp_i eh5 (sp_i eh4 s_170))))) fin_f (fun h15 eh15 => ?_)
  refine A_iincv (z := 0) (L' := [some (av_R (some 170)), some (av_I ve), some (av_I 0)]) d_MD_lay_33 rfl (by decide +kernel) rfl ?_
  refine A_pc (pc' := 36) rfl ?_
  refine A_goto (tgt := 3) d_MD_lay_36 (by decide) ?_
  refine A_iload_n 2 d_MD_lay_3 rfl rfl ?_
  refine A_if_lt (tgt := 39) d_MD_lay_4 (by decide) (fun c16 => absurd c16 (by decide)) (fun c16 => ?_)
  refine A_aload_n 0 d_MD_lay_7 rfl rfl ?_
  refine A_getAv (z := (some 171)) T_ok d_MD_lay_8 f_MD_7 (sp_i eh15 (sp_i eh14 (sp_i eh10 (sp_i eh9 (sp_i eh5 (sp_i eh4 s_170)))))) (rr_i eh15 (rr_i eh14 (rr_i eh10 (rr_i eh9 (rr_i eh5 (rr_i eh4 rR_170_0)))))) ?_
  refine A_aload_n 0 d_MD_lay_11 rfl rfl ?_
  refine A_getIv (z := 19) T_ok d_MD_lay_12 f_MD_226 (sp_i eh15 (sp_i eh14 (sp_i eh10 (sp_i eh9 (sp_i eh5 (sp_i eh4 s_170)))))) (ri_s eh15) ?_
  refine A_iload_n 1 d_MD_lay_15 rfl rfl ?_
  refine A_pc (pc' := 16) rfl ?_
  refine A_iload_n 2 d_MD_lay_16 rfl rfl ?_
  refine A_ishr d_MD_lay_17 ?_
  refine A_nmI (fun b17 eb17 => ?_)
  refine A_sipush d_MD_lay_18 rfl ?_
  refine A_iand d_MD_lay_21 ?_
  refine A_nmI (fun b18 eb18 => ?_)
  refine A_iastorev (j := 19) d_MD_lay_22 (sp_i eh15 (sp_i eh14 (sp_i eh10 (sp_i eh9 (sp_i eh5 (sp_i eh4 s_171)))))) (by decide) (by decide) rfl (fun h19 eh19 => ?_)
  refine A_aload_n 0 d_MD_lay_23 rfl rfl ?_
  refine A_pc (pc' := 24) rfl ?_
  refine A_dupR d_MD_lay_24 ?_
  refine A_getIv (z := 19) T_ok d_MD_lay_25 f_MD_226 (sp_i eh19 (sp_i eh15 (sp_i eh14 (sp_i eh10 (sp_i eh9 (sp_i eh5 (sp_i eh4 s_170))))))) (ri_o eh19 (fun q => absurd q.1 (by decide)) (ri_s eh15)) ?_
  refine A_iconst d_MD_lay_28 rfl ?_
  refine A_iaddv (z := 20) d_MD_lay_29 (by decide +kernel) ?_
  refine A_putIv T_ok d_MD_lay_30 f_MD_226 (sp_i eh19 (sp_i eh15 (sp_i eh14 (sp_i eh10 (sp_i eh9 (sp_i eh5 (sp_i eh4 s_170))))))) fin_f (fun h20 eh20 => ?_)
  refine A_iincv (z := (-8)) (L' := [some (av_R (some 170)), some (av_I ve), some (av_I (-8))]) d_MD_lay_33 rfl (by decide +kernel) rfl ?_
  refine A_pc (pc' := 36) rfl ?_
  refine A_goto (tgt := 3) d_MD_lay_36 (by decide) ?_
  refine A_iload_n 2 d_MD_lay_3 rfl rfl ?_
  refine A_if_lt (tgt := 39) d_MD_lay_4 (by decide) (fun c21 => ?_) (fun c21 => absurd c21 (by decide))
  exact A_vret d_MD_lay_39 (by decide) rfl ⟨b3, b8, b13, b18, h4, h5, h9, h10, h14, h15, h19, eh4, eh5, eh9, eh10, eh14, eh15, eh19, eh20, rfl⟩
theorem t_m_feed {G : cx_T} (h : ah_T) (hw : eqr 170 241 h) (va vb vc vd ve : Int) : con G 1 0 0 m_MD_feed [av_R (some 170), av_I va, av_I vb, av_I vc, av_I vd, av_I ve] h (fun r h' => (∃ v : Int, r = some (av_I v) ∧ v = 20)) := by
  refine con_of (L := [some (av_R (some 170)), some (av_I va), some (av_I vb), some (av_I vc), some (av_I vd), some (av_I ve)]) (by decide +kernel) (Nat.le_of_ble_eq_true rfl) rfl ?_
  refine A_aload_n 0 d_MD_feed_0 rfl rfl ?_
  refine A_getIv (z := 0) T_ok d_MD_feed_1 f_MD_226 (sb_s hw q_s_170) (rb_I hw (by decide) (by decide) q_I_170_1) ?_
  refine A_bipush d_MD_feed_4 rfl ?_
  refine A_iaddv (z := 20) d_MD_feed_6 (by decide +kernel) ?_
  refine A_sipush d_MD_feed_7 rfl ?_
  refine A_pc (pc' := 10) rfl ?_
  refine A_icmp_le (tgt := 16) d_MD_feed_10 (by decide) (fun c1 => ?_) (fun c1 => absurd c1 (by decide))
  refine A_aload_n 0 d_MD_feed_16 rfl rfl ?_
  refine A_iload_n 1 d_MD_feed_17 rfl rfl ?_
  refine A_callV1 m_MD_lay T_ok d_MD_feed_18 l_MD_229 k_MD_lay (sb_s hw q_s_170) rfl (by decide) (by decide) (Nat.le_of_ble_eq_true rfl) (c_MD_lay_a1 h _ (sb_s hw q_s_170) (rb_R hw (by decide) (by decide) q_R_170_0) (rb_I hw (by decide) (by decide) q_I_170_1) (sb_s hw q_s_171)) (fun r h2 hq => ?_)
  obtain ⟨z3, z4, z5, z6, h7, h8, h9, h10, h11, h12, h13, eh7, eh8, eh9, eh10, eh11, eh12, eh13, eh2, rfl⟩ := hq
  refine A_aload_n 0 d_MD_feed_21 rfl rfl ?_
  refine A_iload_n 2 d_MD_feed_22 rfl rfl ?_
  refine A_callV1 m_MD_lay T_ok d_MD_feed_23 l_MD_229 k_MD_lay (sp_i eh2 (sp_i eh13 (sp_i eh12 (sp_i eh11 (sp_i eh10 (sp_i eh9 (sp_i eh8 (sp_i eh7 (sb_s hw q_s_170))))))))) rfl (by decide) (by decide) (Nat.le_of_ble_eq_true rfl) (c_MD_lay_a2 h2 _ (sp_i eh2 (sp_i eh13 (sp_i eh12 (sp_i eh11 (sp_i eh10 (sp_i eh9 (sp_i eh8 (sp_i eh7 (sb_s hw q_s_170))))))))) (rr_i eh2 (rr_i eh13 (rr_i eh12 (rr_i eh11 (rr_i eh10 (rr_i eh9 (rr_i eh8 (rr_i eh7 (rb_R hw (by decide) (by decide) q_R_170_0))))))))) (ri_s eh2) (sp_i eh2 (sp_i eh13 (sp_i eh12 (sp_i eh11 (sp_i eh10 (sp_i eh9 (sp_i eh8 (sp_i eh7 (sb_s hw q_s_171)))))))))) (fun r h14 hq => ?_)
  obtain ⟨z15, z16, z17, z18, h19, h20, h21, h22, h23, h24, h25, eh19, eh20, eh21, eh22, eh23, eh24, eh25, eh14, rfl⟩ := hq
  refine A_aload_n 0 d_MD_feed_26 rfl rfl ?_
  refine A_iload_n 3 d_MD_feed_27 rfl rfl ?_
  refine A_callV1 m_MD_lay T_ok d_MD_feed_28 l_MD_229 k_MD_lay (sp_i eh14 (sp_i eh25 (sp_i eh24 (sp_i eh23 (sp_i eh22 (sp_i eh21 (sp_i eh20 (sp_i eh19 (sp_i eh2 (sp_i eh13 (sp_i eh12 (sp_i eh11 (sp_i eh10 (sp_i eh9 (sp_i eh8 (sp_i eh7 (sb_s hw q_s_170))))))))))))))))) rfl (by decide) (by decide) (Nat.le_of_ble_eq_true rfl) (c_MD_lay_a3 h14 _ (sp_i eh14 (sp_i eh25 (sp_i eh24 (sp_i eh23 (sp_i eh22 (sp_i eh21 (sp_i eh20 (sp_i eh19 (sp_i eh2 (sp_i eh13 (sp_i eh12 (sp_i eh11 (sp_i eh10 (sp_i eh9 (sp_i eh8 (sp_i eh7 (sb_s hw q_s_170))))))))))))))))) (rr_i eh14 (rr_i eh25 (rr_i eh24 (rr_i eh23 (rr_i eh22 (rr_i eh21 (rr_i eh20 (rr_i eh19 (rr_i eh2 (rr_i eh13 (rr_i eh12 (rr_i eh11 (rr_i eh10 (rr_i eh9 (rr_i eh8 (rr_i eh7 (rb_R hw (by decide) (by decide) q_R_170_0))))))))))))))))) (ri_s eh14) (sp_i eh14 (sp_i eh25 (sp_i eh24 (sp_i eh23 (sp_i eh22 (sp_i eh21 (sp_i eh20 (sp_i eh19 (sp_i eh2 (sp_i eh13 (sp_i eh12 (sp_i eh11 (sp_i eh10 (sp_i eh9 (sp_i eh8 (sp_i eh7 (sb_s hw q_s_171)))))))))))))))))) (fun r h26 hq => ?_)
  obtain ⟨z27, z28, z29, z30, h31, h32, h33, h34, h35, h36, h37, eh31, eh32, eh33, eh34, eh35, eh36, eh37, eh26, rfl⟩ := hq
  refine A_aload_n 0 d_MD_feed_31 rfl rfl ?_
  refine A_iload d_MD_feed_32 rfl ?_
  refine A_callV1 m_MD_lay T_ok d_MD_feed_34 l_MD_229 k_MD_lay (sp_i eh26 (sp_i eh37 (sp_i eh36 (sp_i eh35 (sp_i eh34 (sp_i eh33 (sp_i eh32 (sp_i eh31 (sp_i eh14 (sp_i eh25 (sp_i eh24 (sp_i eh23 (sp_i eh22 (sp_i eh21 (sp_i eh20 (sp_i eh19 (sp_i eh2 (sp_i eh13 (sp_i eh12 (sp_i eh11 (sp_i eh10 (sp_i eh9 (sp_i eh8 (sp_i eh7 (sb_s hw q_s_170))))))))))))))))))))))))) rfl (by decide) (by decide) (Nat.le_of_ble_eq_true rfl) (c_MD_lay_a4 h26 _ (sp_i eh26 (sp_i eh37 (sp_i eh36 (sp_i eh35 (sp_i eh34 (sp_i eh33 (sp_i eh32 (sp_i eh31 (sp_i eh14 (sp_i eh25 (sp_i eh24 (sp_i eh23 (sp_i eh22 (sp_i eh21 (sp_i eh20 (sp_i eh19 (sp_i eh2 (sp_i eh13 (sp_i eh12 (sp_i eh11 (sp_i eh10 (sp_i eh9 (sp_i eh8 (sp_i eh7 (sb_s hw q_s_170))))))))))))))))))))))))) (rr_i eh26 (rr_i eh37 (rr_i eh36 (rr_i eh35 (rr_i eh34 (rr_i eh33 (rr_i eh32 (rr_i eh31 (rr_i eh14 (rr_i eh25 (rr_i eh24 (rr_i eh23 (rr_i eh22 (rr_i eh21 (rr_i eh20 (rr_i eh19 (rr_i eh2 (rr_i eh13 (rr_i eh12 (rr_i eh11 (rr_i eh10 (rr_i eh9 (rr_i eh8 (rr_i eh7 (rb_R hw (by decide) (by decide) q_R_170_0))))))))))))))))))))))))) (ri_s eh26) (sp_i eh26 (sp_i eh37 (sp_i eh36 (sp_i eh35 (sp_i eh34 (sp_i eh33 (sp_i eh32 (sp_i eh31 (sp_i eh14 (sp_i eh25 (sp_i eh24 (sp_i eh23 (sp_i eh22 (sp_i eh21 (sp_i eh20 (sp_i eh19 (sp_i eh2 (sp_i eh13 (sp_i eh12 (sp_i eh11 (sp_i eh10 (sp_i eh9 (sp_i eh8 (sp_i eh7 (sb_s hw q_s_171)))))))))))))))))))))))))) (fun r h38 hq => ?_)
  obtain ⟨z39, z40, z41, z42, h43, h44, h45, h46, h47, h48, h49, eh43, eh44, eh45, eh46, eh47, eh48, eh49, eh38, rfl⟩ := hq
  refine A_aload_n 0 d_MD_feed_37 rfl rfl ?_
  refine A_iload d_MD_feed_38 rfl ?_
  refine A_callV1 m_MD_lay T_ok d_MD_feed_40 l_MD_229 k_MD_lay (sp_i eh38 (sp_i eh49 (sp_i eh48 (sp_i eh47 (sp_i eh46 (sp_i eh45 (sp_i eh44 (sp_i eh43 (sp_i eh26 (sp_i eh37 (sp_i eh36 (sp_i eh35 (sp_i eh34 (sp_i eh33 (sp_i eh32 (sp_i eh31 (sp_i eh14 (sp_i eh25 (sp_i eh24 (sp_i eh23 (sp_i eh22 (sp_i eh21 (sp_i eh20 (sp_i eh19 (sp_i eh2 (sp_i eh13 (sp_i eh12 (sp_i eh11 (sp_i eh10 (sp_i eh9 (sp_i eh8 (sp_i eh7 (sb_s hw q_s_170))))))))))))))))))))))))))))))))) rfl (by decide) (by decide) (Nat.le_of_ble_eq_true rfl) (c_MD_lay_a5 h38 _ (sp_i eh38 (sp_i eh49 (sp_i eh48 (sp_i eh47 (sp_i eh46 (sp_i eh45 (sp_i eh44 (sp_i eh43 (sp_i eh26 (sp_i eh37 (sp_i eh36 (sp_i eh35 (sp_i eh34 (sp_i eh33 (sp_i eh32 (sp_i eh31 (sp_i eh14 (sp_i eh25 (sp_i eh24 (sp_i eh23 (sp_i eh22 (sp_i eh21 (sp_i eh20 (sp_i eh19 (sp_i eh2 (sp_i eh13 (sp_i eh12 (sp_i eh11 (sp_i eh10 (sp_i eh9 (sp_i eh8 (sp_i eh7 (sb_s hw q_s_170))))))))))))))))))))))))))))))))) (rr_i eh38 (rr_i eh49 (rr_i eh48 (rr_i eh47 (rr_i eh46 (rr_i eh45 (rr_i eh44 (rr_i eh43 (rr_i eh26 (rr_i eh37 (rr_i eh36 (rr_i eh35 (rr_i eh34 (rr_i eh33 (rr_i eh32 (rr_i eh31 (rr_i eh14 (rr_i eh25 (rr_i eh24 (rr_i eh23 (rr_i eh22 (rr_i eh21 (rr_i eh20 (rr_i eh19 (rr_i eh2 (rr_i eh13 (rr_i eh12 (rr_i eh11 (rr_i eh10 (rr_i eh9 (rr_i eh8 (rr_i eh7 (rb_R hw (by decide) (by decide) q_R_170_0))))))))))))))))))))))))))))))))) (ri_s eh38) (sp_i eh38 (sp_i eh49 (sp_i eh48 (sp_i eh47 (sp_i eh46 (sp_i eh45 (sp_i eh44 (sp_i eh43 (sp_i eh26 (sp_i eh37 (sp_i eh36 (sp_i eh35 (sp_i eh34 (sp_i eh33 (sp_i eh32 (sp_i eh31 (sp_i eh14 (sp_i eh25 (sp_i eh24 (sp_i eh23 (sp_i eh22 (sp_i eh21 (sp_i eh20 (sp_i eh19 (sp_i eh2 (sp_i eh13 (sp_i eh12 (sp_i eh11 (sp_i eh10 (sp_i eh9 (sp_i eh8 (sp_i eh7 (sb_s hw q_s_171)))))))))))))))))))))))))))))))))) (fun r h50 hq => ?_)
  obtain ⟨z51, z52, z53, z54, h55, h56, h57, h58, h59, h60, h61, eh55, eh56, eh57, eh58, eh59, eh60, eh61, eh50, rfl⟩ := hq
  refine A_aload_n 0 d_MD_feed_43 rfl rfl ?_
  refine A_getIv (z := 20) T_ok d_MD_feed_44 f_MD_226 (sp_i eh50 (sp_i eh61 (sp_i eh60 (sp_i eh59 (sp_i eh58 (sp_i eh57 (sp_i eh56 (sp_i eh55 (sp_i eh38 (sp_i eh49 (sp_i eh48 (sp_i eh47 (sp_i eh46 (sp_i eh45 (sp_i eh44 (sp_i eh43 (sp_i eh26 (sp_i eh37 (sp_i eh36 (sp_i eh35 (sp_i eh34 (sp_i eh33 (sp_i eh32 (sp_i eh31 (sp_i eh14 (sp_i eh25 (sp_i eh24 (sp_i eh23 (sp_i eh22 (sp_i eh21 (sp_i eh20 (sp_i eh19 (sp_i eh2 (sp_i eh13 (sp_i eh12 (sp_i eh11 (sp_i eh10 (sp_i eh9 (sp_i eh8 (sp_i eh7 (sb_s hw q_s_170))))))))))))))))))))))))))))))))))))))))) (ri_s eh50) ?_
  exact A_iret d_MD_feed_47 (by decide) rfl ⟨20, rfl, by (try unfold w32); omega⟩
theorem t_m_cut {G : cx_T} (h : ah_T) (hw : eqr 170 241 h) (vn : Int) : con G 0 0 0 m_MD_cut [av_R (some 170), av_I vn] h (fun r h' => (∃ v : Int, r = some (av_I v) ∧ ((vn < 0 ∨ 0 < vn) → v = -1) ∧ (¬ (vn < 0 ∨ 0 < vn) → v = 0))) := by
  refine con_of (L := [some (av_R (some 170)), some (av_I vn)]) (by decide +kernel) (Nat.le_of_ble_eq_true rfl) rfl ?_
  refine A_iload_n 1 d_MD_cut_0 rfl rfl ?_
  refine A_if_lt (tgt := 12) d_MD_cut_1 (by decide) (fun c1 => ?_) (fun c1 => ?_)
  · refine A_iconst d_MD_cut_12 rfl ?_
    exact A_iret d_MD_cut_13 (by decide) rfl ⟨(-1), rfl, by (try unfold w32); omega⟩
  · refine A_iload_n 1 d_MD_cut_4 rfl rfl ?_
    refine A_aload_n 0 d_MD_cut_5 rfl rfl ?_
    refine A_getIv (z := 0) T_ok d_MD_cut_6 f_MD_226 (sb_s hw q_s_170) (rb_I hw (by decide) (by decide) q_I_170_1) ?_
    refine A_icmp_le (tgt := 14) d_MD_cut_9 (by decide) (fun c2 => ?_) (fun c2 => ?_)
    · refine A_aload_n 0 d_MD_cut_14 rfl rfl ?_
      refine A_dupR d_MD_cut_15 ?_
      refine A_getIv (z := 0) T_ok d_MD_cut_16 f_MD_226 (sb_s hw q_s_170) (rb_I hw (by decide) (by decide) q_I_170_1) ?_
      refine A_iload_n 1 d_MD_cut_19 rfl rfl ?_
      refine A_isubv (z := (w32 (0 - vn))) d_MD_cut_20 rfl ?_
      refine A_pc (pc' := 21) rfl ?_
      refine A_putIv T_ok d_MD_cut_21 f_MD_226 (sb_s hw q_s_170) fin_f (fun h3 eh3 => ?_)
      refine A_aload_n 0 d_MD_cut_24 rfl rfl ?_
      refine A_getIv (z := (w32 (0 - vn))) T_ok d_MD_cut_25 f_MD_226 (sp_i eh3 (sb_s hw q_s_170)) (ri_s eh3) ?_
      exact A_iret d_MD_cut_28 (by decide) rfl ⟨(w32 (0 - vn)), rfl, by (try unfold w32); omega⟩
    · refine A_iconst d_MD_cut_12 rfl ?_
      exact A_iret d_MD_cut_13 (by decide) rfl ⟨(-1), rfl, by (try unfold w32); omega⟩
theorem c_MD_next_a1 {G : cx_T} (h : ah_T)  (s_170 : h.1[170]? = some (12 + 4, 111)) (rI_170_3 : h.2.1 170 3 = 0) (rI_170_2 : h.2.1 170 2 = 0) : con G 2 0 0 m_MD_next [av_R (some 170)] h (fun r h' => ∃ h2 : ah_T, h2 = st_i h 170 5 0 ∧ h' = st_i h2 170 4 0 ∧ r = some (av_I 1)) := by
  refine con_of (L := [some (av_R (some 170)), none, none, none]) (by decide +kernel) (Nat.le_of_ble_eq_true rfl) rfl ?_
  refine A_iconst d_MD_next_0 rfl ?_
  refine A_istore_n 1 (L' := [some (av_R (some 170)), some (av_I 0), none, none]) d_MD_next_1 rfl (Nat.le_of_ble_eq_true rfl) rfl ?_
  refine A_aload_n 0 d_MD_next_2 rfl rfl ?_
  refine A_getIv (z := 0) T_ok d_MD_next_3 f_MD_252 s_170 rI_170_3 ?_
  refine A_aload_n 0 d_MD_next_6 rfl rfl ?_
  refine A_pc (pc' := 7) rfl ?_
  refine A_getIv (z := 0) T_ok d_MD_next_7 f_MD_249 s_170 rI_170_2 ?_
  refine A_icmp_ge (tgt := 138) d_MD_next_10 (by decide) (fun c1 => ?_) (fun c1 => absurd c1 (by decide))
  refine A_aload_n 0 d_MD_next_138 rfl rfl ?_
  refine A_aload_n 0 d_MD_next_139 rfl rfl ?_
  refine A_getIv (z := 0) T_ok d_MD_next_140 f_MD_252 s_170 rI_170_3 ?_
  refine A_putIv T_ok d_MD_next_143 f_MD_242 s_170 fin_f (fun h2 eh2 => ?_)
  refine A_aload_n 0 d_MD_next_146 rfl rfl ?_
  refine A_pc (pc' := 147) rfl ?_
  refine A_getIv (z := 0) T_ok d_MD_next_147 f_MD_252 (sp_i eh2 s_170) (ri_o eh2 (fun q => absurd q.2 (by decide)) rI_170_3) ?_
  refine A_aload_n 0 d_MD_next_150 rfl rfl ?_
  refine A_getIv (z := 0) T_ok d_MD_next_151 f_MD_249 (sp_i eh2 s_170) (ri_o eh2 (fun q => absurd q.2 (by decide)) rI_170_2) ?_
  refine A_icmp_ne (tgt := 164) d_MD_next_154 (by decide) (fun c3 => absurd c3 (by decide)) (fun c3 => ?_)
  refine A_aload_n 0 d_MD_next_157 rfl rfl ?_
  refine A_iconst d_MD_next_158 rfl ?_
  refine A_putIv T_ok d_MD_next_159 f_MD_239 (sp_i eh2 s_170) fin_f (fun h4 eh4 => ?_)
  refine A_iconst d_MD_next_162 rfl ?_
  exact A_zret d_MD_next_163 (by decide) rfl (Or.inr rfl) ⟨h2, eh2, eh4, rfl⟩
set_option maxRecDepth 100000 in
set_option maxHeartbeats 8000000 in
theorem c_MD_parse_a1 {G : cx_T} (h : ah_T)  (s_170 : h.1[170]? = some (12 + 4, 111)) (rR_170_14 : h.2.2.2 170 14 = some 172) (s_172 : h.1[172]? = some (0, 2)) (rR_170_15 : h.2.2.2 170 15 = some 173) (s_173 : h.1[173]? = some (0, 2)) (rR_170_16 : h.2.2.2 170 16 = some 174) (s_174 : h.1[174]? = some (0, 2)) (rR_170_17 : h.2.2.2 170 17 = some 175) (s_175 : h.1[175]? = some (0, 2)) (rR_170_19 : h.2.2.2 170 19 = some 177) (s_177 : h.1[177]? = some (0, 2)) (rR_170_23 : h.2.2.2 170 23 = some 181) (s_181 : h.1[181]? = some (0, 2)) (rR_170_25 : h.2.2.2 170 25 = some 183) (s_183 : h.1[183]? = some (0, 2)) (rI_170_3 : h.2.1 170 3 = 0) (rI_170_2 : h.2.1 170 2 = 0) : con G 7 0 0 m_MD_parse [av_R (some 170)] h (fun r h' => ∃ h1 : ah_T, ∃ h2 : ah_T, ∃ h3 : ah_T, ∃ h4 : ah_T, ∃ h5 : ah_T, ∃ h6 : ah_T, ∃ h7 : ah_T, ∃ h8 : ah_T, ∃ h9 : ah_T, ∃ h10 : ah_T, ∃ h12 : ah_T, h1 = st_i h 172 1 0 ∧ h2 = st_i h1 173 1 4 ∧ h3 = st_i h2 174 1 4 ∧ h4 = st_i h3 175 1 0 ∧ h5 = st_i h4 177 1 0 ∧ h6 = st_i h5 181 1 0 ∧ h7 = st_i h6 183 1 0 ∧ h8 = st_i h7 170 59 0 ∧ h9 = st_i h8 170 60 0 ∧ h10 = st_i h9 170 61 0 ∧ h12 = st_i h10 170 5 0 ∧ h' = st_i h12 170 4 0 ∧ r = some (av_I 1)) := by
  refine con_of (L := [some (av_R (some 170)), none]) (by decide +kernel) (Nat.le_of_ble_eq_true rfl) rfl ?_
  have hsh : h.1 = h.1 := rfl
  have hrr : h.2.2.2 = h.2.2.2 := rfl
  have hag : agr [] h h := fun _ _ _ => rfl
  refine A_aload_n 0 d_MD_parse_0 rfl rfl ?_
  refine A_getAv (z := (some 172)) T_ok d_MD_parse_1 f_MD_17 s_170 rR_170_14 ?_
  refine A_iconst d_MD_parse_4 rfl ?_
  refine A_iconst d_MD_parse_5 rfl ?_
  refine A_iastorev (j := 1) d_MD_parse_6 s_172 (by decide) (by decide) rfl (fun h1 eh1 => ?_)
  replace hsh := (lh_si eh1).trans hsh
  replace hag := ag_i eh1 hag
  replace hrr := (lh_ri eh1).trans hrr
  refine A_pc (pc' := 7) rfl ?_
  refine A_aload_n 0 d_MD_parse_7 rfl rfl ?_
  refine A_getAv (z := (some 173)) T_ok d_MD_parse_8 f_MD_20 ((congrArg (fun q => q[170]?) hsh).trans s_170) ((congrFun (congrFun hrr 170) 15).trans rR_170_15) ?_
  refine A_iconst d_MD_parse_11 rfl ?_
  refine A_iconst d_MD_parse_12 rfl ?_
  refine A_iastorev (j := 1) d_MD_parse_13 ((congrArg (fun q => q[173]?) hsh).trans s_173) (by decide) (by decide) rfl (fun h2 eh2 => ?_)
  replace hsh := (lh_si eh2).trans hsh
  replace hag := ag_i eh2 hag
  replace hrr := (lh_ri eh2).trans hrr
  refine A_aload_n 0 d_MD_parse_14 rfl rfl ?_
  refine A_pc (pc' := 15) rfl ?_
  refine A_getAv (z := (some 174)) T_ok d_MD_parse_15 f_MD_23 ((congrArg (fun q => q[170]?) hsh).trans s_170) ((congrFun (congrFun hrr 170) 16).trans rR_170_16) ?_
  refine A_iconst d_MD_parse_18 rfl ?_
  refine A_iconst d_MD_parse_19 rfl ?_
  refine A_iastorev (j := 1) d_MD_parse_20 ((congrArg (fun q => q[174]?) hsh).trans s_174) (by decide) (by decide) rfl (fun h3 eh3 => ?_)
  replace hsh := (lh_si eh3).trans hsh
  replace hag := ag_i eh3 hag
  replace hrr := (lh_ri eh3).trans hrr
  refine A_aload_n 0 d_MD_parse_21 rfl rfl ?_
  refine A_getAv (z := (some 175)) T_ok d_MD_parse_22 f_MD_26 ((congrArg (fun q => q[170]?) hsh).trans s_170) ((congrFun (congrFun hrr 170) 17).trans rR_170_17) ?_
  refine A_pc (pc' := 25) rfl ?_
  refine A_iconst d_MD_parse_25 rfl ?_
  refine A_iconst d_MD_parse_26 rfl ?_
  refine A_iastorev (j := 1) d_MD_parse_27 ((congrArg (fun q => q[175]?) hsh).trans s_175) (by decide) (by decide) rfl (fun h4 eh4 => ?_)
  replace hsh := (lh_si eh4).trans hsh
  replace hag := ag_i eh4 hag
  replace hrr := (lh_ri eh4).trans hrr
  refine A_aload_n 0 d_MD_parse_28 rfl rfl ?_
  refine A_getAv (z := (some 177)) T_ok d_MD_parse_29 f_MD_32 ((congrArg (fun q => q[170]?) hsh).trans s_170) ((congrFun (congrFun hrr 170) 19).trans rR_170_19) ?_
  refine A_iconst d_MD_parse_32 rfl ?_
  refine A_pc (pc' := 33) rfl ?_
  refine A_iconst d_MD_parse_33 rfl ?_
  refine A_iastorev (j := 1) d_MD_parse_34 ((congrArg (fun q => q[177]?) hsh).trans s_177) (by decide) (by decide) rfl (fun h5 eh5 => ?_)
  replace hsh := (lh_si eh5).trans hsh
  replace hag := ag_i eh5 hag
  replace hrr := (lh_ri eh5).trans hrr
  refine A_aload_n 0 d_MD_parse_35 rfl rfl ?_
  refine A_getAv (z := (some 181)) T_ok d_MD_parse_36 f_MD_44 ((congrArg (fun q => q[170]?) hsh).trans s_170) ((congrFun (congrFun hrr 170) 23).trans rR_170_23) ?_
  refine A_iconst d_MD_parse_39 rfl ?_
  refine A_iconst d_MD_parse_40 rfl ?_
  refine A_pc (pc' := 41) rfl ?_
  refine A_iastorev (j := 1) d_MD_parse_41 ((congrArg (fun q => q[181]?) hsh).trans s_181) (by decide) (by decide) rfl (fun h6 eh6 => ?_)
  replace hsh := (lh_si eh6).trans hsh
  replace hag := ag_i eh6 hag
  replace hrr := (lh_ri eh6).trans hrr
  refine A_aload_n 0 d_MD_parse_42 rfl rfl ?_
  refine A_getAv (z := (some 183)) T_ok d_MD_parse_43 f_MD_50 ((congrArg (fun q => q[170]?) hsh).trans s_170) ((congrFun (congrFun hrr 170) 25).trans rR_170_25) ?_
  refine A_iconst d_MD_parse_46 rfl ?_
  refine A_iconst d_MD_parse_47 rfl ?_
  refine A_iastorev (j := 1) d_MD_parse_48 ((congrArg (fun q => q[183]?) hsh).trans s_183) (by decide) (by decide) rfl (fun h7 eh7 => ?_)
  replace hsh := (lh_si eh7).trans hsh
  replace hag := ag_i eh7 hag
  replace hrr := (lh_ri eh7).trans hrr
  refine A_pc (pc' := 49) rfl ?_
  refine A_aload_n 0 d_MD_parse_49 rfl rfl ?_
  refine A_iconst d_MD_parse_50 rfl ?_
  refine A_putZv T_ok d_MD_parse_51 f_MD_316 ((congrArg (fun q => q[170]?) hsh).trans s_170) fin_f (Or.inl rfl) (fun h8 eh8 => ?_)
  replace hsh := (lh_si eh8).trans hsh
  replace hag := ag_i eh8 hag
  replace hrr := (lh_ri eh8).trans hrr
  refine A_aload_n 0 d_MD_parse_54 rfl rfl ?_
  refine A_iconst d_MD_parse_55 rfl ?_
  refine A_putZv T_ok d_MD_parse_56 f_MD_320 ((congrArg (fun q => q[170]?) hsh).trans s_170) fin_f (Or.inl rfl) (fun h9 eh9 => ?_)
  replace hsh := (lh_si eh9).trans hsh
  replace hag := ag_i eh9 hag
  replace hrr := (lh_ri eh9).trans hrr
  refine A_pc (pc' := 59) rfl ?_
  refine A_aload_n 0 d_MD_parse_59 rfl rfl ?_
  refine A_iconst d_MD_parse_60 rfl ?_
  refine A_putZv T_ok d_MD_parse_61 f_MD_323 ((congrArg (fun q => q[170]?) hsh).trans s_170) fin_f (Or.inl rfl) (fun h10 eh10 => ?_)
  replace hsh := (lh_si eh10).trans hsh
  replace hag := ag_i eh10 hag
  replace hrr := (lh_ri eh10).trans hrr
  refine A_aload_n 0 d_MD_parse_64 rfl rfl ?_
  refine A_callV0 m_MD_next T_ok d_MD_parse_65 l_MD_309 k_MD_next ((congrArg (fun q => q[170]?) hsh).trans s_170) rfl (by decide) (by decide) (Nat.le_of_ble_eq_true rfl) (c_MD_next_a1 h10 ((congrArg (fun q => q[170]?) hsh).trans s_170) ((hag 170 3 (by decide)).trans rI_170_3) ((hag 170 2 (by decide)).trans rI_170_2)) (fun r h11 hq => ?_)
  obtain ⟨h12, eh12, eh11, rfl⟩ := hq
  replace hsh := (lh_si eh12).trans hsh
  replace hag := ag_i eh12 hag
  replace hrr := (lh_ri eh12).trans hrr
  replace hsh := (lh_si eh11).trans hsh
  replace hag := ag_i eh11 hag
  replace hrr := (lh_ri eh11).trans hrr
  refine A_popI d_MD_parse_68 ?_
  refine A_aload_n 0 d_MD_parse_69 rfl rfl ?_
  refine A_getIv (z := 0) T_ok d_MD_parse_70 f_MD_239 ((congrArg (fun q => q[170]?) hsh).trans s_170) (ri_s eh11) ?_
  refine A_if_eq (tgt := 170) d_MD_parse_73 (by decide) (fun c13 => ?_) (fun c13 => absurd c13 (by decide))
  refine A_iconst d_MD_parse_170 rfl ?_
  exact A_zret d_MD_parse_171 (by decide) rfl (Or.inr rfl) ⟨h1, h2, h3, h4, h5, h6, h7, h8, h9, h10, h12, eh1, eh2, eh3, eh4, eh5, eh6, eh7, eh8, eh9, eh10, eh12, eh11, rfl⟩
theorem t_m_score {G : cx_T} (h : ah_T) (hw : eqr 170 241 h) : con G 8 0 0 m_MD_score [av_R (some 170)] h (fun r h' => (∃ v : Int, r = some (av_I v) ∧ v = 0)) := by
  refine con_of (L := [some (av_R (some 170)), none, none]) (by decide +kernel) (Nat.le_of_ble_eq_true rfl) rfl ?_
  refine A_aload_n 0 d_MD_score_0 rfl rfl ?_
  refine A_aload_n 0 d_MD_score_1 rfl rfl ?_
  refine A_getIv (z := 0) T_ok d_MD_score_2 f_MD_226 (sb_s hw q_s_170) (rb_I hw (by decide) (by decide) q_I_170_1) ?_
  refine A_putIv T_ok d_MD_score_5 f_MD_249 (sb_s hw q_s_170) fin_f (fun h1 eh1 => ?_)
  refine A_aload_n 0 d_MD_score_8 rfl rfl ?_
  refine A_pc (pc' := 9) rfl ?_
  refine A_iconst d_MD_score_9 rfl ?_
  refine A_putIv T_ok d_MD_score_10 f_MD_226 (sp_i eh1 (sb_s hw q_s_170)) fin_f (fun h2 eh2 => ?_)
  refine A_aload_n 0 d_MD_score_13 rfl rfl ?_
  refine A_iconst d_MD_score_14 rfl ?_
  refine A_putIv T_ok d_MD_score_15 f_MD_252 (sp_i eh2 (sp_i eh1 (sb_s hw q_s_170))) fin_f (fun h3 eh3 => ?_)
  refine A_aload_n 0 d_MD_score_18 rfl rfl ?_
  refine A_pc (pc' := 19) rfl ?_
  refine A_iconst d_MD_score_19 rfl ?_
  refine A_putIv T_ok d_MD_score_20 f_MD_233 (sp_i eh3 (sp_i eh2 (sp_i eh1 (sb_s hw q_s_170)))) fin_f (fun h4 eh4 => ?_)
  refine A_aload_n 0 d_MD_score_23 rfl rfl ?_
  refine A_bipush d_MD_score_24 rfl ?_
  refine A_putIv T_ok d_MD_score_26 f_MD_13 (sp_i eh4 (sp_i eh3 (sp_i eh2 (sp_i eh1 (sb_s hw q_s_170))))) fin_f (fun h5 eh5 => ?_)
  refine A_aload_n 0 d_MD_score_29 rfl rfl ?_
  refine A_pc (pc' := 30) rfl ?_
  refine A_callV0 m_MD_parse T_ok d_MD_score_30 l_MD_465 k_MD_parse (sp_i eh5 (sp_i eh4 (sp_i eh3 (sp_i eh2 (sp_i eh1 (sb_s hw q_s_170)))))) rfl (by decide) (by decide) (Nat.le_of_ble_eq_true rfl) (c_MD_parse_a1 h5 (sp_i eh5 (sp_i eh4 (sp_i eh3 (sp_i eh2 (sp_i eh1 (sb_s hw q_s_170)))))) (rr_i eh5 (rr_i eh4 (rr_i eh3 (rr_i eh2 (rr_i eh1 (rb_R hw (by decide) (by decide) q_R_170_14)))))) (sp_i eh5 (sp_i eh4 (sp_i eh3 (sp_i eh2 (sp_i eh1 (sb_s hw q_s_172)))))) (rr_i eh5 (rr_i eh4 (rr_i eh3 (rr_i eh2 (rr_i eh1 (rb_R hw (by decide) (by decide) q_R_170_15)))))) (sp_i eh5 (sp_i eh4 (sp_i eh3 (sp_i eh2 (sp_i eh1 (sb_s hw q_s_173)))))) (rr_i eh5 (rr_i eh4 (rr_i eh3 (rr_i eh2 (rr_i eh1 (rb_R hw (by decide) (by decide) q_R_170_16)))))) (sp_i eh5 (sp_i eh4 (sp_i eh3 (sp_i eh2 (sp_i eh1 (sb_s hw q_s_174)))))) (rr_i eh5 (rr_i eh4 (rr_i eh3 (rr_i eh2 (rr_i eh1 (rb_R hw (by decide) (by decide) q_R_170_17)))))) (sp_i eh5 (sp_i eh4 (sp_i eh3 (sp_i eh2 (sp_i eh1 (sb_s hw q_s_175)))))) (rr_i eh5 (rr_i eh4 (rr_i eh3 (rr_i eh2 (rr_i eh1 (rb_R hw (by decide) (by decide) q_R_170_19)))))) (sp_i eh5 (sp_i eh4 (sp_i eh3 (sp_i eh2 (sp_i eh1 (sb_s hw q_s_177)))))) (rr_i eh5 (rr_i eh4 (rr_i eh3 (rr_i eh2 (rr_i eh1 (rb_R hw (by decide) (by decide) q_R_170_23)))))) (sp_i eh5 (sp_i eh4 (sp_i eh3 (sp_i eh2 (sp_i eh1 (sb_s hw q_s_181)))))) (rr_i eh5 (rr_i eh4 (rr_i eh3 (rr_i eh2 (rr_i eh1 (rb_R hw (by decide) (by decide) q_R_170_25)))))) (sp_i eh5 (sp_i eh4 (sp_i eh3 (sp_i eh2 (sp_i eh1 (sb_s hw q_s_183)))))) (ri_o eh5 (fun q => absurd q.2 (by decide)) (ri_o eh4 (fun q => absurd q.2 (by decide)) (ri_s eh3))) (ri_o eh5 (fun q => absurd q.2 (by decide)) (ri_o eh4 (fun q => absurd q.2 (by decide)) (ri_o eh3 (fun q => absurd q.2 (by decide)) (ri_o eh2 (fun q => absurd q.2 (by decide)) (ri_s eh1)))))) (fun r h6 hq => ?_)
  obtain ⟨h7, h8, h9, h10, h11, h12, h13, h14, h15, h16, h17, eh7, eh8, eh9, eh10, eh11, eh12, eh13, eh14, eh15, eh16, eh17, eh6, rfl⟩ := hq
  refine A_if_ne (tgt := 52) d_MD_score_33 (by decide) (fun c18 => ?_) (fun c18 => absurd c18 (by decide))
  refine A_aload_n 0 d_MD_score_52 rfl rfl ?_
  refine A_callV0 m_MD_keep T_ok d_MD_score_53 l_MD_468 k_MD_keep (sp_i eh6 (sp_i eh17 (sp_i eh16 (sp_i eh15 (sp_i eh14 (sp_i eh13 (sp_i eh12 (sp_i eh11 (sp_i eh10 (sp_i eh9 (sp_i eh8 (sp_i eh7 (sp_i eh5 (sp_i eh4 (sp_i eh3 (sp_i eh2 (sp_i eh1 (sb_s hw q_s_170)))))))))))))))))) rfl (by decide) (by decide) (Nat.le_of_ble_eq_true rfl) (c_MD_keep h6 (sp_i eh6 (sp_i eh17 (sp_i eh16 (sp_i eh15 (sp_i eh14 (sp_i eh13 (sp_i eh12 (sp_i eh11 (sp_i eh10 (sp_i eh9 (sp_i eh8 (sp_i eh7 (sp_i eh5 (sp_i eh4 (sp_i eh3 (sp_i eh2 (sp_i eh1 (sb_s hw q_s_170)))))))))))))))))) (sp_i eh6 (sp_i eh17 (sp_i eh16 (sp_i eh15 (sp_i eh14 (sp_i eh13 (sp_i eh12 (sp_i eh11 (sp_i eh10 (sp_i eh9 (sp_i eh8 (sp_i eh7 (sp_i eh5 (sp_i eh4 (sp_i eh3 (sp_i eh2 (sp_i eh1 (sb_s hw q_s_172)))))))))))))))))) (sp_i eh6 (sp_i eh17 (sp_i eh16 (sp_i eh15 (sp_i eh14 (sp_i eh13 (sp_i eh12 (sp_i eh11 (sp_i eh10 (sp_i eh9 (sp_i eh8 (sp_i eh7 (sp_i eh5 (sp_i eh4 (sp_i eh3 (sp_i eh2 (sp_i eh1 (sb_s hw q_s_173)))))))))))))))))) (sp_i eh6 (sp_i eh17 (sp_i eh16 (sp_i eh15 (sp_i eh14 (sp_i eh13 (sp_i eh12 (sp_i eh11 (sp_i eh10 (sp_i eh9 (sp_i eh8 (sp_i eh7 (sp_i eh5 (sp_i eh4 (sp_i eh3 (sp_i eh2 (sp_i eh1 (sb_s hw q_s_174)))))))))))))))))) (sp_i eh6 (sp_i eh17 (sp_i eh16 (sp_i eh15 (sp_i eh14 (sp_i eh13 (sp_i eh12 (sp_i eh11 (sp_i eh10 (sp_i eh9 (sp_i eh8 (sp_i eh7 (sp_i eh5 (sp_i eh4 (sp_i eh3 (sp_i eh2 (sp_i eh1 (sb_s hw q_s_175)))))))))))))))))) (sp_i eh6 (sp_i eh17 (sp_i eh16 (sp_i eh15 (sp_i eh14 (sp_i eh13 (sp_i eh12 (sp_i eh11 (sp_i eh10 (sp_i eh9 (sp_i eh8 (sp_i eh7 (sp_i eh5 (sp_i eh4 (sp_i eh3 (sp_i eh2 (sp_i eh1 (sb_s hw q_s_176)))))))))))))))))) (sp_i eh6 (sp_i eh17 (sp_i eh16 (sp_i eh15 (sp_i eh14 (sp_i eh13 (sp_i eh12 (sp_i eh11 (sp_i eh10 (sp_i eh9 (sp_i eh8 (sp_i eh7 (sp_i eh5 (sp_i eh4 (sp_i eh3 (sp_i eh2 (sp_i eh1 (sb_s hw q_s_177)))))))))))))))))) (sp_i eh6 (sp_i eh17 (sp_i eh16 (sp_i eh15 (sp_i eh14 (sp_i eh13 (sp_i eh12 (sp_i eh11 (sp_i eh10 (sp_i eh9 (sp_i eh8 (sp_i eh7 (sp_i eh5 (sp_i eh4 (sp_i eh3 (sp_i eh2 (sp_i eh1 (sb_s hw q_s_178)))))))))))))))))) (sp_i eh6 (sp_i eh17 (sp_i eh16 (sp_i eh15 (sp_i eh14 (sp_i eh13 (sp_i eh12 (sp_i eh11 (sp_i eh10 (sp_i eh9 (sp_i eh8 (sp_i eh7 (sp_i eh5 (sp_i eh4 (sp_i eh3 (sp_i eh2 (sp_i eh1 (sb_s hw q_s_179)))))))))))))))))) (sp_i eh6 (sp_i eh17 (sp_i eh16 (sp_i eh15 (sp_i eh14 (sp_i eh13 (sp_i eh12 (sp_i eh11 (sp_i eh10 (sp_i eh9 (sp_i eh8 (sp_i eh7 (sp_i eh5 (sp_i eh4 (sp_i eh3 (sp_i eh2 (sp_i eh1 (sb_s hw q_s_180)))))))))))))))))) (sp_i eh6 (sp_i eh17 (sp_i eh16 (sp_i eh15 (sp_i eh14 (sp_i eh13 (sp_i eh12 (sp_i eh11 (sp_i eh10 (sp_i eh9 (sp_i eh8 (sp_i eh7 (sp_i eh5 (sp_i eh4 (sp_i eh3 (sp_i eh2 (sp_i eh1 (sb_s hw q_s_181)))))))))))))))))) (sp_i eh6 (sp_i eh17 (sp_i eh16 (sp_i eh15 (sp_i eh14 (sp_i eh13 (sp_i eh12 (sp_i eh11 (sp_i eh10 (sp_i eh9 (sp_i eh8 (sp_i eh7 (sp_i eh5 (sp_i eh4 (sp_i eh3 (sp_i eh2 (sp_i eh1 (sb_s hw q_s_182)))))))))))))))))) (sp_i eh6 (sp_i eh17 (sp_i eh16 (sp_i eh15 (sp_i eh14 (sp_i eh13 (sp_i eh12 (sp_i eh11 (sp_i eh10 (sp_i eh9 (sp_i eh8 (sp_i eh7 (sp_i eh5 (sp_i eh4 (sp_i eh3 (sp_i eh2 (sp_i eh1 (sb_s hw q_s_183)))))))))))))))))) (rr_i eh6 (rr_i eh17 (rr_i eh16 (rr_i eh15 (rr_i eh14 (rr_i eh13 (rr_i eh12 (rr_i eh11 (rr_i eh10 (rr_i eh9 (rr_i eh8 (rr_i eh7 (rr_i eh5 (rr_i eh4 (rr_i eh3 (rr_i eh2 (rr_i eh1 (rb_R hw (by decide) (by decide) q_R_170_14)))))))))))))))))) (rr_i eh6 (rr_i eh17 (rr_i eh16 (rr_i eh15 (rr_i eh14 (rr_i eh13 (rr_i eh12 (rr_i eh11 (rr_i eh10 (rr_i eh9 (rr_i eh8 (rr_i eh7 (rr_i eh5 (rr_i eh4 (rr_i eh3 (rr_i eh2 (rr_i eh1 (rb_R hw (by decide) (by decide) q_R_170_15)))))))))))))))))) (rr_i eh6 (rr_i eh17 (rr_i eh16 (rr_i eh15 (rr_i eh14 (rr_i eh13 (rr_i eh12 (rr_i eh11 (rr_i eh10 (rr_i eh9 (rr_i eh8 (rr_i eh7 (rr_i eh5 (rr_i eh4 (rr_i eh3 (rr_i eh2 (rr_i eh1 (rb_R hw (by decide) (by decide) q_R_170_16)))))))))))))))))) (rr_i eh6 (rr_i eh17 (rr_i eh16 (rr_i eh15 (rr_i eh14 (rr_i eh13 (rr_i eh12 (rr_i eh11 (rr_i eh10 (rr_i eh9 (rr_i eh8 (rr_i eh7 (rr_i eh5 (rr_i eh4 (rr_i eh3 (rr_i eh2 (rr_i eh1 (rb_R hw (by decide) (by decide) q_R_170_17)))))))))))))))))) (rr_i eh6 (rr_i eh17 (rr_i eh16 (rr_i eh15 (rr_i eh14 (rr_i eh13 (rr_i eh12 (rr_i eh11 (rr_i eh10 (rr_i eh9 (rr_i eh8 (rr_i eh7 (rr_i eh5 (rr_i eh4 (rr_i eh3 (rr_i eh2 (rr_i eh1 (rb_R hw (by decide) (by decide) q_R_170_18)))))))))))))))))) (rr_i eh6 (rr_i eh17 (rr_i eh16 (rr_i eh15 (rr_i eh14 (rr_i eh13 (rr_i eh12 (rr_i eh11 (rr_i eh10 (rr_i eh9 (rr_i eh8 (rr_i eh7 (rr_i eh5 (rr_i eh4 (rr_i eh3 (rr_i eh2 (rr_i eh1 (rb_R hw (by decide) (by decide) q_R_170_19)))))))))))))))))) (rr_i eh6 (rr_i eh17 (rr_i eh16 (rr_i eh15 (rr_i eh14 (rr_i eh13 (rr_i eh12 (rr_i eh11 (rr_i eh10 (rr_i eh9 (rr_i eh8 (rr_i eh7 (rr_i eh5 (rr_i eh4 (rr_i eh3 (rr_i eh2 (rr_i eh1 (rb_R hw (by decide) (by decide) q_R_170_20)))))))))))))))))) (rr_i eh6 (rr_i eh17 (rr_i eh16 (rr_i eh15 (rr_i eh14 (rr_i eh13 (rr_i eh12 (rr_i eh11 (rr_i eh10 (rr_i eh9 (rr_i eh8 (rr_i eh7 (rr_i eh5 (rr_i eh4 (rr_i eh3 (rr_i eh2 (rr_i eh1 (rb_R hw (by decide) (by decide) q_R_170_21)))))))))))))))))) (rr_i eh6 (rr_i eh17 (rr_i eh16 (rr_i eh15 (rr_i eh14 (rr_i eh13 (rr_i eh12 (rr_i eh11 (rr_i eh10 (rr_i eh9 (rr_i eh8 (rr_i eh7 (rr_i eh5 (rr_i eh4 (rr_i eh3 (rr_i eh2 (rr_i eh1 (rb_R hw (by decide) (by decide) q_R_170_22)))))))))))))))))) (rr_i eh6 (rr_i eh17 (rr_i eh16 (rr_i eh15 (rr_i eh14 (rr_i eh13 (rr_i eh12 (rr_i eh11 (rr_i eh10 (rr_i eh9 (rr_i eh8 (rr_i eh7 (rr_i eh5 (rr_i eh4 (rr_i eh3 (rr_i eh2 (rr_i eh1 (rb_R hw (by decide) (by decide) q_R_170_23)))))))))))))))))) (rr_i eh6 (rr_i eh17 (rr_i eh16 (rr_i eh15 (rr_i eh14 (rr_i eh13 (rr_i eh12 (rr_i eh11 (rr_i eh10 (rr_i eh9 (rr_i eh8 (rr_i eh7 (rr_i eh5 (rr_i eh4 (rr_i eh3 (rr_i eh2 (rr_i eh1 (rb_R hw (by decide) (by decide) q_R_170_24)))))))))))))))))) (rr_i eh6 (rr_i eh17 (rr_i eh16 (rr_i eh15 (rr_i eh14 (rr_i eh13 (rr_i eh12 (rr_i eh11 (rr_i eh10 (rr_i eh9 (rr_i eh8 (rr_i eh7 (rr_i eh5 (rr_i eh4 (rr_i eh3 (rr_i eh2 (rr_i eh1 (rb_R hw (by decide) (by decide) q_R_170_25)))))))))))))))))) (ri_o eh6 (fun q => absurd q.1 (by decide)) (ri_o eh17 (fun q => absurd q.1 (by decide)) (ri_o eh16 (fun q => absurd q.1 (by decide)) (ri_o eh15 (fun q => absurd q.1 (by decide)) (ri_o eh14 (fun q => absurd q.1 (by decide)) (ri_o eh13 (fun q => absurd q.1 (by decide)) (ri_o eh12 (fun q => absurd q.1 (by decide)) (ri_o eh11 (fun q => absurd q.1 (by decide)) (ri_o eh10 (fun q => absurd q.1 (by decide)) (ri_o eh9 (fun q => absurd q.1 (by decide)) (ri_o eh8 (fun q => absurd q.1 (by decide)) (ri_s eh7))))))))))))) (fun r h19 hq => ?_)
  obtain ⟨rfl, kh19⟩ := hq
  refine A_aload_n 0 d_MD_score_56 rfl rfl ?_
  refine A_iconst d_MD_score_57 rfl ?_
  refine A_putIv T_ok d_MD_score_58 f_MD_471 ((congrArg (fun q => q[170]?) kh19.1).trans (sp_i eh6 (sp_i eh17 (sp_i eh16 (sp_i eh15 (sp_i eh14 (sp_i eh13 (sp_i eh12 (sp_i eh11 (sp_i eh10 (sp_i eh9 (sp_i eh8 (sp_i eh7 (sp_i eh5 (sp_i eh4 (sp_i eh3 (sp_i eh2 (sp_i eh1 (sb_s hw q_s_170))))))))))))))))))) fin_f (fun h20 eh20 => ?_)
  refine A_aload_n 0 d_MD_score_61 rfl rfl ?_
  refine A_iconst d_MD_score_62 rfl ?_
  refine A_pc (pc' := 63) rfl ?_
  refine A_putIv T_ok d_MD_score_63 f_MD_474 (sp_i eh20 ((congrArg (fun q => q[170]?) kh19.1).trans (sp_i eh6 (sp_i eh17 (sp_i eh16 (sp_i eh15 (sp_i eh14 (sp_i eh13 (sp_i eh12 (sp_i eh11 (sp_i eh10 (sp_i eh9 (sp_i eh8 (sp_i eh7 (sp_i eh5 (sp_i eh4 (sp_i eh3 (sp_i eh2 (sp_i eh1 (sb_s hw q_s_170)))))))))))))))))))) fin_f (fun h21 eh21 => ?_)
  refine A_aload_n 0 d_MD_score_66 rfl rfl ?_
  refine A_iconst d_MD_score_67 rfl ?_
  refine A_putIv T_ok d_MD_score_68 f_MD_477 (sp_i eh21 (sp_i eh20 ((congrArg (fun q => q[170]?) kh19.1).trans (sp_i eh6 (sp_i eh17 (sp_i eh16 (sp_i eh15 (sp_i eh14 (sp_i eh13 (sp_i eh12 (sp_i eh11 (sp_i eh10 (sp_i eh9 (sp_i eh8 (sp_i eh7 (sp_i eh5 (sp_i eh4 (sp_i eh3 (sp_i eh2 (sp_i eh1 (sb_s hw q_s_170))))))))))))))))))))) fin_f (fun h22 eh22 => ?_)
  refine A_aload_n 0 d_MD_score_71 rfl rfl ?_
  refine A_iconst d_MD_score_72 rfl ?_
  refine A_pc (pc' := 73) rfl ?_
  refine A_putIv T_ok d_MD_score_73 f_MD_480 (sp_i eh22 (sp_i eh21 (sp_i eh20 ((congrArg (fun q => q[170]?) kh19.1).trans (sp_i eh6 (sp_i eh17 (sp_i eh16 (sp_i eh15 (sp_i eh14 (sp_i eh13 (sp_i eh12 (sp_i eh11 (sp_i eh10 (sp_i eh9 (sp_i eh8 (sp_i eh7 (sp_i eh5 (sp_i eh4 (sp_i eh3 (sp_i eh2 (sp_i eh1 (sb_s hw q_s_170)))))))))))))))))))))) fin_f (fun h23 eh23 => ?_)
  refine A_aload_n 0 d_MD_score_76 rfl rfl ?_
  refine A_iconst d_MD_score_77 rfl ?_
  refine A_putIv T_ok d_MD_score_78 f_MD_483 (sp_i eh23 (sp_i eh22 (sp_i eh21 (sp_i eh20 ((congrArg (fun q => q[170]?) kh19.1).trans (sp_i eh6 (sp_i eh17 (sp_i eh16 (sp_i eh15 (sp_i eh14 (sp_i eh13 (sp_i eh12 (sp_i eh11 (sp_i eh10 (sp_i eh9 (sp_i eh8 (sp_i eh7 (sp_i eh5 (sp_i eh4 (sp_i eh3 (sp_i eh2 (sp_i eh1 (sb_s hw q_s_170))))))))))))))))))))))) fin_f (fun h24 eh24 => ?_)
  refine A_aload_n 0 d_MD_score_81 rfl rfl ?_
  refine A_iconst d_MD_score_82 rfl ?_
  refine A_pc (pc' := 83) rfl ?_
  refine A_putIv T_ok d_MD_score_83 f_MD_486 (sp_i eh24 (sp_i eh23 (sp_i eh22 (sp_i eh21 (sp_i eh20 ((congrArg (fun q => q[170]?) kh19.1).trans (sp_i eh6 (sp_i eh17 (sp_i eh16 (sp_i eh15 (sp_i eh14 (sp_i eh13 (sp_i eh12 (sp_i eh11 (sp_i eh10 (sp_i eh9 (sp_i eh8 (sp_i eh7 (sp_i eh5 (sp_i eh4 (sp_i eh3 (sp_i eh2 (sp_i eh1 (sb_s hw q_s_170)))))))))))))))))))))))) fin_f (fun h25 eh25 => ?_)
  refine A_aload_n 0 d_MD_score_86 rfl rfl ?_
  refine A_iconst d_MD_score_87 rfl ?_
  refine A_putIv T_ok d_MD_score_88 f_MD_489 (sp_i eh25 (sp_i eh24 (sp_i eh23 (sp_i eh22 (sp_i eh21 (sp_i eh20 ((congrArg (fun q => q[170]?) kh19.1).trans (sp_i eh6 (sp_i eh17 (sp_i eh16 (sp_i eh15 (sp_i eh14 (sp_i eh13 (sp_i eh12 (sp_i eh11 (sp_i eh10 (sp_i eh9 (sp_i eh8 (sp_i eh7 (sp_i eh5 (sp_i eh4 (sp_i eh3 (sp_i eh2 (sp_i eh1 (sb_s hw q_s_170))))))))))))))))))))))))) fin_f (fun h26 eh26 => ?_)
  refine A_iconst d_MD_score_91 rfl ?_
  refine A_istore_n 1 (L' := [some (av_R (some 170)), some (av_I 0), none]) d_MD_score_92 rfl (Nat.le_of_ble_eq_true rfl) rfl ?_
  refine A_pc (pc' := 93) rfl ?_
  refine A_iconst d_MD_score_93 rfl ?_
  refine A_istore_n 2 (L' := [some (av_R (some 170)), some (av_I 0), some (av_I 0)]) d_MD_score_94 rfl (Nat.le_of_ble_eq_true rfl) rfl ?_
  refine A_iload_n 2 d_MD_score_95 rfl rfl ?_
  refine A_aload_n 0 d_MD_score_96 rfl rfl ?_
  refine A_getAv (z := (some 172)) T_ok d_MD_score_97 f_MD_17 (sp_i eh26 (sp_i eh25 (sp_i eh24 (sp_i eh23 (sp_i eh22 (sp_i eh21 (sp_i eh20 ((congrArg (fun q => q[170]?) kh19.1).trans (sp_i eh6 (sp_i eh17 (sp_i eh16 (sp_i eh15 (sp_i eh14 (sp_i eh13 (sp_i eh12 (sp_i eh11 (sp_i eh10 (sp_i eh9 (sp_i eh8 (sp_i eh7 (sp_i eh5 (sp_i eh4 (sp_i eh3 (sp_i eh2 (sp_i eh1 (sb_s hw q_s_170)))))))))))))))))))))))))) (rr_i eh26 (rr_i eh25 (rr_i eh24 (rr_i eh23 (rr_i eh22 (rr_i eh21 (rr_i eh20 ((congrFun (congrFun kh19.2.1 170) 14).trans (rr_i eh6 (rr_i eh17 (rr_i eh16 (rr_i eh15 (rr_i eh14 (rr_i eh13 (rr_i eh12 (rr_i eh11 (rr_i eh10 (rr_i eh9 (rr_i eh8 (rr_i eh7 (rr_i eh5 (rr_i eh4 (rr_i eh3 (rr_i eh2 (rr_i eh1 (rb_R hw (by decide) (by decide) q_R_170_14)))))))))))))))))))))))))) ?_
  refine A_iconst d_MD_score_100 rfl ?_
  refine A_pc (pc' := 101) rfl ?_
  refine A_ialoadv (z := 0) d_MD_score_101 (sp_i eh26 (sp_i eh25 (sp_i eh24 (sp_i eh23 (sp_i eh22 (sp_i eh21 (sp_i eh20 ((congrArg (fun q => q[172]?) kh19.1).trans (sp_i eh6 (sp_i eh17 (sp_i eh16 (sp_i eh15 (sp_i eh14 (sp_i eh13 (sp_i eh12 (sp_i eh11 (sp_i eh10 (sp_i eh9 (sp_i eh8 (sp_i eh7 (sp_i eh5 (sp_i eh4 (sp_i eh3 (sp_i eh2 (sp_i eh1 (sb_s hw q_s_172)))))))))))))))))))))))))) (by decide) (by decide) (ri_o eh26 (fun q => absurd q.1 (by decide)) (ri_o eh25 (fun q => absurd q.1 (by decide)) (ri_o eh24 (fun q => absurd q.1 (by decide)) (ri_o eh23 (fun q => absurd q.1 (by decide)) (ri_o eh22 (fun q => absurd q.1 (by decide)) (ri_o eh21 (fun q => absurd q.1 (by decide)) (ri_o eh20 (fun q => absurd q.1 (by decide)) kh19.2.2.2.2))))))) ?_
  refine A_icmp_ge (tgt := 120) d_MD_score_102 (by decide) (fun c27 => ?_) (fun c27 => absurd c27 (by decide))
  refine A_iload_n 1 d_MD_score_120 rfl rfl ?_
  exact A_iret d_MD_score_121 (by decide) rfl ⟨0, rfl, by (try unfold w32); omega⟩
theorem t_m_place {G : cx_T} (h : ah_T) (hw : eqr 170 241 h) : con G 0 0 0 m_MD_place [av_R (some 170)] h (fun r h' => (∃ v : Int, r = some (av_I v) ∧ v = -2)) := by
  refine con_of (L := [some (av_R (some 170))]) (by decide +kernel) (Nat.le_of_ble_eq_true rfl) rfl ?_
  refine A_aload_n 0 d_MD_place_0 rfl rfl ?_
  refine A_getIv (z := (-2)) T_ok d_MD_place_1 f_MD_13 (sb_s hw q_s_170) (rb_I hw (by decide) (by decide) q_I_170_13) ?_
  exact A_iret d_MD_place_4 (by decide) rfl ⟨(-2), rfl, by (try unfold w32); omega⟩
theorem c_MD_pageBars_a1 {G : cx_T} (h : ah_T)  (s_170 : h.1[170]? = some (12 + 4, 111)) (rR_170_14 : h.2.2.2 170 14 = some 172) (rI_172_0 : h.2.1 172 0 = 0) (s_172 : h.1[172]? = some (0, 2)) : con G 0 0 0 m_MD_pageBars [av_R (some 170)] h (fun r h' => r = some (av_I 0) ∧ h = h') := by
  refine con_of (L := [some (av_R (some 170)), none, none]) (by decide +kernel) (Nat.le_of_ble_eq_true rfl) rfl ?_
  refine A_iconst d_MD_pageBars_0 rfl ?_
  refine A_istore_n 1 (L' := [some (av_R (some 170)), some (av_I 0), none]) d_MD_pageBars_1 rfl (Nat.le_of_ble_eq_true rfl) rfl ?_
  refine A_iconst d_MD_pageBars_2 rfl ?_
  refine A_istore_n 2 (L' := [some (av_R (some 170)), some (av_I 0), some (av_I 0)]) d_MD_pageBars_3 rfl (Nat.le_of_ble_eq_true rfl) rfl ?_
  refine A_iload_n 2 d_MD_pageBars_4 rfl rfl ?_
  refine A_pc (pc' := 5) rfl ?_
  refine A_aload_n 0 d_MD_pageBars_5 rfl rfl ?_
  refine A_getAv (z := (some 172)) T_ok d_MD_pageBars_6 f_MD_17 s_170 rR_170_14 ?_
  refine A_iconst d_MD_pageBars_9 rfl ?_
  refine A_ialoadv (z := 0) d_MD_pageBars_10 s_172 (by decide) (by decide) rI_172_0 ?_
  refine A_icmp_ge (tgt := 41) d_MD_pageBars_11 (by decide) (fun c1 => ?_) (fun c1 => absurd c1 (by decide))
  refine A_iload_n 1 d_MD_pageBars_41 rfl rfl ?_
  exact A_iret d_MD_pageBars_42 (by decide) rfl ⟨rfl, rfl⟩
theorem t_m_told {G : cx_T} (h : ah_T) (hw : eqr 170 241 h) (vn : Int) : con G 1 0 0 m_MD_told [av_R (some 170), av_I vn] h (fun r h' => (∃ v : Int, r = some (av_I v) ∧ (vn = 5 → v = 4) ∧ (vn = 6 → v = 4) ∧ (0 ≤ vn ∧ vn ≤ 4 → v = 0) ∧ (vn < 0 ∨ 6 < vn → v = -1))) := by
  refine con_of (L := [some (av_R (some 170)), some (av_I vn)]) (by decide +kernel) (Nat.le_of_ble_eq_true rfl) rfl ?_
  refine A_iload_n 1 d_MD_told_0 rfl rfl ?_
  rcases (by omega : vn < 0 ∨ vn = 0 ∨ vn = 1 ∨ vn = 2 ∨ vn = 3 ∨ vn = 4 ∨ vn = 5 ∨ vn = 6 ∨ 6 < vn) with c1 | c1 | c1 | c1 | c1 | c1 | c1 | c1 | c1
  · refine A_tabOut (tgt := 117) d_MD_told_1 (by omega) (by decide) ?_
    refine A_iconst d_MD_told_117 rfl ?_
    exact A_iret d_MD_told_118 (by decide) rfl ⟨(-1), rfl, by (try unfold w32); omega⟩
  · refine A_tabIn (tgt := 44) d_MD_told_1 (by omega) (by omega) (by rw [c1]; rfl) (by decide) ?_
    refine A_aload_n 0 d_MD_told_44 rfl rfl ?_
    refine A_getAv (z := (some 172)) T_ok d_MD_told_45 f_MD_17 (sb_s hw q_s_170) (rb_R hw (by decide) (by decide) q_R_170_14) ?_
    refine A_iconst d_MD_told_48 rfl ?_
    refine A_ialoadv (z := 0) d_MD_told_49 (sb_s hw q_s_172) (by decide) (by decide) (rb_I hw (by decide) (by decide) q_I_172_0) ?_
    exact A_iret d_MD_told_50 (by decide) rfl ⟨0, rfl, by (try unfold w32); omega⟩
  · refine A_tabIn (tgt := 51) d_MD_told_1 (by omega) (by omega) (by rw [c1]; rfl) (by decide) ?_
    refine A_aload_n 0 d_MD_told_51 rfl rfl ?_
    refine A_getAv (z := (some 175)) T_ok d_MD_told_52 f_MD_26 (sb_s hw q_s_170) (rb_R hw (by decide) (by decide) q_R_170_17) ?_
    refine A_iconst d_MD_told_55 rfl ?_
    refine A_ialoadv (z := 0) d_MD_told_56 (sb_s hw q_s_175) (by decide) (by decide) (rb_I hw (by decide) (by decide) q_I_175_0) ?_
    exact A_iret d_MD_told_57 (by decide) rfl ⟨0, rfl, by (try unfold w32); omega⟩
  · refine A_tabIn (tgt := 58) d_MD_told_1 (by omega) (by omega) (by rw [c1]; rfl) (by decide) ?_
    refine A_aload_n 0 d_MD_told_58 rfl rfl ?_
    refine A_getAv (z := (some 177)) T_ok d_MD_told_59 f_MD_32 (sb_s hw q_s_170) (rb_R hw (by decide) (by decide) q_R_170_19) ?_
    refine A_iconst d_MD_told_62 rfl ?_
    refine A_ialoadv (z := 0) d_MD_told_63 (sb_s hw q_s_177) (by decide) (by decide) (rb_I hw (by decide) (by decide) q_I_177_0) ?_
    exact A_iret d_MD_told_64 (by decide) rfl ⟨0, rfl, by (try unfold w32); omega⟩
  · refine A_tabIn (tgt := 65) d_MD_told_1 (by omega) (by omega) (by rw [c1]; rfl) (by decide) ?_
    refine A_aload_n 0 d_MD_told_65 rfl rfl ?_
    refine A_getAv (z := (some 181)) T_ok d_MD_told_66 f_MD_44 (sb_s hw q_s_170) (rb_R hw (by decide) (by decide) q_R_170_23) ?_
    refine A_iconst d_MD_told_69 rfl ?_
    refine A_ialoadv (z := 0) d_MD_told_70 (sb_s hw q_s_181) (by decide) (by decide) (rb_I hw (by decide) (by decide) q_I_181_0) ?_
    exact A_iret d_MD_told_71 (by decide) rfl ⟨0, rfl, by (try unfold w32); omega⟩
  · refine A_tabIn (tgt := 72) d_MD_told_1 (by omega) (by omega) (by rw [c1]; rfl) (by decide) ?_
    refine A_aload_n 0 d_MD_told_72 rfl rfl ?_
    refine A_callV0 m_MD_pageBars T_ok d_MD_told_73 l_MD_492 k_MD_pageBars (sb_s hw q_s_170) rfl (by decide) (by decide) (Nat.le_of_ble_eq_true rfl) (c_MD_pageBars_a1 h (sb_s hw q_s_170) (rb_R hw (by decide) (by decide) q_R_170_14) (rb_I hw (by decide) (by decide) q_I_172_0) (sb_s hw q_s_172)) (fun r hx hq => ?_)
    obtain ⟨rfl, rfl⟩ := hq
    exact A_iret d_MD_told_76 (by decide) rfl ⟨0, rfl, by (try unfold w32); omega⟩
  · refine A_tabIn (tgt := 77) d_MD_told_1 (by omega) (by omega) (by rw [c1]; rfl) (by decide) ?_
    refine A_aload_n 0 d_MD_told_77 rfl rfl ?_
    refine A_getAv (z := (some 173)) T_ok d_MD_told_78 f_MD_20 (sb_s hw q_s_170) (rb_R hw (by decide) (by decide) q_R_170_15) ?_
    refine A_iconst d_MD_told_81 rfl ?_
    refine A_ialoadv (z := 0) d_MD_told_82 (sb_s hw q_s_173) (by decide) (by decide) (rb_I hw (by decide) (by decide) q_I_173_0) ?_
    refine A_if_ne (tgt := 90) d_MD_told_83 (by decide) (fun c2 => absurd c2 (by decide)) (fun c2 => ?_)
    refine A_iconst d_MD_told_86 rfl ?_
    refine A_goto (tgt := 96) d_MD_told_87 (by decide) ?_
    exact A_iret d_MD_told_96 (by decide) rfl ⟨4, rfl, by (try unfold w32); omega⟩
  · refine A_tabIn (tgt := 97) d_MD_told_1 (by omega) (by omega) (by rw [c1]; rfl) (by decide) ?_
    refine A_aload_n 0 d_MD_told_97 rfl rfl ?_
    refine A_getAv (z := (some 174)) T_ok d_MD_told_98 f_MD_23 (sb_s hw q_s_170) (rb_R hw (by decide) (by decide) q_R_170_16) ?_
    refine A_iconst d_MD_told_101 rfl ?_
    refine A_ialoadv (z := 0) d_MD_told_102 (sb_s hw q_s_174) (by decide) (by decide) (rb_I hw (by decide) (by decide) q_I_174_0) ?_
    refine A_if_ne (tgt := 110) d_MD_told_103 (by decide) (fun c3 => absurd c3 (by decide)) (fun c3 => ?_)
    refine A_iconst d_MD_told_106 rfl ?_
    refine A_goto (tgt := 116) d_MD_told_107 (by decide) ?_
    exact A_iret d_MD_told_116 (by decide) rfl ⟨4, rfl, by (try unfold w32); omega⟩
  · refine A_tabOut (tgt := 117) d_MD_told_1 (by omega) (by decide) ?_
    refine A_iconst d_MD_told_117 rfl ?_
    exact A_iret d_MD_told_118 (by decide) rfl ⟨(-1), rfl, by (try unfold w32); omega⟩
theorem c_MD_isVoice_a1 {G : cx_T} (h : ah_T) (vn : Int) (s_170 : h.1[170]? = some (12 + 4, 111)) (rR_170_14 : h.2.2.2 170 14 = some 172) (rI_172_0 : h.2.1 172 0 = 0) (s_172 : h.1[172]? = some (0, 2)) : con G 0 0 0 m_MD_isVoice [av_R (some 170), av_I vn] h (fun r h' => r = some (av_I 0) ∧ h = h') := by
  refine con_of (L := [some (av_R (some 170)), some (av_I vn)]) (by decide +kernel) (Nat.le_of_ble_eq_true rfl) rfl ?_
  refine A_iload_n 1 d_MD_isVoice_0 rfl rfl ?_
  refine A_if_lt (tgt := 18) d_MD_isVoice_1 (by decide) (fun c1 => ?_) (fun c1 => ?_)
  · refine A_iconst d_MD_isVoice_18 rfl ?_
    exact A_zret d_MD_isVoice_19 (by decide) rfl (Or.inl rfl) ⟨rfl, rfl⟩
  · refine A_iload_n 1 d_MD_isVoice_4 rfl rfl ?_
    refine A_aload_n 0 d_MD_isVoice_5 rfl rfl ?_
    refine A_getAv (z := (some 172)) T_ok d_MD_isVoice_6 f_MD_17 s_170 rR_170_14 ?_
    refine A_iconst d_MD_isVoice_9 rfl ?_
    refine A_ialoadv (z := 0) d_MD_isVoice_10 s_172 (by decide) (by decide) rI_172_0 ?_
    refine A_pc (pc' := 11) rfl ?_
    refine A_icmp_ge (tgt := 18) d_MD_isVoice_11 (by decide) (fun c2 => ?_) (fun c2 => False.elim (by omega))
    refine A_iconst d_MD_isVoice_18 rfl ?_
    exact A_zret d_MD_isVoice_19 (by decide) rfl (Or.inl rfl) ⟨rfl, rfl⟩
theorem t_m_count {G : cx_T} (h : ah_T) (hw : eqr 170 241 h) (vn vw : Int) : con G 1 0 0 m_MD_count [av_R (some 170), av_I vn, av_I vw] h (fun r h' => (∃ v : Int, r = some (av_I v) ∧ v = -1)) := by
  refine con_of (L := [some (av_R (some 170)), some (av_I vn), some (av_I vw)]) (by decide +kernel) (Nat.le_of_ble_eq_true rfl) rfl ?_
  refine A_aload_n 0 d_MD_count_0 rfl rfl ?_
  refine A_iload_n 1 d_MD_count_1 rfl rfl ?_
  refine A_callV1 m_MD_isVoice T_ok d_MD_count_2 l_MD_495 k_MD_isVoice (sb_s hw q_s_170) rfl (by decide) (by decide) (Nat.le_of_ble_eq_true rfl) (c_MD_isVoice_a1 h _ (sb_s hw q_s_170) (rb_R hw (by decide) (by decide) q_R_170_14) (rb_I hw (by decide) (by decide) q_I_172_0) (sb_s hw q_s_172)) (fun r hx hq => ?_)
  obtain ⟨rfl, rfl⟩ := hq
  refine A_if_eq (tgt := 17) d_MD_count_5 (by decide) (fun c1 => ?_) (fun c1 => absurd c1 (by decide))
  refine A_iconst d_MD_count_17 rfl ?_
  exact A_iret d_MD_count_18 (by decide) rfl ⟨(-1), rfl, by (try unfold w32); omega⟩
theorem c_MD_isVoice_a2 {G : cx_T} (h : ah_T) (vn : Int) (s_170 : h.1[170]? = some (12 + 4, 111)) (rR_170_14 : h.2.2.2 170 14 = some 172) (rI_172_0 : h.2.1 172 0 = 0) (s_172 : h.1[172]? = some (0, 2)) : con G 0 0 0 m_MD_isVoice [av_R (some 170), av_I vn] h (fun r h' => r = some (av_I 0) ∧ h = h') := by
  refine con_of (L := [some (av_R (some 170)), some (av_I vn)]) (by decide +kernel) (Nat.le_of_ble_eq_true rfl) rfl ?_
  refine A_iload_n 1 d_MD_isVoice_0 rfl rfl ?_
  refine A_if_lt (tgt := 18) d_MD_isVoice_1 (by decide) (fun c1 => ?_) (fun c1 => ?_)
  · refine A_iconst d_MD_isVoice_18 rfl ?_
    exact A_zret d_MD_isVoice_19 (by decide) rfl (Or.inl rfl) ⟨rfl, rfl⟩
  · refine A_iload_n 1 d_MD_isVoice_4 rfl rfl ?_
    refine A_aload_n 0 d_MD_isVoice_5 rfl rfl ?_
    refine A_getAv (z := (some 172)) T_ok d_MD_isVoice_6 f_MD_17 s_170 rR_170_14 ?_
    refine A_iconst d_MD_isVoice_9 rfl ?_
    refine A_ialoadv (z := 0) d_MD_isVoice_10 s_172 (by decide) (by decide) rI_172_0 ?_
    refine A_pc (pc' := 11) rfl ?_
    refine A_icmp_ge (tgt := 18) d_MD_isVoice_11 (by decide) (fun c2 => ?_) (fun c2 => False.elim (by omega))
    refine A_iconst d_MD_isVoice_18 rfl ?_
    exact A_zret d_MD_isVoice_19 (by decide) rfl (Or.inl rfl) ⟨rfl, rfl⟩
theorem t_m_event {G : cx_T} (h : ah_T) (hw : eqr 170 241 h) (vn vi vw : Int) : con G 1 0 0 m_MD_event_IIIJ [av_R (some 170), av_I vn, av_I vi, av_I vw] h (fun r h' => (∃ v : Int, r = some (av_L v) ∧ v = 10000)) := by
  refine con_of (L := [some (av_R (some 170)), some (av_I vn), some (av_I vi), some (av_I vw), none]) (by decide +kernel) (Nat.le_of_ble_eq_true rfl) rfl ?_
  refine A_aload_n 0 d_MD_event_IIIJ_0 rfl rfl ?_
  refine A_iload_n 1 d_MD_event_IIIJ_1 rfl rfl ?_
  refine A_callV1 m_MD_isVoice T_ok d_MD_event_IIIJ_2 l_MD_495 k_MD_isVoice (sb_s hw q_s_170) rfl (by decide) (by decide) (Nat.le_of_ble_eq_true rfl) (c_MD_isVoice_a2 h _ (sb_s hw q_s_170) (rb_R hw (by decide) (by decide) q_R_170_14) (rb_I hw (by decide) (by decide) q_I_172_0) (sb_s hw q_s_172)) (fun r hx hq => ?_)
  obtain ⟨rfl, rfl⟩ := hq
  refine A_if_eq (tgt := 22) d_MD_event_IIIJ_5 (by decide) (fun c1 => ?_) (fun c1 => absurd c1 (by decide))
  refine A_ldc2 (z := 10000) d_MD_event_IIIJ_22 cst_MD_498 rfl ?_
  exact A_lret d_MD_event_IIIJ_25 (by decide) rfl ⟨10000, rfl, by (try unfold w32); omega⟩
theorem t_m_judge {G : cx_T} (h : ah_T) (hw : eqr 170 241 h) : con G 6 0 0 m_MD_judge [av_R (some 170)] h (fun r h' => (∃ v : Int, r = some (av_I v) ∧ v = 0)) := by
  refine con_of (L := [some (av_R (some 170)), none, none, none]) (by decide +kernel) (Nat.le_of_ble_eq_true rfl) rfl ?_
  refine A_aload_n 0 d_MD_judge_0 rfl rfl ?_
  refine A_iconst d_MD_judge_1 rfl ?_
  refine A_putIv T_ok d_MD_judge_2 f_MD_471 (sb_s hw q_s_170) fin_f (fun h1 eh1 => ?_)
  refine A_iconst d_MD_judge_5 rfl ?_
  refine A_istore_n 1 (L' := [some (av_R (some 170)), some (av_I 0), none, none]) d_MD_judge_6 rfl (Nat.le_of_ble_eq_true rfl) rfl ?_
  refine A_pc (pc' := 7) rfl ?_
  refine A_iload_n 1 d_MD_judge_7 rfl rfl ?_
  refine A_aload_n 0 d_MD_judge_8 rfl rfl ?_
  refine A_getAv (z := (some 172)) T_ok d_MD_judge_9 f_MD_17 (sp_i eh1 (sb_s hw q_s_170)) (rr_i eh1 (rb_R hw (by decide) (by decide) q_R_170_14)) ?_
  refine A_iconst d_MD_judge_12 rfl ?_
  refine A_ialoadv (z := 0) d_MD_judge_13 (sp_i eh1 (sb_s hw q_s_172)) (by decide) (by decide) (ri_o eh1 (fun q => absurd q.1 (by decide)) (rb_I hw (by decide) (by decide) q_I_172_0)) ?_
  refine A_icmp_ge (tgt := 102) d_MD_judge_14 (by decide) (fun c2 => ?_) (fun c2 => absurd c2 (by decide))
  refine A_aload_n 0 d_MD_judge_102 rfl rfl ?_
  refine A_getIv (z := 0) T_ok d_MD_judge_103 f_MD_471 (sp_i eh1 (sb_s hw q_s_170)) (ri_s eh1) ?_
  exact A_iret d_MD_judge_106 (by decide) rfl ⟨0, rfl, by (try unfold w32); omega⟩
theorem t_m_fault {G : cx_T} (h : ah_T) (hw : eqr 170 241 h) (vk vw : Int) : con G 0 0 0 m_MD_fault [av_R (some 170), av_I vk, av_I vw] h (fun r h' => (∃ v : Int, r = some (av_I v) ∧ v = -1)) := by
  refine con_of (L := [some (av_R (some 170)), some (av_I vk), some (av_I vw)]) (by decide +kernel) (Nat.le_of_ble_eq_true rfl) rfl ?_
  refine A_iload_n 1 d_MD_fault_0 rfl rfl ?_
  refine A_if_lt (tgt := 21) d_MD_fault_1 (by decide) (fun c1 => ?_) (fun c1 => ?_)
  · refine A_iconst d_MD_fault_21 rfl ?_
    exact A_iret d_MD_fault_22 (by decide) rfl ⟨(-1), rfl, by (try unfold w32); omega⟩
  · refine A_iload_n 1 d_MD_fault_4 rfl rfl ?_
    refine A_aload_n 0 d_MD_fault_5 rfl rfl ?_
    refine A_getIv (z := 0) T_ok d_MD_fault_6 f_MD_471 (sb_s hw q_s_170) (rb_I hw (by decide) (by decide) q_I_170_80) ?_
    refine A_icmp_ge (tgt := 21) d_MD_fault_9 (by decide) (fun c2 => ?_) (fun c2 => False.elim (by omega))
    refine A_iconst d_MD_fault_21 rfl ?_
    exact A_iret d_MD_fault_22 (by decide) rfl ⟨(-1), rfl, by (try unfold w32); omega⟩
theorem c_MD_isVoice_a3 {G : cx_T} (h : ah_T) (vn : Int) (s_170 : h.1[170]? = some (12 + 4, 111)) (rR_170_14 : h.2.2.2 170 14 = some 172) (rI_172_0 : h.2.1 172 0 = 0) (s_172 : h.1[172]? = some (0, 2)) : con G 0 0 0 m_MD_isVoice [av_R (some 170), av_I vn] h (fun r h' => r = some (av_I 0) ∧ h = h') := by
  refine con_of (L := [some (av_R (some 170)), some (av_I vn)]) (by decide +kernel) (Nat.le_of_ble_eq_true rfl) rfl ?_
  refine A_iload_n 1 d_MD_isVoice_0 rfl rfl ?_
  refine A_if_lt (tgt := 18) d_MD_isVoice_1 (by decide) (fun c1 => ?_) (fun c1 => ?_)
  · refine A_iconst d_MD_isVoice_18 rfl ?_
    exact A_zret d_MD_isVoice_19 (by decide) rfl (Or.inl rfl) ⟨rfl, rfl⟩
  · refine A_iload_n 1 d_MD_isVoice_4 rfl rfl ?_
    refine A_aload_n 0 d_MD_isVoice_5 rfl rfl ?_
    refine A_getAv (z := (some 172)) T_ok d_MD_isVoice_6 f_MD_17 s_170 rR_170_14 ?_
    refine A_iconst d_MD_isVoice_9 rfl ?_
    refine A_ialoadv (z := 0) d_MD_isVoice_10 s_172 (by decide) (by decide) rI_172_0 ?_
    refine A_pc (pc' := 11) rfl ?_
    refine A_icmp_ge (tgt := 18) d_MD_isVoice_11 (by decide) (fun c2 => ?_) (fun c2 => False.elim (by omega))
    refine A_iconst d_MD_isVoice_18 rfl ?_
    exact A_zret d_MD_isVoice_19 (by decide) rfl (Or.inl rfl) ⟨rfl, rfl⟩
theorem t_m_beam {G : cx_T} (h : ah_T) (hw : eqr 170 241 h) (vn vb : Int) : con G 5 0 0 m_MD_beam [av_R (some 170), av_I vn, av_I vb] h (fun r h' => (∃ v : Int, r = some (av_I v) ∧ v = -1)) := by
  refine con_of (L := [some (av_R (some 170)), some (av_I vn), some (av_I vb), none, none, none, none, none, none]) (by decide +kernel) (Nat.le_of_ble_eq_true rfl) rfl ?_
  refine A_aload_n 0 d_MD_beam_0 rfl rfl ?_
  refine A_iload_n 1 d_MD_beam_1 rfl rfl ?_
  refine A_callV1 m_MD_isVoice T_ok d_MD_beam_2 l_MD_495 k_MD_isVoice (sb_s hw q_s_170) rfl (by decide) (by decide) (Nat.le_of_ble_eq_true rfl) (c_MD_isVoice_a3 h _ (sb_s hw q_s_170) (rb_R hw (by decide) (by decide) q_R_170_14) (rb_I hw (by decide) (by decide) q_I_172_0) (sb_s hw q_s_172)) (fun r hx hq => ?_)
  obtain ⟨rfl, rfl⟩ := hq
  refine A_if_eq (tgt := 22) d_MD_beam_5 (by decide) (fun c1 => ?_) (fun c1 => absurd c1 (by decide))
  refine A_iconst d_MD_beam_22 rfl ?_
  exact A_iret d_MD_beam_23 (by decide) rfl ⟨(-1), rfl, by (try unfold w32); omega⟩
theorem t_m_group {G : cx_T} (h : ah_T) (hw : eqr 170 241 h) (vi : Int) : con G 0 0 0 m_MD_group [av_R (some 170), av_I vi] h (fun r h' => (∃ v : Int, r = some (av_I v) ∧ v = 0)) := by
  refine con_of (L := [some (av_R (some 170)), some (av_I vi)]) (by decide +kernel) (Nat.le_of_ble_eq_true rfl) rfl ?_
  refine A_iload_n 1 d_MD_group_0 rfl rfl ?_
  refine A_if_lt (tgt := 21) d_MD_group_1 (by decide) (fun c1 => ?_) (fun c1 => ?_)
  · refine A_iconst d_MD_group_21 rfl ?_
    exact A_iret d_MD_group_22 (by decide) rfl ⟨0, rfl, by (try unfold w32); omega⟩
  · refine A_iload_n 1 d_MD_group_4 rfl rfl ?_
    refine A_aload_n 0 d_MD_group_5 rfl rfl ?_
    refine A_getIv (z := 0) T_ok d_MD_group_6 f_MD_474 (sb_s hw q_s_170) (rb_I hw (by decide) (by decide) q_I_170_85) ?_
    refine A_icmp_ge (tgt := 21) d_MD_group_9 (by decide) (fun c2 => ?_) (fun c2 => False.elim (by omega))
    refine A_iconst d_MD_group_21 rfl ?_
    exact A_iret d_MD_group_22 (by decide) rfl ⟨0, rfl, by (try unfold w32); omega⟩
theorem t_m_breaks {G : cx_T} (h : ah_T) (hw : eqr 170 241 h) (vn : Int) : con G 5 0 0 m_MD_breaks [av_R (some 170), av_I vn] h (fun r h' => (∃ v : Int, r = some (av_I v) ∧ (vn < 1 ∨ 1000 < vn → v = -1) ∧ (¬ (vn < 1 ∨ 1000 < vn) → v = -2))) := by
  refine con_of (L := [some (av_R (some 170)), some (av_I vn), none, none, none, none, none, none, none]) (by decide +kernel) (Nat.le_of_ble_eq_true rfl) rfl ?_
  refine A_iload_n 1 d_MD_breaks_0 rfl rfl ?_
  refine A_iconst d_MD_breaks_1 rfl ?_
  refine A_icmp_lt (tgt := 12) d_MD_breaks_2 (by decide) (fun c1 => ?_) (fun c1 => ?_)
  · refine A_iconst d_MD_breaks_12 rfl ?_
    exact A_iret d_MD_breaks_13 (by decide) rfl ⟨(-1), rfl, by (try unfold w32); omega⟩
  · refine A_iload_n 1 d_MD_breaks_5 rfl rfl ?_
    refine A_sipush d_MD_breaks_6 rfl ?_
    refine A_icmp_le (tgt := 14) d_MD_breaks_9 (by decide) (fun c2 => ?_) (fun c2 => ?_)
    · refine A_aload_n 0 d_MD_breaks_14 rfl rfl ?_
      refine A_getAv (z := (some 172)) T_ok d_MD_breaks_15 f_MD_17 (sb_s hw q_s_170) (rb_R hw (by decide) (by decide) q_R_170_14) ?_
      refine A_iconst d_MD_breaks_18 rfl ?_
      refine A_ialoadv (z := 0) d_MD_breaks_19 (sb_s hw q_s_172) (by decide) (by decide) (rb_I hw (by decide) (by decide) q_I_172_0) ?_
      refine A_if_ne (tgt := 26) d_MD_breaks_20 (by decide) (fun c3 => absurd c3 (by decide)) (fun c3 => ?_)
      refine A_bipush d_MD_breaks_23 rfl ?_
      exact A_iret d_MD_breaks_25 (by decide) rfl ⟨(-2), rfl, by (try unfold w32); omega⟩
    · refine A_iconst d_MD_breaks_12 rfl ?_
      exact A_iret d_MD_breaks_13 (by decide) rfl ⟨(-1), rfl, by (try unfold w32); omega⟩
theorem t_m_line {G : cx_T} (h : ah_T) (hw : eqr 170 241 h) (vi : Int) : con G 0 0 0 m_MD_line [av_R (some 170), av_I vi] h (fun r h' => (∃ v : Int, r = some (av_I v) ∧ v = 0)) := by
  refine con_of (L := [some (av_R (some 170)), some (av_I vi)]) (by decide +kernel) (Nat.le_of_ble_eq_true rfl) rfl ?_
  refine A_iload_n 1 d_MD_line_0 rfl rfl ?_
  refine A_if_lt (tgt := 21) d_MD_line_1 (by decide) (fun c1 => ?_) (fun c1 => ?_)
  · refine A_iconst d_MD_line_21 rfl ?_
    exact A_iret d_MD_line_22 (by decide) rfl ⟨0, rfl, by (try unfold w32); omega⟩
  · refine A_iload_n 1 d_MD_line_4 rfl rfl ?_
    refine A_aload_n 0 d_MD_line_5 rfl rfl ?_
    refine A_getIv (z := 0) T_ok d_MD_line_6 f_MD_477 (sb_s hw q_s_170) (rb_I hw (by decide) (by decide) q_I_170_89) ?_
    refine A_icmp_ge (tgt := 21) d_MD_line_9 (by decide) (fun c2 => ?_) (fun c2 => False.elim (by omega))
    refine A_iconst d_MD_line_21 rfl ?_
    exact A_iret d_MD_line_22 (by decide) rfl ⟨0, rfl, by (try unfold w32); omega⟩
theorem c_MD_pageBars_a2 {G : cx_T} (h : ah_T)  (s_170 : h.1[170]? = some (12 + 4, 111)) (rR_170_14 : h.2.2.2 170 14 = some 172) (rI_172_0 : h.2.1 172 0 = 0) (s_172 : h.1[172]? = some (0, 2)) : con G 0 0 0 m_MD_pageBars [av_R (some 170)] h (fun r h' => r = some (av_I 0) ∧ h = h') := by
  refine con_of (L := [some (av_R (some 170)), none, none]) (by decide +kernel) (Nat.le_of_ble_eq_true rfl) rfl ?_
  refine A_iconst d_MD_pageBars_0 rfl ?_
  refine A_istore_n 1 (L' := [some (av_R (some 170)), some (av_I 0), none]) d_MD_pageBars_1 rfl (Nat.le_of_ble_eq_true rfl) rfl ?_
  refine A_iconst d_MD_pageBars_2 rfl ?_
  refine A_istore_n 2 (L' := [some (av_R (some 170)), some (av_I 0), some (av_I 0)]) d_MD_pageBars_3 rfl (Nat.le_of_ble_eq_true rfl) rfl ?_
  refine A_iload_n 2 d_MD_pageBars_4 rfl rfl ?_
  refine A_pc (pc' := 5) rfl ?_
  refine A_aload_n 0 d_MD_pageBars_5 rfl rfl ?_
  refine A_getAv (z := (some 172)) T_ok d_MD_pageBars_6 f_MD_17 s_170 rR_170_14 ?_
  refine A_iconst d_MD_pageBars_9 rfl ?_
  refine A_ialoadv (z := 0) d_MD_pageBars_10 s_172 (by decide) (by decide) rI_172_0 ?_
  refine A_icmp_ge (tgt := 41) d_MD_pageBars_11 (by decide) (fun c1 => ?_) (fun c1 => absurd c1 (by decide))
  refine A_iload_n 1 d_MD_pageBars_41 rfl rfl ?_
  exact A_iret d_MD_pageBars_42 (by decide) rfl ⟨rfl, rfl⟩
theorem t_m_width {G : cx_T} (h : ah_T) (hw : eqr 170 241 h) (vb : Int) : con G 4 0 0 m_MD_width [av_R (some 170), av_I vb] h (fun r h' => (∃ v : Int, r = some (av_I v) ∧ v = -1)) := by
  refine con_of (L := [some (av_R (some 170)), some (av_I vb), none, none, none, none, none]) (by decide +kernel) (Nat.le_of_ble_eq_true rfl) rfl ?_
  refine A_iload_n 1 d_MD_width_0 rfl rfl ?_
  refine A_if_lt (tgt := 12) d_MD_width_1 (by decide) (fun c1 => ?_) (fun c1 => ?_)
  · refine A_iconst d_MD_width_12 rfl ?_
    exact A_iret d_MD_width_13 (by decide) rfl ⟨(-1), rfl, by (try unfold w32); omega⟩
  · refine A_iload_n 1 d_MD_width_4 rfl rfl ?_
    refine A_aload_n 0 d_MD_width_5 rfl rfl ?_
    refine A_callV0 m_MD_pageBars T_ok d_MD_width_6 l_MD_492 k_MD_pageBars (sb_s hw q_s_170) rfl (by decide) (by decide) (Nat.le_of_ble_eq_true rfl) (c_MD_pageBars_a2 h (sb_s hw q_s_170) (rb_R hw (by decide) (by decide) q_R_170_14) (rb_I hw (by decide) (by decide) q_I_172_0) (sb_s hw q_s_172)) (fun r hx hq => ?_)
    obtain ⟨rfl, rfl⟩ := hq
    refine A_icmp_lt (tgt := 14) d_MD_width_9 (by decide) (fun c2 => False.elim (by omega)) (fun c2 => ?_)
    refine A_iconst d_MD_width_12 rfl ?_
    exact A_iret d_MD_width_13 (by decide) rfl ⟨(-1), rfl, by (try unfold w32); omega⟩
theorem t_m_lines {G : cx_T} (h : ah_T) (hw : eqr 170 241 h) (vn vm vr : Int) : con G 3 0 0 m_MD_lines [av_R (some 170), av_I vn, av_I vm, av_I vr] h (fun r h' => (∃ v : Int, r = some (av_I v) ∧ (vn < 0 ∨ 120 < vm ∨ vm < vn ∨ vr < 0 ∨ 511 < vr → v = -1) ∧ (¬ (vn < 0 ∨ 120 < vm ∨ vm < vn ∨ vr < 0 ∨ 511 < vr) → v = -2))) := by
  refine con_of (L := [some (av_R (some 170)), some (av_I vn), some (av_I vm), some (av_I vr), none, none, none]) (by decide +kernel) (Nat.le_of_ble_eq_true rfl) rfl ?_
  refine A_iload_n 1 d_MD_lines_0 rfl rfl ?_
  refine A_if_lt (tgt := 26) d_MD_lines_1 (by decide) (fun c1 => ?_) (fun c1 => ?_)
  · refine A_iconst d_MD_lines_26 rfl ?_
    exact A_iret d_MD_lines_27 (by decide) rfl ⟨(-1), rfl, by (try unfold w32); omega⟩
  · refine A_iload_n 2 d_MD_lines_4 rfl rfl ?_
    refine A_bipush d_MD_lines_5 rfl ?_
    refine A_icmp_gt (tgt := 26) d_MD_lines_7 (by decide) (fun c2 => ?_) (fun c2 => ?_)
    · refine A_iconst d_MD_lines_26 rfl ?_
      exact A_iret d_MD_lines_27 (by decide) rfl ⟨(-1), rfl, by (try unfold w32); omega⟩
    · refine A_iload_n 1 d_MD_lines_10 rfl rfl ?_
      refine A_iload_n 2 d_MD_lines_11 rfl rfl ?_
      refine A_icmp_gt (tgt := 26) d_MD_lines_12 (by decide) (fun c3 => ?_) (fun c3 => ?_)
      · refine A_iconst d_MD_lines_26 rfl ?_
        exact A_iret d_MD_lines_27 (by decide) rfl ⟨(-1), rfl, by (try unfold w32); omega⟩
      · refine A_iload_n 3 d_MD_lines_15 rfl rfl ?_
        refine A_if_lt (tgt := 26) d_MD_lines_16 (by decide) (fun c4 => ?_) (fun c4 => ?_)
        · refine A_iconst d_MD_lines_26 rfl ?_
          exact A_iret d_MD_lines_27 (by decide) rfl ⟨(-1), rfl, by (try unfold w32); omega⟩
        · refine A_iload_n 3 d_MD_lines_19 rfl rfl ?_
          refine A_sipush d_MD_lines_20 rfl ?_
          refine A_icmp_le (tgt := 28) d_MD_lines_23 (by decide) (fun c5 => ?_) (fun c5 => ?_)
          · refine A_aload_n 0 d_MD_lines_28 rfl rfl ?_
            refine A_getAv (z := (some 175)) T_ok d_MD_lines_29 f_MD_26 (sb_s hw q_s_170) (rb_R hw (by decide) (by decide) q_R_170_17) ?_
            refine A_iconst d_MD_lines_32 rfl ?_
            refine A_ialoadv (z := 0) d_MD_lines_33 (sb_s hw q_s_175) (by decide) (by decide) (rb_I hw (by decide) (by decide) q_I_175_0) ?_
            refine A_if_ne (tgt := 40) d_MD_lines_34 (by decide) (fun c6 => absurd c6 (by decide)) (fun c6 => ?_)
            refine A_bipush d_MD_lines_37 rfl ?_
            exact A_iret d_MD_lines_39 (by decide) rfl ⟨(-2), rfl, by (try unfold w32); omega⟩
          · refine A_iconst d_MD_lines_26 rfl ?_
            exact A_iret d_MD_lines_27 (by decide) rfl ⟨(-1), rfl, by (try unfold w32); omega⟩
theorem t_m_second {G : cx_T} (h : ah_T) (hw : eqr 170 241 h) (vk vi : Int) : con G 3 0 0 m_MD_second [av_R (some 170), av_I vk, av_I vi] h (fun r h' => (∃ v : Int, r = some (av_I v) ∧ v = -1)) := by
  refine con_of (L := [some (av_R (some 170)), some (av_I vk), some (av_I vi), none]) (by decide +kernel) (Nat.le_of_ble_eq_true rfl) rfl ?_
  refine A_iload_n 1 d_MD_second_0 rfl rfl ?_
  refine A_if_lt (tgt := 24) d_MD_second_1 (by decide) (fun c1 => ?_) (fun c1 => ?_)
  · refine A_iconst d_MD_second_24 rfl ?_
    exact A_iret d_MD_second_25 (by decide) rfl ⟨(-1), rfl, by (try unfold w32); omega⟩
  · refine A_iload_n 1 d_MD_second_4 rfl rfl ?_
    refine A_aload_n 0 d_MD_second_5 rfl rfl ?_
    refine A_getIv (z := 0) T_ok d_MD_second_6 f_MD_480 (sb_s hw q_s_170) (rb_I hw (by decide) (by decide) q_I_170_91) ?_
    refine A_icmp_ge (tgt := 24) d_MD_second_9 (by decide) (fun c2 => ?_) (fun c2 => False.elim (by omega))
    refine A_iconst d_MD_second_24 rfl ?_
    exact A_iret d_MD_second_25 (by decide) rfl ⟨(-1), rfl, by (try unfold w32); omega⟩
theorem t_m_readings {G : cx_T} (h : ah_T) (hw : eqr 170 241 h) : con G 2 0 0 m_MD_readings [av_R (some 170)] h (fun r h' => (∃ v : Int, r = some (av_I v) ∧ v = -2)) := by
  refine con_of (L := [some (av_R (some 170)), none, none, none, none, none, none, none]) (by decide +kernel) (Nat.le_of_ble_eq_true rfl) rfl ?_
  refine A_aload_n 0 d_MD_readings_0 rfl rfl ?_
  refine A_getAv (z := (some 177)) T_ok d_MD_readings_1 f_MD_32 (sb_s hw q_s_170) (rb_R hw (by decide) (by decide) q_R_170_19) ?_
  refine A_iconst d_MD_readings_4 rfl ?_
  refine A_ialoadv (z := 0) d_MD_readings_5 (sb_s hw q_s_177) (by decide) (by decide) (rb_I hw (by decide) (by decide) q_I_177_0) ?_
  refine A_if_eq (tgt := 18) d_MD_readings_6 (by decide) (fun c1 => ?_) (fun c1 => absurd c1 (by decide))
  refine A_bipush d_MD_readings_18 rfl ?_
  exact A_iret d_MD_readings_20 (by decide) rfl ⟨(-2), rfl, by (try unfold w32); omega⟩
theorem t_m_tree {G : cx_T} (h : ah_T) (hw : eqr 170 241 h) (vk vi : Int) : con G 2 0 0 m_MD_tree [av_R (some 170), av_I vk, av_I vi] h (fun r h' => (∃ v : Int, r = some (av_I v) ∧ v = -1)) := by
  refine con_of (L := [some (av_R (some 170)), some (av_I vk), some (av_I vi), none, none, none, none, none, none, none, none, none, none, none, none, none, none]) (by decide +kernel) (Nat.le_of_ble_eq_true rfl) rfl ?_
  refine A_iload_n 1 d_MD_tree_0 rfl rfl ?_
  refine A_if_lt (tgt := 16) d_MD_tree_1 (by decide) (fun c1 => ?_) (fun c1 => ?_)
  · refine A_iconst d_MD_tree_16 rfl ?_
    exact A_iret d_MD_tree_17 (by decide) rfl ⟨(-1), rfl, by (try unfold w32); omega⟩
  · refine A_iload_n 1 d_MD_tree_4 rfl rfl ?_
    refine A_aload_n 0 d_MD_tree_5 rfl rfl ?_
    refine A_getIv (z := 0) T_ok d_MD_tree_6 f_MD_483 (sb_s hw q_s_170) (rb_I hw (by decide) (by decide) q_I_170_98) ?_
    refine A_icmp_ge (tgt := 16) d_MD_tree_9 (by decide) (fun c2 => ?_) (fun c2 => False.elim (by omega))
    refine A_iconst d_MD_tree_16 rfl ?_
    exact A_iret d_MD_tree_17 (by decide) rfl ⟨(-1), rfl, by (try unfold w32); omega⟩
theorem c_MD_isVoice_a4 {G : cx_T} (h : ah_T) (vn : Int) (s_170 : h.1[170]? = some (12 + 4, 111)) (rR_170_14 : h.2.2.2 170 14 = some 172) (rI_172_0 : h.2.1 172 0 = 0) (s_172 : h.1[172]? = some (0, 2)) : con G 0 0 0 m_MD_isVoice [av_R (some 170), av_I vn] h (fun r h' => r = some (av_I 0) ∧ h = h') := by
  refine con_of (L := [some (av_R (some 170)), some (av_I vn)]) (by decide +kernel) (Nat.le_of_ble_eq_true rfl) rfl ?_
  refine A_iload_n 1 d_MD_isVoice_0 rfl rfl ?_
  refine A_if_lt (tgt := 18) d_MD_isVoice_1 (by decide) (fun c1 => ?_) (fun c1 => ?_)
  · refine A_iconst d_MD_isVoice_18 rfl ?_
    exact A_zret d_MD_isVoice_19 (by decide) rfl (Or.inl rfl) ⟨rfl, rfl⟩
  · refine A_iload_n 1 d_MD_isVoice_4 rfl rfl ?_
    refine A_aload_n 0 d_MD_isVoice_5 rfl rfl ?_
    refine A_getAv (z := (some 172)) T_ok d_MD_isVoice_6 f_MD_17 s_170 rR_170_14 ?_
    refine A_iconst d_MD_isVoice_9 rfl ?_
    refine A_ialoadv (z := 0) d_MD_isVoice_10 s_172 (by decide) (by decide) rI_172_0 ?_
    refine A_pc (pc' := 11) rfl ?_
    refine A_icmp_ge (tgt := 18) d_MD_isVoice_11 (by decide) (fun c2 => ?_) (fun c2 => False.elim (by omega))
    refine A_iconst d_MD_isVoice_18 rfl ?_
    exact A_zret d_MD_isVoice_19 (by decide) rfl (Or.inl rfl) ⟨rfl, rfl⟩
theorem t_m_beside {G : cx_T} (h : ah_T) (hw : eqr 170 241 h) (vn vw : Int) : con G 3 0 0 m_MD_beside [av_R (some 170), av_I vn, av_I vw] h (fun r h' => (∃ v : Int, r = some (av_I v) ∧ v = -1)) := by
  refine con_of (L := [some (av_R (some 170)), some (av_I vn), some (av_I vw), none, none, none, none, none]) (by decide +kernel) (Nat.le_of_ble_eq_true rfl) rfl ?_
  refine A_aload_n 0 d_MD_beside_0 rfl rfl ?_
  refine A_iload_n 1 d_MD_beside_1 rfl rfl ?_
  refine A_callV1 m_MD_isVoice T_ok d_MD_beside_2 l_MD_495 k_MD_isVoice (sb_s hw q_s_170) rfl (by decide) (by decide) (Nat.le_of_ble_eq_true rfl) (c_MD_isVoice_a4 h _ (sb_s hw q_s_170) (rb_R hw (by decide) (by decide) q_R_170_14) (rb_I hw (by decide) (by decide) q_I_172_0) (sb_s hw q_s_172)) (fun r hx hq => ?_)
  obtain ⟨rfl, rfl⟩ := hq
  refine A_if_eq (tgt := 16) d_MD_beside_5 (by decide) (fun c1 => ?_) (fun c1 => absurd c1 (by decide))
  refine A_iconst d_MD_beside_16 rfl ?_
  exact A_iret d_MD_beside_17 (by decide) rfl ⟨(-1), rfl, by (try unfold w32); omega⟩
theorem t_m_partner {G : cx_T} (h : ah_T) (hw : eqr 170 241 h) (vi : Int) : con G 0 0 0 m_MD_partner [av_R (some 170), av_I vi] h (fun r h' => (∃ v : Int, r = some (av_I v) ∧ v = -1)) := by
  refine con_of (L := [some (av_R (some 170)), some (av_I vi)]) (by decide +kernel) (Nat.le_of_ble_eq_true rfl) rfl ?_
  refine A_iload_n 1 d_MD_partner_0 rfl rfl ?_
  refine A_if_lt (tgt := 21) d_MD_partner_1 (by decide) (fun c1 => ?_) (fun c1 => ?_)
  · refine A_iconst d_MD_partner_21 rfl ?_
    exact A_iret d_MD_partner_22 (by decide) rfl ⟨(-1), rfl, by (try unfold w32); omega⟩
  · refine A_iload_n 1 d_MD_partner_4 rfl rfl ?_
    refine A_aload_n 0 d_MD_partner_5 rfl rfl ?_
    refine A_getIv (z := 0) T_ok d_MD_partner_6 f_MD_486 (sb_s hw q_s_170) (rb_I hw (by decide) (by decide) q_I_170_104) ?_
    refine A_icmp_ge (tgt := 21) d_MD_partner_9 (by decide) (fun c2 => ?_) (fun c2 => False.elim (by omega))
    refine A_iconst d_MD_partner_21 rfl ?_
    exact A_iret d_MD_partner_22 (by decide) rfl ⟨(-1), rfl, by (try unfold w32); omega⟩
theorem t_m_ways {G : cx_T} (h : ah_T) (hw : eqr 170 241 h) : con G 0 0 0 m_MD_ways [av_R (some 170)] h (fun r h' => (∃ v : Int, r = some (av_I v) ∧ v = 0)) := by
  refine con_of (L := [some (av_R (some 170))]) (by decide +kernel) (Nat.le_of_ble_eq_true rfl) rfl ?_
  refine A_aload_n 0 d_MD_ways_0 rfl rfl ?_
  refine A_getIv (z := 0) T_ok d_MD_ways_1 f_MD_489 (sb_s hw q_s_170) (rb_I hw (by decide) (by decide) q_I_170_105) ?_
  exact A_iret d_MD_ways_4 (by decide) rfl ⟨0, rfl, by (try unfold w32); omega⟩
theorem t_m_sample {G : cx_T} (h : ah_T) (hw : eqr 170 241 h) (vn vr : Int) : con G 3 0 0 m_MD_sample [av_R (some 170), av_I vn, av_I vr] h (fun r h' => r = some (av_D FP.dconst0)) := by
  refine con_of (L := [some (av_R (some 170)), some (av_I vn), some (av_I vr), none, none, none, none, none, none, none, none, none, none, none, none, none, none]) (by decide +kernel) (Nat.le_of_ble_eq_true rfl) rfl ?_
  refine A_iload_n 1 d_MD_sample_0 rfl rfl ?_
  refine A_if_lt (tgt := 16) d_MD_sample_1 (by decide) (fun c1 => ?_) (fun c1 => ?_)
  · refine A_dconst_0 d_MD_sample_16 ?_
    exact A_dret d_MD_sample_17 (by decide) rfl rfl
  · refine A_iload_n 2 d_MD_sample_4 rfl rfl ?_
    refine A_iconst d_MD_sample_5 rfl ?_
    refine A_icmp_lt (tgt := 16) d_MD_sample_6 (by decide) (fun c2 => ?_) (fun c2 => ?_)
    · refine A_dconst_0 d_MD_sample_16 ?_
      exact A_dret d_MD_sample_17 (by decide) rfl rfl
    · refine A_iload_n 2 d_MD_sample_9 rfl rfl ?_
      refine A_sipush d_MD_sample_10 rfl ?_
      refine A_icmp_le (tgt := 18) d_MD_sample_13 (by decide) (fun c3 => ?_) (fun c3 => ?_)
      · refine A_dconst_0 d_MD_sample_18 ?_
        refine A_dstore_n 3 (L' := [some (av_R (some 170)), some (av_I vn), some (av_I vr), some (av_D FP.dconst0), none, none, none, none, none, none, none, none, none, none, none, none, none]) d_MD_sample_19 rfl (Nat.le_of_ble_eq_true rfl) rfl ?_
        refine A_iconst d_MD_sample_20 rfl ?_
        refine A_istore (L' := [some (av_R (some 170)), some (av_I vn), some (av_I vr), some (av_D FP.dconst0), none, some (av_I 0), none, none, none, none, none, none, none, none, none, none, none]) d_MD_sample_21 (Nat.le_of_ble_eq_true rfl) rfl ?_
        refine A_iload d_MD_sample_23 rfl ?_
        refine A_pc (pc' := 25) rfl ?_
        refine A_aload_n 0 d_MD_sample_25 rfl rfl ?_
        refine A_getAv (z := (some 172)) T_ok d_MD_sample_26 f_MD_17 (sb_s hw q_s_170) (rb_R hw (by decide) (by decide) q_R_170_14) ?_
        refine A_iconst d_MD_sample_29 rfl ?_
        refine A_ialoadv (z := 0) d_MD_sample_30 (sb_s hw q_s_172) (by decide) (by decide) (rb_I hw (by decide) (by decide) q_I_172_0) ?_
        refine A_icmp_ge (tgt := 284) d_MD_sample_31 (by decide) (fun c4 => ?_) (fun c4 => absurd c4 (by decide))
        refine A_dload_n 3 d_MD_sample_284 rfl rfl ?_
        exact A_dret d_MD_sample_285 (by decide) rfl rfl
      · refine A_dconst_0 d_MD_sample_16 ?_
        exact A_dret d_MD_sample_17 (by decide) rfl rfl
