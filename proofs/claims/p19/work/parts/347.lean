/-! ===== the reference's methods, 347 ===== -/
def m_MD_judgeEvent : mr_T := (⟨"PlainMusicModel", "judgeEvent", "(II)V"⟩, prog_14_method_60_code, 5, none)
theorem d_MD_judgeEvent_0 : decode prog_14_method_60_code 0 = .ok (.sipush 300, 3) := by decide +kernel
theorem d_MD_judgeEvent_3 : decode prog_14_method_60_code 3 = .ok (.iload_n 1, 1) := by decide +kernel
theorem d_MD_judgeEvent_4 : decode prog_14_method_60_code 4 = .ok (.imul, 1) := by decide +kernel
theorem d_MD_judgeEvent_5 : decode prog_14_method_60_code 5 = .ok (.iload_n 2, 1) := by decide +kernel
theorem d_MD_judgeEvent_6 : decode prog_14_method_60_code 6 = .ok (.iadd, 1) := by decide +kernel
theorem d_MD_judgeEvent_7 : decode prog_14_method_60_code 7 = .ok (.istore_n 3, 1) := by decide +kernel
theorem d_MD_judgeEvent_8 : decode prog_14_method_60_code 8 = .ok (.aload_n 0, 1) := by decide +kernel
theorem d_MD_judgeEvent_9 : decode prog_14_method_60_code 9 = .ok (.getfield 87, 3) := by decide +kernel
theorem d_MD_judgeEvent_12 : decode prog_14_method_60_code 12 = .ok (.iload_n 3, 1) := by decide +kernel
theorem d_MD_judgeEvent_13 : decode prog_14_method_60_code 13 = .ok (.baload, 1) := by decide +kernel
theorem d_MD_judgeEvent_14 : decode prog_14_method_60_code 14 = .ok (.ifCond .eq 20, 3) := by decide +kernel
theorem d_MD_judgeEvent_34 : decode prog_14_method_60_code 34 = .ok (.aload_n 0, 1) := by decide +kernel
theorem d_MD_judgeEvent_35 : decode prog_14_method_60_code 35 = .ok (.getfield 75, 3) := by decide +kernel
theorem d_MD_judgeEvent_38 : decode prog_14_method_60_code 38 = .ok (.iload_n 3, 1) := by decide +kernel
theorem d_MD_judgeEvent_39 : decode prog_14_method_60_code 39 = .ok (.iaload, 1) := by decide +kernel
theorem d_MD_judgeEvent_40 : decode prog_14_method_60_code 40 = .ok (.ifCond .ne 4, 3) := by decide +kernel
theorem d_MD_judgeEvent_44 : decode prog_14_method_60_code 44 = .ok (.iload_n 2, 1) := by decide +kernel
theorem d_MD_judgeEvent_45 : decode prog_14_method_60_code 45 = .ok (.ifCond .le 51, 3) := by decide +kernel
theorem d_MD_judgeEvent_96 : decode prog_14_method_60_code 96 = .ok (.iconst 0, 1) := by decide +kernel
theorem d_MD_judgeEvent_97 : decode prog_14_method_60_code 97 = .ok (.istore 4, 2) := by decide +kernel
theorem d_MD_judgeEvent_99 : decode prog_14_method_60_code 99 = .ok (.iload 4, 2) := by decide +kernel
theorem d_MD_judgeEvent_101 : decode prog_14_method_60_code 101 = .ok (.iload_n 1, 1) := by decide +kernel
theorem d_MD_judgeEvent_102 : decode prog_14_method_60_code 102 = .ok (.if_icmp .ge 28, 3) := by decide +kernel
theorem d_MD_judgeEvent_130 : decode prog_14_method_60_code 130 = .ok (.iconst 0, 1) := by decide +kernel
theorem d_MD_judgeEvent_131 : decode prog_14_method_60_code 131 = .ok (.istore 4, 2) := by decide +kernel
theorem d_MD_judgeEvent_133 : decode prog_14_method_60_code 133 = .ok (.iload 4, 2) := by decide +kernel
theorem d_MD_judgeEvent_135 : decode prog_14_method_60_code 135 = .ok (.iload_n 1, 1) := by decide +kernel
theorem d_MD_judgeEvent_136 : decode prog_14_method_60_code 136 = .ok (.if_icmp .ge 32, 3) := by decide +kernel
theorem d_MD_judgeEvent_168 : decode prog_14_method_60_code 168 = .ok (.return_, 1) := by decide +kernel
theorem d_MD_judgeEvent_105 : decode prog_14_method_60_code 105 = .ok (.aload_n 0, 1) := by decide +kernel
theorem d_MD_judgeEvent_106 : decode prog_14_method_60_code 106 = .ok (.iload_n 3, 1) := by decide +kernel
theorem d_MD_judgeEvent_107 : decode prog_14_method_60_code 107 = .ok (.iload 4, 2) := by decide +kernel
theorem d_MD_judgeEvent_109 : decode prog_14_method_60_code 109 = .ok (.invokevirtual 523, 3) := by decide +kernel
theorem k_MD_crosses : mt_OK m_MD_crosses 2 1 := ⟨gwi_2065, gwi_146, ⟨by decide +kernel, by decide +kernel, by decide +kernel⟩, fun h => absurd h (by decide), fun _ => ⟨gwi_2064, gwi_110⟩, fun h => absurd h (by decide)⟩
theorem l_MD_523 : ml_OK "PlainMusicModel" 523 ⟨"PlainMusicModel", "crosses", "(II)Z"⟩ := Or.inl gwi_2062
theorem d_MD_judgeEvent_112 : decode prog_14_method_60_code 112 = .ok (.ifCond .eq 12, 3) := by decide +kernel
theorem d_MD_judgeEvent_124 : decode prog_14_method_60_code 124 = .ok (.iinc 4 1, 3) := by decide +kernel
theorem d_MD_judgeEvent_127 : decode prog_14_method_60_code 127 = .ok (.goto (-28), 3) := by decide +kernel
theorem d_MD_judgeEvent_115 : decode prog_14_method_60_code 115 = .ok (.aload_n 0, 1) := by decide +kernel
theorem d_MD_judgeEvent_116 : decode prog_14_method_60_code 116 = .ok (.iconst 4, 1) := by decide +kernel
theorem d_MD_judgeEvent_117 : decode prog_14_method_60_code 117 = .ok (.iload_n 1, 1) := by decide +kernel
theorem d_MD_judgeEvent_118 : decode prog_14_method_60_code 118 = .ok (.iload_n 2, 1) := by decide +kernel
theorem d_MD_judgeEvent_119 : decode prog_14_method_60_code 119 = .ok (.iload 4, 2) := by decide +kernel
theorem d_MD_judgeEvent_121 : decode prog_14_method_60_code 121 = .ok (.invokevirtual 510, 3) := by decide +kernel
theorem k_MD_tell : mt_OK m_MD_tell 4 1 := ⟨gwi_2049, gwi_146, ⟨by decide +kernel, by decide +kernel, by decide +kernel⟩, fun h => absurd h (by decide), fun _ => ⟨gwi_2048, gwi_106⟩, fun h => absurd h (by decide)⟩
theorem l_MD_510 : ml_OK "PlainMusicModel" 510 ⟨"PlainMusicModel", "tell", "(IIII)V"⟩ := Or.inl gwi_2046
theorem d_MD_judgeEvent_139 : decode prog_14_method_60_code 139 = .ok (.iload_n 2, 1) := by decide +kernel
theorem d_MD_judgeEvent_140 : decode prog_14_method_60_code 140 = .ok (.ifCond .le 22, 3) := by decide +kernel
theorem d_MD_judgeEvent_162 : decode prog_14_method_60_code 162 = .ok (.iinc 4 1, 3) := by decide +kernel
theorem d_MD_judgeEvent_165 : decode prog_14_method_60_code 165 = .ok (.goto (-32), 3) := by decide +kernel
theorem d_MD_judgeEvent_48 : decode prog_14_method_60_code 48 = .ok (.aload_n 0, 1) := by decide +kernel
theorem d_MD_judgeEvent_49 : decode prog_14_method_60_code 49 = .ok (.getfield 75, 3) := by decide +kernel
theorem d_MD_judgeEvent_52 : decode prog_14_method_60_code 52 = .ok (.iload_n 3, 1) := by decide +kernel
theorem d_MD_judgeEvent_53 : decode prog_14_method_60_code 53 = .ok (.iconst 1, 1) := by decide +kernel
theorem d_MD_judgeEvent_54 : decode prog_14_method_60_code 54 = .ok (.isub, 1) := by decide +kernel
theorem d_MD_judgeEvent_55 : decode prog_14_method_60_code 55 = .ok (.iaload, 1) := by decide +kernel
theorem d_MD_judgeEvent_56 : decode prog_14_method_60_code 56 = .ok (.ifCond .le 40, 3) := by decide +kernel
theorem d_MD_judgeEvent_143 : decode prog_14_method_60_code 143 = .ok (.aload_n 0, 1) := by decide +kernel
theorem d_MD_judgeEvent_144 : decode prog_14_method_60_code 144 = .ok (.iload_n 3, 1) := by decide +kernel
theorem d_MD_judgeEvent_145 : decode prog_14_method_60_code 145 = .ok (.iload 4, 2) := by decide +kernel
theorem d_MD_judgeEvent_147 : decode prog_14_method_60_code 147 = .ok (.invokevirtual 526, 3) := by decide +kernel
theorem k_MD_goesAlong : mt_OK m_MD_goesAlong 2 1 := ⟨gwi_2077, gwi_146, ⟨by decide +kernel, by decide +kernel, by decide +kernel⟩, fun h => absurd h (by decide), fun _ => ⟨gwi_2076, gwi_113⟩, fun h => absurd h (by decide)⟩
theorem l_MD_526 : ml_OK "PlainMusicModel" 526 ⟨"PlainMusicModel", "goesAlong", "(II)Z"⟩ := Or.inl gwi_2074
theorem d_MD_judgeEvent_150 : decode prog_14_method_60_code 150 = .ok (.ifCond .eq 12, 3) := by decide +kernel
theorem d_MD_judgeEvent_153 : decode prog_14_method_60_code 153 = .ok (.aload_n 0, 1) := by decide +kernel
theorem d_MD_judgeEvent_154 : decode prog_14_method_60_code 154 = .ok (.iconst 5, 1) := by decide +kernel
theorem d_MD_judgeEvent_155 : decode prog_14_method_60_code 155 = .ok (.iload_n 1, 1) := by decide +kernel
theorem d_MD_judgeEvent_156 : decode prog_14_method_60_code 156 = .ok (.iload_n 2, 1) := by decide +kernel
theorem d_MD_judgeEvent_157 : decode prog_14_method_60_code 157 = .ok (.iload 4, 2) := by decide +kernel
theorem d_MD_judgeEvent_159 : decode prog_14_method_60_code 159 = .ok (.invokevirtual 510, 3) := by decide +kernel
theorem d_MD_judgeEvent_59 : decode prog_14_method_60_code 59 = .ok (.aload_n 0, 1) := by decide +kernel
theorem d_MD_judgeEvent_60 : decode prog_14_method_60_code 60 = .ok (.iload_n 3, 1) := by decide +kernel
theorem d_MD_judgeEvent_61 : decode prog_14_method_60_code 61 = .ok (.invokevirtual 520, 3) := by decide +kernel
theorem d_MD_judgeEvent_64 : decode prog_14_method_60_code 64 = .ok (.aload_n 0, 1) := by decide +kernel
theorem d_MD_judgeEvent_65 : decode prog_14_method_60_code 65 = .ok (.iload_n 3, 1) := by decide +kernel
theorem d_MD_judgeEvent_66 : decode prog_14_method_60_code 66 = .ok (.iconst 1, 1) := by decide +kernel
theorem d_MD_judgeEvent_67 : decode prog_14_method_60_code 67 = .ok (.isub, 1) := by decide +kernel
theorem d_MD_judgeEvent_68 : decode prog_14_method_60_code 68 = .ok (.invokevirtual 520, 3) := by decide +kernel
theorem d_MD_judgeEvent_71 : decode prog_14_method_60_code 71 = .ok (.isub, 1) := by decide +kernel
theorem d_MD_judgeEvent_72 : decode prog_14_method_60_code 72 = .ok (.istore 4, 2) := by decide +kernel
theorem d_MD_judgeEvent_74 : decode prog_14_method_60_code 74 = .ok (.iload 4, 2) := by decide +kernel
theorem d_MD_judgeEvent_76 : decode prog_14_method_60_code 76 = .ok (.bipush 12, 2) := by decide +kernel
theorem d_MD_judgeEvent_78 : decode prog_14_method_60_code 78 = .ok (.if_icmp .gt 10, 3) := by decide +kernel
theorem d_MD_judgeEvent_88 : decode prog_14_method_60_code 88 = .ok (.aload_n 0, 1) := by decide +kernel
theorem d_MD_judgeEvent_89 : decode prog_14_method_60_code 89 = .ok (.iconst 3, 1) := by decide +kernel
theorem d_MD_judgeEvent_90 : decode prog_14_method_60_code 90 = .ok (.iload_n 1, 1) := by decide +kernel
theorem d_MD_judgeEvent_91 : decode prog_14_method_60_code 91 = .ok (.iload_n 2, 1) := by decide +kernel
theorem d_MD_judgeEvent_92 : decode prog_14_method_60_code 92 = .ok (.iconst 0, 1) := by decide +kernel
theorem d_MD_judgeEvent_93 : decode prog_14_method_60_code 93 = .ok (.invokevirtual 510, 3) := by decide +kernel
theorem d_MD_judgeEvent_81 : decode prog_14_method_60_code 81 = .ok (.iload 4, 2) := by decide +kernel
theorem d_MD_judgeEvent_83 : decode prog_14_method_60_code 83 = .ok (.bipush (-12), 2) := by decide +kernel
theorem d_MD_judgeEvent_85 : decode prog_14_method_60_code 85 = .ok (.if_icmp .ge 11, 3) := by decide +kernel
theorem d_MD_judgeEvent_43 : decode prog_14_method_60_code 43 = .ok (.return_, 1) := by decide +kernel
theorem d_MD_judgeEvent_17 : decode prog_14_method_60_code 17 = .ok (.aload_n 0, 1) := by decide +kernel
theorem d_MD_judgeEvent_18 : decode prog_14_method_60_code 18 = .ok (.iload_n 1, 1) := by decide +kernel
theorem d_MD_judgeEvent_19 : decode prog_14_method_60_code 19 = .ok (.iload_n 2, 1) := by decide +kernel
theorem d_MD_judgeEvent_20 : decode prog_14_method_60_code 20 = .ok (.invokevirtual 517, 3) := by decide +kernel
theorem k_MD_goesOn : mt_OK m_MD_goesOn 2 1 := ⟨gwi_2057, gwi_146, ⟨by decide +kernel, by decide +kernel, by decide +kernel⟩, fun h => absurd h (by decide), fun _ => ⟨gwi_2056, gwi_108⟩, fun h => absurd h (by decide)⟩
theorem l_MD_517 : ml_OK "PlainMusicModel" 517 ⟨"PlainMusicModel", "goesOn", "(II)Z"⟩ := Or.inl gwi_2054
theorem d_MD_judgeEvent_23 : decode prog_14_method_60_code 23 = .ok (.ifCond .ne 11, 3) := by decide +kernel
theorem d_MD_judgeEvent_26 : decode prog_14_method_60_code 26 = .ok (.aload_n 0, 1) := by decide +kernel
theorem d_MD_judgeEvent_27 : decode prog_14_method_60_code 27 = .ok (.iconst 2, 1) := by decide +kernel
theorem d_MD_judgeEvent_28 : decode prog_14_method_60_code 28 = .ok (.iload_n 1, 1) := by decide +kernel
theorem d_MD_judgeEvent_29 : decode prog_14_method_60_code 29 = .ok (.iload_n 2, 1) := by decide +kernel
theorem d_MD_judgeEvent_30 : decode prog_14_method_60_code 30 = .ok (.iconst 0, 1) := by decide +kernel
theorem d_MD_judgeEvent_31 : decode prog_14_method_60_code 31 = .ok (.invokevirtual 510, 3) := by decide +kernel
set_option maxHeartbeats 8000000 in
theorem s_MD_judgeEvent {G : cx_T} {h : ah_T} (hx : mi h) {a1 : Int} {a2 : Int} (la1 : 0 ≤ a1) (ua1 : a1 ≤ 3) (la2 : 0 ≤ a2) (ua2 : a2 ≤ 299) (hKS : KS h) (hv : a1 < h.2.1 172 0) (hin : a2 < h.2.1 185 a1.toNat) (hft : h.2.1 170 80 ≤ 100000) : con G 5 0 0 m_MD_judgeEvent [av_R (some 170), av_I a1, av_I a2] h (fun r h' => r = none ∧ (h'.2.1 170 80 ≤ h.2.1 170 80 + (2 + 2 * a1)) ∧ kM (pm [65, 66, 80] [221, 222, 223, 224]) h h') := by
  refine con_of (L := [some (av_R (some 170)), some (av_I a1), some (av_I a2), none, none]) (by decide +kernel) (Nat.le_of_ble_eq_true rfl) rfl ?_
  have k0 : kM (pm [65, 66, 80] [221, 222, 223, 224]) h h := kM_0 hx
  obtain ⟨sd1, esd1⟩ : ∃ x, x = h.2.1 170 80 := ⟨_, rfl⟩
  have rsd1 : 0 ≤ sd1 ∧ sd1 ≤ 2000000000 := (by rw [esd1]; exact mi_g k0.1 (by decide) mr_170_80)
  have he : EV h (300 * a1 + a2).toNat := (hKS a1.toNat (by omega)).1 _ (by omega) (by omega)
  refine A_sipush d_MD_judgeEvent_0 rfl ?_
  refine A_iload_n 1 d_MD_judgeEvent_3 rfl rfl ?_
  refine A_imulv (z := (300 * a1)) d_MD_judgeEvent_4 (w32_to (by omega) (by unfold i32; omega)) ?_
  refine A_iload_n 2 d_MD_judgeEvent_5 rfl rfl ?_
  refine A_iaddv (z := (300 * a1 + a2)) d_MD_judgeEvent_6 (w32_to (by omega) (by unfold i32; omega)) ?_
  refine A_pc (pc' := 7) rfl ?_
  refine A_istore_n 3 (L' := [some (av_R (some 170)), some (av_I a1), some (av_I a2), some (av_I (300 * a1 + a2)), none]) d_MD_judgeEvent_7 rfl (Nat.le_of_ble_eq_true rfl) rfl ?_
  refine A_aload_n 0 d_MD_judgeEvent_8 rfl rfl ?_
  refine A_getAv (z := some 195) T_ok d_MD_judgeEvent_9 f_MD_87 (mi_s k0.1 sf_170) (mi_r k0.1 rfm_37) ?_
  refine A_iload_n 3 d_MD_judgeEvent_12 rfl rfl ?_
  refine A_zaloadn d_MD_judgeEvent_13 (mi_s k0.1 sf_195) (by omega) (by omega) (fun x3 ex3 bx3 => ?_)
  refine A_if_eq (tgt := 34) d_MD_judgeEvent_14 (by decide) (fun c4 => ?_) (fun c4 => ?_)
  · refine A_aload_n 0 d_MD_judgeEvent_34 rfl rfl ?_
    refine A_getAv (z := some 191) T_ok d_MD_judgeEvent_35 f_MD_75 (mi_s k0.1 sf_170) (mi_r k0.1 rfm_33) ?_
    refine A_iload_n 3 d_MD_judgeEvent_38 rfl rfl ?_
    refine A_ialoadn (lo := 0) (hi := 4) d_MD_judgeEvent_39 (mi_s k0.1 sf_191) (by omega) (by omega) (mi_g k0.1 (by decide) (mr_191 _)) (fun x6 ex6 _ _ => ?_)
    refine A_if_ne (tgt := 44) d_MD_judgeEvent_40 (by decide) (fun c7 => ?_) (fun c7 => ?_)
    · refine A_iload_n 2 d_MD_judgeEvent_44 rfl rfl ?_
      refine A_if_le (tgt := 96) d_MD_judgeEvent_45 (by decide) (fun c8 => ?_) (fun c8 => ?_)
      · refine A_iconst d_MD_judgeEvent_96 rfl ?_
        refine A_istore (L' := [some (av_R (some 170)), some (av_I a1), some (av_I a2), some (av_I (300 * a1 + a2)), some (av_I 0)]) d_MD_judgeEvent_97 (Nat.le_of_ble_eq_true rfl) rfl ?_
        have lp99 : ∀ (n : Nat) (i9 : Int) (h10 : ah_T) , 0 ≤ i9 → i9 ≤ 3 → (h10.2.1 170 80 ≤ h.2.1 170 80 + 2 + i9 ∧ 0 ≤ h10.2.1 170 80 ∧ i9 ≤ a1) → kM (pm [65, 66, 80] [221, 222, 223, 224]) h h10 → (4 - i9).toNat < n → aw G (rm_R 5 0 0) m_MD_judgeEvent 0 0 99 [some (av_R (some 170)), some (av_I a1), some (av_I a2), some (av_I (300 * a1 + a2)), some (av_I i9)] [] h10 (fun r h' => r = none ∧ (h'.2.1 170 80 ≤ h.2.1 170 80 + (2 + 2 * a1)) ∧ kM (pm [65, 66, 80] [221, 222, 223, 224]) h h') := by
          intro n
          induction n with
          | zero => intro i9 h10 _ _ _ _ hm; omega
          | succ n ih99 =>
            intro i9 h10 hl0 hl1 hinv k11 hm
            obtain ⟨sd12, esd12⟩ : ∃ x, x = h10.2.1 170 80 := ⟨_, rfl⟩
            have rsd12 : 0 ≤ sd12 ∧ sd12 ≤ 2000000000 := (by rw [esd12]; exact mi_g k11.1 (by decide) mr_170_80)
            refine A_iload d_MD_judgeEvent_99 rfl ?_
            refine A_iload_n 1 d_MD_judgeEvent_101 rfl rfl ?_
            refine A_icmp_ge (tgt := 130) d_MD_judgeEvent_102 (by decide) (fun c13 => ?_) (fun c13 => ?_)
            · refine A_iconst d_MD_judgeEvent_130 rfl ?_
              refine A_istore (L' := [some (av_R (some 170)), some (av_I a1), some (av_I a2), some (av_I (300 * a1 + a2)), some (av_I 0)]) d_MD_judgeEvent_131 (Nat.le_of_ble_eq_true rfl) rfl ?_
              have lp133 : ∀ (n : Nat) (i14 : Int) (h15 : ah_T) , 0 ≤ i14 → i14 ≤ 3 → (h15.2.1 170 80 ≤ h.2.1 170 80 + 2 + a1 + i14 ∧ 0 ≤ h15.2.1 170 80 ∧ i14 ≤ a1) → kM (pm [65, 66, 80] [221, 222, 223, 224]) h h15 → (4 - i14).toNat < n → aw G (rm_R 5 0 0) m_MD_judgeEvent 0 0 133 [some (av_R (some 170)), some (av_I a1), some (av_I a2), some (av_I (300 * a1 + a2)), some (av_I i14)] [] h15 (fun r h' => r = none ∧ (h'.2.1 170 80 ≤ h.2.1 170 80 + (2 + 2 * a1)) ∧ kM (pm [65, 66, 80] [221, 222, 223, 224]) h h') := by
                intro n
                induction n with
                | zero => intro i14 h15 _ _ _ _ hm; omega
                | succ n ih133 =>
                  intro i14 h15 hl0 hl1 hinv k16 hm
                  obtain ⟨sd17, esd17⟩ : ∃ x, x = h15.2.1 170 80 := ⟨_, rfl⟩
                  have rsd17 : 0 ≤ sd17 ∧ sd17 ≤ 2000000000 := (by rw [esd17]; exact mi_g k16.1 (by decide) mr_170_80)
                  refine A_iload d_MD_judgeEvent_133 rfl ?_
                  refine A_iload_n 1 d_MD_judgeEvent_135 rfl rfl ?_
                  refine A_icmp_ge (tgt := 168) d_MD_judgeEvent_136 (by decide) (fun c18 => ?_) (fun c18 => ?_)
                  · exact A_vret d_MD_judgeEvent_168 (by decide) rfl ⟨rfl, (by have qq0 := esd17.symm; omega), k16⟩
                  · refine A_iload_n 2 d_MD_judgeEvent_139 rfl rfl ?_
                    refine A_if_le (tgt := 162) d_MD_judgeEvent_140 (by decide) (fun c19 => ?_) (fun c => False.elim (by omega))
                    refine A_iincv (z := (i14 + 1)) (L' := [some (av_R (some 170)), some (av_I a1), some (av_I a2), some (av_I (300 * a1 + a2)), some (av_I (i14 + 1))]) d_MD_judgeEvent_162 rfl (w32_to (by omega) (by unfold i32; omega)) rfl ?_
                    refine A_goto (tgt := 133) d_MD_judgeEvent_165 (by decide) ?_
                    exact ih133 (i14 + 1) h15 (by omega) (by omega) (by have qq0 := esd17.symm; omega) k16 (by omega)
              exact lp133 _ 0 h10 (by omega) (by omega) (by have qq0 := esd12.symm; omega) k11 (Nat.lt_succ_self _)
            · refine A_aload_n 0 d_MD_judgeEvent_105 rfl rfl ?_
              refine A_iload_n 3 d_MD_judgeEvent_106 rfl rfl ?_
              refine A_iload d_MD_judgeEvent_107 rfl ?_
              have zf21 := esd12.symm
              refine A_callV2 m_MD_crosses T_ok d_MD_judgeEvent_109 l_MD_523 k_MD_crosses (mi_s k11.1 sf_170) rfl (by decide +kernel) (by decide) (Nat.le_of_ble_eq_true rfl) (s_MD_crosses k11.1 (by omega) (by omega) (by omega) (by omega) (KS_s hKS k11 (by decide) (fun k => ⟨rfl, rfl⟩) (fun k => ⟨rfl, rfl, rfl, rfl, rfl, rfl⟩)) (by have q1 := k11.2.2.1 172 0 rfl; omega) (EV_s he (by intro a ha; simp only [List.mem_cons, List.not_mem_nil, or_false] at ha; rcases ha with rfl | rfl | rfl | rfl <;> exact k11.2.2.2 _ _ rfl)) (by have q1 := k11.2.2.1 191 ((300 * a1 + a2)).toNat rfl; omega)) (fun r h20 hq => ?_)
              obtain ⟨x23, rfl, bx23, k22⟩ := hq
              have k24 := kM_t k11 k22 (pm_s (by decide) (by decide))
              refine A_if_eq (tgt := 124) d_MD_judgeEvent_112 (by decide) (fun c25 => ?_) (fun c25 => ?_)
              · refine A_iincv (z := (i9 + 1)) (L' := [some (av_R (some 170)), some (av_I a1), some (av_I a2), some (av_I (300 * a1 + a2)), some (av_I (i9 + 1))]) d_MD_judgeEvent_124 rfl (w32_to (by omega) (by unfold i32; omega)) rfl ?_
                refine A_goto (tgt := 99) d_MD_judgeEvent_127 (by decide) ?_
                exact ih99 (i9 + 1) h20 (by omega) (by omega) (by have qq0 := ((k22.2.2.1 _ _ rfl).trans esd12.symm); omega) k24 (by omega)
              · refine A_aload_n 0 d_MD_judgeEvent_115 rfl rfl ?_
                refine A_iconst d_MD_judgeEvent_116 rfl ?_
                refine A_iload_n 1 d_MD_judgeEvent_117 rfl rfl ?_
                refine A_iload_n 2 d_MD_judgeEvent_118 rfl rfl ?_
                refine A_iload d_MD_judgeEvent_119 rfl ?_
                refine A_pc (pc' := 121) rfl ?_
                have zf27 := ((k22.2.2.1 _ _ rfl).trans esd12.symm)
                refine A_callV4 m_MD_tell T_ok d_MD_judgeEvent_121 l_MD_510 k_MD_tell (mi_s k24.1 sf_170) rfl (by decide +kernel) (by decide) (Nat.le_of_ble_eq_true rfl) (s_MD_tell k24.1 (by have qq0 := ((k22.2.2.1 _ _ rfl).trans esd12.symm); omega)) (fun r h26 hq => ?_)
                obtain ⟨rfl, xk28, k28⟩ := hq
                have k29 := kM_t k24 k28 (pm_s (by decide) (by decide))
                obtain ⟨sd30, esd30⟩ : ∃ x, x = h26.2.1 170 80 := ⟨_, rfl⟩
                have rsd30 : 0 ≤ sd30 ∧ sd30 ≤ 2000000000 := (by rw [esd30]; exact mi_g k29.1 (by decide) mr_170_80)
                refine A_iincv (z := (i9 + 1)) (L' := [some (av_R (some 170)), some (av_I a1), some (av_I a2), some (av_I (300 * a1 + a2)), some (av_I (i9 + 1))]) d_MD_judgeEvent_124 rfl (w32_to (by omega) (by unfold i32; omega)) rfl ?_
                refine A_goto (tgt := 99) d_MD_judgeEvent_127 (by decide) ?_
                exact ih99 (i9 + 1) h26 (by omega) (by omega) (by have qq0 := esd30.symm; omega) k29 (by omega)
        exact lp99 _ 0 h (by omega) (by omega) (by have qq0 := esd1.symm; omega) k0 (Nat.lt_succ_self _)
      · refine A_aload_n 0 d_MD_judgeEvent_48 rfl rfl ?_
        refine A_getAv (z := some 191) T_ok d_MD_judgeEvent_49 f_MD_75 (mi_s k0.1 sf_170) (mi_r k0.1 rfm_33) ?_
        refine A_iload_n 3 d_MD_judgeEvent_52 rfl rfl ?_
        refine A_iconst d_MD_judgeEvent_53 rfl ?_
        refine A_isubv (z := (300 * a1 + a2 - 1)) d_MD_judgeEvent_54 (w32_to (by omega) (by unfold i32; omega)) ?_
        refine A_pc (pc' := 55) rfl ?_
        refine A_ialoadn (lo := 0) (hi := 4) d_MD_judgeEvent_55 (mi_s k0.1 sf_191) (by omega) (by omega) (mi_g k0.1 (by decide) (mr_191 _)) (fun x32 ex32 _ _ => ?_)
        refine A_if_le (tgt := 96) d_MD_judgeEvent_56 (by decide) (fun c33 => ?_) (fun c33 => ?_)
        · refine A_iconst d_MD_judgeEvent_96 rfl ?_
          refine A_istore (L' := [some (av_R (some 170)), some (av_I a1), some (av_I a2), some (av_I (300 * a1 + a2)), some (av_I 0)]) d_MD_judgeEvent_97 (Nat.le_of_ble_eq_true rfl) rfl ?_
          have lp99 : ∀ (n : Nat) (i34 : Int) (h35 : ah_T) , 0 ≤ i34 → i34 ≤ 3 → (h35.2.1 170 80 ≤ h.2.1 170 80 + 2 + i34 ∧ 0 ≤ h35.2.1 170 80 ∧ i34 ≤ a1) → kM (pm [65, 66, 80] [221, 222, 223, 224]) h h35 → (4 - i34).toNat < n → aw G (rm_R 5 0 0) m_MD_judgeEvent 0 0 99 [some (av_R (some 170)), some (av_I a1), some (av_I a2), some (av_I (300 * a1 + a2)), some (av_I i34)] [] h35 (fun r h' => r = none ∧ (h'.2.1 170 80 ≤ h.2.1 170 80 + (2 + 2 * a1)) ∧ kM (pm [65, 66, 80] [221, 222, 223, 224]) h h') := by
            intro n
            induction n with
            | zero => intro i34 h35 _ _ _ _ hm; omega
            | succ n ih99 =>
              intro i34 h35 hl0 hl1 hinv k36 hm
              obtain ⟨sd37, esd37⟩ : ∃ x, x = h35.2.1 170 80 := ⟨_, rfl⟩
              have rsd37 : 0 ≤ sd37 ∧ sd37 ≤ 2000000000 := (by rw [esd37]; exact mi_g k36.1 (by decide) mr_170_80)
              refine A_iload d_MD_judgeEvent_99 rfl ?_
              refine A_iload_n 1 d_MD_judgeEvent_101 rfl rfl ?_
              refine A_icmp_ge (tgt := 130) d_MD_judgeEvent_102 (by decide) (fun c38 => ?_) (fun c38 => ?_)
              · refine A_iconst d_MD_judgeEvent_130 rfl ?_
                refine A_istore (L' := [some (av_R (some 170)), some (av_I a1), some (av_I a2), some (av_I (300 * a1 + a2)), some (av_I 0)]) d_MD_judgeEvent_131 (Nat.le_of_ble_eq_true rfl) rfl ?_
                have lp133 : ∀ (n : Nat) (i39 : Int) (h40 : ah_T) , 0 ≤ i39 → i39 ≤ 3 → (h40.2.1 170 80 ≤ h.2.1 170 80 + 2 + a1 + i39 ∧ 0 ≤ h40.2.1 170 80 ∧ i39 ≤ a1) → kM (pm [65, 66, 80] [221, 222, 223, 224]) h h40 → (4 - i39).toNat < n → aw G (rm_R 5 0 0) m_MD_judgeEvent 0 0 133 [some (av_R (some 170)), some (av_I a1), some (av_I a2), some (av_I (300 * a1 + a2)), some (av_I i39)] [] h40 (fun r h' => r = none ∧ (h'.2.1 170 80 ≤ h.2.1 170 80 + (2 + 2 * a1)) ∧ kM (pm [65, 66, 80] [221, 222, 223, 224]) h h') := by
                  intro n
                  induction n with
                  | zero => intro i39 h40 _ _ _ _ hm; omega
                  | succ n ih133 =>
                    intro i39 h40 hl0 hl1 hinv k41 hm
                    obtain ⟨sd42, esd42⟩ : ∃ x, x = h40.2.1 170 80 := ⟨_, rfl⟩
                    have rsd42 : 0 ≤ sd42 ∧ sd42 ≤ 2000000000 := (by rw [esd42]; exact mi_g k41.1 (by decide) mr_170_80)
                    refine A_iload d_MD_judgeEvent_133 rfl ?_
                    refine A_iload_n 1 d_MD_judgeEvent_135 rfl rfl ?_
                    refine A_icmp_ge (tgt := 168) d_MD_judgeEvent_136 (by decide) (fun c43 => ?_) (fun c43 => ?_)
                    · exact A_vret d_MD_judgeEvent_168 (by decide) rfl ⟨rfl, (by have qq0 := esd42.symm; omega), k41⟩
                    · refine A_iload_n 2 d_MD_judgeEvent_139 rfl rfl ?_
                      refine A_if_le (tgt := 162) d_MD_judgeEvent_140 (by decide) (fun c => False.elim (by omega)) (fun c44 => ?_)
                      refine A_aload_n 0 d_MD_judgeEvent_143 rfl rfl ?_
                      refine A_iload_n 3 d_MD_judgeEvent_144 rfl rfl ?_
                      refine A_iload d_MD_judgeEvent_145 rfl ?_
                      refine A_callV2 m_MD_goesAlong T_ok d_MD_judgeEvent_147 l_MD_526 k_MD_goesAlong (mi_s k41.1 sf_170) rfl (by decide +kernel) (by decide) (Nat.le_of_ble_eq_true rfl) (s_MD_goesAlong k41.1 (by omega) (by omega) (by omega) (by omega)) (fun r h45 hq => ?_)
                      obtain ⟨x47, rfl, bx47, rfl⟩ := hq
                      refine A_if_eq (tgt := 162) d_MD_judgeEvent_150 (by decide) (fun c48 => ?_) (fun c48 => ?_)
                      · refine A_iincv (z := (i39 + 1)) (L' := [some (av_R (some 170)), some (av_I a1), some (av_I a2), some (av_I (300 * a1 + a2)), some (av_I (i39 + 1))]) d_MD_judgeEvent_162 rfl (w32_to (by omega) (by unfold i32; omega)) rfl ?_
                        refine A_goto (tgt := 133) d_MD_judgeEvent_165 (by decide) ?_
                        exact ih133 (i39 + 1) h40 (by omega) (by omega) (by have qq0 := esd42.symm; omega) k41 (by omega)
                      · refine A_aload_n 0 d_MD_judgeEvent_153 rfl rfl ?_
                        refine A_iconst d_MD_judgeEvent_154 rfl ?_
                        refine A_iload_n 1 d_MD_judgeEvent_155 rfl rfl ?_
                        refine A_iload_n 2 d_MD_judgeEvent_156 rfl rfl ?_
                        refine A_iload d_MD_judgeEvent_157 rfl ?_
                        refine A_pc (pc' := 159) rfl ?_
                        have zf50 := esd42.symm
                        refine A_callV4 m_MD_tell T_ok d_MD_judgeEvent_159 l_MD_510 k_MD_tell (mi_s k41.1 sf_170) rfl (by decide +kernel) (by decide) (Nat.le_of_ble_eq_true rfl) (s_MD_tell k41.1 (by have qq0 := esd42.symm; omega)) (fun r h49 hq => ?_)
                        obtain ⟨rfl, xk51, k51⟩ := hq
                        have k52 := kM_t k41 k51 (pm_s (by decide) (by decide))
                        obtain ⟨sd53, esd53⟩ : ∃ x, x = h49.2.1 170 80 := ⟨_, rfl⟩
                        have rsd53 : 0 ≤ sd53 ∧ sd53 ≤ 2000000000 := (by rw [esd53]; exact mi_g k52.1 (by decide) mr_170_80)
                        refine A_iincv (z := (i39 + 1)) (L' := [some (av_R (some 170)), some (av_I a1), some (av_I a2), some (av_I (300 * a1 + a2)), some (av_I (i39 + 1))]) d_MD_judgeEvent_162 rfl (w32_to (by omega) (by unfold i32; omega)) rfl ?_
                        refine A_goto (tgt := 133) d_MD_judgeEvent_165 (by decide) ?_
                        exact ih133 (i39 + 1) h49 (by omega) (by omega) (by have qq0 := esd53.symm; omega) k52 (by omega)
                exact lp133 _ 0 h35 (by omega) (by omega) (by have qq0 := esd37.symm; omega) k36 (Nat.lt_succ_self _)
              · refine A_aload_n 0 d_MD_judgeEvent_105 rfl rfl ?_
                refine A_iload_n 3 d_MD_judgeEvent_106 rfl rfl ?_
                refine A_iload d_MD_judgeEvent_107 rfl ?_
                have zf55 := esd37.symm
                refine A_callV2 m_MD_crosses T_ok d_MD_judgeEvent_109 l_MD_523 k_MD_crosses (mi_s k36.1 sf_170) rfl (by decide +kernel) (by decide) (Nat.le_of_ble_eq_true rfl) (s_MD_crosses k36.1 (by omega) (by omega) (by omega) (by omega) (KS_s hKS k36 (by decide) (fun k => ⟨rfl, rfl⟩) (fun k => ⟨rfl, rfl, rfl, rfl, rfl, rfl⟩)) (by have q1 := k36.2.2.1 172 0 rfl; omega) (EV_s he (by intro a ha; simp only [List.mem_cons, List.not_mem_nil, or_false] at ha; rcases ha with rfl | rfl | rfl | rfl <;> exact k36.2.2.2 _ _ rfl)) (by have q1 := k36.2.2.1 191 ((300 * a1 + a2)).toNat rfl; omega)) (fun r h54 hq => ?_)
                obtain ⟨x57, rfl, bx57, k56⟩ := hq
                have k58 := kM_t k36 k56 (pm_s (by decide) (by decide))
                refine A_if_eq (tgt := 124) d_MD_judgeEvent_112 (by decide) (fun c59 => ?_) (fun c59 => ?_)
                · refine A_iincv (z := (i34 + 1)) (L' := [some (av_R (some 170)), some (av_I a1), some (av_I a2), some (av_I (300 * a1 + a2)), some (av_I (i34 + 1))]) d_MD_judgeEvent_124 rfl (w32_to (by omega) (by unfold i32; omega)) rfl ?_
                  refine A_goto (tgt := 99) d_MD_judgeEvent_127 (by decide) ?_
                  exact ih99 (i34 + 1) h54 (by omega) (by omega) (by have qq0 := ((k56.2.2.1 _ _ rfl).trans esd37.symm); omega) k58 (by omega)
                · refine A_aload_n 0 d_MD_judgeEvent_115 rfl rfl ?_
                  refine A_iconst d_MD_judgeEvent_116 rfl ?_
                  refine A_iload_n 1 d_MD_judgeEvent_117 rfl rfl ?_
                  refine A_iload_n 2 d_MD_judgeEvent_118 rfl rfl ?_
                  refine A_iload d_MD_judgeEvent_119 rfl ?_
                  refine A_pc (pc' := 121) rfl ?_
                  have zf61 := ((k56.2.2.1 _ _ rfl).trans esd37.symm)
                  refine A_callV4 m_MD_tell T_ok d_MD_judgeEvent_121 l_MD_510 k_MD_tell (mi_s k58.1 sf_170) rfl (by decide +kernel) (by decide) (Nat.le_of_ble_eq_true rfl) (s_MD_tell k58.1 (by have qq0 := ((k56.2.2.1 _ _ rfl).trans esd37.symm); omega)) (fun r h60 hq => ?_)
                  obtain ⟨rfl, xk62, k62⟩ := hq
                  have k63 := kM_t k58 k62 (pm_s (by decide) (by decide))
                  obtain ⟨sd64, esd64⟩ : ∃ x, x = h60.2.1 170 80 := ⟨_, rfl⟩
                  have rsd64 : 0 ≤ sd64 ∧ sd64 ≤ 2000000000 := (by rw [esd64]; exact mi_g k63.1 (by decide) mr_170_80)
                  refine A_iincv (z := (i34 + 1)) (L' := [some (av_R (some 170)), some (av_I a1), some (av_I a2), some (av_I (300 * a1 + a2)), some (av_I (i34 + 1))]) d_MD_judgeEvent_124 rfl (w32_to (by omega) (by unfold i32; omega)) rfl ?_
                  refine A_goto (tgt := 99) d_MD_judgeEvent_127 (by decide) ?_
                  exact ih99 (i34 + 1) h60 (by omega) (by omega) (by have qq0 := esd64.symm; omega) k63 (by omega)
          exact lp99 _ 0 h (by omega) (by omega) (by have qq0 := esd1.symm; omega) k0 (Nat.lt_succ_self _)
        · refine A_aload_n 0 d_MD_judgeEvent_59 rfl rfl ?_
          refine A_iload_n 3 d_MD_judgeEvent_60 rfl rfl ?_
          refine A_callV1 m_MD_lowest T_ok d_MD_judgeEvent_61 l_MD_520 k_MD_lowest (mi_s k0.1 sf_170) rfl (by decide +kernel) (by decide) (Nat.le_of_ble_eq_true rfl) (s_MD_lowest k0.1 (by omega) (by omega)) (fun r h65 hq => ?_)
          obtain ⟨x67, rfl, ⟨_, _⟩, rfl⟩ := hq
          refine A_aload_n 0 d_MD_judgeEvent_64 rfl rfl ?_
          refine A_iload_n 3 d_MD_judgeEvent_65 rfl rfl ?_
          refine A_iconst d_MD_judgeEvent_66 rfl ?_
          refine A_isubv (z := (300 * a1 + a2 - 1)) d_MD_judgeEvent_67 (w32_to (by omega) (by unfold i32; omega)) ?_
          refine A_callV1 m_MD_lowest T_ok d_MD_judgeEvent_68 l_MD_520 k_MD_lowest (mi_s k0.1 sf_170) rfl (by decide +kernel) (by decide) (Nat.le_of_ble_eq_true rfl) (s_MD_lowest k0.1 (by omega) (by omega)) (fun r h68 hq => ?_)
          obtain ⟨x70, rfl, ⟨_, _⟩, rfl⟩ := hq
          refine A_isubv (z := (x67 - x70)) d_MD_judgeEvent_71 (w32_to (by omega) (by unfold i32; omega)) ?_
          refine A_istore (L' := [some (av_R (some 170)), some (av_I a1), some (av_I a2), some (av_I (300 * a1 + a2)), some (av_I (x67 - x70))]) d_MD_judgeEvent_72 (Nat.le_of_ble_eq_true rfl) rfl ?_
          refine A_iload d_MD_judgeEvent_74 rfl ?_
          refine A_bipush d_MD_judgeEvent_76 rfl ?_
          refine A_icmp_gt (tgt := 88) d_MD_judgeEvent_78 (by decide) (fun c71 => ?_) (fun c71 => ?_)
          · refine A_aload_n 0 d_MD_judgeEvent_88 rfl rfl ?_
            refine A_iconst d_MD_judgeEvent_89 rfl ?_
            refine A_iload_n 1 d_MD_judgeEvent_90 rfl rfl ?_
            refine A_iload_n 2 d_MD_judgeEvent_91 rfl rfl ?_
            refine A_iconst d_MD_judgeEvent_92 rfl ?_
            refine A_pc (pc' := 93) rfl ?_
            have zf73 := esd1.symm
            refine A_callV4 m_MD_tell T_ok d_MD_judgeEvent_93 l_MD_510 k_MD_tell (mi_s k0.1 sf_170) rfl (by decide +kernel) (by decide) (Nat.le_of_ble_eq_true rfl) (s_MD_tell k0.1 (by have qq0 := esd1.symm; omega)) (fun r h72 hq => ?_)
            obtain ⟨rfl, xk74, k74⟩ := hq
            have k75 := kM_t k0 k74 (pm_s (by decide) (by decide))
            obtain ⟨sd76, esd76⟩ : ∃ x, x = h72.2.1 170 80 := ⟨_, rfl⟩
            have rsd76 : 0 ≤ sd76 ∧ sd76 ≤ 2000000000 := (by rw [esd76]; exact mi_g k75.1 (by decide) mr_170_80)
            refine A_iconst d_MD_judgeEvent_96 rfl ?_
            refine A_istore (L' := [some (av_R (some 170)), some (av_I a1), some (av_I a2), some (av_I (300 * a1 + a2)), some (av_I 0)]) d_MD_judgeEvent_97 (Nat.le_of_ble_eq_true rfl) rfl ?_
            have lp99 : ∀ (n : Nat) (i77 : Int) (h78 : ah_T) , 0 ≤ i77 → i77 ≤ 3 → (h78.2.1 170 80 ≤ h.2.1 170 80 + 2 + i77 ∧ 0 ≤ h78.2.1 170 80 ∧ i77 ≤ a1) → kM (pm [65, 66, 80] [221, 222, 223, 224]) h h78 → (4 - i77).toNat < n → aw G (rm_R 5 0 0) m_MD_judgeEvent 0 0 99 [some (av_R (some 170)), some (av_I a1), some (av_I a2), some (av_I (300 * a1 + a2)), some (av_I i77)] [] h78 (fun r h' => r = none ∧ (h'.2.1 170 80 ≤ h.2.1 170 80 + (2 + 2 * a1)) ∧ kM (pm [65, 66, 80] [221, 222, 223, 224]) h h') := by
              intro n
              induction n with
              | zero => intro i77 h78 _ _ _ _ hm; omega
              | succ n ih99 =>
                intro i77 h78 hl0 hl1 hinv k79 hm
                obtain ⟨sd80, esd80⟩ : ∃ x, x = h78.2.1 170 80 := ⟨_, rfl⟩
                have rsd80 : 0 ≤ sd80 ∧ sd80 ≤ 2000000000 := (by rw [esd80]; exact mi_g k79.1 (by decide) mr_170_80)
                refine A_iload d_MD_judgeEvent_99 rfl ?_
                refine A_iload_n 1 d_MD_judgeEvent_101 rfl rfl ?_
                refine A_icmp_ge (tgt := 130) d_MD_judgeEvent_102 (by decide) (fun c81 => ?_) (fun c81 => ?_)
                · refine A_iconst d_MD_judgeEvent_130 rfl ?_
                  refine A_istore (L' := [some (av_R (some 170)), some (av_I a1), some (av_I a2), some (av_I (300 * a1 + a2)), some (av_I 0)]) d_MD_judgeEvent_131 (Nat.le_of_ble_eq_true rfl) rfl ?_
                  have lp133 : ∀ (n : Nat) (i82 : Int) (h83 : ah_T) , 0 ≤ i82 → i82 ≤ 3 → (h83.2.1 170 80 ≤ h.2.1 170 80 + 2 + a1 + i82 ∧ 0 ≤ h83.2.1 170 80 ∧ i82 ≤ a1) → kM (pm [65, 66, 80] [221, 222, 223, 224]) h h83 → (4 - i82).toNat < n → aw G (rm_R 5 0 0) m_MD_judgeEvent 0 0 133 [some (av_R (some 170)), some (av_I a1), some (av_I a2), some (av_I (300 * a1 + a2)), some (av_I i82)] [] h83 (fun r h' => r = none ∧ (h'.2.1 170 80 ≤ h.2.1 170 80 + (2 + 2 * a1)) ∧ kM (pm [65, 66, 80] [221, 222, 223, 224]) h h') := by
                    intro n
                    induction n with
                    | zero => intro i82 h83 _ _ _ _ hm; omega
                    | succ n ih133 =>
                      intro i82 h83 hl0 hl1 hinv k84 hm
                      obtain ⟨sd85, esd85⟩ : ∃ x, x = h83.2.1 170 80 := ⟨_, rfl⟩
                      have rsd85 : 0 ≤ sd85 ∧ sd85 ≤ 2000000000 := (by rw [esd85]; exact mi_g k84.1 (by decide) mr_170_80)
                      refine A_iload d_MD_judgeEvent_133 rfl ?_
                      refine A_iload_n 1 d_MD_judgeEvent_135 rfl rfl ?_
                      refine A_icmp_ge (tgt := 168) d_MD_judgeEvent_136 (by decide) (fun c86 => ?_) (fun c86 => ?_)
                      · exact A_vret d_MD_judgeEvent_168 (by decide) rfl ⟨rfl, (by have qq0 := esd85.symm; omega), k84⟩
                      · refine A_iload_n 2 d_MD_judgeEvent_139 rfl rfl ?_
                        refine A_if_le (tgt := 162) d_MD_judgeEvent_140 (by decide) (fun c => False.elim (by omega)) (fun c87 => ?_)
                        refine A_aload_n 0 d_MD_judgeEvent_143 rfl rfl ?_
                        refine A_iload_n 3 d_MD_judgeEvent_144 rfl rfl ?_
                        refine A_iload d_MD_judgeEvent_145 rfl ?_
                        refine A_callV2 m_MD_goesAlong T_ok d_MD_judgeEvent_147 l_MD_526 k_MD_goesAlong (mi_s k84.1 sf_170) rfl (by decide +kernel) (by decide) (Nat.le_of_ble_eq_true rfl) (s_MD_goesAlong k84.1 (by omega) (by omega) (by omega) (by omega)) (fun r h88 hq => ?_)
                        obtain ⟨x90, rfl, bx90, rfl⟩ := hq
                        refine A_if_eq (tgt := 162) d_MD_judgeEvent_150 (by decide) (fun c91 => ?_) (fun c91 => ?_)
                        · refine A_iincv (z := (i82 + 1)) (L' := [some (av_R (some 170)), some (av_I a1), some (av_I a2), some (av_I (300 * a1 + a2)), some (av_I (i82 + 1))]) d_MD_judgeEvent_162 rfl (w32_to (by omega) (by unfold i32; omega)) rfl ?_
                          refine A_goto (tgt := 133) d_MD_judgeEvent_165 (by decide) ?_
                          exact ih133 (i82 + 1) h83 (by omega) (by omega) (by have qq0 := esd85.symm; omega) k84 (by omega)
                        · refine A_aload_n 0 d_MD_judgeEvent_153 rfl rfl ?_
                          refine A_iconst d_MD_judgeEvent_154 rfl ?_
                          refine A_iload_n 1 d_MD_judgeEvent_155 rfl rfl ?_
                          refine A_iload_n 2 d_MD_judgeEvent_156 rfl rfl ?_
                          refine A_iload d_MD_judgeEvent_157 rfl ?_
                          refine A_pc (pc' := 159) rfl ?_
                          have zf93 := esd85.symm
                          refine A_callV4 m_MD_tell T_ok d_MD_judgeEvent_159 l_MD_510 k_MD_tell (mi_s k84.1 sf_170) rfl (by decide +kernel) (by decide) (Nat.le_of_ble_eq_true rfl) (s_MD_tell k84.1 (by have qq0 := esd85.symm; omega)) (fun r h92 hq => ?_)
                          obtain ⟨rfl, xk94, k94⟩ := hq
                          have k95 := kM_t k84 k94 (pm_s (by decide) (by decide))
                          obtain ⟨sd96, esd96⟩ : ∃ x, x = h92.2.1 170 80 := ⟨_, rfl⟩
                          have rsd96 : 0 ≤ sd96 ∧ sd96 ≤ 2000000000 := (by rw [esd96]; exact mi_g k95.1 (by decide) mr_170_80)
                          refine A_iincv (z := (i82 + 1)) (L' := [some (av_R (some 170)), some (av_I a1), some (av_I a2), some (av_I (300 * a1 + a2)), some (av_I (i82 + 1))]) d_MD_judgeEvent_162 rfl (w32_to (by omega) (by unfold i32; omega)) rfl ?_
                          refine A_goto (tgt := 133) d_MD_judgeEvent_165 (by decide) ?_
                          exact ih133 (i82 + 1) h92 (by omega) (by omega) (by have qq0 := esd96.symm; omega) k95 (by omega)
                  exact lp133 _ 0 h78 (by omega) (by omega) (by have qq0 := esd80.symm; omega) k79 (Nat.lt_succ_self _)
                · refine A_aload_n 0 d_MD_judgeEvent_105 rfl rfl ?_
                  refine A_iload_n 3 d_MD_judgeEvent_106 rfl rfl ?_
                  refine A_iload d_MD_judgeEvent_107 rfl ?_
                  have zf98 := esd80.symm
                  refine A_callV2 m_MD_crosses T_ok d_MD_judgeEvent_109 l_MD_523 k_MD_crosses (mi_s k79.1 sf_170) rfl (by decide +kernel) (by decide) (Nat.le_of_ble_eq_true rfl) (s_MD_crosses k79.1 (by omega) (by omega) (by omega) (by omega) (KS_s hKS k79 (by decide) (fun k => ⟨rfl, rfl⟩) (fun k => ⟨rfl, rfl, rfl, rfl, rfl, rfl⟩)) (by have q1 := k79.2.2.1 172 0 rfl; omega) (EV_s he (by intro a ha; simp only [List.mem_cons, List.not_mem_nil, or_false] at ha; rcases ha with rfl | rfl | rfl | rfl <;> exact k79.2.2.2 _ _ rfl)) (by have q1 := k79.2.2.1 191 ((300 * a1 + a2)).toNat rfl; omega)) (fun r h97 hq => ?_)
                  obtain ⟨x100, rfl, bx100, k99⟩ := hq
                  have k101 := kM_t k79 k99 (pm_s (by decide) (by decide))
                  refine A_if_eq (tgt := 124) d_MD_judgeEvent_112 (by decide) (fun c102 => ?_) (fun c102 => ?_)
                  · refine A_iincv (z := (i77 + 1)) (L' := [some (av_R (some 170)), some (av_I a1), some (av_I a2), some (av_I (300 * a1 + a2)), some (av_I (i77 + 1))]) d_MD_judgeEvent_124 rfl (w32_to (by omega) (by unfold i32; omega)) rfl ?_
                    refine A_goto (tgt := 99) d_MD_judgeEvent_127 (by decide) ?_
                    exact ih99 (i77 + 1) h97 (by omega) (by omega) (by have qq0 := ((k99.2.2.1 _ _ rfl).trans esd80.symm); omega) k101 (by omega)
                  · refine A_aload_n 0 d_MD_judgeEvent_115 rfl rfl ?_
                    refine A_iconst d_MD_judgeEvent_116 rfl ?_
                    refine A_iload_n 1 d_MD_judgeEvent_117 rfl rfl ?_
                    refine A_iload_n 2 d_MD_judgeEvent_118 rfl rfl ?_
                    refine A_iload d_MD_judgeEvent_119 rfl ?_
                    refine A_pc (pc' := 121) rfl ?_
                    have zf104 := ((k99.2.2.1 _ _ rfl).trans esd80.symm)
                    refine A_callV4 m_MD_tell T_ok d_MD_judgeEvent_121 l_MD_510 k_MD_tell (mi_s k101.1 sf_170) rfl (by decide +kernel) (by decide) (Nat.le_of_ble_eq_true rfl) (s_MD_tell k101.1 (by have qq0 := ((k99.2.2.1 _ _ rfl).trans esd80.symm); omega)) (fun r h103 hq => ?_)
                    obtain ⟨rfl, xk105, k105⟩ := hq
                    have k106 := kM_t k101 k105 (pm_s (by decide) (by decide))
                    obtain ⟨sd107, esd107⟩ : ∃ x, x = h103.2.1 170 80 := ⟨_, rfl⟩
                    have rsd107 : 0 ≤ sd107 ∧ sd107 ≤ 2000000000 := (by rw [esd107]; exact mi_g k106.1 (by decide) mr_170_80)
                    refine A_iincv (z := (i77 + 1)) (L' := [some (av_R (some 170)), some (av_I a1), some (av_I a2), some (av_I (300 * a1 + a2)), some (av_I (i77 + 1))]) d_MD_judgeEvent_124 rfl (w32_to (by omega) (by unfold i32; omega)) rfl ?_
                    refine A_goto (tgt := 99) d_MD_judgeEvent_127 (by decide) ?_
                    exact ih99 (i77 + 1) h103 (by omega) (by omega) (by have qq0 := esd107.symm; omega) k106 (by omega)
            exact lp99 _ 0 h72 (by omega) (by omega) (by have qq0 := esd76.symm; omega) k75 (Nat.lt_succ_self _)
          · refine A_iload d_MD_judgeEvent_81 rfl ?_
            refine A_bipush d_MD_judgeEvent_83 rfl ?_
            refine A_icmp_ge (tgt := 96) d_MD_judgeEvent_85 (by decide) (fun c108 => ?_) (fun c108 => ?_)
            · refine A_iconst d_MD_judgeEvent_96 rfl ?_
              refine A_istore (L' := [some (av_R (some 170)), some (av_I a1), some (av_I a2), some (av_I (300 * a1 + a2)), some (av_I 0)]) d_MD_judgeEvent_97 (Nat.le_of_ble_eq_true rfl) rfl ?_
              have lp99 : ∀ (n : Nat) (i109 : Int) (h110 : ah_T) , 0 ≤ i109 → i109 ≤ 3 → (h110.2.1 170 80 ≤ h.2.1 170 80 + 2 + i109 ∧ 0 ≤ h110.2.1 170 80 ∧ i109 ≤ a1) → kM (pm [65, 66, 80] [221, 222, 223, 224]) h h110 → (4 - i109).toNat < n → aw G (rm_R 5 0 0) m_MD_judgeEvent 0 0 99 [some (av_R (some 170)), some (av_I a1), some (av_I a2), some (av_I (300 * a1 + a2)), some (av_I i109)] [] h110 (fun r h' => r = none ∧ (h'.2.1 170 80 ≤ h.2.1 170 80 + (2 + 2 * a1)) ∧ kM (pm [65, 66, 80] [221, 222, 223, 224]) h h') := by
                intro n
                induction n with
                | zero => intro i109 h110 _ _ _ _ hm; omega
                | succ n ih99 =>
                  intro i109 h110 hl0 hl1 hinv k111 hm
                  obtain ⟨sd112, esd112⟩ : ∃ x, x = h110.2.1 170 80 := ⟨_, rfl⟩
                  have rsd112 : 0 ≤ sd112 ∧ sd112 ≤ 2000000000 := (by rw [esd112]; exact mi_g k111.1 (by decide) mr_170_80)
                  refine A_iload d_MD_judgeEvent_99 rfl ?_
                  refine A_iload_n 1 d_MD_judgeEvent_101 rfl rfl ?_
                  refine A_icmp_ge (tgt := 130) d_MD_judgeEvent_102 (by decide) (fun c113 => ?_) (fun c113 => ?_)
                  · refine A_iconst d_MD_judgeEvent_130 rfl ?_
                    refine A_istore (L' := [some (av_R (some 170)), some (av_I a1), some (av_I a2), some (av_I (300 * a1 + a2)), some (av_I 0)]) d_MD_judgeEvent_131 (Nat.le_of_ble_eq_true rfl) rfl ?_
                    have lp133 : ∀ (n : Nat) (i114 : Int) (h115 : ah_T) , 0 ≤ i114 → i114 ≤ 3 → (h115.2.1 170 80 ≤ h.2.1 170 80 + 2 + a1 + i114 ∧ 0 ≤ h115.2.1 170 80 ∧ i114 ≤ a1) → kM (pm [65, 66, 80] [221, 222, 223, 224]) h h115 → (4 - i114).toNat < n → aw G (rm_R 5 0 0) m_MD_judgeEvent 0 0 133 [some (av_R (some 170)), some (av_I a1), some (av_I a2), some (av_I (300 * a1 + a2)), some (av_I i114)] [] h115 (fun r h' => r = none ∧ (h'.2.1 170 80 ≤ h.2.1 170 80 + (2 + 2 * a1)) ∧ kM (pm [65, 66, 80] [221, 222, 223, 224]) h h') := by
                      intro n
                      induction n with
                      | zero => intro i114 h115 _ _ _ _ hm; omega
                      | succ n ih133 =>
                        intro i114 h115 hl0 hl1 hinv k116 hm
                        obtain ⟨sd117, esd117⟩ : ∃ x, x = h115.2.1 170 80 := ⟨_, rfl⟩
                        have rsd117 : 0 ≤ sd117 ∧ sd117 ≤ 2000000000 := (by rw [esd117]; exact mi_g k116.1 (by decide) mr_170_80)
                        refine A_iload d_MD_judgeEvent_133 rfl ?_
                        refine A_iload_n 1 d_MD_judgeEvent_135 rfl rfl ?_
                        refine A_icmp_ge (tgt := 168) d_MD_judgeEvent_136 (by decide) (fun c118 => ?_) (fun c118 => ?_)
                        · exact A_vret d_MD_judgeEvent_168 (by decide) rfl ⟨rfl, (by have qq0 := esd117.symm; omega), k116⟩
                        · refine A_iload_n 2 d_MD_judgeEvent_139 rfl rfl ?_
                          refine A_if_le (tgt := 162) d_MD_judgeEvent_140 (by decide) (fun c => False.elim (by omega)) (fun c119 => ?_)
                          refine A_aload_n 0 d_MD_judgeEvent_143 rfl rfl ?_
                          refine A_iload_n 3 d_MD_judgeEvent_144 rfl rfl ?_
                          refine A_iload d_MD_judgeEvent_145 rfl ?_
                          refine A_callV2 m_MD_goesAlong T_ok d_MD_judgeEvent_147 l_MD_526 k_MD_goesAlong (mi_s k116.1 sf_170) rfl (by decide +kernel) (by decide) (Nat.le_of_ble_eq_true rfl) (s_MD_goesAlong k116.1 (by omega) (by omega) (by omega) (by omega)) (fun r h120 hq => ?_)
                          obtain ⟨x122, rfl, bx122, rfl⟩ := hq
                          refine A_if_eq (tgt := 162) d_MD_judgeEvent_150 (by decide) (fun c123 => ?_) (fun c123 => ?_)
                          · refine A_iincv (z := (i114 + 1)) (L' := [some (av_R (some 170)), some (av_I a1), some (av_I a2), some (av_I (300 * a1 + a2)), some (av_I (i114 + 1))]) d_MD_judgeEvent_162 rfl (w32_to (by omega) (by unfold i32; omega)) rfl ?_
                            refine A_goto (tgt := 133) d_MD_judgeEvent_165 (by decide) ?_
                            exact ih133 (i114 + 1) h115 (by omega) (by omega) (by have qq0 := esd117.symm; omega) k116 (by omega)
                          · refine A_aload_n 0 d_MD_judgeEvent_153 rfl rfl ?_
                            refine A_iconst d_MD_judgeEvent_154 rfl ?_
                            refine A_iload_n 1 d_MD_judgeEvent_155 rfl rfl ?_
                            refine A_iload_n 2 d_MD_judgeEvent_156 rfl rfl ?_
                            refine A_iload d_MD_judgeEvent_157 rfl ?_
                            refine A_pc (pc' := 159) rfl ?_
                            have zf125 := esd117.symm
                            refine A_callV4 m_MD_tell T_ok d_MD_judgeEvent_159 l_MD_510 k_MD_tell (mi_s k116.1 sf_170) rfl (by decide +kernel) (by decide) (Nat.le_of_ble_eq_true rfl) (s_MD_tell k116.1 (by have qq0 := esd117.symm; omega)) (fun r h124 hq => ?_)
                            obtain ⟨rfl, xk126, k126⟩ := hq
                            have k127 := kM_t k116 k126 (pm_s (by decide) (by decide))
                            obtain ⟨sd128, esd128⟩ : ∃ x, x = h124.2.1 170 80 := ⟨_, rfl⟩
                            have rsd128 : 0 ≤ sd128 ∧ sd128 ≤ 2000000000 := (by rw [esd128]; exact mi_g k127.1 (by decide) mr_170_80)
                            refine A_iincv (z := (i114 + 1)) (L' := [some (av_R (some 170)), some (av_I a1), some (av_I a2), some (av_I (300 * a1 + a2)), some (av_I (i114 + 1))]) d_MD_judgeEvent_162 rfl (w32_to (by omega) (by unfold i32; omega)) rfl ?_
                            refine A_goto (tgt := 133) d_MD_judgeEvent_165 (by decide) ?_
                            exact ih133 (i114 + 1) h124 (by omega) (by omega) (by have qq0 := esd128.symm; omega) k127 (by omega)
                    exact lp133 _ 0 h110 (by omega) (by omega) (by have qq0 := esd112.symm; omega) k111 (Nat.lt_succ_self _)
                  · refine A_aload_n 0 d_MD_judgeEvent_105 rfl rfl ?_
                    refine A_iload_n 3 d_MD_judgeEvent_106 rfl rfl ?_
                    refine A_iload d_MD_judgeEvent_107 rfl ?_
                    have zf130 := esd112.symm
                    refine A_callV2 m_MD_crosses T_ok d_MD_judgeEvent_109 l_MD_523 k_MD_crosses (mi_s k111.1 sf_170) rfl (by decide +kernel) (by decide) (Nat.le_of_ble_eq_true rfl) (s_MD_crosses k111.1 (by omega) (by omega) (by omega) (by omega) (KS_s hKS k111 (by decide) (fun k => ⟨rfl, rfl⟩) (fun k => ⟨rfl, rfl, rfl, rfl, rfl, rfl⟩)) (by have q1 := k111.2.2.1 172 0 rfl; omega) (EV_s he (by intro a ha; simp only [List.mem_cons, List.not_mem_nil, or_false] at ha; rcases ha with rfl | rfl | rfl | rfl <;> exact k111.2.2.2 _ _ rfl)) (by have q1 := k111.2.2.1 191 ((300 * a1 + a2)).toNat rfl; omega)) (fun r h129 hq => ?_)
                    obtain ⟨x132, rfl, bx132, k131⟩ := hq
                    have k133 := kM_t k111 k131 (pm_s (by decide) (by decide))
                    refine A_if_eq (tgt := 124) d_MD_judgeEvent_112 (by decide) (fun c134 => ?_) (fun c134 => ?_)
                    · refine A_iincv (z := (i109 + 1)) (L' := [some (av_R (some 170)), some (av_I a1), some (av_I a2), some (av_I (300 * a1 + a2)), some (av_I (i109 + 1))]) d_MD_judgeEvent_124 rfl (w32_to (by omega) (by unfold i32; omega)) rfl ?_
                      refine A_goto (tgt := 99) d_MD_judgeEvent_127 (by decide) ?_
                      exact ih99 (i109 + 1) h129 (by omega) (by omega) (by have qq0 := ((k131.2.2.1 _ _ rfl).trans esd112.symm); omega) k133 (by omega)
                    · refine A_aload_n 0 d_MD_judgeEvent_115 rfl rfl ?_
                      refine A_iconst d_MD_judgeEvent_116 rfl ?_
                      refine A_iload_n 1 d_MD_judgeEvent_117 rfl rfl ?_
                      refine A_iload_n 2 d_MD_judgeEvent_118 rfl rfl ?_
                      refine A_iload d_MD_judgeEvent_119 rfl ?_
                      refine A_pc (pc' := 121) rfl ?_
                      have zf136 := ((k131.2.2.1 _ _ rfl).trans esd112.symm)
                      refine A_callV4 m_MD_tell T_ok d_MD_judgeEvent_121 l_MD_510 k_MD_tell (mi_s k133.1 sf_170) rfl (by decide +kernel) (by decide) (Nat.le_of_ble_eq_true rfl) (s_MD_tell k133.1 (by have qq0 := ((k131.2.2.1 _ _ rfl).trans esd112.symm); omega)) (fun r h135 hq => ?_)
                      obtain ⟨rfl, xk137, k137⟩ := hq
                      have k138 := kM_t k133 k137 (pm_s (by decide) (by decide))
                      obtain ⟨sd139, esd139⟩ : ∃ x, x = h135.2.1 170 80 := ⟨_, rfl⟩
                      have rsd139 : 0 ≤ sd139 ∧ sd139 ≤ 2000000000 := (by rw [esd139]; exact mi_g k138.1 (by decide) mr_170_80)
                      refine A_iincv (z := (i109 + 1)) (L' := [some (av_R (some 170)), some (av_I a1), some (av_I a2), some (av_I (300 * a1 + a2)), some (av_I (i109 + 1))]) d_MD_judgeEvent_124 rfl (w32_to (by omega) (by unfold i32; omega)) rfl ?_
                      refine A_goto (tgt := 99) d_MD_judgeEvent_127 (by decide) ?_
                      exact ih99 (i109 + 1) h135 (by omega) (by omega) (by have qq0 := esd139.symm; omega) k138 (by omega)
              exact lp99 _ 0 h (by omega) (by omega) (by have qq0 := esd1.symm; omega) k0 (Nat.lt_succ_self _)
            · refine A_aload_n 0 d_MD_judgeEvent_88 rfl rfl ?_
              refine A_iconst d_MD_judgeEvent_89 rfl ?_
              refine A_iload_n 1 d_MD_judgeEvent_90 rfl rfl ?_
              refine A_iload_n 2 d_MD_judgeEvent_91 rfl rfl ?_
              refine A_iconst d_MD_judgeEvent_92 rfl ?_
              refine A_pc (pc' := 93) rfl ?_
              have zf141 := esd1.symm
              refine A_callV4 m_MD_tell T_ok d_MD_judgeEvent_93 l_MD_510 k_MD_tell (mi_s k0.1 sf_170) rfl (by decide +kernel) (by decide) (Nat.le_of_ble_eq_true rfl) (s_MD_tell k0.1 (by have qq0 := esd1.symm; omega)) (fun r h140 hq => ?_)
              obtain ⟨rfl, xk142, k142⟩ := hq
              have k143 := kM_t k0 k142 (pm_s (by decide) (by decide))
              obtain ⟨sd144, esd144⟩ : ∃ x, x = h140.2.1 170 80 := ⟨_, rfl⟩
              have rsd144 : 0 ≤ sd144 ∧ sd144 ≤ 2000000000 := (by rw [esd144]; exact mi_g k143.1 (by decide) mr_170_80)
              refine A_iconst d_MD_judgeEvent_96 rfl ?_
              refine A_istore (L' := [some (av_R (some 170)), some (av_I a1), some (av_I a2), some (av_I (300 * a1 + a2)), some (av_I 0)]) d_MD_judgeEvent_97 (Nat.le_of_ble_eq_true rfl) rfl ?_
              have lp99 : ∀ (n : Nat) (i145 : Int) (h146 : ah_T) , 0 ≤ i145 → i145 ≤ 3 → (h146.2.1 170 80 ≤ h.2.1 170 80 + 2 + i145 ∧ 0 ≤ h146.2.1 170 80 ∧ i145 ≤ a1) → kM (pm [65, 66, 80] [221, 222, 223, 224]) h h146 → (4 - i145).toNat < n → aw G (rm_R 5 0 0) m_MD_judgeEvent 0 0 99 [some (av_R (some 170)), some (av_I a1), some (av_I a2), some (av_I (300 * a1 + a2)), some (av_I i145)] [] h146 (fun r h' => r = none ∧ (h'.2.1 170 80 ≤ h.2.1 170 80 + (2 + 2 * a1)) ∧ kM (pm [65, 66, 80] [221, 222, 223, 224]) h h') := by
                intro n
                induction n with
                | zero => intro i145 h146 _ _ _ _ hm; omega
                | succ n ih99 =>
                  intro i145 h146 hl0 hl1 hinv k147 hm
                  obtain ⟨sd148, esd148⟩ : ∃ x, x = h146.2.1 170 80 := ⟨_, rfl⟩
                  have rsd148 : 0 ≤ sd148 ∧ sd148 ≤ 2000000000 := (by rw [esd148]; exact mi_g k147.1 (by decide) mr_170_80)
                  refine A_iload d_MD_judgeEvent_99 rfl ?_
                  refine A_iload_n 1 d_MD_judgeEvent_101 rfl rfl ?_
                  refine A_icmp_ge (tgt := 130) d_MD_judgeEvent_102 (by decide) (fun c149 => ?_) (fun c149 => ?_)
                  · refine A_iconst d_MD_judgeEvent_130 rfl ?_
                    refine A_istore (L' := [some (av_R (some 170)), some (av_I a1), some (av_I a2), some (av_I (300 * a1 + a2)), some (av_I 0)]) d_MD_judgeEvent_131 (Nat.le_of_ble_eq_true rfl) rfl ?_
                    have lp133 : ∀ (n : Nat) (i150 : Int) (h151 : ah_T) , 0 ≤ i150 → i150 ≤ 3 → (h151.2.1 170 80 ≤ h.2.1 170 80 + 2 + a1 + i150 ∧ 0 ≤ h151.2.1 170 80 ∧ i150 ≤ a1) → kM (pm [65, 66, 80] [221, 222, 223, 224]) h h151 → (4 - i150).toNat < n → aw G (rm_R 5 0 0) m_MD_judgeEvent 0 0 133 [some (av_R (some 170)), some (av_I a1), some (av_I a2), some (av_I (300 * a1 + a2)), some (av_I i150)] [] h151 (fun r h' => r = none ∧ (h'.2.1 170 80 ≤ h.2.1 170 80 + (2 + 2 * a1)) ∧ kM (pm [65, 66, 80] [221, 222, 223, 224]) h h') := by
                      intro n
                      induction n with
                      | zero => intro i150 h151 _ _ _ _ hm; omega
                      | succ n ih133 =>
                        intro i150 h151 hl0 hl1 hinv k152 hm
                        obtain ⟨sd153, esd153⟩ : ∃ x, x = h151.2.1 170 80 := ⟨_, rfl⟩
                        have rsd153 : 0 ≤ sd153 ∧ sd153 ≤ 2000000000 := (by rw [esd153]; exact mi_g k152.1 (by decide) mr_170_80)
                        refine A_iload d_MD_judgeEvent_133 rfl ?_
                        refine A_iload_n 1 d_MD_judgeEvent_135 rfl rfl ?_
                        refine A_icmp_ge (tgt := 168) d_MD_judgeEvent_136 (by decide) (fun c154 => ?_) (fun c154 => ?_)
                        · exact A_vret d_MD_judgeEvent_168 (by decide) rfl ⟨rfl, (by have qq0 := esd153.symm; omega), k152⟩
                        · refine A_iload_n 2 d_MD_judgeEvent_139 rfl rfl ?_
                          refine A_if_le (tgt := 162) d_MD_judgeEvent_140 (by decide) (fun c => False.elim (by omega)) (fun c155 => ?_)
                          refine A_aload_n 0 d_MD_judgeEvent_143 rfl rfl ?_
                          refine A_iload_n 3 d_MD_judgeEvent_144 rfl rfl ?_
                          refine A_iload d_MD_judgeEvent_145 rfl ?_
                          refine A_callV2 m_MD_goesAlong T_ok d_MD_judgeEvent_147 l_MD_526 k_MD_goesAlong (mi_s k152.1 sf_170) rfl (by decide +kernel) (by decide) (Nat.le_of_ble_eq_true rfl) (s_MD_goesAlong k152.1 (by omega) (by omega) (by omega) (by omega)) (fun r h156 hq => ?_)
                          obtain ⟨x158, rfl, bx158, rfl⟩ := hq
                          refine A_if_eq (tgt := 162) d_MD_judgeEvent_150 (by decide) (fun c159 => ?_) (fun c159 => ?_)
                          · refine A_iincv (z := (i150 + 1)) (L' := [some (av_R (some 170)), some (av_I a1), some (av_I a2), some (av_I (300 * a1 + a2)), some (av_I (i150 + 1))]) d_MD_judgeEvent_162 rfl (w32_to (by omega) (by unfold i32; omega)) rfl ?_
                            refine A_goto (tgt := 133) d_MD_judgeEvent_165 (by decide) ?_
                            exact ih133 (i150 + 1) h151 (by omega) (by omega) (by have qq0 := esd153.symm; omega) k152 (by omega)
                          · refine A_aload_n 0 d_MD_judgeEvent_153 rfl rfl ?_
                            refine A_iconst d_MD_judgeEvent_154 rfl ?_
                            refine A_iload_n 1 d_MD_judgeEvent_155 rfl rfl ?_
                            refine A_iload_n 2 d_MD_judgeEvent_156 rfl rfl ?_
                            refine A_iload d_MD_judgeEvent_157 rfl ?_
                            refine A_pc (pc' := 159) rfl ?_
                            have zf161 := esd153.symm
                            refine A_callV4 m_MD_tell T_ok d_MD_judgeEvent_159 l_MD_510 k_MD_tell (mi_s k152.1 sf_170) rfl (by decide +kernel) (by decide) (Nat.le_of_ble_eq_true rfl) (s_MD_tell k152.1 (by have qq0 := esd153.symm; omega)) (fun r h160 hq => ?_)
                            obtain ⟨rfl, xk162, k162⟩ := hq
                            have k163 := kM_t k152 k162 (pm_s (by decide) (by decide))
                            obtain ⟨sd164, esd164⟩ : ∃ x, x = h160.2.1 170 80 := ⟨_, rfl⟩
                            have rsd164 : 0 ≤ sd164 ∧ sd164 ≤ 2000000000 := (by rw [esd164]; exact mi_g k163.1 (by decide) mr_170_80)
                            refine A_iincv (z := (i150 + 1)) (L' := [some (av_R (some 170)), some (av_I a1), some (av_I a2), some (av_I (300 * a1 + a2)), some (av_I (i150 + 1))]) d_MD_judgeEvent_162 rfl (w32_to (by omega) (by unfold i32; omega)) rfl ?_
                            refine A_goto (tgt := 133) d_MD_judgeEvent_165 (by decide) ?_
                            exact ih133 (i150 + 1) h160 (by omega) (by omega) (by have qq0 := esd164.symm; omega) k163 (by omega)
                    exact lp133 _ 0 h146 (by omega) (by omega) (by have qq0 := esd148.symm; omega) k147 (Nat.lt_succ_self _)
                  · refine A_aload_n 0 d_MD_judgeEvent_105 rfl rfl ?_
                    refine A_iload_n 3 d_MD_judgeEvent_106 rfl rfl ?_
                    refine A_iload d_MD_judgeEvent_107 rfl ?_
                    have zf166 := esd148.symm
                    refine A_callV2 m_MD_crosses T_ok d_MD_judgeEvent_109 l_MD_523 k_MD_crosses (mi_s k147.1 sf_170) rfl (by decide +kernel) (by decide) (Nat.le_of_ble_eq_true rfl) (s_MD_crosses k147.1 (by omega) (by omega) (by omega) (by omega) (KS_s hKS k147 (by decide) (fun k => ⟨rfl, rfl⟩) (fun k => ⟨rfl, rfl, rfl, rfl, rfl, rfl⟩)) (by have q1 := k147.2.2.1 172 0 rfl; omega) (EV_s he (by intro a ha; simp only [List.mem_cons, List.not_mem_nil, or_false] at ha; rcases ha with rfl | rfl | rfl | rfl <;> exact k147.2.2.2 _ _ rfl)) (by have q1 := k147.2.2.1 191 ((300 * a1 + a2)).toNat rfl; omega)) (fun r h165 hq => ?_)
                    obtain ⟨x168, rfl, bx168, k167⟩ := hq
                    have k169 := kM_t k147 k167 (pm_s (by decide) (by decide))
                    refine A_if_eq (tgt := 124) d_MD_judgeEvent_112 (by decide) (fun c170 => ?_) (fun c170 => ?_)
                    · refine A_iincv (z := (i145 + 1)) (L' := [some (av_R (some 170)), some (av_I a1), some (av_I a2), some (av_I (300 * a1 + a2)), some (av_I (i145 + 1))]) d_MD_judgeEvent_124 rfl (w32_to (by omega) (by unfold i32; omega)) rfl ?_
                      refine A_goto (tgt := 99) d_MD_judgeEvent_127 (by decide) ?_
                      exact ih99 (i145 + 1) h165 (by omega) (by omega) (by have qq0 := ((k167.2.2.1 _ _ rfl).trans esd148.symm); omega) k169 (by omega)
                    · refine A_aload_n 0 d_MD_judgeEvent_115 rfl rfl ?_
                      refine A_iconst d_MD_judgeEvent_116 rfl ?_
                      refine A_iload_n 1 d_MD_judgeEvent_117 rfl rfl ?_
                      refine A_iload_n 2 d_MD_judgeEvent_118 rfl rfl ?_
                      refine A_iload d_MD_judgeEvent_119 rfl ?_
                      refine A_pc (pc' := 121) rfl ?_
                      have zf172 := ((k167.2.2.1 _ _ rfl).trans esd148.symm)
                      refine A_callV4 m_MD_tell T_ok d_MD_judgeEvent_121 l_MD_510 k_MD_tell (mi_s k169.1 sf_170) rfl (by decide +kernel) (by decide) (Nat.le_of_ble_eq_true rfl) (s_MD_tell k169.1 (by have qq0 := ((k167.2.2.1 _ _ rfl).trans esd148.symm); omega)) (fun r h171 hq => ?_)
                      obtain ⟨rfl, xk173, k173⟩ := hq
                      have k174 := kM_t k169 k173 (pm_s (by decide) (by decide))
                      obtain ⟨sd175, esd175⟩ : ∃ x, x = h171.2.1 170 80 := ⟨_, rfl⟩
                      have rsd175 : 0 ≤ sd175 ∧ sd175 ≤ 2000000000 := (by rw [esd175]; exact mi_g k174.1 (by decide) mr_170_80)
                      refine A_iincv (z := (i145 + 1)) (L' := [some (av_R (some 170)), some (av_I a1), some (av_I a2), some (av_I (300 * a1 + a2)), some (av_I (i145 + 1))]) d_MD_judgeEvent_124 rfl (w32_to (by omega) (by unfold i32; omega)) rfl ?_
                      refine A_goto (tgt := 99) d_MD_judgeEvent_127 (by decide) ?_
                      exact ih99 (i145 + 1) h171 (by omega) (by omega) (by have qq0 := esd175.symm; omega) k174 (by omega)
              exact lp99 _ 0 h140 (by omega) (by omega) (by have qq0 := esd144.symm; omega) k143 (Nat.lt_succ_self _)
    · exact A_vret d_MD_judgeEvent_43 (by decide) rfl ⟨rfl, (by have qq0 := esd1.symm; omega), k0⟩
  · refine A_aload_n 0 d_MD_judgeEvent_17 rfl rfl ?_
    refine A_iload_n 1 d_MD_judgeEvent_18 rfl rfl ?_
    refine A_iload_n 2 d_MD_judgeEvent_19 rfl rfl ?_
    refine A_callV2 m_MD_goesOn T_ok d_MD_judgeEvent_20 l_MD_517 k_MD_goesOn (mi_s k0.1 sf_170) rfl (by decide +kernel) (by decide) (Nat.le_of_ble_eq_true rfl) (s_MD_goesOn k0.1 (by omega) (by omega) (by omega) (by omega)) (fun r h176 hq => ?_)
    obtain ⟨x178, rfl, bx178, rfl⟩ := hq
    refine A_if_ne (tgt := 34) d_MD_judgeEvent_23 (by decide) (fun c179 => ?_) (fun c179 => ?_)
    · refine A_aload_n 0 d_MD_judgeEvent_34 rfl rfl ?_
      refine A_getAv (z := some 191) T_ok d_MD_judgeEvent_35 f_MD_75 (mi_s k0.1 sf_170) (mi_r k0.1 rfm_33) ?_
      refine A_iload_n 3 d_MD_judgeEvent_38 rfl rfl ?_
      refine A_ialoadn (lo := 0) (hi := 4) d_MD_judgeEvent_39 (mi_s k0.1 sf_191) (by omega) (by omega) (mi_g k0.1 (by decide) (mr_191 _)) (fun x181 ex181 _ _ => ?_)
      refine A_if_ne (tgt := 44) d_MD_judgeEvent_40 (by decide) (fun c182 => ?_) (fun c182 => ?_)
      · refine A_iload_n 2 d_MD_judgeEvent_44 rfl rfl ?_
        refine A_if_le (tgt := 96) d_MD_judgeEvent_45 (by decide) (fun c183 => ?_) (fun c183 => ?_)
        · refine A_iconst d_MD_judgeEvent_96 rfl ?_
          refine A_istore (L' := [some (av_R (some 170)), some (av_I a1), some (av_I a2), some (av_I (300 * a1 + a2)), some (av_I 0)]) d_MD_judgeEvent_97 (Nat.le_of_ble_eq_true rfl) rfl ?_
          have lp99 : ∀ (n : Nat) (i184 : Int) (h185 : ah_T) , 0 ≤ i184 → i184 ≤ 3 → (h185.2.1 170 80 ≤ h.2.1 170 80 + 2 + i184 ∧ 0 ≤ h185.2.1 170 80 ∧ i184 ≤ a1) → kM (pm [65, 66, 80] [221, 222, 223, 224]) h h185 → (4 - i184).toNat < n → aw G (rm_R 5 0 0) m_MD_judgeEvent 0 0 99 [some (av_R (some 170)), some (av_I a1), some (av_I a2), some (av_I (300 * a1 + a2)), some (av_I i184)] [] h185 (fun r h' => r = none ∧ (h'.2.1 170 80 ≤ h.2.1 170 80 + (2 + 2 * a1)) ∧ kM (pm [65, 66, 80] [221, 222, 223, 224]) h h') := by
            intro n
            induction n with
            | zero => intro i184 h185 _ _ _ _ hm; omega
            | succ n ih99 =>
              intro i184 h185 hl0 hl1 hinv k186 hm
              obtain ⟨sd187, esd187⟩ : ∃ x, x = h185.2.1 170 80 := ⟨_, rfl⟩
              have rsd187 : 0 ≤ sd187 ∧ sd187 ≤ 2000000000 := (by rw [esd187]; exact mi_g k186.1 (by decide) mr_170_80)
              refine A_iload d_MD_judgeEvent_99 rfl ?_
              refine A_iload_n 1 d_MD_judgeEvent_101 rfl rfl ?_
              refine A_icmp_ge (tgt := 130) d_MD_judgeEvent_102 (by decide) (fun c188 => ?_) (fun c188 => ?_)
              · refine A_iconst d_MD_judgeEvent_130 rfl ?_
                refine A_istore (L' := [some (av_R (some 170)), some (av_I a1), some (av_I a2), some (av_I (300 * a1 + a2)), some (av_I 0)]) d_MD_judgeEvent_131 (Nat.le_of_ble_eq_true rfl) rfl ?_
                have lp133 : ∀ (n : Nat) (i189 : Int) (h190 : ah_T) , 0 ≤ i189 → i189 ≤ 3 → (h190.2.1 170 80 ≤ h.2.1 170 80 + 2 + a1 + i189 ∧ 0 ≤ h190.2.1 170 80 ∧ i189 ≤ a1) → kM (pm [65, 66, 80] [221, 222, 223, 224]) h h190 → (4 - i189).toNat < n → aw G (rm_R 5 0 0) m_MD_judgeEvent 0 0 133 [some (av_R (some 170)), some (av_I a1), some (av_I a2), some (av_I (300 * a1 + a2)), some (av_I i189)] [] h190 (fun r h' => r = none ∧ (h'.2.1 170 80 ≤ h.2.1 170 80 + (2 + 2 * a1)) ∧ kM (pm [65, 66, 80] [221, 222, 223, 224]) h h') := by
                  intro n
                  induction n with
                  | zero => intro i189 h190 _ _ _ _ hm; omega
                  | succ n ih133 =>
                    intro i189 h190 hl0 hl1 hinv k191 hm
                    obtain ⟨sd192, esd192⟩ : ∃ x, x = h190.2.1 170 80 := ⟨_, rfl⟩
                    have rsd192 : 0 ≤ sd192 ∧ sd192 ≤ 2000000000 := (by rw [esd192]; exact mi_g k191.1 (by decide) mr_170_80)
                    refine A_iload d_MD_judgeEvent_133 rfl ?_
                    refine A_iload_n 1 d_MD_judgeEvent_135 rfl rfl ?_
                    refine A_icmp_ge (tgt := 168) d_MD_judgeEvent_136 (by decide) (fun c193 => ?_) (fun c193 => ?_)
                    · exact A_vret d_MD_judgeEvent_168 (by decide) rfl ⟨rfl, (by have qq0 := esd192.symm; omega), k191⟩
                    · refine A_iload_n 2 d_MD_judgeEvent_139 rfl rfl ?_
                      refine A_if_le (tgt := 162) d_MD_judgeEvent_140 (by decide) (fun c194 => ?_) (fun c => False.elim (by omega))
                      refine A_iincv (z := (i189 + 1)) (L' := [some (av_R (some 170)), some (av_I a1), some (av_I a2), some (av_I (300 * a1 + a2)), some (av_I (i189 + 1))]) d_MD_judgeEvent_162 rfl (w32_to (by omega) (by unfold i32; omega)) rfl ?_
                      refine A_goto (tgt := 133) d_MD_judgeEvent_165 (by decide) ?_
                      exact ih133 (i189 + 1) h190 (by omega) (by omega) (by have qq0 := esd192.symm; omega) k191 (by omega)
                exact lp133 _ 0 h185 (by omega) (by omega) (by have qq0 := esd187.symm; omega) k186 (Nat.lt_succ_self _)
              · refine A_aload_n 0 d_MD_judgeEvent_105 rfl rfl ?_
                refine A_iload_n 3 d_MD_judgeEvent_106 rfl rfl ?_
                refine A_iload d_MD_judgeEvent_107 rfl ?_
                have zf196 := esd187.symm
                refine A_callV2 m_MD_crosses T_ok d_MD_judgeEvent_109 l_MD_523 k_MD_crosses (mi_s k186.1 sf_170) rfl (by decide +kernel) (by decide) (Nat.le_of_ble_eq_true rfl) (s_MD_crosses k186.1 (by omega) (by omega) (by omega) (by omega) (KS_s hKS k186 (by decide) (fun k => ⟨rfl, rfl⟩) (fun k => ⟨rfl, rfl, rfl, rfl, rfl, rfl⟩)) (by have q1 := k186.2.2.1 172 0 rfl; omega) (EV_s he (by intro a ha; simp only [List.mem_cons, List.not_mem_nil, or_false] at ha; rcases ha with rfl | rfl | rfl | rfl <;> exact k186.2.2.2 _ _ rfl)) (by have q1 := k186.2.2.1 191 ((300 * a1 + a2)).toNat rfl; omega)) (fun r h195 hq => ?_)
                obtain ⟨x198, rfl, bx198, k197⟩ := hq
                have k199 := kM_t k186 k197 (pm_s (by decide) (by decide))
                refine A_if_eq (tgt := 124) d_MD_judgeEvent_112 (by decide) (fun c200 => ?_) (fun c200 => ?_)
                · refine A_iincv (z := (i184 + 1)) (L' := [some (av_R (some 170)), some (av_I a1), some (av_I a2), some (av_I (300 * a1 + a2)), some (av_I (i184 + 1))]) d_MD_judgeEvent_124 rfl (w32_to (by omega) (by unfold i32; omega)) rfl ?_
                  refine A_goto (tgt := 99) d_MD_judgeEvent_127 (by decide) ?_
                  exact ih99 (i184 + 1) h195 (by omega) (by omega) (by have qq0 := ((k197.2.2.1 _ _ rfl).trans esd187.symm); omega) k199 (by omega)
                · refine A_aload_n 0 d_MD_judgeEvent_115 rfl rfl ?_
                  refine A_iconst d_MD_judgeEvent_116 rfl ?_
                  refine A_iload_n 1 d_MD_judgeEvent_117 rfl rfl ?_
                  refine A_iload_n 2 d_MD_judgeEvent_118 rfl rfl ?_
                  refine A_iload d_MD_judgeEvent_119 rfl ?_
                  refine A_pc (pc' := 121) rfl ?_
                  have zf202 := ((k197.2.2.1 _ _ rfl).trans esd187.symm)
                  refine A_callV4 m_MD_tell T_ok d_MD_judgeEvent_121 l_MD_510 k_MD_tell (mi_s k199.1 sf_170) rfl (by decide +kernel) (by decide) (Nat.le_of_ble_eq_true rfl) (s_MD_tell k199.1 (by have qq0 := ((k197.2.2.1 _ _ rfl).trans esd187.symm); omega)) (fun r h201 hq => ?_)
                  obtain ⟨rfl, xk203, k203⟩ := hq
                  have k204 := kM_t k199 k203 (pm_s (by decide) (by decide))
                  obtain ⟨sd205, esd205⟩ : ∃ x, x = h201.2.1 170 80 := ⟨_, rfl⟩
                  have rsd205 : 0 ≤ sd205 ∧ sd205 ≤ 2000000000 := (by rw [esd205]; exact mi_g k204.1 (by decide) mr_170_80)
                  refine A_iincv (z := (i184 + 1)) (L' := [some (av_R (some 170)), some (av_I a1), some (av_I a2), some (av_I (300 * a1 + a2)), some (av_I (i184 + 1))]) d_MD_judgeEvent_124 rfl (w32_to (by omega) (by unfold i32; omega)) rfl ?_
                  refine A_goto (tgt := 99) d_MD_judgeEvent_127 (by decide) ?_
                  exact ih99 (i184 + 1) h201 (by omega) (by omega) (by have qq0 := esd205.symm; omega) k204 (by omega)
          exact lp99 _ 0 h (by omega) (by omega) (by have qq0 := esd1.symm; omega) k0 (Nat.lt_succ_self _)
        · refine A_aload_n 0 d_MD_judgeEvent_48 rfl rfl ?_
          refine A_getAv (z := some 191) T_ok d_MD_judgeEvent_49 f_MD_75 (mi_s k0.1 sf_170) (mi_r k0.1 rfm_33) ?_
          refine A_iload_n 3 d_MD_judgeEvent_52 rfl rfl ?_
          refine A_iconst d_MD_judgeEvent_53 rfl ?_
          refine A_isubv (z := (300 * a1 + a2 - 1)) d_MD_judgeEvent_54 (w32_to (by omega) (by unfold i32; omega)) ?_
          refine A_pc (pc' := 55) rfl ?_
          refine A_ialoadn (lo := 0) (hi := 4) d_MD_judgeEvent_55 (mi_s k0.1 sf_191) (by omega) (by omega) (mi_g k0.1 (by decide) (mr_191 _)) (fun x207 ex207 _ _ => ?_)
          refine A_if_le (tgt := 96) d_MD_judgeEvent_56 (by decide) (fun c208 => ?_) (fun c208 => ?_)
          · refine A_iconst d_MD_judgeEvent_96 rfl ?_
            refine A_istore (L' := [some (av_R (some 170)), some (av_I a1), some (av_I a2), some (av_I (300 * a1 + a2)), some (av_I 0)]) d_MD_judgeEvent_97 (Nat.le_of_ble_eq_true rfl) rfl ?_
            have lp99 : ∀ (n : Nat) (i209 : Int) (h210 : ah_T) , 0 ≤ i209 → i209 ≤ 3 → (h210.2.1 170 80 ≤ h.2.1 170 80 + 2 + i209 ∧ 0 ≤ h210.2.1 170 80 ∧ i209 ≤ a1) → kM (pm [65, 66, 80] [221, 222, 223, 224]) h h210 → (4 - i209).toNat < n → aw G (rm_R 5 0 0) m_MD_judgeEvent 0 0 99 [some (av_R (some 170)), some (av_I a1), some (av_I a2), some (av_I (300 * a1 + a2)), some (av_I i209)] [] h210 (fun r h' => r = none ∧ (h'.2.1 170 80 ≤ h.2.1 170 80 + (2 + 2 * a1)) ∧ kM (pm [65, 66, 80] [221, 222, 223, 224]) h h') := by
              intro n
              induction n with
              | zero => intro i209 h210 _ _ _ _ hm; omega
              | succ n ih99 =>
                intro i209 h210 hl0 hl1 hinv k211 hm
                obtain ⟨sd212, esd212⟩ : ∃ x, x = h210.2.1 170 80 := ⟨_, rfl⟩
                have rsd212 : 0 ≤ sd212 ∧ sd212 ≤ 2000000000 := (by rw [esd212]; exact mi_g k211.1 (by decide) mr_170_80)
                refine A_iload d_MD_judgeEvent_99 rfl ?_
                refine A_iload_n 1 d_MD_judgeEvent_101 rfl rfl ?_
                refine A_icmp_ge (tgt := 130) d_MD_judgeEvent_102 (by decide) (fun c213 => ?_) (fun c213 => ?_)
                · refine A_iconst d_MD_judgeEvent_130 rfl ?_
                  refine A_istore (L' := [some (av_R (some 170)), some (av_I a1), some (av_I a2), some (av_I (300 * a1 + a2)), some (av_I 0)]) d_MD_judgeEvent_131 (Nat.le_of_ble_eq_true rfl) rfl ?_
                  have lp133 : ∀ (n : Nat) (i214 : Int) (h215 : ah_T) , 0 ≤ i214 → i214 ≤ 3 → (h215.2.1 170 80 ≤ h.2.1 170 80 + 2 + a1 + i214 ∧ 0 ≤ h215.2.1 170 80 ∧ i214 ≤ a1) → kM (pm [65, 66, 80] [221, 222, 223, 224]) h h215 → (4 - i214).toNat < n → aw G (rm_R 5 0 0) m_MD_judgeEvent 0 0 133 [some (av_R (some 170)), some (av_I a1), some (av_I a2), some (av_I (300 * a1 + a2)), some (av_I i214)] [] h215 (fun r h' => r = none ∧ (h'.2.1 170 80 ≤ h.2.1 170 80 + (2 + 2 * a1)) ∧ kM (pm [65, 66, 80] [221, 222, 223, 224]) h h') := by
                    intro n
                    induction n with
                    | zero => intro i214 h215 _ _ _ _ hm; omega
                    | succ n ih133 =>
                      intro i214 h215 hl0 hl1 hinv k216 hm
                      obtain ⟨sd217, esd217⟩ : ∃ x, x = h215.2.1 170 80 := ⟨_, rfl⟩
                      have rsd217 : 0 ≤ sd217 ∧ sd217 ≤ 2000000000 := (by rw [esd217]; exact mi_g k216.1 (by decide) mr_170_80)
                      refine A_iload d_MD_judgeEvent_133 rfl ?_
                      refine A_iload_n 1 d_MD_judgeEvent_135 rfl rfl ?_
                      refine A_icmp_ge (tgt := 168) d_MD_judgeEvent_136 (by decide) (fun c218 => ?_) (fun c218 => ?_)
                      · exact A_vret d_MD_judgeEvent_168 (by decide) rfl ⟨rfl, (by have qq0 := esd217.symm; omega), k216⟩
                      · refine A_iload_n 2 d_MD_judgeEvent_139 rfl rfl ?_
                        refine A_if_le (tgt := 162) d_MD_judgeEvent_140 (by decide) (fun c => False.elim (by omega)) (fun c219 => ?_)
                        refine A_aload_n 0 d_MD_judgeEvent_143 rfl rfl ?_
                        refine A_iload_n 3 d_MD_judgeEvent_144 rfl rfl ?_
                        refine A_iload d_MD_judgeEvent_145 rfl ?_
                        refine A_callV2 m_MD_goesAlong T_ok d_MD_judgeEvent_147 l_MD_526 k_MD_goesAlong (mi_s k216.1 sf_170) rfl (by decide +kernel) (by decide) (Nat.le_of_ble_eq_true rfl) (s_MD_goesAlong k216.1 (by omega) (by omega) (by omega) (by omega)) (fun r h220 hq => ?_)
                        obtain ⟨x222, rfl, bx222, rfl⟩ := hq
                        refine A_if_eq (tgt := 162) d_MD_judgeEvent_150 (by decide) (fun c223 => ?_) (fun c223 => ?_)
                        · refine A_iincv (z := (i214 + 1)) (L' := [some (av_R (some 170)), some (av_I a1), some (av_I a2), some (av_I (300 * a1 + a2)), some (av_I (i214 + 1))]) d_MD_judgeEvent_162 rfl (w32_to (by omega) (by unfold i32; omega)) rfl ?_
                          refine A_goto (tgt := 133) d_MD_judgeEvent_165 (by decide) ?_
                          exact ih133 (i214 + 1) h215 (by omega) (by omega) (by have qq0 := esd217.symm; omega) k216 (by omega)
                        · refine A_aload_n 0 d_MD_judgeEvent_153 rfl rfl ?_
                          refine A_iconst d_MD_judgeEvent_154 rfl ?_
                          refine A_iload_n 1 d_MD_judgeEvent_155 rfl rfl ?_
                          refine A_iload_n 2 d_MD_judgeEvent_156 rfl rfl ?_
                          refine A_iload d_MD_judgeEvent_157 rfl ?_
                          refine A_pc (pc' := 159) rfl ?_
                          have zf225 := esd217.symm
                          refine A_callV4 m_MD_tell T_ok d_MD_judgeEvent_159 l_MD_510 k_MD_tell (mi_s k216.1 sf_170) rfl (by decide +kernel) (by decide) (Nat.le_of_ble_eq_true rfl) (s_MD_tell k216.1 (by have qq0 := esd217.symm; omega)) (fun r h224 hq => ?_)
                          obtain ⟨rfl, xk226, k226⟩ := hq
                          have k227 := kM_t k216 k226 (pm_s (by decide) (by decide))
                          obtain ⟨sd228, esd228⟩ : ∃ x, x = h224.2.1 170 80 := ⟨_, rfl⟩
                          have rsd228 : 0 ≤ sd228 ∧ sd228 ≤ 2000000000 := (by rw [esd228]; exact mi_g k227.1 (by decide) mr_170_80)
                          refine A_iincv (z := (i214 + 1)) (L' := [some (av_R (some 170)), some (av_I a1), some (av_I a2), some (av_I (300 * a1 + a2)), some (av_I (i214 + 1))]) d_MD_judgeEvent_162 rfl (w32_to (by omega) (by unfold i32; omega)) rfl ?_
                          refine A_goto (tgt := 133) d_MD_judgeEvent_165 (by decide) ?_
                          exact ih133 (i214 + 1) h224 (by omega) (by omega) (by have qq0 := esd228.symm; omega) k227 (by omega)
                  exact lp133 _ 0 h210 (by omega) (by omega) (by have qq0 := esd212.symm; omega) k211 (Nat.lt_succ_self _)
                · refine A_aload_n 0 d_MD_judgeEvent_105 rfl rfl ?_
                  refine A_iload_n 3 d_MD_judgeEvent_106 rfl rfl ?_
                  refine A_iload d_MD_judgeEvent_107 rfl ?_
                  have zf230 := esd212.symm
                  refine A_callV2 m_MD_crosses T_ok d_MD_judgeEvent_109 l_MD_523 k_MD_crosses (mi_s k211.1 sf_170) rfl (by decide +kernel) (by decide) (Nat.le_of_ble_eq_true rfl) (s_MD_crosses k211.1 (by omega) (by omega) (by omega) (by omega) (KS_s hKS k211 (by decide) (fun k => ⟨rfl, rfl⟩) (fun k => ⟨rfl, rfl, rfl, rfl, rfl, rfl⟩)) (by have q1 := k211.2.2.1 172 0 rfl; omega) (EV_s he (by intro a ha; simp only [List.mem_cons, List.not_mem_nil, or_false] at ha; rcases ha with rfl | rfl | rfl | rfl <;> exact k211.2.2.2 _ _ rfl)) (by have q1 := k211.2.2.1 191 ((300 * a1 + a2)).toNat rfl; omega)) (fun r h229 hq => ?_)
                  obtain ⟨x232, rfl, bx232, k231⟩ := hq
                  have k233 := kM_t k211 k231 (pm_s (by decide) (by decide))
                  refine A_if_eq (tgt := 124) d_MD_judgeEvent_112 (by decide) (fun c234 => ?_) (fun c234 => ?_)
                  · refine A_iincv (z := (i209 + 1)) (L' := [some (av_R (some 170)), some (av_I a1), some (av_I a2), some (av_I (300 * a1 + a2)), some (av_I (i209 + 1))]) d_MD_judgeEvent_124 rfl (w32_to (by omega) (by unfold i32; omega)) rfl ?_
                    refine A_goto (tgt := 99) d_MD_judgeEvent_127 (by decide) ?_
                    exact ih99 (i209 + 1) h229 (by omega) (by omega) (by have qq0 := ((k231.2.2.1 _ _ rfl).trans esd212.symm); omega) k233 (by omega)
                  · refine A_aload_n 0 d_MD_judgeEvent_115 rfl rfl ?_
                    refine A_iconst d_MD_judgeEvent_116 rfl ?_
                    refine A_iload_n 1 d_MD_judgeEvent_117 rfl rfl ?_
                    refine A_iload_n 2 d_MD_judgeEvent_118 rfl rfl ?_
                    refine A_iload d_MD_judgeEvent_119 rfl ?_
                    refine A_pc (pc' := 121) rfl ?_
                    have zf236 := ((k231.2.2.1 _ _ rfl).trans esd212.symm)
                    refine A_callV4 m_MD_tell T_ok d_MD_judgeEvent_121 l_MD_510 k_MD_tell (mi_s k233.1 sf_170) rfl (by decide +kernel) (by decide) (Nat.le_of_ble_eq_true rfl) (s_MD_tell k233.1 (by have qq0 := ((k231.2.2.1 _ _ rfl).trans esd212.symm); omega)) (fun r h235 hq => ?_)
                    obtain ⟨rfl, xk237, k237⟩ := hq
                    have k238 := kM_t k233 k237 (pm_s (by decide) (by decide))
                    obtain ⟨sd239, esd239⟩ : ∃ x, x = h235.2.1 170 80 := ⟨_, rfl⟩
                    have rsd239 : 0 ≤ sd239 ∧ sd239 ≤ 2000000000 := (by rw [esd239]; exact mi_g k238.1 (by decide) mr_170_80)
                    refine A_iincv (z := (i209 + 1)) (L' := [some (av_R (some 170)), some (av_I a1), some (av_I a2), some (av_I (300 * a1 + a2)), some (av_I (i209 + 1))]) d_MD_judgeEvent_124 rfl (w32_to (by omega) (by unfold i32; omega)) rfl ?_
                    refine A_goto (tgt := 99) d_MD_judgeEvent_127 (by decide) ?_
                    exact ih99 (i209 + 1) h235 (by omega) (by omega) (by have qq0 := esd239.symm; omega) k238 (by omega)
            exact lp99 _ 0 h (by omega) (by omega) (by have qq0 := esd1.symm; omega) k0 (Nat.lt_succ_self _)
          · refine A_aload_n 0 d_MD_judgeEvent_59 rfl rfl ?_
            refine A_iload_n 3 d_MD_judgeEvent_60 rfl rfl ?_
            refine A_callV1 m_MD_lowest T_ok d_MD_judgeEvent_61 l_MD_520 k_MD_lowest (mi_s k0.1 sf_170) rfl (by decide +kernel) (by decide) (Nat.le_of_ble_eq_true rfl) (s_MD_lowest k0.1 (by omega) (by omega)) (fun r h240 hq => ?_)
            obtain ⟨x242, rfl, ⟨_, _⟩, rfl⟩ := hq
            refine A_aload_n 0 d_MD_judgeEvent_64 rfl rfl ?_
            refine A_iload_n 3 d_MD_judgeEvent_65 rfl rfl ?_
            refine A_iconst d_MD_judgeEvent_66 rfl ?_
            refine A_isubv (z := (300 * a1 + a2 - 1)) d_MD_judgeEvent_67 (w32_to (by omega) (by unfold i32; omega)) ?_
            refine A_callV1 m_MD_lowest T_ok d_MD_judgeEvent_68 l_MD_520 k_MD_lowest (mi_s k0.1 sf_170) rfl (by decide +kernel) (by decide) (Nat.le_of_ble_eq_true rfl) (s_MD_lowest k0.1 (by omega) (by omega)) (fun r h243 hq => ?_)
            obtain ⟨x245, rfl, ⟨_, _⟩, rfl⟩ := hq
            refine A_isubv (z := (x242 - x245)) d_MD_judgeEvent_71 (w32_to (by omega) (by unfold i32; omega)) ?_
            refine A_istore (L' := [some (av_R (some 170)), some (av_I a1), some (av_I a2), some (av_I (300 * a1 + a2)), some (av_I (x242 - x245))]) d_MD_judgeEvent_72 (Nat.le_of_ble_eq_true rfl) rfl ?_
            refine A_iload d_MD_judgeEvent_74 rfl ?_
            refine A_bipush d_MD_judgeEvent_76 rfl ?_
            refine A_icmp_gt (tgt := 88) d_MD_judgeEvent_78 (by decide) (fun c246 => ?_) (fun c246 => ?_)
            · refine A_aload_n 0 d_MD_judgeEvent_88 rfl rfl ?_
              refine A_iconst d_MD_judgeEvent_89 rfl ?_
              refine A_iload_n 1 d_MD_judgeEvent_90 rfl rfl ?_
              refine A_iload_n 2 d_MD_judgeEvent_91 rfl rfl ?_
              refine A_iconst d_MD_judgeEvent_92 rfl ?_
              refine A_pc (pc' := 93) rfl ?_
              have zf248 := esd1.symm
              refine A_callV4 m_MD_tell T_ok d_MD_judgeEvent_93 l_MD_510 k_MD_tell (mi_s k0.1 sf_170) rfl (by decide +kernel) (by decide) (Nat.le_of_ble_eq_true rfl) (s_MD_tell k0.1 (by have qq0 := esd1.symm; omega)) (fun r h247 hq => ?_)
              obtain ⟨rfl, xk249, k249⟩ := hq
              have k250 := kM_t k0 k249 (pm_s (by decide) (by decide))
              obtain ⟨sd251, esd251⟩ : ∃ x, x = h247.2.1 170 80 := ⟨_, rfl⟩
              have rsd251 : 0 ≤ sd251 ∧ sd251 ≤ 2000000000 := (by rw [esd251]; exact mi_g k250.1 (by decide) mr_170_80)
              refine A_iconst d_MD_judgeEvent_96 rfl ?_
              refine A_istore (L' := [some (av_R (some 170)), some (av_I a1), some (av_I a2), some (av_I (300 * a1 + a2)), some (av_I 0)]) d_MD_judgeEvent_97 (Nat.le_of_ble_eq_true rfl) rfl ?_
              have lp99 : ∀ (n : Nat) (i252 : Int) (h253 : ah_T) , 0 ≤ i252 → i252 ≤ 3 → (h253.2.1 170 80 ≤ h.2.1 170 80 + 2 + i252 ∧ 0 ≤ h253.2.1 170 80 ∧ i252 ≤ a1) → kM (pm [65, 66, 80] [221, 222, 223, 224]) h h253 → (4 - i252).toNat < n → aw G (rm_R 5 0 0) m_MD_judgeEvent 0 0 99 [some (av_R (some 170)), some (av_I a1), some (av_I a2), some (av_I (300 * a1 + a2)), some (av_I i252)] [] h253 (fun r h' => r = none ∧ (h'.2.1 170 80 ≤ h.2.1 170 80 + (2 + 2 * a1)) ∧ kM (pm [65, 66, 80] [221, 222, 223, 224]) h h') := by
                intro n
                induction n with
                | zero => intro i252 h253 _ _ _ _ hm; omega
                | succ n ih99 =>
                  intro i252 h253 hl0 hl1 hinv k254 hm
                  obtain ⟨sd255, esd255⟩ : ∃ x, x = h253.2.1 170 80 := ⟨_, rfl⟩
                  have rsd255 : 0 ≤ sd255 ∧ sd255 ≤ 2000000000 := (by rw [esd255]; exact mi_g k254.1 (by decide) mr_170_80)
                  refine A_iload d_MD_judgeEvent_99 rfl ?_
                  refine A_iload_n 1 d_MD_judgeEvent_101 rfl rfl ?_
                  refine A_icmp_ge (tgt := 130) d_MD_judgeEvent_102 (by decide) (fun c256 => ?_) (fun c256 => ?_)
                  · refine A_iconst d_MD_judgeEvent_130 rfl ?_
                    refine A_istore (L' := [some (av_R (some 170)), some (av_I a1), some (av_I a2), some (av_I (300 * a1 + a2)), some (av_I 0)]) d_MD_judgeEvent_131 (Nat.le_of_ble_eq_true rfl) rfl ?_
                    have lp133 : ∀ (n : Nat) (i257 : Int) (h258 : ah_T) , 0 ≤ i257 → i257 ≤ 3 → (h258.2.1 170 80 ≤ h.2.1 170 80 + 2 + a1 + i257 ∧ 0 ≤ h258.2.1 170 80 ∧ i257 ≤ a1) → kM (pm [65, 66, 80] [221, 222, 223, 224]) h h258 → (4 - i257).toNat < n → aw G (rm_R 5 0 0) m_MD_judgeEvent 0 0 133 [some (av_R (some 170)), some (av_I a1), some (av_I a2), some (av_I (300 * a1 + a2)), some (av_I i257)] [] h258 (fun r h' => r = none ∧ (h'.2.1 170 80 ≤ h.2.1 170 80 + (2 + 2 * a1)) ∧ kM (pm [65, 66, 80] [221, 222, 223, 224]) h h') := by
                      intro n
                      induction n with
                      | zero => intro i257 h258 _ _ _ _ hm; omega
                      | succ n ih133 =>
                        intro i257 h258 hl0 hl1 hinv k259 hm
                        obtain ⟨sd260, esd260⟩ : ∃ x, x = h258.2.1 170 80 := ⟨_, rfl⟩
                        have rsd260 : 0 ≤ sd260 ∧ sd260 ≤ 2000000000 := (by rw [esd260]; exact mi_g k259.1 (by decide) mr_170_80)
                        refine A_iload d_MD_judgeEvent_133 rfl ?_
                        refine A_iload_n 1 d_MD_judgeEvent_135 rfl rfl ?_
                        refine A_icmp_ge (tgt := 168) d_MD_judgeEvent_136 (by decide) (fun c261 => ?_) (fun c261 => ?_)
                        · exact A_vret d_MD_judgeEvent_168 (by decide) rfl ⟨rfl, (by have qq0 := esd260.symm; omega), k259⟩
                        · refine A_iload_n 2 d_MD_judgeEvent_139 rfl rfl ?_
                          refine A_if_le (tgt := 162) d_MD_judgeEvent_140 (by decide) (fun c => False.elim (by omega)) (fun c262 => ?_)
                          refine A_aload_n 0 d_MD_judgeEvent_143 rfl rfl ?_
                          refine A_iload_n 3 d_MD_judgeEvent_144 rfl rfl ?_
                          refine A_iload d_MD_judgeEvent_145 rfl ?_
                          refine A_callV2 m_MD_goesAlong T_ok d_MD_judgeEvent_147 l_MD_526 k_MD_goesAlong (mi_s k259.1 sf_170) rfl (by decide +kernel) (by decide) (Nat.le_of_ble_eq_true rfl) (s_MD_goesAlong k259.1 (by omega) (by omega) (by omega) (by omega)) (fun r h263 hq => ?_)
                          obtain ⟨x265, rfl, bx265, rfl⟩ := hq
                          refine A_if_eq (tgt := 162) d_MD_judgeEvent_150 (by decide) (fun c266 => ?_) (fun c266 => ?_)
                          · refine A_iincv (z := (i257 + 1)) (L' := [some (av_R (some 170)), some (av_I a1), some (av_I a2), some (av_I (300 * a1 + a2)), some (av_I (i257 + 1))]) d_MD_judgeEvent_162 rfl (w32_to (by omega) (by unfold i32; omega)) rfl ?_
                            refine A_goto (tgt := 133) d_MD_judgeEvent_165 (by decide) ?_
                            exact ih133 (i257 + 1) h258 (by omega) (by omega) (by have qq0 := esd260.symm; omega) k259 (by omega)
                          · refine A_aload_n 0 d_MD_judgeEvent_153 rfl rfl ?_
                            refine A_iconst d_MD_judgeEvent_154 rfl ?_
                            refine A_iload_n 1 d_MD_judgeEvent_155 rfl rfl ?_
                            refine A_iload_n 2 d_MD_judgeEvent_156 rfl rfl ?_
                            refine A_iload d_MD_judgeEvent_157 rfl ?_
                            refine A_pc (pc' := 159) rfl ?_
                            have zf268 := esd260.symm
                            refine A_callV4 m_MD_tell T_ok d_MD_judgeEvent_159 l_MD_510 k_MD_tell (mi_s k259.1 sf_170) rfl (by decide +kernel) (by decide) (Nat.le_of_ble_eq_true rfl) (s_MD_tell k259.1 (by have qq0 := esd260.symm; omega)) (fun r h267 hq => ?_)
                            obtain ⟨rfl, xk269, k269⟩ := hq
                            have k270 := kM_t k259 k269 (pm_s (by decide) (by decide))
                            obtain ⟨sd271, esd271⟩ : ∃ x, x = h267.2.1 170 80 := ⟨_, rfl⟩
                            have rsd271 : 0 ≤ sd271 ∧ sd271 ≤ 2000000000 := (by rw [esd271]; exact mi_g k270.1 (by decide) mr_170_80)
                            refine A_iincv (z := (i257 + 1)) (L' := [some (av_R (some 170)), some (av_I a1), some (av_I a2), some (av_I (300 * a1 + a2)), some (av_I (i257 + 1))]) d_MD_judgeEvent_162 rfl (w32_to (by omega) (by unfold i32; omega)) rfl ?_
                            refine A_goto (tgt := 133) d_MD_judgeEvent_165 (by decide) ?_
                            exact ih133 (i257 + 1) h267 (by omega) (by omega) (by have qq0 := esd271.symm; omega) k270 (by omega)
                    exact lp133 _ 0 h253 (by omega) (by omega) (by have qq0 := esd255.symm; omega) k254 (Nat.lt_succ_self _)
                  · refine A_aload_n 0 d_MD_judgeEvent_105 rfl rfl ?_
                    refine A_iload_n 3 d_MD_judgeEvent_106 rfl rfl ?_
                    refine A_iload d_MD_judgeEvent_107 rfl ?_
                    have zf273 := esd255.symm
                    refine A_callV2 m_MD_crosses T_ok d_MD_judgeEvent_109 l_MD_523 k_MD_crosses (mi_s k254.1 sf_170) rfl (by decide +kernel) (by decide) (Nat.le_of_ble_eq_true rfl) (s_MD_crosses k254.1 (by omega) (by omega) (by omega) (by omega) (KS_s hKS k254 (by decide) (fun k => ⟨rfl, rfl⟩) (fun k => ⟨rfl, rfl, rfl, rfl, rfl, rfl⟩)) (by have q1 := k254.2.2.1 172 0 rfl; omega) (EV_s he (by intro a ha; simp only [List.mem_cons, List.not_mem_nil, or_false] at ha; rcases ha with rfl | rfl | rfl | rfl <;> exact k254.2.2.2 _ _ rfl)) (by have q1 := k254.2.2.1 191 ((300 * a1 + a2)).toNat rfl; omega)) (fun r h272 hq => ?_)
                    obtain ⟨x275, rfl, bx275, k274⟩ := hq
                    have k276 := kM_t k254 k274 (pm_s (by decide) (by decide))
                    refine A_if_eq (tgt := 124) d_MD_judgeEvent_112 (by decide) (fun c277 => ?_) (fun c277 => ?_)
                    · refine A_iincv (z := (i252 + 1)) (L' := [some (av_R (some 170)), some (av_I a1), some (av_I a2), some (av_I (300 * a1 + a2)), some (av_I (i252 + 1))]) d_MD_judgeEvent_124 rfl (w32_to (by omega) (by unfold i32; omega)) rfl ?_
                      refine A_goto (tgt := 99) d_MD_judgeEvent_127 (by decide) ?_
                      exact ih99 (i252 + 1) h272 (by omega) (by omega) (by have qq0 := ((k274.2.2.1 _ _ rfl).trans esd255.symm); omega) k276 (by omega)
                    · refine A_aload_n 0 d_MD_judgeEvent_115 rfl rfl ?_
                      refine A_iconst d_MD_judgeEvent_116 rfl ?_
                      refine A_iload_n 1 d_MD_judgeEvent_117 rfl rfl ?_
                      refine A_iload_n 2 d_MD_judgeEvent_118 rfl rfl ?_
                      refine A_iload d_MD_judgeEvent_119 rfl ?_
                      refine A_pc (pc' := 121) rfl ?_
                      have zf279 := ((k274.2.2.1 _ _ rfl).trans esd255.symm)
                      refine A_callV4 m_MD_tell T_ok d_MD_judgeEvent_121 l_MD_510 k_MD_tell (mi_s k276.1 sf_170) rfl (by decide +kernel) (by decide) (Nat.le_of_ble_eq_true rfl) (s_MD_tell k276.1 (by have qq0 := ((k274.2.2.1 _ _ rfl).trans esd255.symm); omega)) (fun r h278 hq => ?_)
                      obtain ⟨rfl, xk280, k280⟩ := hq
                      have k281 := kM_t k276 k280 (pm_s (by decide) (by decide))
                      obtain ⟨sd282, esd282⟩ : ∃ x, x = h278.2.1 170 80 := ⟨_, rfl⟩
                      have rsd282 : 0 ≤ sd282 ∧ sd282 ≤ 2000000000 := (by rw [esd282]; exact mi_g k281.1 (by decide) mr_170_80)
                      refine A_iincv (z := (i252 + 1)) (L' := [some (av_R (some 170)), some (av_I a1), some (av_I a2), some (av_I (300 * a1 + a2)), some (av_I (i252 + 1))]) d_MD_judgeEvent_124 rfl (w32_to (by omega) (by unfold i32; omega)) rfl ?_
                      refine A_goto (tgt := 99) d_MD_judgeEvent_127 (by decide) ?_
                      exact ih99 (i252 + 1) h278 (by omega) (by omega) (by have qq0 := esd282.symm; omega) k281 (by omega)
              exact lp99 _ 0 h247 (by omega) (by omega) (by have qq0 := esd251.symm; omega) k250 (Nat.lt_succ_self _)
            · refine A_iload d_MD_judgeEvent_81 rfl ?_
              refine A_bipush d_MD_judgeEvent_83 rfl ?_
              refine A_icmp_ge (tgt := 96) d_MD_judgeEvent_85 (by decide) (fun c283 => ?_) (fun c283 => ?_)
              · refine A_iconst d_MD_judgeEvent_96 rfl ?_
                refine A_istore (L' := [some (av_R (some 170)), some (av_I a1), some (av_I a2), some (av_I (300 * a1 + a2)), some (av_I 0)]) d_MD_judgeEvent_97 (Nat.le_of_ble_eq_true rfl) rfl ?_
                have lp99 : ∀ (n : Nat) (i284 : Int) (h285 : ah_T) , 0 ≤ i284 → i284 ≤ 3 → (h285.2.1 170 80 ≤ h.2.1 170 80 + 2 + i284 ∧ 0 ≤ h285.2.1 170 80 ∧ i284 ≤ a1) → kM (pm [65, 66, 80] [221, 222, 223, 224]) h h285 → (4 - i284).toNat < n → aw G (rm_R 5 0 0) m_MD_judgeEvent 0 0 99 [some (av_R (some 170)), some (av_I a1), some (av_I a2), some (av_I (300 * a1 + a2)), some (av_I i284)] [] h285 (fun r h' => r = none ∧ (h'.2.1 170 80 ≤ h.2.1 170 80 + (2 + 2 * a1)) ∧ kM (pm [65, 66, 80] [221, 222, 223, 224]) h h') := by
                  intro n
                  induction n with
                  | zero => intro i284 h285 _ _ _ _ hm; omega
                  | succ n ih99 =>
                    intro i284 h285 hl0 hl1 hinv k286 hm
                    obtain ⟨sd287, esd287⟩ : ∃ x, x = h285.2.1 170 80 := ⟨_, rfl⟩
                    have rsd287 : 0 ≤ sd287 ∧ sd287 ≤ 2000000000 := (by rw [esd287]; exact mi_g k286.1 (by decide) mr_170_80)
                    refine A_iload d_MD_judgeEvent_99 rfl ?_
                    refine A_iload_n 1 d_MD_judgeEvent_101 rfl rfl ?_
                    refine A_icmp_ge (tgt := 130) d_MD_judgeEvent_102 (by decide) (fun c288 => ?_) (fun c288 => ?_)
                    · refine A_iconst d_MD_judgeEvent_130 rfl ?_
                      refine A_istore (L' := [some (av_R (some 170)), some (av_I a1), some (av_I a2), some (av_I (300 * a1 + a2)), some (av_I 0)]) d_MD_judgeEvent_131 (Nat.le_of_ble_eq_true rfl) rfl ?_
                      have lp133 : ∀ (n : Nat) (i289 : Int) (h290 : ah_T) , 0 ≤ i289 → i289 ≤ 3 → (h290.2.1 170 80 ≤ h.2.1 170 80 + 2 + a1 + i289 ∧ 0 ≤ h290.2.1 170 80 ∧ i289 ≤ a1) → kM (pm [65, 66, 80] [221, 222, 223, 224]) h h290 → (4 - i289).toNat < n → aw G (rm_R 5 0 0) m_MD_judgeEvent 0 0 133 [some (av_R (some 170)), some (av_I a1), some (av_I a2), some (av_I (300 * a1 + a2)), some (av_I i289)] [] h290 (fun r h' => r = none ∧ (h'.2.1 170 80 ≤ h.2.1 170 80 + (2 + 2 * a1)) ∧ kM (pm [65, 66, 80] [221, 222, 223, 224]) h h') := by
                        intro n
                        induction n with
                        | zero => intro i289 h290 _ _ _ _ hm; omega
                        | succ n ih133 =>
                          intro i289 h290 hl0 hl1 hinv k291 hm
                          obtain ⟨sd292, esd292⟩ : ∃ x, x = h290.2.1 170 80 := ⟨_, rfl⟩
                          have rsd292 : 0 ≤ sd292 ∧ sd292 ≤ 2000000000 := (by rw [esd292]; exact mi_g k291.1 (by decide) mr_170_80)
                          refine A_iload d_MD_judgeEvent_133 rfl ?_
                          refine A_iload_n 1 d_MD_judgeEvent_135 rfl rfl ?_
                          refine A_icmp_ge (tgt := 168) d_MD_judgeEvent_136 (by decide) (fun c293 => ?_) (fun c293 => ?_)
                          · exact A_vret d_MD_judgeEvent_168 (by decide) rfl ⟨rfl, (by have qq0 := esd292.symm; omega), k291⟩
                          · refine A_iload_n 2 d_MD_judgeEvent_139 rfl rfl ?_
                            refine A_if_le (tgt := 162) d_MD_judgeEvent_140 (by decide) (fun c => False.elim (by omega)) (fun c294 => ?_)
                            refine A_aload_n 0 d_MD_judgeEvent_143 rfl rfl ?_
                            refine A_iload_n 3 d_MD_judgeEvent_144 rfl rfl ?_
                            refine A_iload d_MD_judgeEvent_145 rfl ?_
                            refine A_callV2 m_MD_goesAlong T_ok d_MD_judgeEvent_147 l_MD_526 k_MD_goesAlong (mi_s k291.1 sf_170) rfl (by decide +kernel) (by decide) (Nat.le_of_ble_eq_true rfl) (s_MD_goesAlong k291.1 (by omega) (by omega) (by omega) (by omega)) (fun r h295 hq => ?_)
                            obtain ⟨x297, rfl, bx297, rfl⟩ := hq
                            refine A_if_eq (tgt := 162) d_MD_judgeEvent_150 (by decide) (fun c298 => ?_) (fun c298 => ?_)
                            · refine A_iincv (z := (i289 + 1)) (L' := [some (av_R (some 170)), some (av_I a1), some (av_I a2), some (av_I (300 * a1 + a2)), some (av_I (i289 + 1))]) d_MD_judgeEvent_162 rfl (w32_to (by omega) (by unfold i32; omega)) rfl ?_
                              refine A_goto (tgt := 133) d_MD_judgeEvent_165 (by decide) ?_
                              exact ih133 (i289 + 1) h290 (by omega) (by omega) (by have qq0 := esd292.symm; omega) k291 (by omega)
                            · refine A_aload_n 0 d_MD_judgeEvent_153 rfl rfl ?_
                              refine A_iconst d_MD_judgeEvent_154 rfl ?_
                              refine A_iload_n 1 d_MD_judgeEvent_155 rfl rfl ?_
                              refine A_iload_n 2 d_MD_judgeEvent_156 rfl rfl ?_
                              refine A_iload d_MD_judgeEvent_157 rfl ?_
                              refine A_pc (pc' := 159) rfl ?_
                              have zf300 := esd292.symm
                              refine A_callV4 m_MD_tell T_ok d_MD_judgeEvent_159 l_MD_510 k_MD_tell (mi_s k291.1 sf_170) rfl (by decide +kernel) (by decide) (Nat.le_of_ble_eq_true rfl) (s_MD_tell k291.1 (by have qq0 := esd292.symm; omega)) (fun r h299 hq => ?_)
                              obtain ⟨rfl, xk301, k301⟩ := hq
                              have k302 := kM_t k291 k301 (pm_s (by decide) (by decide))
                              obtain ⟨sd303, esd303⟩ : ∃ x, x = h299.2.1 170 80 := ⟨_, rfl⟩
                              have rsd303 : 0 ≤ sd303 ∧ sd303 ≤ 2000000000 := (by rw [esd303]; exact mi_g k302.1 (by decide) mr_170_80)
                              refine A_iincv (z := (i289 + 1)) (L' := [some (av_R (some 170)), some (av_I a1), some (av_I a2), some (av_I (300 * a1 + a2)), some (av_I (i289 + 1))]) d_MD_judgeEvent_162 rfl (w32_to (by omega) (by unfold i32; omega)) rfl ?_
                              refine A_goto (tgt := 133) d_MD_judgeEvent_165 (by decide) ?_
                              exact ih133 (i289 + 1) h299 (by omega) (by omega) (by have qq0 := esd303.symm; omega) k302 (by omega)
                      exact lp133 _ 0 h285 (by omega) (by omega) (by have qq0 := esd287.symm; omega) k286 (Nat.lt_succ_self _)
                    · refine A_aload_n 0 d_MD_judgeEvent_105 rfl rfl ?_
                      refine A_iload_n 3 d_MD_judgeEvent_106 rfl rfl ?_
                      refine A_iload d_MD_judgeEvent_107 rfl ?_
                      have zf305 := esd287.symm
                      refine A_callV2 m_MD_crosses T_ok d_MD_judgeEvent_109 l_MD_523 k_MD_crosses (mi_s k286.1 sf_170) rfl (by decide +kernel) (by decide) (Nat.le_of_ble_eq_true rfl) (s_MD_crosses k286.1 (by omega) (by omega) (by omega) (by omega) (KS_s hKS k286 (by decide) (fun k => ⟨rfl, rfl⟩) (fun k => ⟨rfl, rfl, rfl, rfl, rfl, rfl⟩)) (by have q1 := k286.2.2.1 172 0 rfl; omega) (EV_s he (by intro a ha; simp only [List.mem_cons, List.not_mem_nil, or_false] at ha; rcases ha with rfl | rfl | rfl | rfl <;> exact k286.2.2.2 _ _ rfl)) (by have q1 := k286.2.2.1 191 ((300 * a1 + a2)).toNat rfl; omega)) (fun r h304 hq => ?_)
                      obtain ⟨x307, rfl, bx307, k306⟩ := hq
                      have k308 := kM_t k286 k306 (pm_s (by decide) (by decide))
                      refine A_if_eq (tgt := 124) d_MD_judgeEvent_112 (by decide) (fun c309 => ?_) (fun c309 => ?_)
                      · refine A_iincv (z := (i284 + 1)) (L' := [some (av_R (some 170)), some (av_I a1), some (av_I a2), some (av_I (300 * a1 + a2)), some (av_I (i284 + 1))]) d_MD_judgeEvent_124 rfl (w32_to (by omega) (by unfold i32; omega)) rfl ?_
                        refine A_goto (tgt := 99) d_MD_judgeEvent_127 (by decide) ?_
                        exact ih99 (i284 + 1) h304 (by omega) (by omega) (by have qq0 := ((k306.2.2.1 _ _ rfl).trans esd287.symm); omega) k308 (by omega)
                      · refine A_aload_n 0 d_MD_judgeEvent_115 rfl rfl ?_
                        refine A_iconst d_MD_judgeEvent_116 rfl ?_
                        refine A_iload_n 1 d_MD_judgeEvent_117 rfl rfl ?_
                        refine A_iload_n 2 d_MD_judgeEvent_118 rfl rfl ?_
                        refine A_iload d_MD_judgeEvent_119 rfl ?_
                        refine A_pc (pc' := 121) rfl ?_
                        have zf311 := ((k306.2.2.1 _ _ rfl).trans esd287.symm)
                        refine A_callV4 m_MD_tell T_ok d_MD_judgeEvent_121 l_MD_510 k_MD_tell (mi_s k308.1 sf_170) rfl (by decide +kernel) (by decide) (Nat.le_of_ble_eq_true rfl) (s_MD_tell k308.1 (by have qq0 := ((k306.2.2.1 _ _ rfl).trans esd287.symm); omega)) (fun r h310 hq => ?_)
                        obtain ⟨rfl, xk312, k312⟩ := hq
                        have k313 := kM_t k308 k312 (pm_s (by decide) (by decide))
                        obtain ⟨sd314, esd314⟩ : ∃ x, x = h310.2.1 170 80 := ⟨_, rfl⟩
                        have rsd314 : 0 ≤ sd314 ∧ sd314 ≤ 2000000000 := (by rw [esd314]; exact mi_g k313.1 (by decide) mr_170_80)
                        refine A_iincv (z := (i284 + 1)) (L' := [some (av_R (some 170)), some (av_I a1), some (av_I a2), some (av_I (300 * a1 + a2)), some (av_I (i284 + 1))]) d_MD_judgeEvent_124 rfl (w32_to (by omega) (by unfold i32; omega)) rfl ?_
                        refine A_goto (tgt := 99) d_MD_judgeEvent_127 (by decide) ?_
                        exact ih99 (i284 + 1) h310 (by omega) (by omega) (by have qq0 := esd314.symm; omega) k313 (by omega)
                exact lp99 _ 0 h (by omega) (by omega) (by have qq0 := esd1.symm; omega) k0 (Nat.lt_succ_self _)
              · refine A_aload_n 0 d_MD_judgeEvent_88 rfl rfl ?_
                refine A_iconst d_MD_judgeEvent_89 rfl ?_
                refine A_iload_n 1 d_MD_judgeEvent_90 rfl rfl ?_
                refine A_iload_n 2 d_MD_judgeEvent_91 rfl rfl ?_
                refine A_iconst d_MD_judgeEvent_92 rfl ?_
                refine A_pc (pc' := 93) rfl ?_
                have zf316 := esd1.symm
                refine A_callV4 m_MD_tell T_ok d_MD_judgeEvent_93 l_MD_510 k_MD_tell (mi_s k0.1 sf_170) rfl (by decide +kernel) (by decide) (Nat.le_of_ble_eq_true rfl) (s_MD_tell k0.1 (by have qq0 := esd1.symm; omega)) (fun r h315 hq => ?_)
                obtain ⟨rfl, xk317, k317⟩ := hq
                have k318 := kM_t k0 k317 (pm_s (by decide) (by decide))
                obtain ⟨sd319, esd319⟩ : ∃ x, x = h315.2.1 170 80 := ⟨_, rfl⟩
                have rsd319 : 0 ≤ sd319 ∧ sd319 ≤ 2000000000 := (by rw [esd319]; exact mi_g k318.1 (by decide) mr_170_80)
                refine A_iconst d_MD_judgeEvent_96 rfl ?_
                refine A_istore (L' := [some (av_R (some 170)), some (av_I a1), some (av_I a2), some (av_I (300 * a1 + a2)), some (av_I 0)]) d_MD_judgeEvent_97 (Nat.le_of_ble_eq_true rfl) rfl ?_
                have lp99 : ∀ (n : Nat) (i320 : Int) (h321 : ah_T) , 0 ≤ i320 → i320 ≤ 3 → (h321.2.1 170 80 ≤ h.2.1 170 80 + 2 + i320 ∧ 0 ≤ h321.2.1 170 80 ∧ i320 ≤ a1) → kM (pm [65, 66, 80] [221, 222, 223, 224]) h h321 → (4 - i320).toNat < n → aw G (rm_R 5 0 0) m_MD_judgeEvent 0 0 99 [some (av_R (some 170)), some (av_I a1), some (av_I a2), some (av_I (300 * a1 + a2)), some (av_I i320)] [] h321 (fun r h' => r = none ∧ (h'.2.1 170 80 ≤ h.2.1 170 80 + (2 + 2 * a1)) ∧ kM (pm [65, 66, 80] [221, 222, 223, 224]) h h') := by
                  intro n
                  induction n with
                  | zero => intro i320 h321 _ _ _ _ hm; omega
                  | succ n ih99 =>
                    intro i320 h321 hl0 hl1 hinv k322 hm
                    obtain ⟨sd323, esd323⟩ : ∃ x, x = h321.2.1 170 80 := ⟨_, rfl⟩
                    have rsd323 : 0 ≤ sd323 ∧ sd323 ≤ 2000000000 := (by rw [esd323]; exact mi_g k322.1 (by decide) mr_170_80)
                    refine A_iload d_MD_judgeEvent_99 rfl ?_
                    refine A_iload_n 1 d_MD_judgeEvent_101 rfl rfl ?_
                    refine A_icmp_ge (tgt := 130) d_MD_judgeEvent_102 (by decide) (fun c324 => ?_) (fun c324 => ?_)
                    · refine A_iconst d_MD_judgeEvent_130 rfl ?_
                      refine A_istore (L' := [some (av_R (some 170)), some (av_I a1), some (av_I a2), some (av_I (300 * a1 + a2)), some (av_I 0)]) d_MD_judgeEvent_131 (Nat.le_of_ble_eq_true rfl) rfl ?_
                      have lp133 : ∀ (n : Nat) (i325 : Int) (h326 : ah_T) , 0 ≤ i325 → i325 ≤ 3 → (h326.2.1 170 80 ≤ h.2.1 170 80 + 2 + a1 + i325 ∧ 0 ≤ h326.2.1 170 80 ∧ i325 ≤ a1) → kM (pm [65, 66, 80] [221, 222, 223, 224]) h h326 → (4 - i325).toNat < n → aw G (rm_R 5 0 0) m_MD_judgeEvent 0 0 133 [some (av_R (some 170)), some (av_I a1), some (av_I a2), some (av_I (300 * a1 + a2)), some (av_I i325)] [] h326 (fun r h' => r = none ∧ (h'.2.1 170 80 ≤ h.2.1 170 80 + (2 + 2 * a1)) ∧ kM (pm [65, 66, 80] [221, 222, 223, 224]) h h') := by
                        intro n
                        induction n with
                        | zero => intro i325 h326 _ _ _ _ hm; omega
                        | succ n ih133 =>
                          intro i325 h326 hl0 hl1 hinv k327 hm
                          obtain ⟨sd328, esd328⟩ : ∃ x, x = h326.2.1 170 80 := ⟨_, rfl⟩
                          have rsd328 : 0 ≤ sd328 ∧ sd328 ≤ 2000000000 := (by rw [esd328]; exact mi_g k327.1 (by decide) mr_170_80)
                          refine A_iload d_MD_judgeEvent_133 rfl ?_
                          refine A_iload_n 1 d_MD_judgeEvent_135 rfl rfl ?_
                          refine A_icmp_ge (tgt := 168) d_MD_judgeEvent_136 (by decide) (fun c329 => ?_) (fun c329 => ?_)
                          · exact A_vret d_MD_judgeEvent_168 (by decide) rfl ⟨rfl, (by have qq0 := esd328.symm; omega), k327⟩
                          · refine A_iload_n 2 d_MD_judgeEvent_139 rfl rfl ?_
                            refine A_if_le (tgt := 162) d_MD_judgeEvent_140 (by decide) (fun c => False.elim (by omega)) (fun c330 => ?_)
                            refine A_aload_n 0 d_MD_judgeEvent_143 rfl rfl ?_
                            refine A_iload_n 3 d_MD_judgeEvent_144 rfl rfl ?_
                            refine A_iload d_MD_judgeEvent_145 rfl ?_
                            refine A_callV2 m_MD_goesAlong T_ok d_MD_judgeEvent_147 l_MD_526 k_MD_goesAlong (mi_s k327.1 sf_170) rfl (by decide +kernel) (by decide) (Nat.le_of_ble_eq_true rfl) (s_MD_goesAlong k327.1 (by omega) (by omega) (by omega) (by omega)) (fun r h331 hq => ?_)
                            obtain ⟨x333, rfl, bx333, rfl⟩ := hq
                            refine A_if_eq (tgt := 162) d_MD_judgeEvent_150 (by decide) (fun c334 => ?_) (fun c334 => ?_)
                            · refine A_iincv (z := (i325 + 1)) (L' := [some (av_R (some 170)), some (av_I a1), some (av_I a2), some (av_I (300 * a1 + a2)), some (av_I (i325 + 1))]) d_MD_judgeEvent_162 rfl (w32_to (by omega) (by unfold i32; omega)) rfl ?_
                              refine A_goto (tgt := 133) d_MD_judgeEvent_165 (by decide) ?_
                              exact ih133 (i325 + 1) h326 (by omega) (by omega) (by have qq0 := esd328.symm; omega) k327 (by omega)
                            · refine A_aload_n 0 d_MD_judgeEvent_153 rfl rfl ?_
                              refine A_iconst d_MD_judgeEvent_154 rfl ?_
                              refine A_iload_n 1 d_MD_judgeEvent_155 rfl rfl ?_
                              refine A_iload_n 2 d_MD_judgeEvent_156 rfl rfl ?_
                              refine A_iload d_MD_judgeEvent_157 rfl ?_
                              refine A_pc (pc' := 159) rfl ?_
                              have zf336 := esd328.symm
                              refine A_callV4 m_MD_tell T_ok d_MD_judgeEvent_159 l_MD_510 k_MD_tell (mi_s k327.1 sf_170) rfl (by decide +kernel) (by decide) (Nat.le_of_ble_eq_true rfl) (s_MD_tell k327.1 (by have qq0 := esd328.symm; omega)) (fun r h335 hq => ?_)
                              obtain ⟨rfl, xk337, k337⟩ := hq
                              have k338 := kM_t k327 k337 (pm_s (by decide) (by decide))
                              obtain ⟨sd339, esd339⟩ : ∃ x, x = h335.2.1 170 80 := ⟨_, rfl⟩
                              have rsd339 : 0 ≤ sd339 ∧ sd339 ≤ 2000000000 := (by rw [esd339]; exact mi_g k338.1 (by decide) mr_170_80)
                              refine A_iincv (z := (i325 + 1)) (L' := [some (av_R (some 170)), some (av_I a1), some (av_I a2), some (av_I (300 * a1 + a2)), some (av_I (i325 + 1))]) d_MD_judgeEvent_162 rfl (w32_to (by omega) (by unfold i32; omega)) rfl ?_
                              refine A_goto (tgt := 133) d_MD_judgeEvent_165 (by decide) ?_
                              exact ih133 (i325 + 1) h335 (by omega) (by omega) (by have qq0 := esd339.symm; omega) k338 (by omega)
                      exact lp133 _ 0 h321 (by omega) (by omega) (by have qq0 := esd323.symm; omega) k322 (Nat.lt_succ_self _)
                    · refine A_aload_n 0 d_MD_judgeEvent_105 rfl rfl ?_
                      refine A_iload_n 3 d_MD_judgeEvent_106 rfl rfl ?_
                      refine A_iload d_MD_judgeEvent_107 rfl ?_
                      have zf341 := esd323.symm
                      refine A_callV2 m_MD_crosses T_ok d_MD_judgeEvent_109 l_MD_523 k_MD_crosses (mi_s k322.1 sf_170) rfl (by decide +kernel) (by decide) (Nat.le_of_ble_eq_true rfl) (s_MD_crosses k322.1 (by omega) (by omega) (by omega) (by omega) (KS_s hKS k322 (by decide) (fun k => ⟨rfl, rfl⟩) (fun k => ⟨rfl, rfl, rfl, rfl, rfl, rfl⟩)) (by have q1 := k322.2.2.1 172 0 rfl; omega) (EV_s he (by intro a ha; simp only [List.mem_cons, List.not_mem_nil, or_false] at ha; rcases ha with rfl | rfl | rfl | rfl <;> exact k322.2.2.2 _ _ rfl)) (by have q1 := k322.2.2.1 191 ((300 * a1 + a2)).toNat rfl; omega)) (fun r h340 hq => ?_)
                      obtain ⟨x343, rfl, bx343, k342⟩ := hq
                      have k344 := kM_t k322 k342 (pm_s (by decide) (by decide))
                      refine A_if_eq (tgt := 124) d_MD_judgeEvent_112 (by decide) (fun c345 => ?_) (fun c345 => ?_)
                      · refine A_iincv (z := (i320 + 1)) (L' := [some (av_R (some 170)), some (av_I a1), some (av_I a2), some (av_I (300 * a1 + a2)), some (av_I (i320 + 1))]) d_MD_judgeEvent_124 rfl (w32_to (by omega) (by unfold i32; omega)) rfl ?_
                        refine A_goto (tgt := 99) d_MD_judgeEvent_127 (by decide) ?_
                        exact ih99 (i320 + 1) h340 (by omega) (by omega) (by have qq0 := ((k342.2.2.1 _ _ rfl).trans esd323.symm); omega) k344 (by omega)
                      · refine A_aload_n 0 d_MD_judgeEvent_115 rfl rfl ?_
                        refine A_iconst d_MD_judgeEvent_116 rfl ?_
                        refine A_iload_n 1 d_MD_judgeEvent_117 rfl rfl ?_
                        refine A_iload_n 2 d_MD_judgeEvent_118 rfl rfl ?_
                        refine A_iload d_MD_judgeEvent_119 rfl ?_
                        refine A_pc (pc' := 121) rfl ?_
                        have zf347 := ((k342.2.2.1 _ _ rfl).trans esd323.symm)
                        refine A_callV4 m_MD_tell T_ok d_MD_judgeEvent_121 l_MD_510 k_MD_tell (mi_s k344.1 sf_170) rfl (by decide +kernel) (by decide) (Nat.le_of_ble_eq_true rfl) (s_MD_tell k344.1 (by have qq0 := ((k342.2.2.1 _ _ rfl).trans esd323.symm); omega)) (fun r h346 hq => ?_)
                        obtain ⟨rfl, xk348, k348⟩ := hq
                        have k349 := kM_t k344 k348 (pm_s (by decide) (by decide))
                        obtain ⟨sd350, esd350⟩ : ∃ x, x = h346.2.1 170 80 := ⟨_, rfl⟩
                        have rsd350 : 0 ≤ sd350 ∧ sd350 ≤ 2000000000 := (by rw [esd350]; exact mi_g k349.1 (by decide) mr_170_80)
                        refine A_iincv (z := (i320 + 1)) (L' := [some (av_R (some 170)), some (av_I a1), some (av_I a2), some (av_I (300 * a1 + a2)), some (av_I (i320 + 1))]) d_MD_judgeEvent_124 rfl (w32_to (by omega) (by unfold i32; omega)) rfl ?_
                        refine A_goto (tgt := 99) d_MD_judgeEvent_127 (by decide) ?_
                        exact ih99 (i320 + 1) h346 (by omega) (by omega) (by have qq0 := esd350.symm; omega) k349 (by omega)
                exact lp99 _ 0 h315 (by omega) (by omega) (by have qq0 := esd319.symm; omega) k318 (Nat.lt_succ_self _)
      · exact A_vret d_MD_judgeEvent_43 (by decide) rfl ⟨rfl, (by have qq0 := esd1.symm; omega), k0⟩
    · refine A_aload_n 0 d_MD_judgeEvent_26 rfl rfl ?_
      refine A_iconst d_MD_judgeEvent_27 rfl ?_
      refine A_iload_n 1 d_MD_judgeEvent_28 rfl rfl ?_
      refine A_iload_n 2 d_MD_judgeEvent_29 rfl rfl ?_
      refine A_iconst d_MD_judgeEvent_30 rfl ?_
      refine A_pc (pc' := 31) rfl ?_
      have zf352 := esd1.symm
      refine A_callV4 m_MD_tell T_ok d_MD_judgeEvent_31 l_MD_510 k_MD_tell (mi_s k0.1 sf_170) rfl (by decide +kernel) (by decide) (Nat.le_of_ble_eq_true rfl) (s_MD_tell k0.1 (by have qq0 := esd1.symm; omega)) (fun r h351 hq => ?_)
      obtain ⟨rfl, xk353, k353⟩ := hq
      have k354 := kM_t k0 k353 (pm_s (by decide) (by decide))
      obtain ⟨sd355, esd355⟩ : ∃ x, x = h351.2.1 170 80 := ⟨_, rfl⟩
      have rsd355 : 0 ≤ sd355 ∧ sd355 ≤ 2000000000 := (by rw [esd355]; exact mi_g k354.1 (by decide) mr_170_80)
      refine A_aload_n 0 d_MD_judgeEvent_34 rfl rfl ?_
      refine A_getAv (z := some 191) T_ok d_MD_judgeEvent_35 f_MD_75 (mi_s k354.1 sf_170) (mi_r k354.1 rfm_33) ?_
      refine A_iload_n 3 d_MD_judgeEvent_38 rfl rfl ?_
      refine A_ialoadn (lo := 0) (hi := 4) d_MD_judgeEvent_39 (mi_s k354.1 sf_191) (by omega) (by omega) (mi_g k354.1 (by decide) (mr_191 _)) (fun x357 ex357 _ _ => ?_)
      have fx357 := ex357.trans (k354.2.2.1 191 _ rfl)
      refine A_if_ne (tgt := 44) d_MD_judgeEvent_40 (by decide) (fun c358 => ?_) (fun c358 => ?_)
      · refine A_iload_n 2 d_MD_judgeEvent_44 rfl rfl ?_
        refine A_if_le (tgt := 96) d_MD_judgeEvent_45 (by decide) (fun c359 => ?_) (fun c359 => ?_)
        · refine A_iconst d_MD_judgeEvent_96 rfl ?_
          refine A_istore (L' := [some (av_R (some 170)), some (av_I a1), some (av_I a2), some (av_I (300 * a1 + a2)), some (av_I 0)]) d_MD_judgeEvent_97 (Nat.le_of_ble_eq_true rfl) rfl ?_
          have lp99 : ∀ (n : Nat) (i360 : Int) (h361 : ah_T) , 0 ≤ i360 → i360 ≤ 3 → (h361.2.1 170 80 ≤ h.2.1 170 80 + 2 + i360 ∧ 0 ≤ h361.2.1 170 80 ∧ i360 ≤ a1) → kM (pm [65, 66, 80] [221, 222, 223, 224]) h h361 → (4 - i360).toNat < n → aw G (rm_R 5 0 0) m_MD_judgeEvent 0 0 99 [some (av_R (some 170)), some (av_I a1), some (av_I a2), some (av_I (300 * a1 + a2)), some (av_I i360)] [] h361 (fun r h' => r = none ∧ (h'.2.1 170 80 ≤ h.2.1 170 80 + (2 + 2 * a1)) ∧ kM (pm [65, 66, 80] [221, 222, 223, 224]) h h') := by
            intro n
            induction n with
            | zero => intro i360 h361 _ _ _ _ hm; omega
            | succ n ih99 =>
              intro i360 h361 hl0 hl1 hinv k362 hm
              obtain ⟨sd363, esd363⟩ : ∃ x, x = h361.2.1 170 80 := ⟨_, rfl⟩
              have rsd363 : 0 ≤ sd363 ∧ sd363 ≤ 2000000000 := (by rw [esd363]; exact mi_g k362.1 (by decide) mr_170_80)
              refine A_iload d_MD_judgeEvent_99 rfl ?_
              refine A_iload_n 1 d_MD_judgeEvent_101 rfl rfl ?_
              refine A_icmp_ge (tgt := 130) d_MD_judgeEvent_102 (by decide) (fun c364 => ?_) (fun c364 => ?_)
              · refine A_iconst d_MD_judgeEvent_130 rfl ?_
                refine A_istore (L' := [some (av_R (some 170)), some (av_I a1), some (av_I a2), some (av_I (300 * a1 + a2)), some (av_I 0)]) d_MD_judgeEvent_131 (Nat.le_of_ble_eq_true rfl) rfl ?_
                have lp133 : ∀ (n : Nat) (i365 : Int) (h366 : ah_T) , 0 ≤ i365 → i365 ≤ 3 → (h366.2.1 170 80 ≤ h.2.1 170 80 + 2 + a1 + i365 ∧ 0 ≤ h366.2.1 170 80 ∧ i365 ≤ a1) → kM (pm [65, 66, 80] [221, 222, 223, 224]) h h366 → (4 - i365).toNat < n → aw G (rm_R 5 0 0) m_MD_judgeEvent 0 0 133 [some (av_R (some 170)), some (av_I a1), some (av_I a2), some (av_I (300 * a1 + a2)), some (av_I i365)] [] h366 (fun r h' => r = none ∧ (h'.2.1 170 80 ≤ h.2.1 170 80 + (2 + 2 * a1)) ∧ kM (pm [65, 66, 80] [221, 222, 223, 224]) h h') := by
                  intro n
                  induction n with
                  | zero => intro i365 h366 _ _ _ _ hm; omega
                  | succ n ih133 =>
                    intro i365 h366 hl0 hl1 hinv k367 hm
                    obtain ⟨sd368, esd368⟩ : ∃ x, x = h366.2.1 170 80 := ⟨_, rfl⟩
                    have rsd368 : 0 ≤ sd368 ∧ sd368 ≤ 2000000000 := (by rw [esd368]; exact mi_g k367.1 (by decide) mr_170_80)
                    refine A_iload d_MD_judgeEvent_133 rfl ?_
                    refine A_iload_n 1 d_MD_judgeEvent_135 rfl rfl ?_
                    refine A_icmp_ge (tgt := 168) d_MD_judgeEvent_136 (by decide) (fun c369 => ?_) (fun c369 => ?_)
                    · exact A_vret d_MD_judgeEvent_168 (by decide) rfl ⟨rfl, (by have qq0 := esd368.symm; omega), k367⟩
                    · refine A_iload_n 2 d_MD_judgeEvent_139 rfl rfl ?_
                      refine A_if_le (tgt := 162) d_MD_judgeEvent_140 (by decide) (fun c370 => ?_) (fun c => False.elim (by omega))
                      refine A_iincv (z := (i365 + 1)) (L' := [some (av_R (some 170)), some (av_I a1), some (av_I a2), some (av_I (300 * a1 + a2)), some (av_I (i365 + 1))]) d_MD_judgeEvent_162 rfl (w32_to (by omega) (by unfold i32; omega)) rfl ?_
                      refine A_goto (tgt := 133) d_MD_judgeEvent_165 (by decide) ?_
                      exact ih133 (i365 + 1) h366 (by omega) (by omega) (by have qq0 := esd368.symm; omega) k367 (by omega)
                exact lp133 _ 0 h361 (by omega) (by omega) (by have qq0 := esd363.symm; omega) k362 (Nat.lt_succ_self _)
              · refine A_aload_n 0 d_MD_judgeEvent_105 rfl rfl ?_
                refine A_iload_n 3 d_MD_judgeEvent_106 rfl rfl ?_
                refine A_iload d_MD_judgeEvent_107 rfl ?_
                have zf372 := esd363.symm
                refine A_callV2 m_MD_crosses T_ok d_MD_judgeEvent_109 l_MD_523 k_MD_crosses (mi_s k362.1 sf_170) rfl (by decide +kernel) (by decide) (Nat.le_of_ble_eq_true rfl) (s_MD_crosses k362.1 (by omega) (by omega) (by omega) (by omega) (KS_s hKS k362 (by decide) (fun k => ⟨rfl, rfl⟩) (fun k => ⟨rfl, rfl, rfl, rfl, rfl, rfl⟩)) (by have q1 := k362.2.2.1 172 0 rfl; omega) (EV_s he (by intro a ha; simp only [List.mem_cons, List.not_mem_nil, or_false] at ha; rcases ha with rfl | rfl | rfl | rfl <;> exact k362.2.2.2 _ _ rfl)) (by have q1 := k362.2.2.1 191 ((300 * a1 + a2)).toNat rfl; omega)) (fun r h371 hq => ?_)
                obtain ⟨x374, rfl, bx374, k373⟩ := hq
                have k375 := kM_t k362 k373 (pm_s (by decide) (by decide))
                refine A_if_eq (tgt := 124) d_MD_judgeEvent_112 (by decide) (fun c376 => ?_) (fun c376 => ?_)
                · refine A_iincv (z := (i360 + 1)) (L' := [some (av_R (some 170)), some (av_I a1), some (av_I a2), some (av_I (300 * a1 + a2)), some (av_I (i360 + 1))]) d_MD_judgeEvent_124 rfl (w32_to (by omega) (by unfold i32; omega)) rfl ?_
                  refine A_goto (tgt := 99) d_MD_judgeEvent_127 (by decide) ?_
                  exact ih99 (i360 + 1) h371 (by omega) (by omega) (by have qq0 := ((k373.2.2.1 _ _ rfl).trans esd363.symm); omega) k375 (by omega)
                · refine A_aload_n 0 d_MD_judgeEvent_115 rfl rfl ?_
                  refine A_iconst d_MD_judgeEvent_116 rfl ?_
                  refine A_iload_n 1 d_MD_judgeEvent_117 rfl rfl ?_
                  refine A_iload_n 2 d_MD_judgeEvent_118 rfl rfl ?_
                  refine A_iload d_MD_judgeEvent_119 rfl ?_
                  refine A_pc (pc' := 121) rfl ?_
                  have zf378 := ((k373.2.2.1 _ _ rfl).trans esd363.symm)
                  refine A_callV4 m_MD_tell T_ok d_MD_judgeEvent_121 l_MD_510 k_MD_tell (mi_s k375.1 sf_170) rfl (by decide +kernel) (by decide) (Nat.le_of_ble_eq_true rfl) (s_MD_tell k375.1 (by have qq0 := ((k373.2.2.1 _ _ rfl).trans esd363.symm); omega)) (fun r h377 hq => ?_)
                  obtain ⟨rfl, xk379, k379⟩ := hq
                  have k380 := kM_t k375 k379 (pm_s (by decide) (by decide))
                  obtain ⟨sd381, esd381⟩ : ∃ x, x = h377.2.1 170 80 := ⟨_, rfl⟩
                  have rsd381 : 0 ≤ sd381 ∧ sd381 ≤ 2000000000 := (by rw [esd381]; exact mi_g k380.1 (by decide) mr_170_80)
                  refine A_iincv (z := (i360 + 1)) (L' := [some (av_R (some 170)), some (av_I a1), some (av_I a2), some (av_I (300 * a1 + a2)), some (av_I (i360 + 1))]) d_MD_judgeEvent_124 rfl (w32_to (by omega) (by unfold i32; omega)) rfl ?_
                  refine A_goto (tgt := 99) d_MD_judgeEvent_127 (by decide) ?_
                  exact ih99 (i360 + 1) h377 (by omega) (by omega) (by have qq0 := esd381.symm; omega) k380 (by omega)
          exact lp99 _ 0 h351 (by omega) (by omega) (by have qq0 := esd355.symm; omega) k354 (Nat.lt_succ_self _)
        · refine A_aload_n 0 d_MD_judgeEvent_48 rfl rfl ?_
          refine A_getAv (z := some 191) T_ok d_MD_judgeEvent_49 f_MD_75 (mi_s k354.1 sf_170) (mi_r k354.1 rfm_33) ?_
          refine A_iload_n 3 d_MD_judgeEvent_52 rfl rfl ?_
          refine A_iconst d_MD_judgeEvent_53 rfl ?_
          refine A_isubv (z := (300 * a1 + a2 - 1)) d_MD_judgeEvent_54 (w32_to (by omega) (by unfold i32; omega)) ?_
          refine A_pc (pc' := 55) rfl ?_
          refine A_ialoadn (lo := 0) (hi := 4) d_MD_judgeEvent_55 (mi_s k354.1 sf_191) (by omega) (by omega) (mi_g k354.1 (by decide) (mr_191 _)) (fun x383 ex383 _ _ => ?_)
          have fx383 := ex383.trans (k354.2.2.1 191 _ rfl)
          refine A_if_le (tgt := 96) d_MD_judgeEvent_56 (by decide) (fun c384 => ?_) (fun c384 => ?_)
          · refine A_iconst d_MD_judgeEvent_96 rfl ?_
            refine A_istore (L' := [some (av_R (some 170)), some (av_I a1), some (av_I a2), some (av_I (300 * a1 + a2)), some (av_I 0)]) d_MD_judgeEvent_97 (Nat.le_of_ble_eq_true rfl) rfl ?_
            have lp99 : ∀ (n : Nat) (i385 : Int) (h386 : ah_T) , 0 ≤ i385 → i385 ≤ 3 → (h386.2.1 170 80 ≤ h.2.1 170 80 + 2 + i385 ∧ 0 ≤ h386.2.1 170 80 ∧ i385 ≤ a1) → kM (pm [65, 66, 80] [221, 222, 223, 224]) h h386 → (4 - i385).toNat < n → aw G (rm_R 5 0 0) m_MD_judgeEvent 0 0 99 [some (av_R (some 170)), some (av_I a1), some (av_I a2), some (av_I (300 * a1 + a2)), some (av_I i385)] [] h386 (fun r h' => r = none ∧ (h'.2.1 170 80 ≤ h.2.1 170 80 + (2 + 2 * a1)) ∧ kM (pm [65, 66, 80] [221, 222, 223, 224]) h h') := by
              intro n
              induction n with
              | zero => intro i385 h386 _ _ _ _ hm; omega
              | succ n ih99 =>
                intro i385 h386 hl0 hl1 hinv k387 hm
                obtain ⟨sd388, esd388⟩ : ∃ x, x = h386.2.1 170 80 := ⟨_, rfl⟩
                have rsd388 : 0 ≤ sd388 ∧ sd388 ≤ 2000000000 := (by rw [esd388]; exact mi_g k387.1 (by decide) mr_170_80)
                refine A_iload d_MD_judgeEvent_99 rfl ?_
                refine A_iload_n 1 d_MD_judgeEvent_101 rfl rfl ?_
                refine A_icmp_ge (tgt := 130) d_MD_judgeEvent_102 (by decide) (fun c389 => ?_) (fun c389 => ?_)
                · refine A_iconst d_MD_judgeEvent_130 rfl ?_
                  refine A_istore (L' := [some (av_R (some 170)), some (av_I a1), some (av_I a2), some (av_I (300 * a1 + a2)), some (av_I 0)]) d_MD_judgeEvent_131 (Nat.le_of_ble_eq_true rfl) rfl ?_
                  have lp133 : ∀ (n : Nat) (i390 : Int) (h391 : ah_T) , 0 ≤ i390 → i390 ≤ 3 → (h391.2.1 170 80 ≤ h.2.1 170 80 + 2 + a1 + i390 ∧ 0 ≤ h391.2.1 170 80 ∧ i390 ≤ a1) → kM (pm [65, 66, 80] [221, 222, 223, 224]) h h391 → (4 - i390).toNat < n → aw G (rm_R 5 0 0) m_MD_judgeEvent 0 0 133 [some (av_R (some 170)), some (av_I a1), some (av_I a2), some (av_I (300 * a1 + a2)), some (av_I i390)] [] h391 (fun r h' => r = none ∧ (h'.2.1 170 80 ≤ h.2.1 170 80 + (2 + 2 * a1)) ∧ kM (pm [65, 66, 80] [221, 222, 223, 224]) h h') := by
                    intro n
                    induction n with
                    | zero => intro i390 h391 _ _ _ _ hm; omega
                    | succ n ih133 =>
                      intro i390 h391 hl0 hl1 hinv k392 hm
                      obtain ⟨sd393, esd393⟩ : ∃ x, x = h391.2.1 170 80 := ⟨_, rfl⟩
                      have rsd393 : 0 ≤ sd393 ∧ sd393 ≤ 2000000000 := (by rw [esd393]; exact mi_g k392.1 (by decide) mr_170_80)
                      refine A_iload d_MD_judgeEvent_133 rfl ?_
                      refine A_iload_n 1 d_MD_judgeEvent_135 rfl rfl ?_
                      refine A_icmp_ge (tgt := 168) d_MD_judgeEvent_136 (by decide) (fun c394 => ?_) (fun c394 => ?_)
                      · exact A_vret d_MD_judgeEvent_168 (by decide) rfl ⟨rfl, (by have qq0 := esd393.symm; omega), k392⟩
                      · refine A_iload_n 2 d_MD_judgeEvent_139 rfl rfl ?_
                        refine A_if_le (tgt := 162) d_MD_judgeEvent_140 (by decide) (fun c => False.elim (by omega)) (fun c395 => ?_)
                        refine A_aload_n 0 d_MD_judgeEvent_143 rfl rfl ?_
                        refine A_iload_n 3 d_MD_judgeEvent_144 rfl rfl ?_
                        refine A_iload d_MD_judgeEvent_145 rfl ?_
                        refine A_callV2 m_MD_goesAlong T_ok d_MD_judgeEvent_147 l_MD_526 k_MD_goesAlong (mi_s k392.1 sf_170) rfl (by decide +kernel) (by decide) (Nat.le_of_ble_eq_true rfl) (s_MD_goesAlong k392.1 (by omega) (by omega) (by omega) (by omega)) (fun r h396 hq => ?_)
                        obtain ⟨x398, rfl, bx398, rfl⟩ := hq
                        refine A_if_eq (tgt := 162) d_MD_judgeEvent_150 (by decide) (fun c399 => ?_) (fun c399 => ?_)
                        · refine A_iincv (z := (i390 + 1)) (L' := [some (av_R (some 170)), some (av_I a1), some (av_I a2), some (av_I (300 * a1 + a2)), some (av_I (i390 + 1))]) d_MD_judgeEvent_162 rfl (w32_to (by omega) (by unfold i32; omega)) rfl ?_
                          refine A_goto (tgt := 133) d_MD_judgeEvent_165 (by decide) ?_
                          exact ih133 (i390 + 1) h391 (by omega) (by omega) (by have qq0 := esd393.symm; omega) k392 (by omega)
                        · refine A_aload_n 0 d_MD_judgeEvent_153 rfl rfl ?_
                          refine A_iconst d_MD_judgeEvent_154 rfl ?_
                          refine A_iload_n 1 d_MD_judgeEvent_155 rfl rfl ?_
                          refine A_iload_n 2 d_MD_judgeEvent_156 rfl rfl ?_
                          refine A_iload d_MD_judgeEvent_157 rfl ?_
                          refine A_pc (pc' := 159) rfl ?_
                          have zf401 := esd393.symm
                          refine A_callV4 m_MD_tell T_ok d_MD_judgeEvent_159 l_MD_510 k_MD_tell (mi_s k392.1 sf_170) rfl (by decide +kernel) (by decide) (Nat.le_of_ble_eq_true rfl) (s_MD_tell k392.1 (by have qq0 := esd393.symm; omega)) (fun r h400 hq => ?_)
                          obtain ⟨rfl, xk402, k402⟩ := hq
                          have k403 := kM_t k392 k402 (pm_s (by decide) (by decide))
                          obtain ⟨sd404, esd404⟩ : ∃ x, x = h400.2.1 170 80 := ⟨_, rfl⟩
                          have rsd404 : 0 ≤ sd404 ∧ sd404 ≤ 2000000000 := (by rw [esd404]; exact mi_g k403.1 (by decide) mr_170_80)
                          refine A_iincv (z := (i390 + 1)) (L' := [some (av_R (some 170)), some (av_I a1), some (av_I a2), some (av_I (300 * a1 + a2)), some (av_I (i390 + 1))]) d_MD_judgeEvent_162 rfl (w32_to (by omega) (by unfold i32; omega)) rfl ?_
                          refine A_goto (tgt := 133) d_MD_judgeEvent_165 (by decide) ?_
                          exact ih133 (i390 + 1) h400 (by omega) (by omega) (by have qq0 := esd404.symm; omega) k403 (by omega)
                  exact lp133 _ 0 h386 (by omega) (by omega) (by have qq0 := esd388.symm; omega) k387 (Nat.lt_succ_self _)
                · refine A_aload_n 0 d_MD_judgeEvent_105 rfl rfl ?_
                  refine A_iload_n 3 d_MD_judgeEvent_106 rfl rfl ?_
                  refine A_iload d_MD_judgeEvent_107 rfl ?_
                  have zf406 := esd388.symm
                  refine A_callV2 m_MD_crosses T_ok d_MD_judgeEvent_109 l_MD_523 k_MD_crosses (mi_s k387.1 sf_170) rfl (by decide +kernel) (by decide) (Nat.le_of_ble_eq_true rfl) (s_MD_crosses k387.1 (by omega) (by omega) (by omega) (by omega) (KS_s hKS k387 (by decide) (fun k => ⟨rfl, rfl⟩) (fun k => ⟨rfl, rfl, rfl, rfl, rfl, rfl⟩)) (by have q1 := k387.2.2.1 172 0 rfl; omega) (EV_s he (by intro a ha; simp only [List.mem_cons, List.not_mem_nil, or_false] at ha; rcases ha with rfl | rfl | rfl | rfl <;> exact k387.2.2.2 _ _ rfl)) (by have q1 := k387.2.2.1 191 ((300 * a1 + a2)).toNat rfl; omega)) (fun r h405 hq => ?_)
                  obtain ⟨x408, rfl, bx408, k407⟩ := hq
                  have k409 := kM_t k387 k407 (pm_s (by decide) (by decide))
                  refine A_if_eq (tgt := 124) d_MD_judgeEvent_112 (by decide) (fun c410 => ?_) (fun c410 => ?_)
                  · refine A_iincv (z := (i385 + 1)) (L' := [some (av_R (some 170)), some (av_I a1), some (av_I a2), some (av_I (300 * a1 + a2)), some (av_I (i385 + 1))]) d_MD_judgeEvent_124 rfl (w32_to (by omega) (by unfold i32; omega)) rfl ?_
                    refine A_goto (tgt := 99) d_MD_judgeEvent_127 (by decide) ?_
                    exact ih99 (i385 + 1) h405 (by omega) (by omega) (by have qq0 := ((k407.2.2.1 _ _ rfl).trans esd388.symm); omega) k409 (by omega)
                  · refine A_aload_n 0 d_MD_judgeEvent_115 rfl rfl ?_
                    refine A_iconst d_MD_judgeEvent_116 rfl ?_
                    refine A_iload_n 1 d_MD_judgeEvent_117 rfl rfl ?_
                    refine A_iload_n 2 d_MD_judgeEvent_118 rfl rfl ?_
                    refine A_iload d_MD_judgeEvent_119 rfl ?_
                    refine A_pc (pc' := 121) rfl ?_
                    have zf412 := ((k407.2.2.1 _ _ rfl).trans esd388.symm)
                    refine A_callV4 m_MD_tell T_ok d_MD_judgeEvent_121 l_MD_510 k_MD_tell (mi_s k409.1 sf_170) rfl (by decide +kernel) (by decide) (Nat.le_of_ble_eq_true rfl) (s_MD_tell k409.1 (by have qq0 := ((k407.2.2.1 _ _ rfl).trans esd388.symm); omega)) (fun r h411 hq => ?_)
                    obtain ⟨rfl, xk413, k413⟩ := hq
                    have k414 := kM_t k409 k413 (pm_s (by decide) (by decide))
                    obtain ⟨sd415, esd415⟩ : ∃ x, x = h411.2.1 170 80 := ⟨_, rfl⟩
                    have rsd415 : 0 ≤ sd415 ∧ sd415 ≤ 2000000000 := (by rw [esd415]; exact mi_g k414.1 (by decide) mr_170_80)
                    refine A_iincv (z := (i385 + 1)) (L' := [some (av_R (some 170)), some (av_I a1), some (av_I a2), some (av_I (300 * a1 + a2)), some (av_I (i385 + 1))]) d_MD_judgeEvent_124 rfl (w32_to (by omega) (by unfold i32; omega)) rfl ?_
                    refine A_goto (tgt := 99) d_MD_judgeEvent_127 (by decide) ?_
                    exact ih99 (i385 + 1) h411 (by omega) (by omega) (by have qq0 := esd415.symm; omega) k414 (by omega)
            exact lp99 _ 0 h351 (by omega) (by omega) (by have qq0 := esd355.symm; omega) k354 (Nat.lt_succ_self _)
          · refine A_aload_n 0 d_MD_judgeEvent_59 rfl rfl ?_
            refine A_iload_n 3 d_MD_judgeEvent_60 rfl rfl ?_
            refine A_callV1 m_MD_lowest T_ok d_MD_judgeEvent_61 l_MD_520 k_MD_lowest (mi_s k354.1 sf_170) rfl (by decide +kernel) (by decide) (Nat.le_of_ble_eq_true rfl) (s_MD_lowest k354.1 (by omega) (by omega)) (fun r h416 hq => ?_)
            obtain ⟨x418, rfl, ⟨_, _⟩, rfl⟩ := hq
            refine A_aload_n 0 d_MD_judgeEvent_64 rfl rfl ?_
            refine A_iload_n 3 d_MD_judgeEvent_65 rfl rfl ?_
            refine A_iconst d_MD_judgeEvent_66 rfl ?_
            refine A_isubv (z := (300 * a1 + a2 - 1)) d_MD_judgeEvent_67 (w32_to (by omega) (by unfold i32; omega)) ?_
            refine A_callV1 m_MD_lowest T_ok d_MD_judgeEvent_68 l_MD_520 k_MD_lowest (mi_s k354.1 sf_170) rfl (by decide +kernel) (by decide) (Nat.le_of_ble_eq_true rfl) (s_MD_lowest k354.1 (by omega) (by omega)) (fun r h419 hq => ?_)
            obtain ⟨x421, rfl, ⟨_, _⟩, rfl⟩ := hq
            refine A_isubv (z := (x418 - x421)) d_MD_judgeEvent_71 (w32_to (by omega) (by unfold i32; omega)) ?_
            refine A_istore (L' := [some (av_R (some 170)), some (av_I a1), some (av_I a2), some (av_I (300 * a1 + a2)), some (av_I (x418 - x421))]) d_MD_judgeEvent_72 (Nat.le_of_ble_eq_true rfl) rfl ?_
            refine A_iload d_MD_judgeEvent_74 rfl ?_
            refine A_bipush d_MD_judgeEvent_76 rfl ?_
            refine A_icmp_gt (tgt := 88) d_MD_judgeEvent_78 (by decide) (fun c422 => ?_) (fun c422 => ?_)
            · refine A_aload_n 0 d_MD_judgeEvent_88 rfl rfl ?_
              refine A_iconst d_MD_judgeEvent_89 rfl ?_
              refine A_iload_n 1 d_MD_judgeEvent_90 rfl rfl ?_
              refine A_iload_n 2 d_MD_judgeEvent_91 rfl rfl ?_
              refine A_iconst d_MD_judgeEvent_92 rfl ?_
              refine A_pc (pc' := 93) rfl ?_
              have zf424 := esd355.symm
              refine A_callV4 m_MD_tell T_ok d_MD_judgeEvent_93 l_MD_510 k_MD_tell (mi_s k354.1 sf_170) rfl (by decide +kernel) (by decide) (Nat.le_of_ble_eq_true rfl) (s_MD_tell k354.1 (by have qq0 := esd355.symm; omega)) (fun r h423 hq => ?_)
              obtain ⟨rfl, xk425, k425⟩ := hq
              have k426 := kM_t k354 k425 (pm_s (by decide) (by decide))
              obtain ⟨sd427, esd427⟩ : ∃ x, x = h423.2.1 170 80 := ⟨_, rfl⟩
              have rsd427 : 0 ≤ sd427 ∧ sd427 ≤ 2000000000 := (by rw [esd427]; exact mi_g k426.1 (by decide) mr_170_80)
              refine A_iconst d_MD_judgeEvent_96 rfl ?_
              refine A_istore (L' := [some (av_R (some 170)), some (av_I a1), some (av_I a2), some (av_I (300 * a1 + a2)), some (av_I 0)]) d_MD_judgeEvent_97 (Nat.le_of_ble_eq_true rfl) rfl ?_
              have lp99 : ∀ (n : Nat) (i428 : Int) (h429 : ah_T) , 0 ≤ i428 → i428 ≤ 3 → (h429.2.1 170 80 ≤ h.2.1 170 80 + 2 + i428 ∧ 0 ≤ h429.2.1 170 80 ∧ i428 ≤ a1) → kM (pm [65, 66, 80] [221, 222, 223, 224]) h h429 → (4 - i428).toNat < n → aw G (rm_R 5 0 0) m_MD_judgeEvent 0 0 99 [some (av_R (some 170)), some (av_I a1), some (av_I a2), some (av_I (300 * a1 + a2)), some (av_I i428)] [] h429 (fun r h' => r = none ∧ (h'.2.1 170 80 ≤ h.2.1 170 80 + (2 + 2 * a1)) ∧ kM (pm [65, 66, 80] [221, 222, 223, 224]) h h') := by
                intro n
                induction n with
                | zero => intro i428 h429 _ _ _ _ hm; omega
                | succ n ih99 =>
                  intro i428 h429 hl0 hl1 hinv k430 hm
                  obtain ⟨sd431, esd431⟩ : ∃ x, x = h429.2.1 170 80 := ⟨_, rfl⟩
                  have rsd431 : 0 ≤ sd431 ∧ sd431 ≤ 2000000000 := (by rw [esd431]; exact mi_g k430.1 (by decide) mr_170_80)
                  refine A_iload d_MD_judgeEvent_99 rfl ?_
                  refine A_iload_n 1 d_MD_judgeEvent_101 rfl rfl ?_
                  refine A_icmp_ge (tgt := 130) d_MD_judgeEvent_102 (by decide) (fun c432 => ?_) (fun c432 => ?_)
                  · refine A_iconst d_MD_judgeEvent_130 rfl ?_
                    refine A_istore (L' := [some (av_R (some 170)), some (av_I a1), some (av_I a2), some (av_I (300 * a1 + a2)), some (av_I 0)]) d_MD_judgeEvent_131 (Nat.le_of_ble_eq_true rfl) rfl ?_
                    have lp133 : ∀ (n : Nat) (i433 : Int) (h434 : ah_T) , 0 ≤ i433 → i433 ≤ 3 → (h434.2.1 170 80 ≤ h.2.1 170 80 + 2 + a1 + i433 ∧ 0 ≤ h434.2.1 170 80 ∧ i433 ≤ a1) → kM (pm [65, 66, 80] [221, 222, 223, 224]) h h434 → (4 - i433).toNat < n → aw G (rm_R 5 0 0) m_MD_judgeEvent 0 0 133 [some (av_R (some 170)), some (av_I a1), some (av_I a2), some (av_I (300 * a1 + a2)), some (av_I i433)] [] h434 (fun r h' => r = none ∧ (h'.2.1 170 80 ≤ h.2.1 170 80 + (2 + 2 * a1)) ∧ kM (pm [65, 66, 80] [221, 222, 223, 224]) h h') := by
                      intro n
                      induction n with
                      | zero => intro i433 h434 _ _ _ _ hm; omega
                      | succ n ih133 =>
                        intro i433 h434 hl0 hl1 hinv k435 hm
                        obtain ⟨sd436, esd436⟩ : ∃ x, x = h434.2.1 170 80 := ⟨_, rfl⟩
                        have rsd436 : 0 ≤ sd436 ∧ sd436 ≤ 2000000000 := (by rw [esd436]; exact mi_g k435.1 (by decide) mr_170_80)
                        refine A_iload d_MD_judgeEvent_133 rfl ?_
                        refine A_iload_n 1 d_MD_judgeEvent_135 rfl rfl ?_
                        refine A_icmp_ge (tgt := 168) d_MD_judgeEvent_136 (by decide) (fun c437 => ?_) (fun c437 => ?_)
                        · exact A_vret d_MD_judgeEvent_168 (by decide) rfl ⟨rfl, (by have qq0 := esd436.symm; omega), k435⟩
                        · refine A_iload_n 2 d_MD_judgeEvent_139 rfl rfl ?_
                          refine A_if_le (tgt := 162) d_MD_judgeEvent_140 (by decide) (fun c => False.elim (by omega)) (fun c438 => ?_)
                          refine A_aload_n 0 d_MD_judgeEvent_143 rfl rfl ?_
                          refine A_iload_n 3 d_MD_judgeEvent_144 rfl rfl ?_
                          refine A_iload d_MD_judgeEvent_145 rfl ?_
                          refine A_callV2 m_MD_goesAlong T_ok d_MD_judgeEvent_147 l_MD_526 k_MD_goesAlong (mi_s k435.1 sf_170) rfl (by decide +kernel) (by decide) (Nat.le_of_ble_eq_true rfl) (s_MD_goesAlong k435.1 (by omega) (by omega) (by omega) (by omega)) (fun r h439 hq => ?_)
                          obtain ⟨x441, rfl, bx441, rfl⟩ := hq
                          refine A_if_eq (tgt := 162) d_MD_judgeEvent_150 (by decide) (fun c442 => ?_) (fun c442 => ?_)
                          · refine A_iincv (z := (i433 + 1)) (L' := [some (av_R (some 170)), some (av_I a1), some (av_I a2), some (av_I (300 * a1 + a2)), some (av_I (i433 + 1))]) d_MD_judgeEvent_162 rfl (w32_to (by omega) (by unfold i32; omega)) rfl ?_
                            refine A_goto (tgt := 133) d_MD_judgeEvent_165 (by decide) ?_
                            exact ih133 (i433 + 1) h434 (by omega) (by omega) (by have qq0 := esd436.symm; omega) k435 (by omega)
                          · refine A_aload_n 0 d_MD_judgeEvent_153 rfl rfl ?_
                            refine A_iconst d_MD_judgeEvent_154 rfl ?_
                            refine A_iload_n 1 d_MD_judgeEvent_155 rfl rfl ?_
                            refine A_iload_n 2 d_MD_judgeEvent_156 rfl rfl ?_
                            refine A_iload d_MD_judgeEvent_157 rfl ?_
                            refine A_pc (pc' := 159) rfl ?_
                            have zf444 := esd436.symm
                            refine A_callV4 m_MD_tell T_ok d_MD_judgeEvent_159 l_MD_510 k_MD_tell (mi_s k435.1 sf_170) rfl (by decide +kernel) (by decide) (Nat.le_of_ble_eq_true rfl) (s_MD_tell k435.1 (by have qq0 := esd436.symm; omega)) (fun r h443 hq => ?_)
                            obtain ⟨rfl, xk445, k445⟩ := hq
                            have k446 := kM_t k435 k445 (pm_s (by decide) (by decide))
                            obtain ⟨sd447, esd447⟩ : ∃ x, x = h443.2.1 170 80 := ⟨_, rfl⟩
                            have rsd447 : 0 ≤ sd447 ∧ sd447 ≤ 2000000000 := (by rw [esd447]; exact mi_g k446.1 (by decide) mr_170_80)
                            refine A_iincv (z := (i433 + 1)) (L' := [some (av_R (some 170)), some (av_I a1), some (av_I a2), some (av_I (300 * a1 + a2)), some (av_I (i433 + 1))]) d_MD_judgeEvent_162 rfl (w32_to (by omega) (by unfold i32; omega)) rfl ?_
                            refine A_goto (tgt := 133) d_MD_judgeEvent_165 (by decide) ?_
                            exact ih133 (i433 + 1) h443 (by omega) (by omega) (by have qq0 := esd447.symm; omega) k446 (by omega)
                    exact lp133 _ 0 h429 (by omega) (by omega) (by have qq0 := esd431.symm; omega) k430 (Nat.lt_succ_self _)
                  · refine A_aload_n 0 d_MD_judgeEvent_105 rfl rfl ?_
                    refine A_iload_n 3 d_MD_judgeEvent_106 rfl rfl ?_
                    refine A_iload d_MD_judgeEvent_107 rfl ?_
                    have zf449 := esd431.symm
                    refine A_callV2 m_MD_crosses T_ok d_MD_judgeEvent_109 l_MD_523 k_MD_crosses (mi_s k430.1 sf_170) rfl (by decide +kernel) (by decide) (Nat.le_of_ble_eq_true rfl) (s_MD_crosses k430.1 (by omega) (by omega) (by omega) (by omega) (KS_s hKS k430 (by decide) (fun k => ⟨rfl, rfl⟩) (fun k => ⟨rfl, rfl, rfl, rfl, rfl, rfl⟩)) (by have q1 := k430.2.2.1 172 0 rfl; omega) (EV_s he (by intro a ha; simp only [List.mem_cons, List.not_mem_nil, or_false] at ha; rcases ha with rfl | rfl | rfl | rfl <;> exact k430.2.2.2 _ _ rfl)) (by have q1 := k430.2.2.1 191 ((300 * a1 + a2)).toNat rfl; omega)) (fun r h448 hq => ?_)
                    obtain ⟨x451, rfl, bx451, k450⟩ := hq
                    have k452 := kM_t k430 k450 (pm_s (by decide) (by decide))
                    refine A_if_eq (tgt := 124) d_MD_judgeEvent_112 (by decide) (fun c453 => ?_) (fun c453 => ?_)
                    · refine A_iincv (z := (i428 + 1)) (L' := [some (av_R (some 170)), some (av_I a1), some (av_I a2), some (av_I (300 * a1 + a2)), some (av_I (i428 + 1))]) d_MD_judgeEvent_124 rfl (w32_to (by omega) (by unfold i32; omega)) rfl ?_
                      refine A_goto (tgt := 99) d_MD_judgeEvent_127 (by decide) ?_
                      exact ih99 (i428 + 1) h448 (by omega) (by omega) (by have qq0 := ((k450.2.2.1 _ _ rfl).trans esd431.symm); omega) k452 (by omega)
                    · refine A_aload_n 0 d_MD_judgeEvent_115 rfl rfl ?_
                      refine A_iconst d_MD_judgeEvent_116 rfl ?_
                      refine A_iload_n 1 d_MD_judgeEvent_117 rfl rfl ?_
                      refine A_iload_n 2 d_MD_judgeEvent_118 rfl rfl ?_
                      refine A_iload d_MD_judgeEvent_119 rfl ?_
                      refine A_pc (pc' := 121) rfl ?_
                      have zf455 := ((k450.2.2.1 _ _ rfl).trans esd431.symm)
                      refine A_callV4 m_MD_tell T_ok d_MD_judgeEvent_121 l_MD_510 k_MD_tell (mi_s k452.1 sf_170) rfl (by decide +kernel) (by decide) (Nat.le_of_ble_eq_true rfl) (s_MD_tell k452.1 (by have qq0 := ((k450.2.2.1 _ _ rfl).trans esd431.symm); omega)) (fun r h454 hq => ?_)
                      obtain ⟨rfl, xk456, k456⟩ := hq
                      have k457 := kM_t k452 k456 (pm_s (by decide) (by decide))
                      obtain ⟨sd458, esd458⟩ : ∃ x, x = h454.2.1 170 80 := ⟨_, rfl⟩
                      have rsd458 : 0 ≤ sd458 ∧ sd458 ≤ 2000000000 := (by rw [esd458]; exact mi_g k457.1 (by decide) mr_170_80)
                      refine A_iincv (z := (i428 + 1)) (L' := [some (av_R (some 170)), some (av_I a1), some (av_I a2), some (av_I (300 * a1 + a2)), some (av_I (i428 + 1))]) d_MD_judgeEvent_124 rfl (w32_to (by omega) (by unfold i32; omega)) rfl ?_
                      refine A_goto (tgt := 99) d_MD_judgeEvent_127 (by decide) ?_
                      exact ih99 (i428 + 1) h454 (by omega) (by omega) (by have qq0 := esd458.symm; omega) k457 (by omega)
              exact lp99 _ 0 h423 (by omega) (by omega) (by have qq0 := esd427.symm; omega) k426 (Nat.lt_succ_self _)
            · refine A_iload d_MD_judgeEvent_81 rfl ?_
              refine A_bipush d_MD_judgeEvent_83 rfl ?_
              refine A_icmp_ge (tgt := 96) d_MD_judgeEvent_85 (by decide) (fun c459 => ?_) (fun c459 => ?_)
              · refine A_iconst d_MD_judgeEvent_96 rfl ?_
                refine A_istore (L' := [some (av_R (some 170)), some (av_I a1), some (av_I a2), some (av_I (300 * a1 + a2)), some (av_I 0)]) d_MD_judgeEvent_97 (Nat.le_of_ble_eq_true rfl) rfl ?_
                have lp99 : ∀ (n : Nat) (i460 : Int) (h461 : ah_T) , 0 ≤ i460 → i460 ≤ 3 → (h461.2.1 170 80 ≤ h.2.1 170 80 + 2 + i460 ∧ 0 ≤ h461.2.1 170 80 ∧ i460 ≤ a1) → kM (pm [65, 66, 80] [221, 222, 223, 224]) h h461 → (4 - i460).toNat < n → aw G (rm_R 5 0 0) m_MD_judgeEvent 0 0 99 [some (av_R (some 170)), some (av_I a1), some (av_I a2), some (av_I (300 * a1 + a2)), some (av_I i460)] [] h461 (fun r h' => r = none ∧ (h'.2.1 170 80 ≤ h.2.1 170 80 + (2 + 2 * a1)) ∧ kM (pm [65, 66, 80] [221, 222, 223, 224]) h h') := by
                  intro n
                  induction n with
                  | zero => intro i460 h461 _ _ _ _ hm; omega
                  | succ n ih99 =>
                    intro i460 h461 hl0 hl1 hinv k462 hm
                    obtain ⟨sd463, esd463⟩ : ∃ x, x = h461.2.1 170 80 := ⟨_, rfl⟩
                    have rsd463 : 0 ≤ sd463 ∧ sd463 ≤ 2000000000 := (by rw [esd463]; exact mi_g k462.1 (by decide) mr_170_80)
                    refine A_iload d_MD_judgeEvent_99 rfl ?_
                    refine A_iload_n 1 d_MD_judgeEvent_101 rfl rfl ?_
                    refine A_icmp_ge (tgt := 130) d_MD_judgeEvent_102 (by decide) (fun c464 => ?_) (fun c464 => ?_)
                    · refine A_iconst d_MD_judgeEvent_130 rfl ?_
                      refine A_istore (L' := [some (av_R (some 170)), some (av_I a1), some (av_I a2), some (av_I (300 * a1 + a2)), some (av_I 0)]) d_MD_judgeEvent_131 (Nat.le_of_ble_eq_true rfl) rfl ?_
                      have lp133 : ∀ (n : Nat) (i465 : Int) (h466 : ah_T) , 0 ≤ i465 → i465 ≤ 3 → (h466.2.1 170 80 ≤ h.2.1 170 80 + 2 + a1 + i465 ∧ 0 ≤ h466.2.1 170 80 ∧ i465 ≤ a1) → kM (pm [65, 66, 80] [221, 222, 223, 224]) h h466 → (4 - i465).toNat < n → aw G (rm_R 5 0 0) m_MD_judgeEvent 0 0 133 [some (av_R (some 170)), some (av_I a1), some (av_I a2), some (av_I (300 * a1 + a2)), some (av_I i465)] [] h466 (fun r h' => r = none ∧ (h'.2.1 170 80 ≤ h.2.1 170 80 + (2 + 2 * a1)) ∧ kM (pm [65, 66, 80] [221, 222, 223, 224]) h h') := by
                        intro n
                        induction n with
                        | zero => intro i465 h466 _ _ _ _ hm; omega
                        | succ n ih133 =>
                          intro i465 h466 hl0 hl1 hinv k467 hm
                          obtain ⟨sd468, esd468⟩ : ∃ x, x = h466.2.1 170 80 := ⟨_, rfl⟩
                          have rsd468 : 0 ≤ sd468 ∧ sd468 ≤ 2000000000 := (by rw [esd468]; exact mi_g k467.1 (by decide) mr_170_80)
                          refine A_iload d_MD_judgeEvent_133 rfl ?_
                          refine A_iload_n 1 d_MD_judgeEvent_135 rfl rfl ?_
                          refine A_icmp_ge (tgt := 168) d_MD_judgeEvent_136 (by decide) (fun c469 => ?_) (fun c469 => ?_)
                          · exact A_vret d_MD_judgeEvent_168 (by decide) rfl ⟨rfl, (by have qq0 := esd468.symm; omega), k467⟩
                          · refine A_iload_n 2 d_MD_judgeEvent_139 rfl rfl ?_
                            refine A_if_le (tgt := 162) d_MD_judgeEvent_140 (by decide) (fun c => False.elim (by omega)) (fun c470 => ?_)
                            refine A_aload_n 0 d_MD_judgeEvent_143 rfl rfl ?_
                            refine A_iload_n 3 d_MD_judgeEvent_144 rfl rfl ?_
                            refine A_iload d_MD_judgeEvent_145 rfl ?_
                            refine A_callV2 m_MD_goesAlong T_ok d_MD_judgeEvent_147 l_MD_526 k_MD_goesAlong (mi_s k467.1 sf_170) rfl (by decide +kernel) (by decide) (Nat.le_of_ble_eq_true rfl) (s_MD_goesAlong k467.1 (by omega) (by omega) (by omega) (by omega)) (fun r h471 hq => ?_)
                            obtain ⟨x473, rfl, bx473, rfl⟩ := hq
                            refine A_if_eq (tgt := 162) d_MD_judgeEvent_150 (by decide) (fun c474 => ?_) (fun c474 => ?_)
                            · refine A_iincv (z := (i465 + 1)) (L' := [some (av_R (some 170)), some (av_I a1), some (av_I a2), some (av_I (300 * a1 + a2)), some (av_I (i465 + 1))]) d_MD_judgeEvent_162 rfl (w32_to (by omega) (by unfold i32; omega)) rfl ?_
                              refine A_goto (tgt := 133) d_MD_judgeEvent_165 (by decide) ?_
                              exact ih133 (i465 + 1) h466 (by omega) (by omega) (by have qq0 := esd468.symm; omega) k467 (by omega)
                            · refine A_aload_n 0 d_MD_judgeEvent_153 rfl rfl ?_
                              refine A_iconst d_MD_judgeEvent_154 rfl ?_
                              refine A_iload_n 1 d_MD_judgeEvent_155 rfl rfl ?_
                              refine A_iload_n 2 d_MD_judgeEvent_156 rfl rfl ?_
                              refine A_iload d_MD_judgeEvent_157 rfl ?_
                              refine A_pc (pc' := 159) rfl ?_
                              have zf476 := esd468.symm
                              refine A_callV4 m_MD_tell T_ok d_MD_judgeEvent_159 l_MD_510 k_MD_tell (mi_s k467.1 sf_170) rfl (by decide +kernel) (by decide) (Nat.le_of_ble_eq_true rfl) (s_MD_tell k467.1 (by have qq0 := esd468.symm; omega)) (fun r h475 hq => ?_)
                              obtain ⟨rfl, xk477, k477⟩ := hq
                              have k478 := kM_t k467 k477 (pm_s (by decide) (by decide))
                              obtain ⟨sd479, esd479⟩ : ∃ x, x = h475.2.1 170 80 := ⟨_, rfl⟩
                              have rsd479 : 0 ≤ sd479 ∧ sd479 ≤ 2000000000 := (by rw [esd479]; exact mi_g k478.1 (by decide) mr_170_80)
                              refine A_iincv (z := (i465 + 1)) (L' := [some (av_R (some 170)), some (av_I a1), some (av_I a2), some (av_I (300 * a1 + a2)), some (av_I (i465 + 1))]) d_MD_judgeEvent_162 rfl (w32_to (by omega) (by unfold i32; omega)) rfl ?_
                              refine A_goto (tgt := 133) d_MD_judgeEvent_165 (by decide) ?_
                              exact ih133 (i465 + 1) h475 (by omega) (by omega) (by have qq0 := esd479.symm; omega) k478 (by omega)
                      exact lp133 _ 0 h461 (by omega) (by omega) (by have qq0 := esd463.symm; omega) k462 (Nat.lt_succ_self _)
                    · refine A_aload_n 0 d_MD_judgeEvent_105 rfl rfl ?_
                      refine A_iload_n 3 d_MD_judgeEvent_106 rfl rfl ?_
                      refine A_iload d_MD_judgeEvent_107 rfl ?_
                      have zf481 := esd463.symm
                      refine A_callV2 m_MD_crosses T_ok d_MD_judgeEvent_109 l_MD_523 k_MD_crosses (mi_s k462.1 sf_170) rfl (by decide +kernel) (by decide) (Nat.le_of_ble_eq_true rfl) (s_MD_crosses k462.1 (by omega) (by omega) (by omega) (by omega) (KS_s hKS k462 (by decide) (fun k => ⟨rfl, rfl⟩) (fun k => ⟨rfl, rfl, rfl, rfl, rfl, rfl⟩)) (by have q1 := k462.2.2.1 172 0 rfl; omega) (EV_s he (by intro a ha; simp only [List.mem_cons, List.not_mem_nil, or_false] at ha; rcases ha with rfl | rfl | rfl | rfl <;> exact k462.2.2.2 _ _ rfl)) (by have q1 := k462.2.2.1 191 ((300 * a1 + a2)).toNat rfl; omega)) (fun r h480 hq => ?_)
                      obtain ⟨x483, rfl, bx483, k482⟩ := hq
                      have k484 := kM_t k462 k482 (pm_s (by decide) (by decide))
                      refine A_if_eq (tgt := 124) d_MD_judgeEvent_112 (by decide) (fun c485 => ?_) (fun c485 => ?_)
                      · refine A_iincv (z := (i460 + 1)) (L' := [some (av_R (some 170)), some (av_I a1), some (av_I a2), some (av_I (300 * a1 + a2)), some (av_I (i460 + 1))]) d_MD_judgeEvent_124 rfl (w32_to (by omega) (by unfold i32; omega)) rfl ?_
                        refine A_goto (tgt := 99) d_MD_judgeEvent_127 (by decide) ?_
                        exact ih99 (i460 + 1) h480 (by omega) (by omega) (by have qq0 := ((k482.2.2.1 _ _ rfl).trans esd463.symm); omega) k484 (by omega)
                      · refine A_aload_n 0 d_MD_judgeEvent_115 rfl rfl ?_
                        refine A_iconst d_MD_judgeEvent_116 rfl ?_
                        refine A_iload_n 1 d_MD_judgeEvent_117 rfl rfl ?_
                        refine A_iload_n 2 d_MD_judgeEvent_118 rfl rfl ?_
                        refine A_iload d_MD_judgeEvent_119 rfl ?_
                        refine A_pc (pc' := 121) rfl ?_
                        have zf487 := ((k482.2.2.1 _ _ rfl).trans esd463.symm)
                        refine A_callV4 m_MD_tell T_ok d_MD_judgeEvent_121 l_MD_510 k_MD_tell (mi_s k484.1 sf_170) rfl (by decide +kernel) (by decide) (Nat.le_of_ble_eq_true rfl) (s_MD_tell k484.1 (by have qq0 := ((k482.2.2.1 _ _ rfl).trans esd463.symm); omega)) (fun r h486 hq => ?_)
                        obtain ⟨rfl, xk488, k488⟩ := hq
                        have k489 := kM_t k484 k488 (pm_s (by decide) (by decide))
                        obtain ⟨sd490, esd490⟩ : ∃ x, x = h486.2.1 170 80 := ⟨_, rfl⟩
                        have rsd490 : 0 ≤ sd490 ∧ sd490 ≤ 2000000000 := (by rw [esd490]; exact mi_g k489.1 (by decide) mr_170_80)
                        refine A_iincv (z := (i460 + 1)) (L' := [some (av_R (some 170)), some (av_I a1), some (av_I a2), some (av_I (300 * a1 + a2)), some (av_I (i460 + 1))]) d_MD_judgeEvent_124 rfl (w32_to (by omega) (by unfold i32; omega)) rfl ?_
                        refine A_goto (tgt := 99) d_MD_judgeEvent_127 (by decide) ?_
                        exact ih99 (i460 + 1) h486 (by omega) (by omega) (by have qq0 := esd490.symm; omega) k489 (by omega)
                exact lp99 _ 0 h351 (by omega) (by omega) (by have qq0 := esd355.symm; omega) k354 (Nat.lt_succ_self _)
              · refine A_aload_n 0 d_MD_judgeEvent_88 rfl rfl ?_
                refine A_iconst d_MD_judgeEvent_89 rfl ?_
                refine A_iload_n 1 d_MD_judgeEvent_90 rfl rfl ?_
                refine A_iload_n 2 d_MD_judgeEvent_91 rfl rfl ?_
                refine A_iconst d_MD_judgeEvent_92 rfl ?_
                refine A_pc (pc' := 93) rfl ?_
                have zf492 := esd355.symm
                refine A_callV4 m_MD_tell T_ok d_MD_judgeEvent_93 l_MD_510 k_MD_tell (mi_s k354.1 sf_170) rfl (by decide +kernel) (by decide) (Nat.le_of_ble_eq_true rfl) (s_MD_tell k354.1 (by have qq0 := esd355.symm; omega)) (fun r h491 hq => ?_)
                obtain ⟨rfl, xk493, k493⟩ := hq
                have k494 := kM_t k354 k493 (pm_s (by decide) (by decide))
                obtain ⟨sd495, esd495⟩ : ∃ x, x = h491.2.1 170 80 := ⟨_, rfl⟩
                have rsd495 : 0 ≤ sd495 ∧ sd495 ≤ 2000000000 := (by rw [esd495]; exact mi_g k494.1 (by decide) mr_170_80)
                refine A_iconst d_MD_judgeEvent_96 rfl ?_
                refine A_istore (L' := [some (av_R (some 170)), some (av_I a1), some (av_I a2), some (av_I (300 * a1 + a2)), some (av_I 0)]) d_MD_judgeEvent_97 (Nat.le_of_ble_eq_true rfl) rfl ?_
                have lp99 : ∀ (n : Nat) (i496 : Int) (h497 : ah_T) , 0 ≤ i496 → i496 ≤ 3 → (h497.2.1 170 80 ≤ h.2.1 170 80 + 2 + i496 ∧ 0 ≤ h497.2.1 170 80 ∧ i496 ≤ a1) → kM (pm [65, 66, 80] [221, 222, 223, 224]) h h497 → (4 - i496).toNat < n → aw G (rm_R 5 0 0) m_MD_judgeEvent 0 0 99 [some (av_R (some 170)), some (av_I a1), some (av_I a2), some (av_I (300 * a1 + a2)), some (av_I i496)] [] h497 (fun r h' => r = none ∧ (h'.2.1 170 80 ≤ h.2.1 170 80 + (2 + 2 * a1)) ∧ kM (pm [65, 66, 80] [221, 222, 223, 224]) h h') := by
                  intro n
                  induction n with
                  | zero => intro i496 h497 _ _ _ _ hm; omega
                  | succ n ih99 =>
                    intro i496 h497 hl0 hl1 hinv k498 hm
                    obtain ⟨sd499, esd499⟩ : ∃ x, x = h497.2.1 170 80 := ⟨_, rfl⟩
                    have rsd499 : 0 ≤ sd499 ∧ sd499 ≤ 2000000000 := (by rw [esd499]; exact mi_g k498.1 (by decide) mr_170_80)
                    refine A_iload d_MD_judgeEvent_99 rfl ?_
                    refine A_iload_n 1 d_MD_judgeEvent_101 rfl rfl ?_
                    refine A_icmp_ge (tgt := 130) d_MD_judgeEvent_102 (by decide) (fun c500 => ?_) (fun c500 => ?_)
                    · refine A_iconst d_MD_judgeEvent_130 rfl ?_
                      refine A_istore (L' := [some (av_R (some 170)), some (av_I a1), some (av_I a2), some (av_I (300 * a1 + a2)), some (av_I 0)]) d_MD_judgeEvent_131 (Nat.le_of_ble_eq_true rfl) rfl ?_
                      have lp133 : ∀ (n : Nat) (i501 : Int) (h502 : ah_T) , 0 ≤ i501 → i501 ≤ 3 → (h502.2.1 170 80 ≤ h.2.1 170 80 + 2 + a1 + i501 ∧ 0 ≤ h502.2.1 170 80 ∧ i501 ≤ a1) → kM (pm [65, 66, 80] [221, 222, 223, 224]) h h502 → (4 - i501).toNat < n → aw G (rm_R 5 0 0) m_MD_judgeEvent 0 0 133 [some (av_R (some 170)), some (av_I a1), some (av_I a2), some (av_I (300 * a1 + a2)), some (av_I i501)] [] h502 (fun r h' => r = none ∧ (h'.2.1 170 80 ≤ h.2.1 170 80 + (2 + 2 * a1)) ∧ kM (pm [65, 66, 80] [221, 222, 223, 224]) h h') := by
                        intro n
                        induction n with
                        | zero => intro i501 h502 _ _ _ _ hm; omega
                        | succ n ih133 =>
                          intro i501 h502 hl0 hl1 hinv k503 hm
                          obtain ⟨sd504, esd504⟩ : ∃ x, x = h502.2.1 170 80 := ⟨_, rfl⟩
                          have rsd504 : 0 ≤ sd504 ∧ sd504 ≤ 2000000000 := (by rw [esd504]; exact mi_g k503.1 (by decide) mr_170_80)
                          refine A_iload d_MD_judgeEvent_133 rfl ?_
                          refine A_iload_n 1 d_MD_judgeEvent_135 rfl rfl ?_
                          refine A_icmp_ge (tgt := 168) d_MD_judgeEvent_136 (by decide) (fun c505 => ?_) (fun c505 => ?_)
                          · exact A_vret d_MD_judgeEvent_168 (by decide) rfl ⟨rfl, (by have qq0 := esd504.symm; omega), k503⟩
                          · refine A_iload_n 2 d_MD_judgeEvent_139 rfl rfl ?_
                            refine A_if_le (tgt := 162) d_MD_judgeEvent_140 (by decide) (fun c => False.elim (by omega)) (fun c506 => ?_)
                            refine A_aload_n 0 d_MD_judgeEvent_143 rfl rfl ?_
                            refine A_iload_n 3 d_MD_judgeEvent_144 rfl rfl ?_
                            refine A_iload d_MD_judgeEvent_145 rfl ?_
                            refine A_callV2 m_MD_goesAlong T_ok d_MD_judgeEvent_147 l_MD_526 k_MD_goesAlong (mi_s k503.1 sf_170) rfl (by decide +kernel) (by decide) (Nat.le_of_ble_eq_true rfl) (s_MD_goesAlong k503.1 (by omega) (by omega) (by omega) (by omega)) (fun r h507 hq => ?_)
                            obtain ⟨x509, rfl, bx509, rfl⟩ := hq
                            refine A_if_eq (tgt := 162) d_MD_judgeEvent_150 (by decide) (fun c510 => ?_) (fun c510 => ?_)
                            · refine A_iincv (z := (i501 + 1)) (L' := [some (av_R (some 170)), some (av_I a1), some (av_I a2), some (av_I (300 * a1 + a2)), some (av_I (i501 + 1))]) d_MD_judgeEvent_162 rfl (w32_to (by omega) (by unfold i32; omega)) rfl ?_
                              refine A_goto (tgt := 133) d_MD_judgeEvent_165 (by decide) ?_
                              exact ih133 (i501 + 1) h502 (by omega) (by omega) (by have qq0 := esd504.symm; omega) k503 (by omega)
                            · refine A_aload_n 0 d_MD_judgeEvent_153 rfl rfl ?_
                              refine A_iconst d_MD_judgeEvent_154 rfl ?_
                              refine A_iload_n 1 d_MD_judgeEvent_155 rfl rfl ?_
                              refine A_iload_n 2 d_MD_judgeEvent_156 rfl rfl ?_
                              refine A_iload d_MD_judgeEvent_157 rfl ?_
                              refine A_pc (pc' := 159) rfl ?_
                              have zf512 := esd504.symm
                              refine A_callV4 m_MD_tell T_ok d_MD_judgeEvent_159 l_MD_510 k_MD_tell (mi_s k503.1 sf_170) rfl (by decide +kernel) (by decide) (Nat.le_of_ble_eq_true rfl) (s_MD_tell k503.1 (by have qq0 := esd504.symm; omega)) (fun r h511 hq => ?_)
                              obtain ⟨rfl, xk513, k513⟩ := hq
                              have k514 := kM_t k503 k513 (pm_s (by decide) (by decide))
                              obtain ⟨sd515, esd515⟩ : ∃ x, x = h511.2.1 170 80 := ⟨_, rfl⟩
                              have rsd515 : 0 ≤ sd515 ∧ sd515 ≤ 2000000000 := (by rw [esd515]; exact mi_g k514.1 (by decide) mr_170_80)
                              refine A_iincv (z := (i501 + 1)) (L' := [some (av_R (some 170)), some (av_I a1), some (av_I a2), some (av_I (300 * a1 + a2)), some (av_I (i501 + 1))]) d_MD_judgeEvent_162 rfl (w32_to (by omega) (by unfold i32; omega)) rfl ?_
                              refine A_goto (tgt := 133) d_MD_judgeEvent_165 (by decide) ?_
                              exact ih133 (i501 + 1) h511 (by omega) (by omega) (by have qq0 := esd515.symm; omega) k514 (by omega)
                      exact lp133 _ 0 h497 (by omega) (by omega) (by have qq0 := esd499.symm; omega) k498 (Nat.lt_succ_self _)
                    · refine A_aload_n 0 d_MD_judgeEvent_105 rfl rfl ?_
                      refine A_iload_n 3 d_MD_judgeEvent_106 rfl rfl ?_
                      refine A_iload d_MD_judgeEvent_107 rfl ?_
                      have zf517 := esd499.symm
                      refine A_callV2 m_MD_crosses T_ok d_MD_judgeEvent_109 l_MD_523 k_MD_crosses (mi_s k498.1 sf_170) rfl (by decide +kernel) (by decide) (Nat.le_of_ble_eq_true rfl) (s_MD_crosses k498.1 (by omega) (by omega) (by omega) (by omega) (KS_s hKS k498 (by decide) (fun k => ⟨rfl, rfl⟩) (fun k => ⟨rfl, rfl, rfl, rfl, rfl, rfl⟩)) (by have q1 := k498.2.2.1 172 0 rfl; omega) (EV_s he (by intro a ha; simp only [List.mem_cons, List.not_mem_nil, or_false] at ha; rcases ha with rfl | rfl | rfl | rfl <;> exact k498.2.2.2 _ _ rfl)) (by have q1 := k498.2.2.1 191 ((300 * a1 + a2)).toNat rfl; omega)) (fun r h516 hq => ?_)
                      obtain ⟨x519, rfl, bx519, k518⟩ := hq
                      have k520 := kM_t k498 k518 (pm_s (by decide) (by decide))
                      refine A_if_eq (tgt := 124) d_MD_judgeEvent_112 (by decide) (fun c521 => ?_) (fun c521 => ?_)
                      · refine A_iincv (z := (i496 + 1)) (L' := [some (av_R (some 170)), some (av_I a1), some (av_I a2), some (av_I (300 * a1 + a2)), some (av_I (i496 + 1))]) d_MD_judgeEvent_124 rfl (w32_to (by omega) (by unfold i32; omega)) rfl ?_
                        refine A_goto (tgt := 99) d_MD_judgeEvent_127 (by decide) ?_
                        exact ih99 (i496 + 1) h516 (by omega) (by omega) (by have qq0 := ((k518.2.2.1 _ _ rfl).trans esd499.symm); omega) k520 (by omega)
                      · refine A_aload_n 0 d_MD_judgeEvent_115 rfl rfl ?_
                        refine A_iconst d_MD_judgeEvent_116 rfl ?_
                        refine A_iload_n 1 d_MD_judgeEvent_117 rfl rfl ?_
                        refine A_iload_n 2 d_MD_judgeEvent_118 rfl rfl ?_
                        refine A_iload d_MD_judgeEvent_119 rfl ?_
                        refine A_pc (pc' := 121) rfl ?_
                        have zf523 := ((k518.2.2.1 _ _ rfl).trans esd499.symm)
                        refine A_callV4 m_MD_tell T_ok d_MD_judgeEvent_121 l_MD_510 k_MD_tell (mi_s k520.1 sf_170) rfl (by decide +kernel) (by decide) (Nat.le_of_ble_eq_true rfl) (s_MD_tell k520.1 (by have qq0 := ((k518.2.2.1 _ _ rfl).trans esd499.symm); omega)) (fun r h522 hq => ?_)
                        obtain ⟨rfl, xk524, k524⟩ := hq
                        have k525 := kM_t k520 k524 (pm_s (by decide) (by decide))
                        obtain ⟨sd526, esd526⟩ : ∃ x, x = h522.2.1 170 80 := ⟨_, rfl⟩
                        have rsd526 : 0 ≤ sd526 ∧ sd526 ≤ 2000000000 := (by rw [esd526]; exact mi_g k525.1 (by decide) mr_170_80)
                        refine A_iincv (z := (i496 + 1)) (L' := [some (av_R (some 170)), some (av_I a1), some (av_I a2), some (av_I (300 * a1 + a2)), some (av_I (i496 + 1))]) d_MD_judgeEvent_124 rfl (w32_to (by omega) (by unfold i32; omega)) rfl ?_
                        refine A_goto (tgt := 99) d_MD_judgeEvent_127 (by decide) ?_
                        exact ih99 (i496 + 1) h522 (by omega) (by omega) (by have qq0 := esd526.symm; omega) k525 (by omega)
                exact lp99 _ 0 h491 (by omega) (by omega) (by have qq0 := esd495.symm; omega) k494 (Nat.lt_succ_self _)
      · exact A_vret d_MD_judgeEvent_43 (by decide) rfl ⟨rfl, (by have qq0 := esd355.symm; omega), k354⟩
