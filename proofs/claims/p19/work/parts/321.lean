/-! ===== the reference's methods, 321 ===== -/
def m_MD_lay : mr_T := (⟨"PlainMusicModel", "lay", "(I)V"⟩, prog_14_method_3_code, 3, none)
theorem mr_170_1 : mr 170 1 = (0, 2000) := by decide +kernel
theorem d_MD_lay_0 : decode prog_14_method_3_code 0 = .ok (.bipush 24, 2) := by decide +kernel
theorem d_MD_lay_2 : decode prog_14_method_3_code 2 = .ok (.istore_n 2, 1) := by decide +kernel
theorem d_MD_lay_3 : decode prog_14_method_3_code 3 = .ok (.iload_n 2, 1) := by decide +kernel
theorem d_MD_lay_4 : decode prog_14_method_3_code 4 = .ok (.ifCond .lt 35, 3) := by decide +kernel
theorem d_MD_lay_7 : decode prog_14_method_3_code 7 = .ok (.aload_n 0, 1) := by decide +kernel
theorem d_MD_lay_8 : decode prog_14_method_3_code 8 = .ok (.getfield 7, 3) := by decide +kernel
theorem sf_170 : sh_L[170]? = some (12 + 4, 111) := by decide +kernel
theorem rfm_0 : (0, 171) ∈ mf_L := by decide +kernel
theorem d_MD_lay_11 : decode prog_14_method_3_code 11 = .ok (.aload_n 0, 1) := by decide +kernel
theorem d_MD_lay_12 : decode prog_14_method_3_code 12 = .ok (.getfield 226, 3) := by decide +kernel
theorem f_MD_226 : fl_OK "PlainMusicModel" 226 12 1 .int false := ⟨_, rfl, by decide, gwi_1483, rfl, rfl⟩
theorem d_MD_lay_15 : decode prog_14_method_3_code 15 = .ok (.iload_n 1, 1) := by decide +kernel
theorem d_MD_lay_16 : decode prog_14_method_3_code 16 = .ok (.iload_n 2, 1) := by decide +kernel
theorem d_MD_lay_17 : decode prog_14_method_3_code 17 = .ok (.ishr, 1) := by decide +kernel
theorem d_MD_lay_18 : decode prog_14_method_3_code 18 = .ok (.sipush 255, 3) := by decide +kernel
theorem d_MD_lay_21 : decode prog_14_method_3_code 21 = .ok (.iand, 1) := by decide +kernel
theorem d_MD_lay_22 : decode prog_14_method_3_code 22 = .ok (.iastore, 1) := by decide +kernel
theorem sf_171 : sh_L[171]? = some (0, 2000) := by decide +kernel
theorem mr_171 (k : Nat) : mr 171 k = (0, 255) := rfl
theorem d_MD_lay_23 : decode prog_14_method_3_code 23 = .ok (.aload_n 0, 1) := by decide +kernel
theorem d_MD_lay_24 : decode prog_14_method_3_code 24 = .ok (.dup, 1) := by decide +kernel
theorem d_MD_lay_25 : decode prog_14_method_3_code 25 = .ok (.getfield 226, 3) := by decide +kernel
theorem d_MD_lay_28 : decode prog_14_method_3_code 28 = .ok (.iconst 1, 1) := by decide +kernel
theorem d_MD_lay_29 : decode prog_14_method_3_code 29 = .ok (.iadd, 1) := by decide +kernel
theorem d_MD_lay_30 : decode prog_14_method_3_code 30 = .ok (.putfield 226, 3) := by decide +kernel
theorem d_MD_lay_33 : decode prog_14_method_3_code 33 = .ok (.iinc 2 (-8), 3) := by decide +kernel
theorem d_MD_lay_36 : decode prog_14_method_3_code 36 = .ok (.goto (-33), 3) := by decide +kernel
theorem d_MD_lay_39 : decode prog_14_method_3_code 39 = .ok (.return_, 1) := by decide +kernel
def m_MD_feed : mr_T := (⟨"PlainMusicModel", "feed", "(IIIII)I"⟩, prog_14_method_2_code, 6, some .int)
theorem d_MD_feed_0 : decode prog_14_method_2_code 0 = .ok (.aload_n 0, 1) := by decide +kernel
theorem d_MD_feed_1 : decode prog_14_method_2_code 1 = .ok (.getfield 226, 3) := by decide +kernel
theorem d_MD_feed_4 : decode prog_14_method_2_code 4 = .ok (.bipush 20, 2) := by decide +kernel
theorem d_MD_feed_6 : decode prog_14_method_2_code 6 = .ok (.iadd, 1) := by decide +kernel
theorem d_MD_feed_7 : decode prog_14_method_2_code 7 = .ok (.sipush 2000, 3) := by decide +kernel
theorem d_MD_feed_10 : decode prog_14_method_2_code 10 = .ok (.if_icmp .le 6, 3) := by decide +kernel
theorem d_MD_feed_16 : decode prog_14_method_2_code 16 = .ok (.aload_n 0, 1) := by decide +kernel
theorem d_MD_feed_17 : decode prog_14_method_2_code 17 = .ok (.iload_n 1, 1) := by decide +kernel
theorem d_MD_feed_18 : decode prog_14_method_2_code 18 = .ok (.invokevirtual 229, 3) := by decide +kernel
theorem k_MD_lay : mt_OK m_MD_lay 1 1 := ⟨gwi_1823, gwi_146, ⟨by decide +kernel, by decide +kernel, by decide +kernel⟩, fun h => absurd h (by decide), fun _ => ⟨gwi_1822, gwi_59⟩, fun h => absurd h (by decide)⟩
theorem l_MD_229 : ml_OK "PlainMusicModel" 229 ⟨"PlainMusicModel", "lay", "(I)V"⟩ := Or.inl gwi_1820
theorem d_MD_feed_21 : decode prog_14_method_2_code 21 = .ok (.aload_n 0, 1) := by decide +kernel
theorem d_MD_feed_22 : decode prog_14_method_2_code 22 = .ok (.iload_n 2, 1) := by decide +kernel
theorem d_MD_feed_23 : decode prog_14_method_2_code 23 = .ok (.invokevirtual 229, 3) := by decide +kernel
theorem d_MD_feed_26 : decode prog_14_method_2_code 26 = .ok (.aload_n 0, 1) := by decide +kernel
theorem d_MD_feed_27 : decode prog_14_method_2_code 27 = .ok (.iload_n 3, 1) := by decide +kernel
theorem d_MD_feed_28 : decode prog_14_method_2_code 28 = .ok (.invokevirtual 229, 3) := by decide +kernel
theorem d_MD_feed_31 : decode prog_14_method_2_code 31 = .ok (.aload_n 0, 1) := by decide +kernel
theorem d_MD_feed_32 : decode prog_14_method_2_code 32 = .ok (.iload 4, 2) := by decide +kernel
theorem d_MD_feed_34 : decode prog_14_method_2_code 34 = .ok (.invokevirtual 229, 3) := by decide +kernel
theorem d_MD_feed_37 : decode prog_14_method_2_code 37 = .ok (.aload_n 0, 1) := by decide +kernel
theorem d_MD_feed_38 : decode prog_14_method_2_code 38 = .ok (.iload 5, 2) := by decide +kernel
theorem d_MD_feed_40 : decode prog_14_method_2_code 40 = .ok (.invokevirtual 229, 3) := by decide +kernel
theorem d_MD_feed_43 : decode prog_14_method_2_code 43 = .ok (.aload_n 0, 1) := by decide +kernel
theorem d_MD_feed_44 : decode prog_14_method_2_code 44 = .ok (.getfield 226, 3) := by decide +kernel
theorem d_MD_feed_47 : decode prog_14_method_2_code 47 = .ok (.ireturn, 1) := by decide +kernel
theorem d_MD_feed_13 : decode prog_14_method_2_code 13 = .ok (.bipush (-3), 2) := by decide +kernel
theorem d_MD_feed_15 : decode prog_14_method_2_code 15 = .ok (.ireturn, 1) := by decide +kernel
def m_MD_cut : mr_T := (⟨"PlainMusicModel", "cut", "(I)I"⟩, prog_14_method_4_code, 2, some .int)
theorem d_MD_cut_0 : decode prog_14_method_4_code 0 = .ok (.iload_n 1, 1) := by decide +kernel
theorem d_MD_cut_1 : decode prog_14_method_4_code 1 = .ok (.ifCond .lt 11, 3) := by decide +kernel
theorem d_MD_cut_12 : decode prog_14_method_4_code 12 = .ok (.iconst (-1), 1) := by decide +kernel
theorem d_MD_cut_13 : decode prog_14_method_4_code 13 = .ok (.ireturn, 1) := by decide +kernel
theorem d_MD_cut_4 : decode prog_14_method_4_code 4 = .ok (.iload_n 1, 1) := by decide +kernel
theorem d_MD_cut_5 : decode prog_14_method_4_code 5 = .ok (.aload_n 0, 1) := by decide +kernel
theorem d_MD_cut_6 : decode prog_14_method_4_code 6 = .ok (.getfield 226, 3) := by decide +kernel
theorem d_MD_cut_9 : decode prog_14_method_4_code 9 = .ok (.if_icmp .le 5, 3) := by decide +kernel
theorem d_MD_cut_14 : decode prog_14_method_4_code 14 = .ok (.aload_n 0, 1) := by decide +kernel
theorem d_MD_cut_15 : decode prog_14_method_4_code 15 = .ok (.dup, 1) := by decide +kernel
theorem d_MD_cut_16 : decode prog_14_method_4_code 16 = .ok (.getfield 226, 3) := by decide +kernel
theorem d_MD_cut_19 : decode prog_14_method_4_code 19 = .ok (.iload_n 1, 1) := by decide +kernel
theorem d_MD_cut_20 : decode prog_14_method_4_code 20 = .ok (.isub, 1) := by decide +kernel
theorem d_MD_cut_21 : decode prog_14_method_4_code 21 = .ok (.putfield 226, 3) := by decide +kernel
theorem d_MD_cut_24 : decode prog_14_method_4_code 24 = .ok (.aload_n 0, 1) := by decide +kernel
theorem d_MD_cut_25 : decode prog_14_method_4_code 25 = .ok (.getfield 226, 3) := by decide +kernel
theorem d_MD_cut_28 : decode prog_14_method_4_code 28 = .ok (.ireturn, 1) := by decide +kernel
def m_MD_wrong : mr_T := (⟨"PlainMusicModel", "wrong", "(II)Z"⟩, prog_14_method_5_code, 3, some .boolean)
theorem d_MD_wrong_0 : decode prog_14_method_5_code 0 = .ok (.aload_n 0, 1) := by decide +kernel
theorem d_MD_wrong_1 : decode prog_14_method_5_code 1 = .ok (.getfield 233, 3) := by decide +kernel
theorem f_MD_233 : fl_OK "PlainMusicModel" 233 12 11 .int false := ⟨_, rfl, by decide, gwi_1493, rfl, rfl⟩
theorem mr_170_11 : mr 170 11 = (0, 7) := by decide +kernel
theorem d_MD_wrong_4 : decode prog_14_method_5_code 4 = .ok (.ifCond .ne 13, 3) := by decide +kernel
theorem d_MD_wrong_17 : decode prog_14_method_5_code 17 = .ok (.iconst 0, 1) := by decide +kernel
theorem d_MD_wrong_18 : decode prog_14_method_5_code 18 = .ok (.ireturn, 1) := by decide +kernel
theorem d_MD_wrong_7 : decode prog_14_method_5_code 7 = .ok (.aload_n 0, 1) := by decide +kernel
theorem d_MD_wrong_8 : decode prog_14_method_5_code 8 = .ok (.iload_n 1, 1) := by decide +kernel
theorem d_MD_wrong_9 : decode prog_14_method_5_code 9 = .ok (.putfield 233, 3) := by decide +kernel
theorem d_MD_wrong_12 : decode prog_14_method_5_code 12 = .ok (.aload_n 0, 1) := by decide +kernel
theorem d_MD_wrong_13 : decode prog_14_method_5_code 13 = .ok (.iload_n 2, 1) := by decide +kernel
theorem d_MD_wrong_14 : decode prog_14_method_5_code 14 = .ok (.putfield 236, 3) := by decide +kernel
theorem f_MD_236 : fl_OK "PlainMusicModel" 236 12 12 .int false := ⟨_, rfl, by decide, gwi_1494, rfl, rfl⟩
theorem mr_170_12 : mr 170 12 = (0, 2000) := by decide +kernel
def m_MD_cant : mr_T := (⟨"PlainMusicModel", "cant", "()Z"⟩, prog_14_method_6_code, 1, some .boolean)
theorem d_MD_cant_0 : decode prog_14_method_6_code 0 = .ok (.aload_n 0, 1) := by decide +kernel
theorem d_MD_cant_1 : decode prog_14_method_6_code 1 = .ok (.aload_n 0, 1) := by decide +kernel
theorem d_MD_cant_2 : decode prog_14_method_6_code 2 = .ok (.getfield 239, 3) := by decide +kernel
theorem f_MD_239 : fl_OK "PlainMusicModel" 239 12 4 .int false := ⟨_, rfl, by decide, gwi_1486, rfl, rfl⟩
theorem mr_170_4 : mr 170 4 = (0, 6) := by decide +kernel
theorem d_MD_cant_5 : decode prog_14_method_6_code 5 = .ok (.bipush 6, 2) := by decide +kernel
theorem d_MD_cant_7 : decode prog_14_method_6_code 7 = .ok (.if_icmp .ne 7, 3) := by decide +kernel
theorem d_MD_cant_14 : decode prog_14_method_6_code 14 = .ok (.iconst 2, 1) := by decide +kernel
theorem d_MD_cant_15 : decode prog_14_method_6_code 15 = .ok (.aload_n 0, 1) := by decide +kernel
theorem d_MD_cant_16 : decode prog_14_method_6_code 16 = .ok (.getfield 242, 3) := by decide +kernel
theorem f_MD_242 : fl_OK "PlainMusicModel" 242 12 5 .int false := ⟨_, rfl, by decide, gwi_1487, rfl, rfl⟩
theorem mr_170_5 : mr 170 5 = (0, 2000) := by decide +kernel
theorem d_MD_cant_19 : decode prog_14_method_6_code 19 = .ok (.invokevirtual 245, 3) := by decide +kernel
theorem k_MD_wrong : mt_OK m_MD_wrong 2 1 := ⟨gwi_1885, gwi_146, ⟨by decide +kernel, by decide +kernel, by decide +kernel⟩, fun h => absurd h (by decide), fun _ => ⟨gwi_1884, gwi_71⟩, fun h => absurd h (by decide)⟩
theorem l_MD_245 : ml_OK "PlainMusicModel" 245 ⟨"PlainMusicModel", "wrong", "(II)Z"⟩ := Or.inl gwi_1882
theorem d_MD_cant_22 : decode prog_14_method_6_code 22 = .ok (.ireturn, 1) := by decide +kernel
theorem d_MD_cant_10 : decode prog_14_method_6_code 10 = .ok (.iconst 1, 1) := by decide +kernel
theorem d_MD_cant_11 : decode prog_14_method_6_code 11 = .ok (.goto 4, 3) := by decide +kernel
def m_MD_at : mr_T := (⟨"PlainMusicModel", "at", "(I)I"⟩, prog_14_method_7_code, 2, some .int)
theorem d_MD_at_0 : decode prog_14_method_7_code 0 = .ok (.iload_n 1, 1) := by decide +kernel
theorem d_MD_at_1 : decode prog_14_method_7_code 1 = .ok (.aload_n 0, 1) := by decide +kernel
theorem d_MD_at_2 : decode prog_14_method_7_code 2 = .ok (.getfield 249, 3) := by decide +kernel
theorem f_MD_249 : fl_OK "PlainMusicModel" 249 12 2 .int false := ⟨_, rfl, by decide, gwi_1484, rfl, rfl⟩
theorem mr_170_2 : mr 170 2 = (0, 2000) := by decide +kernel
theorem d_MD_at_5 : decode prog_14_method_7_code 5 = .ok (.if_icmp .ge 12, 3) := by decide +kernel
theorem d_MD_at_17 : decode prog_14_method_7_code 17 = .ok (.iconst 0, 1) := by decide +kernel
theorem d_MD_at_18 : decode prog_14_method_7_code 18 = .ok (.ireturn, 1) := by decide +kernel
theorem d_MD_at_8 : decode prog_14_method_7_code 8 = .ok (.aload_n 0, 1) := by decide +kernel
theorem d_MD_at_9 : decode prog_14_method_7_code 9 = .ok (.getfield 7, 3) := by decide +kernel
theorem d_MD_at_12 : decode prog_14_method_7_code 12 = .ok (.iload_n 1, 1) := by decide +kernel
theorem d_MD_at_13 : decode prog_14_method_7_code 13 = .ok (.iaload, 1) := by decide +kernel
theorem d_MD_at_14 : decode prog_14_method_7_code 14 = .ok (.goto 4, 3) := by decide +kernel
def m_MD_isDigit : mr_T := (⟨"PlainMusicModel", "isDigit", "(I)Z"⟩, prog_14_method_8_code, 2, some .boolean)
theorem d_MD_isDigit_0 : decode prog_14_method_8_code 0 = .ok (.iload_n 1, 1) := by decide +kernel
theorem d_MD_isDigit_1 : decode prog_14_method_8_code 1 = .ok (.bipush 48, 2) := by decide +kernel
theorem d_MD_isDigit_3 : decode prog_14_method_8_code 3 = .ok (.if_icmp .lt 13, 3) := by decide +kernel
theorem d_MD_isDigit_16 : decode prog_14_method_8_code 16 = .ok (.iconst 0, 1) := by decide +kernel
theorem d_MD_isDigit_17 : decode prog_14_method_8_code 17 = .ok (.ireturn, 1) := by decide +kernel
theorem d_MD_isDigit_6 : decode prog_14_method_8_code 6 = .ok (.iload_n 1, 1) := by decide +kernel
theorem d_MD_isDigit_7 : decode prog_14_method_8_code 7 = .ok (.bipush 57, 2) := by decide +kernel
theorem d_MD_isDigit_9 : decode prog_14_method_8_code 9 = .ok (.if_icmp .gt 7, 3) := by decide +kernel
theorem d_MD_isDigit_12 : decode prog_14_method_8_code 12 = .ok (.iconst 1, 1) := by decide +kernel
theorem d_MD_isDigit_13 : decode prog_14_method_8_code 13 = .ok (.goto 4, 3) := by decide +kernel
def m_MD_isSmall : mr_T := (⟨"PlainMusicModel", "isSmall", "(I)Z"⟩, prog_14_method_9_code, 2, some .boolean)
theorem d_MD_isSmall_0 : decode prog_14_method_9_code 0 = .ok (.iload_n 1, 1) := by decide +kernel
theorem d_MD_isSmall_1 : decode prog_14_method_9_code 1 = .ok (.bipush 97, 2) := by decide +kernel
theorem d_MD_isSmall_3 : decode prog_14_method_9_code 3 = .ok (.if_icmp .lt 13, 3) := by decide +kernel
theorem d_MD_isSmall_16 : decode prog_14_method_9_code 16 = .ok (.iconst 0, 1) := by decide +kernel
theorem d_MD_isSmall_17 : decode prog_14_method_9_code 17 = .ok (.ireturn, 1) := by decide +kernel
theorem d_MD_isSmall_6 : decode prog_14_method_9_code 6 = .ok (.iload_n 1, 1) := by decide +kernel
theorem d_MD_isSmall_7 : decode prog_14_method_9_code 7 = .ok (.bipush 122, 2) := by decide +kernel
theorem d_MD_isSmall_9 : decode prog_14_method_9_code 9 = .ok (.if_icmp .gt 7, 3) := by decide +kernel
theorem d_MD_isSmall_12 : decode prog_14_method_9_code 12 = .ok (.iconst 1, 1) := by decide +kernel
theorem d_MD_isSmall_13 : decode prog_14_method_9_code 13 = .ok (.goto 4, 3) := by decide +kernel
def m_MD_whites : mr_T := (⟨"PlainMusicModel", "whites", "(I)I"⟩, prog_14_method_11_code, 3, some .int)
theorem d_MD_whites_0 : decode prog_14_method_11_code 0 = .ok (.iload_n 1, 1) := by decide +kernel
theorem d_MD_whites_1 : decode prog_14_method_11_code 1 = .ok (.bipush 65, 2) := by decide +kernel
theorem d_MD_whites_3 : decode prog_14_method_11_code 3 = .ok (.isub, 1) := by decide +kernel
theorem d_MD_whites_4 : decode prog_14_method_11_code 4 = .ok (.istore_n 2, 1) := by decide +kernel
theorem d_MD_whites_5 : decode prog_14_method_11_code 5 = .ok (.iload_n 2, 1) := by decide +kernel
theorem d_MD_whites_6 : decode prog_14_method_11_code 6 = .ok (.ifCond .ne 8, 3) := by decide +kernel
theorem d_MD_whites_14 : decode prog_14_method_11_code 14 = .ok (.iload_n 2, 1) := by decide +kernel
theorem d_MD_whites_15 : decode prog_14_method_11_code 15 = .ok (.iconst 1, 1) := by decide +kernel
theorem d_MD_whites_16 : decode prog_14_method_11_code 16 = .ok (.if_icmp .ne 8, 3) := by decide +kernel
theorem d_MD_whites_24 : decode prog_14_method_11_code 24 = .ok (.iload_n 2, 1) := by decide +kernel
theorem d_MD_whites_25 : decode prog_14_method_11_code 25 = .ok (.iconst 2, 1) := by decide +kernel
theorem d_MD_whites_26 : decode prog_14_method_11_code 26 = .ok (.if_icmp .ne 7, 3) := by decide +kernel
theorem d_MD_whites_33 : decode prog_14_method_11_code 33 = .ok (.iload_n 2, 1) := by decide +kernel
theorem d_MD_whites_34 : decode prog_14_method_11_code 34 = .ok (.iconst 3, 1) := by decide +kernel
theorem d_MD_whites_35 : decode prog_14_method_11_code 35 = .ok (.if_icmp .ne 7, 3) := by decide +kernel
theorem d_MD_whites_42 : decode prog_14_method_11_code 42 = .ok (.iload_n 2, 1) := by decide +kernel
theorem d_MD_whites_43 : decode prog_14_method_11_code 43 = .ok (.iconst 4, 1) := by decide +kernel
theorem d_MD_whites_44 : decode prog_14_method_11_code 44 = .ok (.if_icmp .ne 7, 3) := by decide +kernel
theorem d_MD_whites_51 : decode prog_14_method_11_code 51 = .ok (.iload_n 2, 1) := by decide +kernel
theorem d_MD_whites_52 : decode prog_14_method_11_code 52 = .ok (.iconst 5, 1) := by decide +kernel
theorem d_MD_whites_53 : decode prog_14_method_11_code 53 = .ok (.if_icmp .ne 7, 3) := by decide +kernel
theorem d_MD_whites_60 : decode prog_14_method_11_code 60 = .ok (.bipush 7, 2) := by decide +kernel
theorem d_MD_whites_62 : decode prog_14_method_11_code 62 = .ok (.ireturn, 1) := by decide +kernel
theorem d_MD_whites_56 : decode prog_14_method_11_code 56 = .ok (.iconst 5, 1) := by decide +kernel
theorem d_MD_whites_57 : decode prog_14_method_11_code 57 = .ok (.goto 5, 3) := by decide +kernel
theorem d_MD_whites_47 : decode prog_14_method_11_code 47 = .ok (.iconst 4, 1) := by decide +kernel
theorem d_MD_whites_48 : decode prog_14_method_11_code 48 = .ok (.goto 14, 3) := by decide +kernel
theorem d_MD_whites_38 : decode prog_14_method_11_code 38 = .ok (.iconst 2, 1) := by decide +kernel
theorem d_MD_whites_39 : decode prog_14_method_11_code 39 = .ok (.goto 23, 3) := by decide +kernel
theorem d_MD_whites_29 : decode prog_14_method_11_code 29 = .ok (.iconst 0, 1) := by decide +kernel
theorem d_MD_whites_30 : decode prog_14_method_11_code 30 = .ok (.goto 32, 3) := by decide +kernel
theorem d_MD_whites_19 : decode prog_14_method_11_code 19 = .ok (.bipush 11, 2) := by decide +kernel
theorem d_MD_whites_21 : decode prog_14_method_11_code 21 = .ok (.goto 41, 3) := by decide +kernel
theorem d_MD_whites_9 : decode prog_14_method_11_code 9 = .ok (.bipush 9, 2) := by decide +kernel
theorem d_MD_whites_11 : decode prog_14_method_11_code 11 = .ok (.goto 51, 3) := by decide +kernel
theorem s_MD_lay {G : cx_T} {h : ah_T} (hx : mi h) {a1 : Int} (hT : h.2.1 170 1 ≤ 1996) : con G 0 0 0 m_MD_lay [av_R (some 170), av_I a1] h (fun r h' => r = none ∧ (h'.2.1 170 1 = h.2.1 170 1 + 4) ∧ kM (pm [1] [171]) h h') := by
  refine con_of (L := [some (av_R (some 170)), some (av_I a1), none]) (by decide +kernel) (Nat.le_of_ble_eq_true rfl) rfl ?_
  have k0 : kM (pm [1] [171]) h h := kM_0 hx
  obtain ⟨sd1, esd1⟩ : ∃ x, x = h.2.1 170 1 := ⟨_, rfl⟩
  have rsd1 : 0 ≤ sd1 ∧ sd1 ≤ 2000 := (by rw [esd1]; exact mi_g k0.1 (by decide) mr_170_1)
  refine A_locI 1 rfl (fun ra => ?_)
  obtain ⟨_, _⟩ := ra
  refine A_bipush d_MD_lay_0 rfl ?_
  refine A_istore_n 2 (L' := [some (av_R (some 170)), some (av_I a1), some (av_I 24)]) d_MD_lay_2 rfl (Nat.le_of_ble_eq_true rfl) rfl ?_
  have lp3 : ∀ (n : Nat) (i2 : Int) (h3 : ah_T) , (-8) ≤ i2 → i2 ≤ 24 → h3.2.1 170 1 * 8 = h.2.1 170 1 * 8 + 24 - i2 ∧ -8 ≤ i2 ∧ h.2.1 170 1 ≤ 1996 → kM (pm [1] [171]) h h3 → (i2 + 9).toNat < n → aw G (rm_R 0 0 0) m_MD_lay 0 0 3 [some (av_R (some 170)), some (av_I a1), some (av_I i2)] [] h3 (fun r h' => r = none ∧ (h'.2.1 170 1 = h.2.1 170 1 + 4) ∧ kM (pm [1] [171]) h h') := by
    intro n
    induction n with
    | zero => intro i2 h3 _ _ _ _ hm; omega
    | succ n ih3 =>
      intro i2 h3 hl0 hl1 hinv k4 hm
      obtain ⟨sd5, esd5⟩ : ∃ x, x = h3.2.1 170 1 := ⟨_, rfl⟩
      have rsd5 : 0 ≤ sd5 ∧ sd5 ≤ 2000 := (by rw [esd5]; exact mi_g k4.1 (by decide) mr_170_1)
      refine A_iload_n 2 d_MD_lay_3 rfl rfl ?_
      refine A_if_lt (tgt := 39) d_MD_lay_4 (by decide) (fun c6 => ?_) (fun c6 => ?_)
      · exact A_vret d_MD_lay_39 (by decide) rfl ⟨rfl, (by have qq0 := esd5.symm; omega), k4⟩
      · refine A_aload_n 0 d_MD_lay_7 rfl rfl ?_
        refine A_getAv (z := some 171) T_ok d_MD_lay_8 f_MD_7 (mi_s k4.1 sf_170) (mi_r k4.1 rfm_0) ?_
        refine A_aload_n 0 d_MD_lay_11 rfl rfl ?_
        refine A_getIv (z := sd5) T_ok d_MD_lay_12 f_MD_226 (mi_s k4.1 sf_170) esd5.symm ?_
        refine A_iload_n 1 d_MD_lay_15 rfl rfl ?_
        refine A_pc (pc' := 16) rfl ?_
        refine A_iload_n 2 d_MD_lay_16 rfl rfl ?_
        refine A_ishr d_MD_lay_17 ?_
        refine A_nrI (fun x9 ex9 _ _ => ?_)
        refine A_sipush d_MD_lay_18 rfl ?_
        refine A_iand d_MD_lay_21 ?_
        refine A_nrI (fun x10 ex10 _ _ => ?_)
        have bx10 := and_r (m := 255) 8 ex10 (by decide) (by decide) (by decide)
        refine A_iastorek (KR := kM (pm [1] [171]) h) d_MD_lay_22 (mi_s k4.1 sf_171) (by omega) (by omega) (kM_i k4 (by decide) rfl (mr_171 _) (by omega) (by omega)) (fun h11 k12 eh11 => ?_)
        refine A_aload_n 0 d_MD_lay_23 rfl rfl ?_
        refine A_pc (pc' := 24) rfl ?_
        refine A_dupR d_MD_lay_24 ?_
        refine A_getIv (z := sd5) T_ok d_MD_lay_25 f_MD_226 (mi_s k12.1 sf_170) ((eh11.1 _ _ (fun q => absurd q (by decide))).trans esd5.symm) ?_
        refine A_iconst d_MD_lay_28 rfl ?_
        refine A_iaddv (z := (sd5 + 1)) d_MD_lay_29 (w32_to (by omega) (by unfold i32; omega)) ?_
        refine A_putIk (KR := kM (pm [1] [171]) h) T_ok d_MD_lay_30 f_MD_226 (mi_s k12.1 sf_170) fin_f (kM_i k12 (by decide) (by decide) mr_170_1 (by omega) (by omega)) (fun h14 k15 eh14 => ?_)
        refine A_iincv (z := (i2 - 8)) (L' := [some (av_R (some 170)), some (av_I a1), some (av_I (i2 - 8))]) d_MD_lay_33 rfl (w32_to (by omega) (by unfold i32; omega)) rfl ?_
        refine A_pc (pc' := 36) rfl ?_
        refine A_goto (tgt := 3) d_MD_lay_36 (by decide) ?_
        exact ih3 (i2 - 8) h14 (by omega) (by omega) (by have qq0 := eh14.2.1; omega) k15 (by omega)
  exact lp3 _ 24 h (by omega) (by omega) (by have qq0 := esd1.symm; omega) k0 (Nat.lt_succ_self _)
theorem s_MD_feed {G : cx_T} {h : ah_T} (hx : mi h) {a1 : Int} {a2 : Int} {a3 : Int} {a4 : Int} {a5 : Int}  : con G 1 0 0 m_MD_feed [av_R (some 170), av_I a1, av_I a2, av_I a3, av_I a4, av_I a5] h (fun r h' => ∃ z, r = some (av_I z) ∧ ((-3) ≤ z ∧ z ≤ 2000) ∧ ((h.2.1 170 1 ≤ 1980 → z = h.2.1 170 1 + 20 ∧ h'.2.1 170 1 = h.2.1 170 1 + 20) ∧ (1980 < h.2.1 170 1 → z = -3 ∧ h'.2.1 170 1 = h.2.1 170 1)) ∧ kM (pm [1] [171]) h h') := by
  refine con_of (L := [some (av_R (some 170)), some (av_I a1), some (av_I a2), some (av_I a3), some (av_I a4), some (av_I a5)]) (by decide +kernel) (Nat.le_of_ble_eq_true rfl) rfl ?_
  have k0 : kM (pm [1] [171]) h h := kM_0 hx
  obtain ⟨sd1, esd1⟩ : ∃ x, x = h.2.1 170 1 := ⟨_, rfl⟩
  have rsd1 : 0 ≤ sd1 ∧ sd1 ≤ 2000 := (by rw [esd1]; exact mi_g k0.1 (by decide) mr_170_1)
  refine A_locI 1 rfl (fun ra => ?_)
  obtain ⟨_, _⟩ := ra
  refine A_locI 2 rfl (fun ra => ?_)
  obtain ⟨_, _⟩ := ra
  refine A_locI 3 rfl (fun ra => ?_)
  obtain ⟨_, _⟩ := ra
  refine A_locI 4 rfl (fun ra => ?_)
  obtain ⟨_, _⟩ := ra
  refine A_locI 5 rfl (fun ra => ?_)
  obtain ⟨_, _⟩ := ra
  refine A_aload_n 0 d_MD_feed_0 rfl rfl ?_
  refine A_getIv (z := sd1) T_ok d_MD_feed_1 f_MD_226 (mi_s k0.1 sf_170) esd1.symm ?_
  refine A_bipush d_MD_feed_4 rfl ?_
  refine A_iaddv (z := (sd1 + 20)) d_MD_feed_6 (w32_to (by omega) (by unfold i32; omega)) ?_
  refine A_sipush d_MD_feed_7 rfl ?_
  refine A_pc (pc' := 10) rfl ?_
  refine A_icmp_le (tgt := 16) d_MD_feed_10 (by decide) (fun c3 => ?_) (fun c3 => ?_)
  · refine A_aload_n 0 d_MD_feed_16 rfl rfl ?_
    refine A_iload_n 1 d_MD_feed_17 rfl rfl ?_
    have zf5 := esd1.symm
    refine A_callV1 m_MD_lay T_ok d_MD_feed_18 l_MD_229 k_MD_lay (mi_s k0.1 sf_170) rfl (by decide +kernel) (by decide) (Nat.le_of_ble_eq_true rfl) (s_MD_lay k0.1 (by have qq0 := esd1.symm; omega)) (fun r h4 hq => ?_)
    obtain ⟨rfl, xk6, k6⟩ := hq
    have k7 := kM_t k0 k6 (pm_s (by decide) (by decide))
    obtain ⟨sd8, esd8⟩ : ∃ x, x = h4.2.1 170 1 := ⟨_, rfl⟩
    have rsd8 : 0 ≤ sd8 ∧ sd8 ≤ 2000 := (by rw [esd8]; exact mi_g k7.1 (by decide) mr_170_1)
    refine A_aload_n 0 d_MD_feed_21 rfl rfl ?_
    refine A_iload_n 2 d_MD_feed_22 rfl rfl ?_
    have zf10 := esd8.symm
    refine A_callV1 m_MD_lay T_ok d_MD_feed_23 l_MD_229 k_MD_lay (mi_s k7.1 sf_170) rfl (by decide +kernel) (by decide) (Nat.le_of_ble_eq_true rfl) (s_MD_lay k7.1 (by have qq0 := esd8.symm; omega)) (fun r h9 hq => ?_)
    obtain ⟨rfl, xk11, k11⟩ := hq
    have k12 := kM_t k7 k11 (pm_s (by decide) (by decide))
    obtain ⟨sd13, esd13⟩ : ∃ x, x = h9.2.1 170 1 := ⟨_, rfl⟩
    have rsd13 : 0 ≤ sd13 ∧ sd13 ≤ 2000 := (by rw [esd13]; exact mi_g k12.1 (by decide) mr_170_1)
    refine A_aload_n 0 d_MD_feed_26 rfl rfl ?_
    refine A_iload_n 3 d_MD_feed_27 rfl rfl ?_
    have zf15 := esd13.symm
    refine A_callV1 m_MD_lay T_ok d_MD_feed_28 l_MD_229 k_MD_lay (mi_s k12.1 sf_170) rfl (by decide +kernel) (by decide) (Nat.le_of_ble_eq_true rfl) (s_MD_lay k12.1 (by have qq0 := esd13.symm; omega)) (fun r h14 hq => ?_)
    obtain ⟨rfl, xk16, k16⟩ := hq
    have k17 := kM_t k12 k16 (pm_s (by decide) (by decide))
    obtain ⟨sd18, esd18⟩ : ∃ x, x = h14.2.1 170 1 := ⟨_, rfl⟩
    have rsd18 : 0 ≤ sd18 ∧ sd18 ≤ 2000 := (by rw [esd18]; exact mi_g k17.1 (by decide) mr_170_1)
    refine A_aload_n 0 d_MD_feed_31 rfl rfl ?_
    refine A_iload d_MD_feed_32 rfl ?_
    have zf20 := esd18.symm
    refine A_callV1 m_MD_lay T_ok d_MD_feed_34 l_MD_229 k_MD_lay (mi_s k17.1 sf_170) rfl (by decide +kernel) (by decide) (Nat.le_of_ble_eq_true rfl) (s_MD_lay k17.1 (by have qq0 := esd18.symm; omega)) (fun r h19 hq => ?_)
    obtain ⟨rfl, xk21, k21⟩ := hq
    have k22 := kM_t k17 k21 (pm_s (by decide) (by decide))
    obtain ⟨sd23, esd23⟩ : ∃ x, x = h19.2.1 170 1 := ⟨_, rfl⟩
    have rsd23 : 0 ≤ sd23 ∧ sd23 ≤ 2000 := (by rw [esd23]; exact mi_g k22.1 (by decide) mr_170_1)
    refine A_aload_n 0 d_MD_feed_37 rfl rfl ?_
    refine A_iload d_MD_feed_38 rfl ?_
    have zf25 := esd23.symm
    refine A_callV1 m_MD_lay T_ok d_MD_feed_40 l_MD_229 k_MD_lay (mi_s k22.1 sf_170) rfl (by decide +kernel) (by decide) (Nat.le_of_ble_eq_true rfl) (s_MD_lay k22.1 (by have qq0 := esd23.symm; omega)) (fun r h24 hq => ?_)
    obtain ⟨rfl, xk26, k26⟩ := hq
    have k27 := kM_t k22 k26 (pm_s (by decide) (by decide))
    obtain ⟨sd28, esd28⟩ : ∃ x, x = h24.2.1 170 1 := ⟨_, rfl⟩
    have rsd28 : 0 ≤ sd28 ∧ sd28 ≤ 2000 := (by rw [esd28]; exact mi_g k27.1 (by decide) mr_170_1)
    refine A_aload_n 0 d_MD_feed_43 rfl rfl ?_
    refine A_getIv (z := sd28) T_ok d_MD_feed_44 f_MD_226 (mi_s k27.1 sf_170) esd28.symm ?_
    exact A_iret d_MD_feed_47 (by decide) rfl ⟨_, rfl, ⟨by omega, by omega⟩, (by have qq0 := esd28.symm; omega), k27⟩
  · refine A_bipush d_MD_feed_13 rfl ?_
    exact A_iret d_MD_feed_15 (by decide) rfl ⟨_, rfl, ⟨by omega, by omega⟩, (by have qq0 := esd1.symm; omega), k0⟩
theorem s_MD_cut {G : cx_T} {h : ah_T} (hx : mi h) {a1 : Int}  : con G 0 0 0 m_MD_cut [av_R (some 170), av_I a1] h (fun r h' => ∃ z, r = some (av_I z) ∧ ((-1) ≤ z ∧ z ≤ 2000) ∧ ((a1 < 0 ∨ h.2.1 170 1 < a1 → z = -1 ∧ h'.2.1 170 1 = h.2.1 170 1) ∧ (0 ≤ a1 → a1 ≤ h.2.1 170 1 → z = h.2.1 170 1 - a1 ∧ h'.2.1 170 1 = h.2.1 170 1 - a1)) ∧ kM (pm [1] []) h h') := by
  refine con_of (L := [some (av_R (some 170)), some (av_I a1)]) (by decide +kernel) (Nat.le_of_ble_eq_true rfl) rfl ?_
  have k0 : kM (pm [1] []) h h := kM_0 hx
  obtain ⟨sd1, esd1⟩ : ∃ x, x = h.2.1 170 1 := ⟨_, rfl⟩
  have rsd1 : 0 ≤ sd1 ∧ sd1 ≤ 2000 := (by rw [esd1]; exact mi_g k0.1 (by decide) mr_170_1)
  refine A_locI 1 rfl (fun ra => ?_)
  obtain ⟨_, _⟩ := ra
  refine A_iload_n 1 d_MD_cut_0 rfl rfl ?_
  refine A_if_lt (tgt := 12) d_MD_cut_1 (by decide) (fun c2 => ?_) (fun c2 => ?_)
  · refine A_iconst d_MD_cut_12 rfl ?_
    exact A_iret d_MD_cut_13 (by decide) rfl ⟨_, rfl, ⟨by omega, by omega⟩, (by have qq0 := esd1.symm; omega), k0⟩
  · refine A_iload_n 1 d_MD_cut_4 rfl rfl ?_
    refine A_aload_n 0 d_MD_cut_5 rfl rfl ?_
    refine A_getIv (z := sd1) T_ok d_MD_cut_6 f_MD_226 (mi_s k0.1 sf_170) esd1.symm ?_
    refine A_icmp_le (tgt := 14) d_MD_cut_9 (by decide) (fun c4 => ?_) (fun c4 => ?_)
    · refine A_aload_n 0 d_MD_cut_14 rfl rfl ?_
      refine A_dupR d_MD_cut_15 ?_
      refine A_getIv (z := sd1) T_ok d_MD_cut_16 f_MD_226 (mi_s k0.1 sf_170) esd1.symm ?_
      refine A_iload_n 1 d_MD_cut_19 rfl rfl ?_
      refine A_isubv (z := (sd1 - a1)) d_MD_cut_20 (w32_to (by omega) (by unfold i32; omega)) ?_
      refine A_pc (pc' := 21) rfl ?_
      refine A_putIk (KR := kM (pm [1] []) h) T_ok d_MD_cut_21 f_MD_226 (mi_s k0.1 sf_170) fin_f (kM_i k0 (by decide) (by decide) mr_170_1 (by omega) (by omega)) (fun h6 k7 eh6 => ?_)
      refine A_aload_n 0 d_MD_cut_24 rfl rfl ?_
      refine A_getIv (z := (sd1 - a1)) T_ok d_MD_cut_25 f_MD_226 (mi_s k7.1 sf_170) eh6.2.1 ?_
      exact A_iret d_MD_cut_28 (by decide) rfl ⟨_, rfl, ⟨by omega, by omega⟩, (by have qq0 := eh6.2.1; omega), k7⟩
    · refine A_iconst d_MD_cut_12 rfl ?_
      exact A_iret d_MD_cut_13 (by decide) rfl ⟨_, rfl, ⟨by omega, by omega⟩, (by have qq0 := esd1.symm; omega), k0⟩
theorem s_MD_wrong {G : cx_T} {h : ah_T} (hx : mi h) {a1 : Int} {a2 : Int} (la1 : 1 ≤ a1) (ua1 : a1 ≤ 7) (la2 : 0 ≤ a2) (ua2 : a2 ≤ 2000) : con G 0 0 0 m_MD_wrong [av_R (some 170), av_I a1, av_I a2] h (fun r h' => ∃ z, r = some (av_I z) ∧ (0 ≤ z ∧ z ≤ 0) ∧ kM (pm [11, 12] []) h h') := by
  refine con_of (L := [some (av_R (some 170)), some (av_I a1), some (av_I a2)]) (by decide +kernel) (Nat.le_of_ble_eq_true rfl) rfl ?_
  have k0 : kM (pm [11, 12] []) h h := kM_0 hx
  refine A_aload_n 0 d_MD_wrong_0 rfl rfl ?_
  refine A_getIn (lo := 0) (hi := 7) T_ok d_MD_wrong_1 f_MD_233 (mi_s k0.1 sf_170) (mi_g k0.1 (by decide) mr_170_11) (fun x1 ex1 _ _ => ?_)
  refine A_if_ne (tgt := 17) d_MD_wrong_4 (by decide) (fun c2 => ?_) (fun c2 => ?_)
  · refine A_iconst d_MD_wrong_17 rfl ?_
    exact A_zret d_MD_wrong_18 (by decide) rfl (by omega) ⟨_, rfl, ⟨by omega, by omega⟩, k0⟩
  · refine A_aload_n 0 d_MD_wrong_7 rfl rfl ?_
    refine A_iload_n 1 d_MD_wrong_8 rfl rfl ?_
    refine A_putIk (KR := kM (pm [11, 12] []) h) T_ok d_MD_wrong_9 f_MD_233 (mi_s k0.1 sf_170) fin_f (kM_i k0 (by decide) (by decide) mr_170_11 (by omega) (by omega)) (fun h3 k4 eh3 => ?_)
    refine A_aload_n 0 d_MD_wrong_12 rfl rfl ?_
    refine A_iload_n 2 d_MD_wrong_13 rfl rfl ?_
    refine A_pc (pc' := 14) rfl ?_
    refine A_putIk (KR := kM (pm [11, 12] []) h) T_ok d_MD_wrong_14 f_MD_236 (mi_s k4.1 sf_170) fin_f (kM_i k4 (by decide) (by decide) mr_170_12 (by omega) (by omega)) (fun h5 k6 eh5 => ?_)
    refine A_iconst d_MD_wrong_17 rfl ?_
    exact A_zret d_MD_wrong_18 (by decide) rfl (by omega) ⟨_, rfl, ⟨by omega, by omega⟩, k6⟩
theorem s_MD_cant {G : cx_T} {h : ah_T} (hx : mi h)   : con G 1 0 0 m_MD_cant [av_R (some 170)] h (fun r h' => ∃ z, r = some (av_I z) ∧ (0 ≤ z ∧ z ≤ 0) ∧ kM (pm [11, 12] []) h h') := by
  refine con_of (L := [some (av_R (some 170))]) (by decide +kernel) (Nat.le_of_ble_eq_true rfl) rfl ?_
  have k0 : kM (pm [11, 12] []) h h := kM_0 hx
  refine A_aload_n 0 d_MD_cant_0 rfl rfl ?_
  refine A_aload_n 0 d_MD_cant_1 rfl rfl ?_
  refine A_getIn (lo := 0) (hi := 6) T_ok d_MD_cant_2 f_MD_239 (mi_s k0.1 sf_170) (mi_g k0.1 (by decide) mr_170_4) (fun x1 ex1 _ _ => ?_)
  refine A_bipush d_MD_cant_5 rfl ?_
  refine A_icmp_ne (tgt := 14) d_MD_cant_7 (by decide) (fun c2 => ?_) (fun c2 => ?_)
  · refine A_iconst d_MD_cant_14 rfl ?_
    refine A_aload_n 0 d_MD_cant_15 rfl rfl ?_
    refine A_getIn (lo := 0) (hi := 2000) T_ok d_MD_cant_16 f_MD_242 (mi_s k0.1 sf_170) (mi_g k0.1 (by decide) mr_170_5) (fun x3 ex3 _ _ => ?_)
    refine A_callV2 m_MD_wrong T_ok d_MD_cant_19 l_MD_245 k_MD_wrong (mi_s k0.1 sf_170) rfl (by decide +kernel) (by decide) (Nat.le_of_ble_eq_true rfl) (s_MD_wrong k0.1 (by omega) (by omega) (by omega) (by omega)) (fun r h4 hq => ?_)
    obtain ⟨x6, rfl, ⟨_, _⟩, k5⟩ := hq
    have k7 := kM_t k0 k5 (pm_s (by decide) (by decide))
    obtain rfl : x6 = 0 := by omega
    exact A_zret d_MD_cant_22 (by decide) rfl (by omega) ⟨_, rfl, ⟨by omega, by omega⟩, k7⟩
  · refine A_iconst d_MD_cant_10 rfl ?_
    refine A_goto (tgt := 15) d_MD_cant_11 (by decide) ?_
    refine A_aload_n 0 d_MD_cant_15 rfl rfl ?_
    refine A_getIn (lo := 0) (hi := 2000) T_ok d_MD_cant_16 f_MD_242 (mi_s k0.1 sf_170) (mi_g k0.1 (by decide) mr_170_5) (fun x8 ex8 _ _ => ?_)
    refine A_callV2 m_MD_wrong T_ok d_MD_cant_19 l_MD_245 k_MD_wrong (mi_s k0.1 sf_170) rfl (by decide +kernel) (by decide) (Nat.le_of_ble_eq_true rfl) (s_MD_wrong k0.1 (by omega) (by omega) (by omega) (by omega)) (fun r h9 hq => ?_)
    obtain ⟨x11, rfl, ⟨_, _⟩, k10⟩ := hq
    have k12 := kM_t k0 k10 (pm_s (by decide) (by decide))
    obtain rfl : x11 = 0 := by omega
    exact A_zret d_MD_cant_22 (by decide) rfl (by omega) ⟨_, rfl, ⟨by omega, by omega⟩, k12⟩
theorem s_MD_at {G : cx_T} {h : ah_T} (hx : mi h) {a1 : Int} (la1 : 0 ≤ a1) (ua1 : a1 ≤ 2005) : con G 0 0 0 m_MD_at [av_R (some 170), av_I a1] h (fun r h' => ∃ z, r = some (av_I z) ∧ (0 ≤ z ∧ z ≤ 255) ∧ ((z ≠ 0 → a1 < h.2.1 170 2) ∧ (a1 < h.2.1 170 2 → z = h.2.1 171 a1.toNat)) ∧ h = h') := by
  refine con_of (L := [some (av_R (some 170)), some (av_I a1)]) (by decide +kernel) (Nat.le_of_ble_eq_true rfl) rfl ?_
  refine A_iload_n 1 d_MD_at_0 rfl rfl ?_
  refine A_aload_n 0 d_MD_at_1 rfl rfl ?_
  refine A_getIn (lo := 0) (hi := 2000) T_ok d_MD_at_2 f_MD_249 (mi_s hx sf_170) (mi_g hx (by decide) mr_170_2) (fun x1 ex1 _ _ => ?_)
  refine A_icmp_ge (tgt := 17) d_MD_at_5 (by decide) (fun c2 => ?_) (fun c2 => ?_)
  · refine A_iconst d_MD_at_17 rfl ?_
    exact A_iret d_MD_at_18 (by decide) rfl ⟨_, rfl, ⟨by omega, by omega⟩, (by have qq0 := ex1.symm; omega), rfl⟩
  · refine A_aload_n 0 d_MD_at_8 rfl rfl ?_
    refine A_getAv (z := some 171) T_ok d_MD_at_9 f_MD_7 (mi_s hx sf_170) (mi_r hx rfm_0) ?_
    refine A_iload_n 1 d_MD_at_12 rfl rfl ?_
    refine A_ialoadn (lo := 0) (hi := 255) d_MD_at_13 (mi_s hx sf_171) (by omega) (by omega) (mi_g hx (by decide) (mr_171 _)) (fun x4 ex4 _ _ => ?_)
    refine A_goto (tgt := 18) d_MD_at_14 (by decide) ?_
    exact A_iret d_MD_at_18 (by decide) rfl ⟨_, rfl, ⟨by omega, by omega⟩, (by have qq0 := ex1.symm; omega), rfl⟩
theorem s_MD_isDigit {G : cx_T} {h : ah_T} (hx : mi h) {a1 : Int}  : con G 0 0 0 m_MD_isDigit [av_R (some 170), av_I a1] h (fun r h' => ∃ z, r = some (av_I z) ∧ (z = 0 ∨ z = 1) ∧ ((z = 1 → 48 ≤ a1 ∧ a1 ≤ 57) ∧ (48 ≤ a1 → a1 ≤ 57 → z = 1)) ∧ h = h') := by
  refine con_of (L := [some (av_R (some 170)), some (av_I a1)]) (by decide +kernel) (Nat.le_of_ble_eq_true rfl) rfl ?_
  refine A_locI 1 rfl (fun ra => ?_)
  obtain ⟨_, _⟩ := ra
  refine A_iload_n 1 d_MD_isDigit_0 rfl rfl ?_
  refine A_bipush d_MD_isDigit_1 rfl ?_
  refine A_icmp_lt (tgt := 16) d_MD_isDigit_3 (by decide) (fun c1 => ?_) (fun c1 => ?_)
  · refine A_iconst d_MD_isDigit_16 rfl ?_
    exact A_zret d_MD_isDigit_17 (by decide) rfl (by omega) ⟨_, rfl, by omega, (by omega), rfl⟩
  · refine A_iload_n 1 d_MD_isDigit_6 rfl rfl ?_
    refine A_bipush d_MD_isDigit_7 rfl ?_
    refine A_icmp_gt (tgt := 16) d_MD_isDigit_9 (by decide) (fun c2 => ?_) (fun c2 => ?_)
    · refine A_iconst d_MD_isDigit_16 rfl ?_
      exact A_zret d_MD_isDigit_17 (by decide) rfl (by omega) ⟨_, rfl, by omega, (by omega), rfl⟩
    · refine A_iconst d_MD_isDigit_12 rfl ?_
      refine A_goto (tgt := 17) d_MD_isDigit_13 (by decide) ?_
      exact A_zret d_MD_isDigit_17 (by decide) rfl (by omega) ⟨_, rfl, by omega, (by omega), rfl⟩
theorem s_MD_isSmall {G : cx_T} {h : ah_T} (hx : mi h) {a1 : Int}  : con G 0 0 0 m_MD_isSmall [av_R (some 170), av_I a1] h (fun r h' => ∃ z, r = some (av_I z) ∧ (z = 0 ∨ z = 1) ∧ ((z = 1 → 97 ≤ a1 ∧ a1 ≤ 122) ∧ (97 ≤ a1 → a1 ≤ 122 → z = 1)) ∧ h = h') := by
  refine con_of (L := [some (av_R (some 170)), some (av_I a1)]) (by decide +kernel) (Nat.le_of_ble_eq_true rfl) rfl ?_
  refine A_locI 1 rfl (fun ra => ?_)
  obtain ⟨_, _⟩ := ra
  refine A_iload_n 1 d_MD_isSmall_0 rfl rfl ?_
  refine A_bipush d_MD_isSmall_1 rfl ?_
  refine A_icmp_lt (tgt := 16) d_MD_isSmall_3 (by decide) (fun c1 => ?_) (fun c1 => ?_)
  · refine A_iconst d_MD_isSmall_16 rfl ?_
    exact A_zret d_MD_isSmall_17 (by decide) rfl (by omega) ⟨_, rfl, by omega, (by omega), rfl⟩
  · refine A_iload_n 1 d_MD_isSmall_6 rfl rfl ?_
    refine A_bipush d_MD_isSmall_7 rfl ?_
    refine A_icmp_gt (tgt := 16) d_MD_isSmall_9 (by decide) (fun c2 => ?_) (fun c2 => ?_)
    · refine A_iconst d_MD_isSmall_16 rfl ?_
      exact A_zret d_MD_isSmall_17 (by decide) rfl (by omega) ⟨_, rfl, by omega, (by omega), rfl⟩
    · refine A_iconst d_MD_isSmall_12 rfl ?_
      refine A_goto (tgt := 17) d_MD_isSmall_13 (by decide) ?_
      exact A_zret d_MD_isSmall_17 (by decide) rfl (by omega) ⟨_, rfl, by omega, (by omega), rfl⟩
theorem s_MD_whites {G : cx_T} {h : ah_T} (hx : mi h) {a1 : Int}  : con G 0 0 0 m_MD_whites [av_R (some 170), av_I a1] h (fun r h' => ∃ z, r = some (av_I z) ∧ (0 ≤ z ∧ z ≤ 11) ∧ h = h') := by
  refine con_of (L := [some (av_R (some 170)), some (av_I a1), none]) (by decide +kernel) (Nat.le_of_ble_eq_true rfl) rfl ?_
  refine A_locI 1 rfl (fun ra => ?_)
  obtain ⟨_, _⟩ := ra
  refine A_iload_n 1 d_MD_whites_0 rfl rfl ?_
  refine A_bipush d_MD_whites_1 rfl ?_
  refine A_isubw d_MD_whites_3 (fun x1 _ _ _ => ?_)
  refine A_istore_n 2 (L' := [some (av_R (some 170)), some (av_I a1), some (av_I x1)]) d_MD_whites_4 rfl (Nat.le_of_ble_eq_true rfl) rfl ?_
  refine A_iload_n 2 d_MD_whites_5 rfl rfl ?_
  refine A_pc (pc' := 6) rfl ?_
  refine A_if_ne (tgt := 14) d_MD_whites_6 (by decide) (fun c2 => ?_) (fun c2 => ?_)
  · refine A_iload_n 2 d_MD_whites_14 rfl rfl ?_
    refine A_iconst d_MD_whites_15 rfl ?_
    refine A_icmp_ne (tgt := 24) d_MD_whites_16 (by decide) (fun c3 => ?_) (fun c3 => ?_)
    · refine A_iload_n 2 d_MD_whites_24 rfl rfl ?_
      refine A_iconst d_MD_whites_25 rfl ?_
      refine A_icmp_ne (tgt := 33) d_MD_whites_26 (by decide) (fun c4 => ?_) (fun c4 => ?_)
      · refine A_iload_n 2 d_MD_whites_33 rfl rfl ?_
        refine A_iconst d_MD_whites_34 rfl ?_
        refine A_icmp_ne (tgt := 42) d_MD_whites_35 (by decide) (fun c5 => ?_) (fun c5 => ?_)
        · refine A_iload_n 2 d_MD_whites_42 rfl rfl ?_
          refine A_iconst d_MD_whites_43 rfl ?_
          refine A_icmp_ne (tgt := 51) d_MD_whites_44 (by decide) (fun c6 => ?_) (fun c6 => ?_)
          · refine A_iload_n 2 d_MD_whites_51 rfl rfl ?_
            refine A_iconst d_MD_whites_52 rfl ?_
            refine A_icmp_ne (tgt := 60) d_MD_whites_53 (by decide) (fun c7 => ?_) (fun c7 => ?_)
            · refine A_bipush d_MD_whites_60 rfl ?_
              exact A_iret d_MD_whites_62 (by decide) rfl ⟨_, rfl, ⟨by omega, by omega⟩, rfl⟩
            · refine A_iconst d_MD_whites_56 rfl ?_
              refine A_goto (tgt := 62) d_MD_whites_57 (by decide) ?_
              exact A_iret d_MD_whites_62 (by decide) rfl ⟨_, rfl, ⟨by omega, by omega⟩, rfl⟩
          · refine A_iconst d_MD_whites_47 rfl ?_
            refine A_goto (tgt := 62) d_MD_whites_48 (by decide) ?_
            exact A_iret d_MD_whites_62 (by decide) rfl ⟨_, rfl, ⟨by omega, by omega⟩, rfl⟩
        · refine A_iconst d_MD_whites_38 rfl ?_
          refine A_goto (tgt := 62) d_MD_whites_39 (by decide) ?_
          exact A_iret d_MD_whites_62 (by decide) rfl ⟨_, rfl, ⟨by omega, by omega⟩, rfl⟩
      · refine A_iconst d_MD_whites_29 rfl ?_
        refine A_goto (tgt := 62) d_MD_whites_30 (by decide) ?_
        exact A_iret d_MD_whites_62 (by decide) rfl ⟨_, rfl, ⟨by omega, by omega⟩, rfl⟩
    · refine A_bipush d_MD_whites_19 rfl ?_
      refine A_goto (tgt := 62) d_MD_whites_21 (by decide) ?_
      exact A_iret d_MD_whites_62 (by decide) rfl ⟨_, rfl, ⟨by omega, by omega⟩, rfl⟩
  · refine A_bipush d_MD_whites_9 rfl ?_
    refine A_goto (tgt := 62) d_MD_whites_11 (by decide) ?_
    exact A_iret d_MD_whites_62 (by decide) rfl ⟨_, rfl, ⟨by omega, by omega⟩, rfl⟩
