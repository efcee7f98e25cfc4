/-! ===== the reference's methods, 32a ===== -/
def m_MD_lay : mr_T := (⟨"PlainMusicModel", "lay", "(I)V"⟩, prog_14_method_3_code, 3, none)
theorem mr_170_1 : mr 170 1 = (0, 2000) := by decide +kernel
theorem d_MD_lay_0 : decode prog_14_method_3_code 0 = .ok (.bipush 24, 2) := by decide +kernel
theorem d_MD_lay_2 : decode prog_14_method_3_code 2 = .ok (.istore_n 2, 1) := by decide +kernel
theorem d_MD_lay_3 : decode prog_14_method_3_code 3 = .ok (.iload_n 2, 1) := by decide +kernel
theorem d_MD_lay_4 : decode prog_14_method_3_code 4 = .ok (.ifCond .lt 35, 3) := by decide +kernel
theorem d_MD_lay_7 : decode prog_14_method_3_code 7 = .ok (.aload_n 0, 1) := by decide +kernel
theorem d_MD_lay_8 : decode prog_14_method_3_code 8 = .ok (.getfield 7, 3) := by decide +kernel
theorem sf_170 : sh_L[170]? = some (12 + 4, 111) := by decide +kernel
theorem rfm_0 : (0, 171) ∈ mf_L := by decide +kernel
theorem d_MD_lay_11 : decode prog_14_method_3_code 11 = .ok (.aload_n 0, 1) := by decide +kernel
theorem d_MD_lay_12 : decode prog_14_method_3_code 12 = .ok (.getfield 226, 3) := by decide +kernel
theorem f_MD_226 : fl_OK "PlainMusicModel" 226 12 1 .int false := ⟨_, rfl, by decide, (gw_in 1483 (by decide +kernel) (by decide +kernel)), rfl, rfl⟩
theorem d_MD_lay_15 : decode prog_14_method_3_code 15 = .ok (.iload_n 1, 1) := by decide +kernel
theorem d_MD_lay_16 : decode prog_14_method_3_code 16 = .ok (.iload_n 2, 1) := by decide +kernel
theorem d_MD_lay_17 : decode prog_14_method_3_code 17 = .ok (.ishr, 1) := by decide +kernel
theorem d_MD_lay_18 : decode prog_14_method_3_code 18 = .ok (.sipush 255, 3) := by decide +kernel
theorem d_MD_lay_21 : decode prog_14_method_3_code 21 = .ok (.iand, 1) := by decide +kernel
theorem d_MD_lay_22 : decode prog_14_method_3_code 22 = .ok (.iastore, 1) := by decide +kernel
theorem sf_171 : sh_L[171]? = some (0, 2000) := by decide +kernel
theorem mr_171 (k : Nat) : mr 171 k = (0, 255) := rfl
theorem d_MD_lay_23 : decode prog_14_method_3_code 23 = .ok (.aload_n 0, 1) := by decide +kernel
theorem d_MD_lay_24 : decode prog_14_method_3_code 24 = .ok (.dup, 1) := by decide +kernel
theorem d_MD_lay_25 : decode prog_14_method_3_code 25 = .ok (.getfield 226, 3) := by decide +kernel
theorem d_MD_lay_28 : decode prog_14_method_3_code 28 = .ok (.iconst 1, 1) := by decide +kernel
theorem d_MD_lay_29 : decode prog_14_method_3_code 29 = .ok (.iadd, 1) := by decide +kernel
theorem d_MD_lay_30 : decode prog_14_method_3_code 30 = .ok (.putfield 226, 3) := by decide +kernel
theorem d_MD_lay_33 : decode prog_14_method_3_code 33 = .ok (.iinc 2 (-8), 3) := by decide +kernel
theorem d_MD_lay_36 : decode prog_14_method_3_code 36 = .ok (.goto (-33), 3) := by decide +kernel
theorem d_MD_lay_39 : decode prog_14_method_3_code 39 = .ok (.return_, 1) := by decide +kernel
def m_MD_feed : mr_T := (⟨"PlainMusicModel", "feed", "(IIIII)I"⟩, prog_14_method_2_code, 6, some .int)
theorem d_MD_feed_0 : decode prog_14_method_2_code 0 = .ok (.aload_n 0, 1) := by decide +kernel
theorem d_MD_feed_1 : decode prog_14_method_2_code 1 = .ok (.getfield 226, 3) := by decide +kernel
theorem d_MD_feed_4 : decode prog_14_method_2_code 4 = .ok (.bipush 20, 2) := by decide +kernel
theorem d_MD_feed_6 : decode prog_14_method_2_code 6 = .ok (.iadd, 1) := by decide +kernel
theorem d_MD_feed_7 : decode prog_14_method_2_code 7 = .ok (.sipush 2000, 3) := by decide +kernel
theorem d_MD_feed_10 : decode prog_14_method_2_code 10 = .ok (.if_icmp .le 6, 3) := by decide +kernel
theorem d_MD_feed_16 : decode prog_14_method_2_code 16 = .ok (.aload_n 0, 1) := by decide +kernel
theorem d_MD_feed_17 : decode prog_14_method_2_code 17 = .ok (.iload_n 1, 1) := by decide +kernel
theorem d_MD_feed_18 : decode prog_14_method_2_code 18 = .ok (.invokevirtual 229, 3) := by decide +kernel
theorem k_MD_lay : mt_OK m_MD_lay 1 1 := ⟨(gw_in 1823 (by decide +kernel) (by decide +kernel)), (gw_in 146 (by decide +kernel) (by decide +kernel)), ⟨by decide +kernel, by decide +kernel, by decide +kernel⟩, fun h => absurd h (by decide), fun _ => ⟨(gw_in 1822 (by decide +kernel) (by decide +kernel)), (gw_in 59 (by decide +kernel) (by decide +kernel))⟩, fun h => absurd h (by decide)⟩
theorem l_MD_229 : ml_OK "PlainMusicModel" 229 ⟨"PlainMusicModel", "lay", "(I)V"⟩ := Or.inl (gw_in 1820 (by decide +kernel) (by decide +kernel))
theorem d_MD_feed_21 : decode prog_14_method_2_code 21 = .ok (.aload_n 0, 1) := by decide +kernel
theorem d_MD_feed_22 : decode prog_14_method_2_code 22 = .ok (.iload_n 2, 1) := by decide +kernel
theorem d_MD_feed_23 : decode prog_14_method_2_code 23 = .ok (.invokevirtual 229, 3) := by decide +kernel
theorem d_MD_feed_26 : decode prog_14_method_2_code 26 = .ok (.aload_n 0, 1) := by decide +kernel
theorem d_MD_feed_27 : decode prog_14_method_2_code 27 = .ok (.iload_n 3, 1) := by decide +kernel
theorem d_MD_feed_28 : decode prog_14_method_2_code 28 = .ok (.invokevirtual 229, 3) := by decide +kernel
theorem d_MD_feed_31 : decode prog_14_method_2_code 31 = .ok (.aload_n 0, 1) := by decide +kernel
theorem d_MD_feed_32 : decode prog_14_method_2_code 32 = .ok (.iload 4, 2) := by decide +kernel
theorem d_MD_feed_34 : decode prog_14_method_2_code 34 = .ok (.invokevirtual 229, 3) := by decide +kernel
theorem d_MD_feed_37 : decode prog_14_method_2_code 37 = .ok (.aload_n 0, 1) := by decide +kernel
theorem d_MD_feed_38 : decode prog_14_method_2_code 38 = .ok (.iload 5, 2) := by decide +kernel
theorem d_MD_feed_40 : decode prog_14_method_2_code 40 = .ok (.invokevirtual 229, 3) := by decide +kernel
theorem d_MD_feed_43 : decode prog_14_method_2_code 43 = .ok (.aload_n 0, 1) := by decide +kernel
theorem d_MD_feed_44 : decode prog_14_method_2_code 44 = .ok (.getfield 226, 3) := by decide +kernel
theorem d_MD_feed_47 : decode prog_14_method_2_code 47 = .ok (.ireturn, 1) := by decide +kernel
theorem d_MD_feed_13 : decode prog_14_method_2_code 13 = .ok (.bipush (-3), 2) := by decide +kernel
theorem d_MD_feed_15 : decode prog_14_method_2_code 15 = .ok (.ireturn, 1) := by decide +kernel
def m_MD_cut : mr_T := (⟨"PlainMusicModel", "cut", "(I)I"⟩, prog_14_method_4_code, 2, some .int)
theorem d_MD_cut_0 : decode prog_14_method_4_code 0 = .ok (.iload_n 1, 1) := by decide +kernel
theorem d_MD_cut_1 : decode prog_14_method_4_code 1 = .ok (.ifCond .lt 11, 3) := by decide +kernel
theorem d_MD_cut_12 : decode prog_14_method_4_code 12 = .ok (.iconst (-1), 1) := by decide +kernel
theorem d_MD_cut_13 : decode prog_14_method_4_code 13 = .ok (.ireturn, 1) := by decide +kernel
theorem d_MD_cut_4 : decode prog_14_method_4_code 4 = .ok (.iload_n 1, 1) := by decide +kernel
theorem d_MD_cut_5 : decode prog_14_method_4_code 5 = .ok (.aload_n 0, 1) := by decide +kernel
theorem d_MD_cut_6 : decode prog_14_method_4_code 6 = .ok (.getfield 226, 3) := by decide +kernel
theorem d_MD_cut_9 : decode prog_14_method_4_code 9 = .ok (.if_icmp .le 5, 3) := by decide +kernel
theorem d_MD_cut_14 : decode prog_14_method_4_code 14 = .ok (.aload_n 0, 1) := by decide +kernel
theorem d_MD_cut_15 : decode prog_14_method_4_code 15 = .ok (.dup, 1) := by decide +kernel
theorem d_MD_cut_16 : decode prog_14_method_4_code 16 = .ok (.getfield 226, 3) := by decide +kernel
theorem d_MD_cut_19 : decode prog_14_method_4_code 19 = .ok (.iload_n 1, 1) := by decide +kernel
theorem d_MD_cut_20 : decode prog_14_method_4_code 20 = .ok (.isub, 1) := by decide +kernel
theorem d_MD_cut_21 : decode prog_14_method_4_code 21 = .ok (.putfield 226, 3) := by decide +kernel
theorem d_MD_cut_24 : decode prog_14_method_4_code 24 = .ok (.aload_n 0, 1) := by decide +kernel
theorem d_MD_cut_25 : decode prog_14_method_4_code 25 = .ok (.getfield 226, 3) := by decide +kernel
theorem d_MD_cut_28 : decode prog_14_method_4_code 28 = .ok (.ireturn, 1) := by decide +kernel
def m_MD_wrong : mr_T := (⟨"PlainMusicModel", "wrong", "(II)Z"⟩, prog_14_method_5_code, 3, some .boolean)
theorem d_MD_wrong_0 : decode prog_14_method_5_code 0 = .ok (.aload_n 0, 1) := by decide +kernel
theorem d_MD_wrong_1 : decode prog_14_method_5_code 1 = .ok (.getfield 233, 3) := by decide +kernel
theorem f_MD_233 : fl_OK "PlainMusicModel" 233 12 11 .int false := ⟨_, rfl, by decide, (gw_in 1493 (by decide +kernel) (by decide +kernel)), rfl, rfl⟩
theorem mr_170_11 : mr 170 11 = (0, 7) := by decide +kernel
theorem d_MD_wrong_4 : decode prog_14_method_5_code 4 = .ok (.ifCond .ne 13, 3) := by decide +kernel
theorem d_MD_wrong_17 : decode prog_14_method_5_code 17 = .ok (.iconst 0, 1) := by decide +kernel
theorem d_MD_wrong_18 : decode prog_14_method_5_code 18 = .ok (.ireturn, 1) := by decide +kernel
theorem d_MD_wrong_7 : decode prog_14_method_5_code 7 = .ok (.aload_n 0, 1) := by decide +kernel
theorem d_MD_wrong_8 : decode prog_14_method_5_code 8 = .ok (.iload_n 1, 1) := by decide +kernel
theorem d_MD_wrong_9 : decode prog_14_method_5_code 9 = .ok (.putfield 233, 3) := by decide +kernel
theorem d_MD_wrong_12 : decode prog_14_method_5_code 12 = .ok (.aload_n 0, 1) := by decide +kernel
theorem d_MD_wrong_13 : decode prog_14_method_5_code 13 = .ok (.iload_n 2, 1) := by decide +kernel
theorem d_MD_wrong_14 : decode prog_14_method_5_code 14 = .ok (.putfield 236, 3) := by decide +kernel
theorem f_MD_236 : fl_OK "PlainMusicModel" 236 12 12 .int false := ⟨_, rfl, by decide, (gw_in 1494 (by decide +kernel) (by decide +kernel)), rfl, rfl⟩
theorem mr_170_12 : mr 170 12 = (0, 2000) := by decide +kernel
def m_MD_cant : mr_T := (⟨"PlainMusicModel", "cant", "()Z"⟩, prog_14_method_6_code, 1, some .boolean)
theorem d_MD_cant_0 : decode prog_14_method_6_code 0 = .ok (.aload_n 0, 1) := by decide +kernel
theorem d_MD_cant_1 : decode prog_14_method_6_code 1 = .ok (.aload_n 0, 1) := by decide +kernel
theorem d_MD_cant_2 : decode prog_14_method_6_code 2 = .ok (.getfield 239, 3) := by decide +kernel
theorem f_MD_239 : fl_OK "PlainMusicModel" 239 12 4 .int false := ⟨_, rfl, by decide, (gw_in 1486 (by decide +kernel) (by decide +kernel)), rfl, rfl⟩
theorem mr_170_4 : mr 170 4 = (0, 6) := by decide +kernel
theorem d_MD_cant_5 : decode prog_14_method_6_code 5 = .ok (.bipush 6, 2) := by decide +kernel
theorem d_MD_cant_7 : decode prog_14_method_6_code 7 = .ok (.if_icmp .ne 7, 3) := by decide +kernel
theorem d_MD_cant_14 : decode prog_14_method_6_code 14 = .ok (.iconst 2, 1) := by decide +kernel
theorem d_MD_cant_15 : decode prog_14_method_6_code 15 = .ok (.aload_n 0, 1) := by decide +kernel
theorem d_MD_cant_16 : decode prog_14_method_6_code 16 = .ok (.getfield 242, 3) := by decide +kernel
theorem f_MD_242 : fl_OK "PlainMusicModel" 242 12 5 .int false := ⟨_, rfl, by decide, (gw_in 1487 (by decide +kernel) (by decide +kernel)), rfl, rfl⟩
theorem mr_170_5 : mr 170 5 = (0, 2000) := by decide +kernel
theorem d_MD_cant_19 : decode prog_14_method_6_code 19 = .ok (.invokevirtual 245, 3) := by decide +kernel
theorem k_MD_wrong : mt_OK m_MD_wrong 2 1 := ⟨(gw_in 1885 (by decide +kernel) (by decide +kernel)), (gw_in 146 (by decide +kernel) (by decide +kernel)), ⟨by decide +kernel, by decide +kernel, by decide +kernel⟩, fun h => absurd h (by decide), fun _ => ⟨(gw_in 1884 (by decide +kernel) (by decide +kernel)), (gw_in 71 (by decide +kernel) (by decide +kernel))⟩, fun h => absurd h (by decide)⟩
theorem l_MD_245 : ml_OK "PlainMusicModel" 245 ⟨"PlainMusicModel", "wrong", "(II)Z"⟩ := Or.inl (gw_in 1882 (by decide +kernel) (by decide +kernel))
theorem d_MD_cant_22 : decode prog_14_method_6_code 22 = .ok (.ireturn, 1) := by decide +kernel
theorem d_MD_cant_10 : decode prog_14_method_6_code 10 = .ok (.iconst 1, 1) := by decide +kernel
theorem d_MD_cant_11 : decode prog_14_method_6_code 11 = .ok (.goto 4, 3) := by decide +kernel
def m_MD_at : mr_T := (⟨"PlainMusicModel", "at", "(I)I"⟩, prog_14_method_7_code, 2, some .int)
theorem d_MD_at_0 : decode prog_14_method_7_code 0 = .ok (.iload_n 1, 1) := by decide +kernel
theorem d_MD_at_1 : decode prog_14_method_7_code 1 = .ok (.aload_n 0, 1) := by decide +kernel
theorem d_MD_at_2 : decode prog_14_method_7_code 2 = .ok (.getfield 249, 3) := by decide +kernel
theorem f_MD_249 : fl_OK "PlainMusicModel" 249 12 2 .int false := ⟨_, rfl, by decide, (gw_in 1484 (by decide +kernel) (by decide +kernel)), rfl, rfl⟩
theorem mr_170_2 : mr 170 2 = (0, 2000) := by decide +kernel
theorem d_MD_at_5 : decode prog_14_method_7_code 5 = .ok (.if_icmp .ge 12, 3) := by decide +kernel
theorem d_MD_at_17 : decode prog_14_method_7_code 17 = .ok (.iconst 0, 1) := by decide +kernel
theorem d_MD_at_18 : decode prog_14_method_7_code 18 = .ok (.ireturn, 1) := by decide +kernel
theorem d_MD_at_8 : decode prog_14_method_7_code 8 = .ok (.aload_n 0, 1) := by decide +kernel
theorem d_MD_at_9 : decode prog_14_method_7_code 9 = .ok (.getfield 7, 3) := by decide +kernel
theorem d_MD_at_12 : decode prog_14_method_7_code 12 = .ok (.iload_n 1, 1) := by decide +kernel
theorem d_MD_at_13 : decode prog_14_method_7_code 13 = .ok (.iaload, 1) := by decide +kernel
theorem d_MD_at_14 : decode prog_14_method_7_code 14 = .ok (.goto 4, 3) := by decide +kernel
def m_MD_isDigit : mr_T := (⟨"PlainMusicModel", "isDigit", "(I)Z"⟩, prog_14_method_8_code, 2, some .boolean)
theorem d_MD_isDigit_0 : decode prog_14_method_8_code 0 = .ok (.iload_n 1, 1) := by decide +kernel
theorem d_MD_isDigit_1 : decode prog_14_method_8_code 1 = .ok (.bipush 48, 2) := by decide +kernel
theorem d_MD_isDigit_3 : decode prog_14_method_8_code 3 = .ok (.if_icmp .lt 13, 3) := by decide +kernel
theorem d_MD_isDigit_16 : decode prog_14_method_8_code 16 = .ok (.iconst 0, 1) := by decide +kernel
theorem d_MD_isDigit_17 : decode prog_14_method_8_code 17 = .ok (.ireturn, 1) := by decide +kernel
theorem d_MD_isDigit_6 : decode prog_14_method_8_code 6 = .ok (.iload_n 1, 1) := by decide +kernel
theorem d_MD_isDigit_7 : decode prog_14_method_8_code 7 = .ok (.bipush 57, 2) := by decide +kernel
theorem d_MD_isDigit_9 : decode prog_14_method_8_code 9 = .ok (.if_icmp .gt 7, 3) := by decide +kernel
theorem d_MD_isDigit_12 : decode prog_14_method_8_code 12 = .ok (.iconst 1, 1) := by decide +kernel
theorem d_MD_isDigit_13 : decode prog_14_method_8_code 13 = .ok (.goto 4, 3) := by decide +kernel
def m_MD_isSmall : mr_T := (⟨"PlainMusicModel", "isSmall", "(I)Z"⟩, prog_14_method_9_code, 2, some .boolean)
theorem d_MD_isSmall_0 : decode prog_14_method_9_code 0 = .ok (.iload_n 1, 1) := by decide +kernel
theorem d_MD_isSmall_1 : decode prog_14_method_9_code 1 = .ok (.bipush 97, 2) := by decide +kernel
theorem d_MD_isSmall_3 : decode prog_14_method_9_code 3 = .ok (.if_icmp .lt 13, 3) := by decide +kernel
theorem d_MD_isSmall_16 : decode prog_14_method_9_code 16 = .ok (.iconst 0, 1) := by decide +kernel
theorem d_MD_isSmall_17 : decode prog_14_method_9_code 17 = .ok (.ireturn, 1) := by decide +kernel
theorem d_MD_isSmall_6 : decode prog_14_method_9_code 6 = .ok (.iload_n 1, 1) := by decide +kernel
theorem d_MD_isSmall_7 : decode prog_14_method_9_code 7 = .ok (.bipush 122, 2) := by decide +kernel
theorem d_MD_isSmall_9 : decode prog_14_method_9_code 9 = .ok (.if_icmp .gt 7, 3) := by decide +kernel
theorem d_MD_isSmall_12 : decode prog_14_method_9_code 12 = .ok (.iconst 1, 1) := by decide +kernel
theorem d_MD_isSmall_13 : decode prog_14_method_9_code 13 = .ok (.goto 4, 3) := by decide +kernel
def m_MD_whites : mr_T := (⟨"PlainMusicModel", "whites", "(I)I"⟩, prog_14_method_11_code, 3, some .int)
theorem d_MD_whites_0 : decode prog_14_method_11_code 0 = .ok (.iload_n 1, 1) := by decide +kernel
theorem d_MD_whites_1 : decode prog_14_method_11_code 1 = .ok (.bipush 65, 2) := by decide +kernel
theorem d_MD_whites_3 : decode prog_14_method_11_code 3 = .ok (.isub, 1) := by decide +kernel
theorem d_MD_whites_4 : decode prog_14_method_11_code 4 = .ok (.istore_n 2, 1) := by decide +kernel
theorem d_MD_whites_5 : decode prog_14_method_11_code 5 = .ok (.iload_n 2, 1) := by decide +kernel
theorem d_MD_whites_6 : decode prog_14_method_11_code 6 = .ok (.ifCond .ne 8, 3) := by decide +kernel
theorem d_MD_whites_14 : decode prog_14_method_11_code 14 = .ok (.iload_n 2, 1) := by decide +kernel
theorem d_MD_whites_15 : decode prog_14_method_11_code 15 = .ok (.iconst 1, 1) := by decide +kernel
theorem d_MD_whites_16 : decode prog_14_method_11_code 16 = .ok (.if_icmp .ne 8, 3) := by decide +kernel
theorem d_MD_whites_24 : decode prog_14_method_11_code 24 = .ok (.iload_n 2, 1) := by decide +kernel
theorem d_MD_whites_25 : decode prog_14_method_11_code 25 = .ok (.iconst 2, 1) := by decide +kernel
theorem d_MD_whites_26 : decode prog_14_method_11_code 26 = .ok (.if_icmp .ne 7, 3) := by decide +kernel
theorem d_MD_whites_33 : decode prog_14_method_11_code 33 = .ok (.iload_n 2, 1) := by decide +kernel
theorem d_MD_whites_34 : decode prog_14_method_11_code 34 = .ok (.iconst 3, 1) := by decide +kernel
theorem d_MD_whites_35 : decode prog_14_method_11_code 35 = .ok (.if_icmp .ne 7, 3) := by decide +kernel
theorem d_MD_whites_42 : decode prog_14_method_11_code 42 = .ok (.iload_n 2, 1) := by decide +kernel
theorem d_MD_whites_43 : decode prog_14_method_11_code 43 = .ok (.iconst 4, 1) := by decide +kernel
theorem d_MD_whites_44 : decode prog_14_method_11_code 44 = .ok (.if_icmp .ne 7, 3) := by decide +kernel
theorem d_MD_whites_51 : decode prog_14_method_11_code 51 = .ok (.iload_n 2, 1) := by decide +kernel
theorem d_MD_whites_52 : decode prog_14_method_11_code 52 = .ok (.iconst 5, 1) := by decide +kernel
theorem d_MD_whites_53 : decode prog_14_method_11_code 53 = .ok (.if_icmp .ne 7, 3) := by decide +kernel
theorem d_MD_whites_60 : decode prog_14_method_11_code 60 = .ok (.bipush 7, 2) := by decide +kernel
theorem d_MD_whites_62 : decode prog_14_method_11_code 62 = .ok (.ireturn, 1) := by decide +kernel
theorem d_MD_whites_56 : decode prog_14_method_11_code 56 = .ok (.iconst 5, 1) := by decide +kernel
theorem d_MD_whites_57 : decode prog_14_method_11_code 57 = .ok (.goto 5, 3) := by decide +kernel
theorem d_MD_whites_47 : decode prog_14_method_11_code 47 = .ok (.iconst 4, 1) := by decide +kernel
theorem d_MD_whites_48 : decode prog_14_method_11_code 48 = .ok (.goto 14, 3) := by decide +kernel
theorem d_MD_whites_38 : decode prog_14_method_11_code 38 = .ok (.iconst 2, 1) := by decide +kernel
theorem d_MD_whites_39 : decode prog_14_method_11_code 39 = .ok (.goto 23, 3) := by decide +kernel
theorem d_MD_whites_29 : decode prog_14_method_11_code 29 = .ok (.iconst 0, 1) := by decide +kernel
theorem d_MD_whites_30 : decode prog_14_method_11_code 30 = .ok (.goto 32, 3) := by decide +kernel
theorem d_MD_whites_19 : decode prog_14_method_11_code 19 = .ok (.bipush 11, 2) := by decide +kernel
theorem d_MD_whites_21 : decode prog_14_method_11_code 21 = .ok (.goto 41, 3) := by decide +kernel
theorem d_MD_whites_9 : decode prog_14_method_11_code 9 = .ok (.bipush 9, 2) := by decide +kernel
theorem d_MD_whites_11 : decode prog_14_method_11_code 11 = .ok (.goto 51, 3) := by decide +kernel
def m_MD_pitch : mr_T := (⟨"PlainMusicModel", "pitch", "(I)V"⟩, prog_14_method_12_code, 5, none)
theorem mr_170_3 : mr 170 3 = (0, 2000) := by decide +kernel
theorem d_MD_pitch_0 : decode prog_14_method_12_code 0 = .ok (.aload_n 0, 1) := by decide +kernel
theorem d_MD_pitch_1 : decode prog_14_method_12_code 1 = .ok (.getfield 252, 3) := by decide +kernel
theorem f_MD_252 : fl_OK "PlainMusicModel" 252 12 3 .int false := ⟨_, rfl, by decide, (gw_in 1485 (by decide +kernel) (by decide +kernel)), rfl, rfl⟩
theorem d_MD_pitch_4 : decode prog_14_method_12_code 4 = .ok (.iconst 1, 1) := by decide +kernel
theorem d_MD_pitch_5 : decode prog_14_method_12_code 5 = .ok (.iadd, 1) := by decide +kernel
theorem d_MD_pitch_6 : decode prog_14_method_12_code 6 = .ok (.istore_n 2, 1) := by decide +kernel
theorem d_MD_pitch_7 : decode prog_14_method_12_code 7 = .ok (.iconst 0, 1) := by decide +kernel
theorem d_MD_pitch_8 : decode prog_14_method_12_code 8 = .ok (.istore_n 3, 1) := by decide +kernel
theorem d_MD_pitch_9 : decode prog_14_method_12_code 9 = .ok (.aload_n 0, 1) := by decide +kernel
theorem d_MD_pitch_10 : decode prog_14_method_12_code 10 = .ok (.iload_n 2, 1) := by decide +kernel
theorem d_MD_pitch_11 : decode prog_14_method_12_code 11 = .ok (.invokevirtual 274, 3) := by decide +kernel
theorem k_MD_at : mt_OK m_MD_at 1 1 := ⟨(gw_in 1847 (by decide +kernel) (by decide +kernel)), (gw_in 146 (by decide +kernel) (by decide +kernel)), ⟨by decide +kernel, by decide +kernel, by decide +kernel⟩, fun h => absurd h (by decide), fun _ => ⟨(gw_in 1846 (by decide +kernel) (by decide +kernel)), (gw_in 63 (by decide +kernel) (by decide +kernel))⟩, fun h => absurd h (by decide)⟩
theorem l_MD_274 : ml_OK "PlainMusicModel" 274 ⟨"PlainMusicModel", "at", "(I)I"⟩ := Or.inl (gw_in 1844 (by decide +kernel) (by decide +kernel))
theorem d_MD_pitch_14 : decode prog_14_method_12_code 14 = .ok (.bipush 35, 2) := by decide +kernel
theorem d_MD_pitch_16 : decode prog_14_method_12_code 16 = .ok (.if_icmp .eq 13, 3) := by decide +kernel
theorem d_MD_pitch_29 : decode prog_14_method_12_code 29 = .ok (.aload_n 0, 1) := by decide +kernel
theorem d_MD_pitch_30 : decode prog_14_method_12_code 30 = .ok (.iload_n 2, 1) := by decide +kernel
theorem d_MD_pitch_31 : decode prog_14_method_12_code 31 = .ok (.invokevirtual 274, 3) := by decide +kernel
theorem d_MD_pitch_34 : decode prog_14_method_12_code 34 = .ok (.istore 4, 2) := by decide +kernel
theorem d_MD_pitch_36 : decode prog_14_method_12_code 36 = .ok (.iinc 2 1, 3) := by decide +kernel
theorem d_MD_pitch_39 : decode prog_14_method_12_code 39 = .ok (.iconst 1, 1) := by decide +kernel
theorem d_MD_pitch_40 : decode prog_14_method_12_code 40 = .ok (.istore_n 3, 1) := by decide +kernel
theorem d_MD_pitch_41 : decode prog_14_method_12_code 41 = .ok (.aload_n 0, 1) := by decide +kernel
theorem d_MD_pitch_42 : decode prog_14_method_12_code 42 = .ok (.iload_n 2, 1) := by decide +kernel
theorem d_MD_pitch_43 : decode prog_14_method_12_code 43 = .ok (.invokevirtual 274, 3) := by decide +kernel
theorem d_MD_pitch_46 : decode prog_14_method_12_code 46 = .ok (.iload 4, 2) := by decide +kernel
theorem d_MD_pitch_48 : decode prog_14_method_12_code 48 = .ok (.if_icmp .ne 8, 3) := by decide +kernel
theorem d_MD_pitch_56 : decode prog_14_method_12_code 56 = .ok (.aload_n 0, 1) := by decide +kernel
theorem d_MD_pitch_57 : decode prog_14_method_12_code 57 = .ok (.iload_n 3, 1) := by decide +kernel
theorem d_MD_pitch_58 : decode prog_14_method_12_code 58 = .ok (.putfield 278, 3) := by decide +kernel
theorem f_MD_278 : fl_OK "PlainMusicModel" 278 12 10 .int false := ⟨_, rfl, by decide, (gw_in 1492 (by decide +kernel) (by decide +kernel)), rfl, rfl⟩
theorem mr_170_10 : mr 170 10 = (0, 2) := by decide +kernel
theorem d_MD_pitch_61 : decode prog_14_method_12_code 61 = .ok (.iload 4, 2) := by decide +kernel
theorem d_MD_pitch_63 : decode prog_14_method_12_code 63 = .ok (.bipush 35, 2) := by decide +kernel
theorem d_MD_pitch_65 : decode prog_14_method_12_code 65 = .ok (.if_icmp .ne 7, 3) := by decide +kernel
theorem d_MD_pitch_72 : decode prog_14_method_12_code 72 = .ok (.iload_n 3, 1) := by decide +kernel
theorem d_MD_pitch_73 : decode prog_14_method_12_code 73 = .ok (.ineg, 1) := by decide +kernel
theorem d_MD_pitch_74 : decode prog_14_method_12_code 74 = .ok (.istore_n 3, 1) := by decide +kernel
theorem d_MD_pitch_75 : decode prog_14_method_12_code 75 = .ok (.goto 8, 3) := by decide +kernel
theorem d_MD_pitch_83 : decode prog_14_method_12_code 83 = .ok (.aload_n 0, 1) := by decide +kernel
theorem d_MD_pitch_84 : decode prog_14_method_12_code 84 = .ok (.iload_n 2, 1) := by decide +kernel
theorem d_MD_pitch_85 : decode prog_14_method_12_code 85 = .ok (.invokevirtual 274, 3) := by decide +kernel
theorem d_MD_pitch_88 : decode prog_14_method_12_code 88 = .ok (.istore 4, 2) := by decide +kernel
theorem d_MD_pitch_90 : decode prog_14_method_12_code 90 = .ok (.iload 4, 2) := by decide +kernel
theorem d_MD_pitch_92 : decode prog_14_method_12_code 92 = .ok (.bipush 48, 2) := by decide +kernel
theorem d_MD_pitch_94 : decode prog_14_method_12_code 94 = .ok (.if_icmp .lt 10, 3) := by decide +kernel
theorem d_MD_pitch_104 : decode prog_14_method_12_code 104 = .ok (.aload_n 0, 1) := by decide +kernel
theorem d_MD_pitch_105 : decode prog_14_method_12_code 105 = .ok (.bipush 6, 2) := by decide +kernel
theorem d_MD_pitch_107 : decode prog_14_method_12_code 107 = .ok (.putfield 239, 3) := by decide +kernel
theorem d_MD_pitch_110 : decode prog_14_method_12_code 110 = .ok (.return_, 1) := by decide +kernel
theorem d_MD_pitch_97 : decode prog_14_method_12_code 97 = .ok (.iload 4, 2) := by decide +kernel
theorem d_MD_pitch_99 : decode prog_14_method_12_code 99 = .ok (.bipush 56, 2) := by decide +kernel
theorem d_MD_pitch_101 : decode prog_14_method_12_code 101 = .ok (.if_icmp .le 10, 3) := by decide +kernel
theorem d_MD_pitch_111 : decode prog_14_method_12_code 111 = .ok (.aload_n 0, 1) := by decide +kernel
theorem d_MD_pitch_112 : decode prog_14_method_12_code 112 = .ok (.iconst 1, 1) := by decide +kernel
theorem d_MD_pitch_113 : decode prog_14_method_12_code 113 = .ok (.putfield 239, 3) := by decide +kernel
theorem d_MD_pitch_116 : decode prog_14_method_12_code 116 = .ok (.aload_n 0, 1) := by decide +kernel
theorem d_MD_pitch_117 : decode prog_14_method_12_code 117 = .ok (.bipush 12, 2) := by decide +kernel
theorem d_MD_pitch_119 : decode prog_14_method_12_code 119 = .ok (.iload 4, 2) := by decide +kernel
theorem d_MD_pitch_121 : decode prog_14_method_12_code 121 = .ok (.bipush 48, 2) := by decide +kernel
theorem d_MD_pitch_123 : decode prog_14_method_12_code 123 = .ok (.isub, 1) := by decide +kernel
theorem d_MD_pitch_124 : decode prog_14_method_12_code 124 = .ok (.imul, 1) := by decide +kernel
theorem d_MD_pitch_125 : decode prog_14_method_12_code 125 = .ok (.aload_n 0, 1) := by decide +kernel
theorem d_MD_pitch_126 : decode prog_14_method_12_code 126 = .ok (.iload_n 1, 1) := by decide +kernel
theorem d_MD_pitch_127 : decode prog_14_method_12_code 127 = .ok (.invokevirtual 281, 3) := by decide +kernel
theorem k_MD_whites : mt_OK m_MD_whites 1 1 := ⟨(gw_in 1851 (by decide +kernel) (by decide +kernel)), (gw_in 146 (by decide +kernel) (by decide +kernel)), ⟨by decide +kernel, by decide +kernel, by decide +kernel⟩, fun h => absurd h (by decide), fun _ => ⟨(gw_in 1850 (by decide +kernel) (by decide +kernel)), (gw_in 64 (by decide +kernel) (by decide +kernel))⟩, fun h => absurd h (by decide)⟩
theorem l_MD_281 : ml_OK "PlainMusicModel" 281 ⟨"PlainMusicModel", "whites", "(I)I"⟩ := Or.inl (gw_in 1848 (by decide +kernel) (by decide +kernel))
theorem d_MD_pitch_130 : decode prog_14_method_12_code 130 = .ok (.iadd, 1) := by decide +kernel
theorem d_MD_pitch_131 : decode prog_14_method_12_code 131 = .ok (.iload_n 3, 1) := by decide +kernel
theorem d_MD_pitch_132 : decode prog_14_method_12_code 132 = .ok (.iadd, 1) := by decide +kernel
theorem d_MD_pitch_133 : decode prog_14_method_12_code 133 = .ok (.putfield 284, 3) := by decide +kernel
theorem f_MD_284 : fl_OK "PlainMusicModel" 284 12 8 .int false := ⟨_, rfl, by decide, (gw_in 1490 (by decide +kernel) (by decide +kernel)), rfl, rfl⟩
theorem mr_170_8 : mr 170 8 = ((-2), 109) := by decide +kernel
theorem d_MD_pitch_136 : decode prog_14_method_12_code 136 = .ok (.aload_n 0, 1) := by decide +kernel
theorem d_MD_pitch_137 : decode prog_14_method_12_code 137 = .ok (.bipush 7, 2) := by decide +kernel
theorem d_MD_pitch_139 : decode prog_14_method_12_code 139 = .ok (.iload 4, 2) := by decide +kernel
theorem d_MD_pitch_141 : decode prog_14_method_12_code 141 = .ok (.bipush 48, 2) := by decide +kernel
theorem d_MD_pitch_143 : decode prog_14_method_12_code 143 = .ok (.isub, 1) := by decide +kernel
theorem d_MD_pitch_144 : decode prog_14_method_12_code 144 = .ok (.imul, 1) := by decide +kernel
theorem d_MD_pitch_145 : decode prog_14_method_12_code 145 = .ok (.iload_n 1, 1) := by decide +kernel
theorem d_MD_pitch_146 : decode prog_14_method_12_code 146 = .ok (.bipush 67, 2) := by decide +kernel
theorem d_MD_pitch_148 : decode prog_14_method_12_code 148 = .ok (.if_icmp .lt 10, 3) := by decide +kernel
theorem d_MD_pitch_158 : decode prog_14_method_12_code 158 = .ok (.iload_n 1, 1) := by decide +kernel
theorem d_MD_pitch_159 : decode prog_14_method_12_code 159 = .ok (.bipush 65, 2) := by decide +kernel
theorem d_MD_pitch_161 : decode prog_14_method_12_code 161 = .ok (.isub, 1) := by decide +kernel
theorem d_MD_pitch_162 : decode prog_14_method_12_code 162 = .ok (.iconst 5, 1) := by decide +kernel
theorem d_MD_pitch_163 : decode prog_14_method_12_code 163 = .ok (.iadd, 1) := by decide +kernel
theorem d_MD_pitch_164 : decode prog_14_method_12_code 164 = .ok (.iadd, 1) := by decide +kernel
theorem d_MD_pitch_165 : decode prog_14_method_12_code 165 = .ok (.putfield 287, 3) := by decide +kernel
theorem f_MD_287 : fl_OK "PlainMusicModel" 287 12 9 .int false := ⟨_, rfl, by decide, (gw_in 1491 (by decide +kernel) (by decide +kernel)), rfl, rfl⟩
theorem mr_170_9 : mr 170 9 = (0, 62) := by decide +kernel
theorem d_MD_pitch_168 : decode prog_14_method_12_code 168 = .ok (.aload_n 0, 1) := by decide +kernel
theorem d_MD_pitch_169 : decode prog_14_method_12_code 169 = .ok (.iload_n 2, 1) := by decide +kernel
theorem d_MD_pitch_170 : decode prog_14_method_12_code 170 = .ok (.iconst 1, 1) := by decide +kernel
theorem d_MD_pitch_171 : decode prog_14_method_12_code 171 = .ok (.iadd, 1) := by decide +kernel
theorem d_MD_pitch_172 : decode prog_14_method_12_code 172 = .ok (.putfield 252, 3) := by decide +kernel
theorem d_MD_pitch_175 : decode prog_14_method_12_code 175 = .ok (.return_, 1) := by decide +kernel
theorem d_MD_pitch_151 : decode prog_14_method_12_code 151 = .ok (.iload_n 1, 1) := by decide +kernel
theorem d_MD_pitch_152 : decode prog_14_method_12_code 152 = .ok (.bipush 67, 2) := by decide +kernel
theorem d_MD_pitch_154 : decode prog_14_method_12_code 154 = .ok (.isub, 1) := by decide +kernel
theorem d_MD_pitch_155 : decode prog_14_method_12_code 155 = .ok (.goto 9, 3) := by decide +kernel
theorem d_MD_pitch_68 : decode prog_14_method_12_code 68 = .ok (.iload_n 3, 1) := by decide +kernel
theorem d_MD_pitch_69 : decode prog_14_method_12_code 69 = .ok (.goto 5, 3) := by decide +kernel
theorem d_MD_pitch_51 : decode prog_14_method_12_code 51 = .ok (.iinc 2 1, 3) := by decide +kernel
theorem d_MD_pitch_54 : decode prog_14_method_12_code 54 = .ok (.iconst 2, 1) := by decide +kernel
theorem d_MD_pitch_55 : decode prog_14_method_12_code 55 = .ok (.istore_n 3, 1) := by decide +kernel
theorem d_MD_pitch_19 : decode prog_14_method_12_code 19 = .ok (.aload_n 0, 1) := by decide +kernel
theorem d_MD_pitch_20 : decode prog_14_method_12_code 20 = .ok (.iload_n 2, 1) := by decide +kernel
theorem d_MD_pitch_21 : decode prog_14_method_12_code 21 = .ok (.invokevirtual 274, 3) := by decide +kernel
theorem d_MD_pitch_24 : decode prog_14_method_12_code 24 = .ok (.bipush 98, 2) := by decide +kernel
theorem d_MD_pitch_26 : decode prog_14_method_12_code 26 = .ok (.if_icmp .ne 52, 3) := by decide +kernel
theorem d_MD_pitch_78 : decode prog_14_method_12_code 78 = .ok (.aload_n 0, 1) := by decide +kernel
theorem d_MD_pitch_79 : decode prog_14_method_12_code 79 = .ok (.iconst 0, 1) := by decide +kernel
theorem d_MD_pitch_80 : decode prog_14_method_12_code 80 = .ok (.putfield 278, 3) := by decide +kernel
def m_MD_word : mr_T := (⟨"PlainMusicModel", "word", "()V"⟩, prog_14_method_13_code, 3, none)
theorem d_MD_word_0 : decode prog_14_method_13_code 0 = .ok (.iconst 0, 1) := by decide +kernel
theorem d_MD_word_1 : decode prog_14_method_13_code 1 = .ok (.istore_n 1, 1) := by decide +kernel
theorem d_MD_word_2 : decode prog_14_method_13_code 2 = .ok (.aload_n 0, 1) := by decide +kernel
theorem d_MD_word_3 : decode prog_14_method_13_code 3 = .ok (.lconst 0, 1) := by decide +kernel
theorem d_MD_word_4 : decode prog_14_method_13_code 4 = .ok (.putfield 290, 3) := by decide +kernel
theorem f_MD_290 : fl_OK "PlainMusicModel" 290 12 7 .long false := ⟨_, rfl, by decide, (gw_in 1489 (by decide +kernel) (by decide +kernel)), rfl, rfl⟩
theorem mq_170_7 : mq 170 7 = ((-9223372036854775808), 9223372036854775807) := by decide +kernel
theorem d_MD_word_7 : decode prog_14_method_13_code 7 = .ok (.aload_n 0, 1) := by decide +kernel
theorem d_MD_word_8 : decode prog_14_method_13_code 8 = .ok (.aload_n 0, 1) := by decide +kernel
theorem d_MD_word_9 : decode prog_14_method_13_code 9 = .ok (.aload_n 0, 1) := by decide +kernel
theorem d_MD_word_10 : decode prog_14_method_13_code 10 = .ok (.getfield 252, 3) := by decide +kernel
theorem d_MD_word_13 : decode prog_14_method_13_code 13 = .ok (.invokevirtual 274, 3) := by decide +kernel
theorem d_MD_word_16 : decode prog_14_method_13_code 16 = .ok (.invokevirtual 258, 3) := by decide +kernel
theorem k_MD_isSmall : mt_OK m_MD_isSmall 1 1 := ⟨(gw_in 1855 (by decide +kernel) (by decide +kernel)), (gw_in 146 (by decide +kernel) (by decide +kernel)), ⟨by decide +kernel, by decide +kernel, by decide +kernel⟩, fun h => absurd h (by decide), fun _ => ⟨(gw_in 1854 (by decide +kernel) (by decide +kernel)), (gw_in 65 (by decide +kernel) (by decide +kernel))⟩, fun h => absurd h (by decide)⟩
theorem l_MD_258 : ml_OK "PlainMusicModel" 258 ⟨"PlainMusicModel", "isSmall", "(I)Z"⟩ := Or.inl (gw_in 1852 (by decide +kernel) (by decide +kernel))
theorem d_MD_word_19 : decode prog_14_method_13_code 19 = .ok (.ifCond .eq 40, 3) := by decide +kernel
theorem d_MD_word_59 : decode prog_14_method_13_code 59 = .ok (.aload_n 0, 1) := by decide +kernel
theorem d_MD_word_60 : decode prog_14_method_13_code 60 = .ok (.iload_n 1, 1) := by decide +kernel
theorem d_MD_word_61 : decode prog_14_method_13_code 61 = .ok (.bipush 8, 2) := by decide +kernel
theorem d_MD_word_63 : decode prog_14_method_13_code 63 = .ok (.if_icmp .le 8, 3) := by decide +kernel
theorem d_MD_word_71 : decode prog_14_method_13_code 71 = .ok (.iconst 2, 1) := by decide +kernel
theorem d_MD_word_72 : decode prog_14_method_13_code 72 = .ok (.putfield 239, 3) := by decide +kernel
theorem d_MD_word_75 : decode prog_14_method_13_code 75 = .ok (.iload_n 1, 1) := by decide +kernel
theorem d_MD_word_76 : decode prog_14_method_13_code 76 = .ok (.iconst 5, 1) := by decide +kernel
theorem d_MD_word_77 : decode prog_14_method_13_code 77 = .ok (.if_icmp .le 4, 3) := by decide +kernel
theorem d_MD_word_81 : decode prog_14_method_13_code 81 = .ok (.aload_n 0, 1) := by decide +kernel
theorem d_MD_word_82 : decode prog_14_method_13_code 82 = .ok (.getfield 290, 3) := by decide +kernel
theorem d_MD_word_85 : decode prog_14_method_13_code 85 = .ok (.ldc2_w 294, 3) := by decide +kernel
theorem cst_MD_294 : Cond.constantLong "PlainMusicModel" 294 (Int64.ofInt 1953066341) ∈ gw := (gw_in 1860 (by decide +kernel) (by decide +kernel))
theorem d_MD_word_88 : decode prog_14_method_13_code 88 = .ok (.lcmp, 1) := by decide +kernel
theorem d_MD_word_89 : decode prog_14_method_13_code 89 = .ok (.ifCond .ne 7, 3) := by decide +kernel
theorem d_MD_word_96 : decode prog_14_method_13_code 96 = .ok (.aload_n 0, 1) := by decide +kernel
theorem d_MD_word_97 : decode prog_14_method_13_code 97 = .ok (.getfield 290, 3) := by decide +kernel
theorem d_MD_word_100 : decode prog_14_method_13_code 100 = .ok (.ldc2_w 296, 3) := by decide +kernel
theorem cst_MD_296 : Cond.constantLong "PlainMusicModel" 296 (Int64.ofInt 508675318629) ∈ gw := (gw_in 1861 (by decide +kernel) (by decide +kernel))
theorem d_MD_word_103 : decode prog_14_method_13_code 103 = .ok (.lcmp, 1) := by decide +kernel
theorem d_MD_word_104 : decode prog_14_method_13_code 104 = .ok (.ifCond .ne 7, 3) := by decide +kernel
theorem d_MD_word_111 : decode prog_14_method_13_code 111 = .ok (.aload_n 0, 1) := by decide +kernel
theorem d_MD_word_112 : decode prog_14_method_13_code 112 = .ok (.getfield 290, 3) := by decide +kernel
theorem d_MD_word_115 : decode prog_14_method_13_code 115 = .ok (.ldc2_w 298, 3) := by decide +kernel
theorem cst_MD_298 : Cond.constantLong "PlainMusicModel" 298 (Int64.ofInt 1818848869) ∈ gw := (gw_in 1862 (by decide +kernel) (by decide +kernel))
theorem d_MD_word_118 : decode prog_14_method_13_code 118 = .ok (.lcmp, 1) := by decide +kernel
theorem d_MD_word_119 : decode prog_14_method_13_code 119 = .ok (.ifCond .ne 7, 3) := by decide +kernel
theorem d_MD_word_126 : decode prog_14_method_13_code 126 = .ok (.aload_n 0, 1) := by decide +kernel
theorem d_MD_word_127 : decode prog_14_method_13_code 127 = .ok (.getfield 290, 3) := by decide +kernel
theorem d_MD_word_130 : decode prog_14_method_13_code 130 = .ok (.ldc2_w 300, 3) := by decide +kernel
theorem cst_MD_300 : Cond.constantLong "PlainMusicModel" 300 (Int64.ofInt 1920298085) ∈ gw := (gw_in 1863 (by decide +kernel) (by decide +kernel))
theorem d_MD_word_133 : decode prog_14_method_13_code 133 = .ok (.lcmp, 1) := by decide +kernel
theorem d_MD_word_134 : decode prog_14_method_13_code 134 = .ok (.ifCond .ne 7, 3) := by decide +kernel
theorem d_MD_word_141 : decode prog_14_method_13_code 141 = .ok (.aload_n 0, 1) := by decide +kernel
theorem d_MD_word_142 : decode prog_14_method_13_code 142 = .ok (.getfield 290, 3) := by decide +kernel
theorem d_MD_word_145 : decode prog_14_method_13_code 145 = .ok (.ldc2_w 302, 3) := by decide +kernel
theorem cst_MD_302 : Cond.constantLong "PlainMusicModel" 302 (Int64.ofInt 7499639) ∈ gw := (gw_in 1864 (by decide +kernel) (by decide +kernel))
theorem d_MD_word_148 : decode prog_14_method_13_code 148 = .ok (.lcmp, 1) := by decide +kernel
theorem d_MD_word_149 : decode prog_14_method_13_code 149 = .ok (.ifCond .ne 7, 3) := by decide +kernel
theorem d_MD_word_156 : decode prog_14_method_13_code 156 = .ok (.aload_n 0, 1) := by decide +kernel
theorem d_MD_word_157 : decode prog_14_method_13_code 157 = .ok (.getfield 290, 3) := by decide +kernel
theorem d_MD_word_160 : decode prog_14_method_13_code 160 = .ok (.ldc2_w 304, 3) := by decide +kernel
theorem cst_MD_304 : Cond.constantLong "PlainMusicModel" 304 (Int64.ofInt 114) ∈ gw := (gw_in 1865 (by decide +kernel) (by decide +kernel))
theorem d_MD_word_163 : decode prog_14_method_13_code 163 = .ok (.lcmp, 1) := by decide +kernel
theorem d_MD_word_164 : decode prog_14_method_13_code 164 = .ok (.ifCond .ne 7, 3) := by decide +kernel
theorem d_MD_word_171 : decode prog_14_method_13_code 171 = .ok (.bipush (-2), 2) := by decide +kernel
theorem d_MD_word_173 : decode prog_14_method_13_code 173 = .ok (.istore_n 2, 1) := by decide +kernel
theorem d_MD_word_174 : decode prog_14_method_13_code 174 = .ok (.iload_n 2, 1) := by decide +kernel
theorem d_MD_word_175 : decode prog_14_method_13_code 175 = .ok (.bipush (-2), 2) := by decide +kernel
theorem d_MD_word_177 : decode prog_14_method_13_code 177 = .ok (.if_icmp .ne 4, 3) := by decide +kernel
theorem d_MD_word_180 : decode prog_14_method_13_code 180 = .ok (.return_, 1) := by decide +kernel
theorem d_MD_word_167 : decode prog_14_method_13_code 167 = .ok (.iconst 5, 1) := by decide +kernel
theorem d_MD_word_168 : decode prog_14_method_13_code 168 = .ok (.goto 5, 3) := by decide +kernel
theorem d_MD_word_181 : decode prog_14_method_13_code 181 = .ok (.aload_n 0, 1) := by decide +kernel
theorem d_MD_word_182 : decode prog_14_method_13_code 182 = .ok (.iconst 4, 1) := by decide +kernel
theorem d_MD_word_183 : decode prog_14_method_13_code 183 = .ok (.putfield 239, 3) := by decide +kernel
theorem d_MD_word_186 : decode prog_14_method_13_code 186 = .ok (.aload_n 0, 1) := by decide +kernel
theorem d_MD_word_187 : decode prog_14_method_13_code 187 = .ok (.iload_n 2, 1) := by decide +kernel
theorem d_MD_word_188 : decode prog_14_method_13_code 188 = .ok (.putfield 271, 3) := by decide +kernel
theorem f_MD_271 : fl_OK "PlainMusicModel" 271 12 6 .int false := ⟨_, rfl, by decide, (gw_in 1488 (by decide +kernel) (by decide +kernel)), rfl, rfl⟩
theorem mr_170_6 : mr 170 6 = (0, 9999) := by decide +kernel
theorem d_MD_word_191 : decode prog_14_method_13_code 191 = .ok (.return_, 1) := by decide +kernel
theorem d_MD_word_152 : decode prog_14_method_13_code 152 = .ok (.iconst 4, 1) := by decide +kernel
theorem d_MD_word_153 : decode prog_14_method_13_code 153 = .ok (.goto 20, 3) := by decide +kernel
theorem d_MD_word_137 : decode prog_14_method_13_code 137 = .ok (.iconst 3, 1) := by decide +kernel
theorem d_MD_word_138 : decode prog_14_method_13_code 138 = .ok (.goto 35, 3) := by decide +kernel
theorem d_MD_word_122 : decode prog_14_method_13_code 122 = .ok (.iconst 2, 1) := by decide +kernel
theorem d_MD_word_123 : decode prog_14_method_13_code 123 = .ok (.goto 50, 3) := by decide +kernel
theorem d_MD_word_107 : decode prog_14_method_13_code 107 = .ok (.iconst 1, 1) := by decide +kernel
theorem d_MD_word_108 : decode prog_14_method_13_code 108 = .ok (.goto 65, 3) := by decide +kernel
theorem d_MD_word_92 : decode prog_14_method_13_code 92 = .ok (.iconst 0, 1) := by decide +kernel
theorem d_MD_word_93 : decode prog_14_method_13_code 93 = .ok (.goto 80, 3) := by decide +kernel
theorem d_MD_word_80 : decode prog_14_method_13_code 80 = .ok (.return_, 1) := by decide +kernel
theorem d_MD_word_66 : decode prog_14_method_13_code 66 = .ok (.bipush 6, 2) := by decide +kernel
theorem d_MD_word_68 : decode prog_14_method_13_code 68 = .ok (.goto 4, 3) := by decide +kernel
theorem d_MD_word_22 : decode prog_14_method_13_code 22 = .ok (.aload_n 0, 1) := by decide +kernel
theorem d_MD_word_23 : decode prog_14_method_13_code 23 = .ok (.aload_n 0, 1) := by decide +kernel
theorem d_MD_word_24 : decode prog_14_method_13_code 24 = .ok (.getfield 290, 3) := by decide +kernel
theorem d_MD_word_27 : decode prog_14_method_13_code 27 = .ok (.bipush 8, 2) := by decide +kernel
theorem d_MD_word_29 : decode prog_14_method_13_code 29 = .ok (.lshl, 1) := by decide +kernel
theorem d_MD_word_30 : decode prog_14_method_13_code 30 = .ok (.aload_n 0, 1) := by decide +kernel
theorem d_MD_word_31 : decode prog_14_method_13_code 31 = .ok (.aload_n 0, 1) := by decide +kernel
theorem d_MD_word_32 : decode prog_14_method_13_code 32 = .ok (.getfield 252, 3) := by decide +kernel
theorem d_MD_word_35 : decode prog_14_method_13_code 35 = .ok (.invokevirtual 274, 3) := by decide +kernel
theorem d_MD_word_38 : decode prog_14_method_13_code 38 = .ok (.i2l, 1) := by decide +kernel
theorem d_MD_word_39 : decode prog_14_method_13_code 39 = .ok (.lor, 1) := by decide +kernel
theorem d_MD_word_40 : decode prog_14_method_13_code 40 = .ok (.putfield 290, 3) := by decide +kernel
theorem d_MD_word_43 : decode prog_14_method_13_code 43 = .ok (.aload_n 0, 1) := by decide +kernel
theorem d_MD_word_44 : decode prog_14_method_13_code 44 = .ok (.dup, 1) := by decide +kernel
theorem d_MD_word_45 : decode prog_14_method_13_code 45 = .ok (.getfield 252, 3) := by decide +kernel
theorem d_MD_word_48 : decode prog_14_method_13_code 48 = .ok (.iconst 1, 1) := by decide +kernel
theorem d_MD_word_49 : decode prog_14_method_13_code 49 = .ok (.iadd, 1) := by decide +kernel
theorem d_MD_word_50 : decode prog_14_method_13_code 50 = .ok (.putfield 252, 3) := by decide +kernel
theorem d_MD_word_53 : decode prog_14_method_13_code 53 = .ok (.iinc 1 1, 3) := by decide +kernel
theorem d_MD_word_56 : decode prog_14_method_13_code 56 = .ok (.goto (-49), 3) := by decide +kernel
def m_MD_number : mr_T := (⟨"PlainMusicModel", "number", "()V"⟩, prog_14_method_14_code, 2, none)
theorem d_MD_number_0 : decode prog_14_method_14_code 0 = .ok (.iconst 0, 1) := by decide +kernel
theorem d_MD_number_1 : decode prog_14_method_14_code 1 = .ok (.istore_n 1, 1) := by decide +kernel
theorem d_MD_number_2 : decode prog_14_method_14_code 2 = .ok (.aload_n 0, 1) := by decide +kernel
theorem d_MD_number_3 : decode prog_14_method_14_code 3 = .ok (.iconst 0, 1) := by decide +kernel
theorem d_MD_number_4 : decode prog_14_method_14_code 4 = .ok (.putfield 271, 3) := by decide +kernel
theorem d_MD_number_7 : decode prog_14_method_14_code 7 = .ok (.aload_n 0, 1) := by decide +kernel
theorem d_MD_number_8 : decode prog_14_method_14_code 8 = .ok (.aload_n 0, 1) := by decide +kernel
theorem d_MD_number_9 : decode prog_14_method_14_code 9 = .ok (.aload_n 0, 1) := by decide +kernel
theorem d_MD_number_10 : decode prog_14_method_14_code 10 = .ok (.getfield 252, 3) := by decide +kernel
theorem d_MD_number_13 : decode prog_14_method_14_code 13 = .ok (.invokevirtual 274, 3) := by decide +kernel
theorem d_MD_number_16 : decode prog_14_method_14_code 16 = .ok (.invokevirtual 265, 3) := by decide +kernel
theorem k_MD_isDigit : mt_OK m_MD_isDigit 1 1 := ⟨(gw_in 1869 (by decide +kernel) (by decide +kernel)), (gw_in 146 (by decide +kernel) (by decide +kernel)), ⟨by decide +kernel, by decide +kernel, by decide +kernel⟩, fun h => absurd h (by decide), fun _ => ⟨(gw_in 1868 (by decide +kernel) (by decide +kernel)), (gw_in 67 (by decide +kernel) (by decide +kernel))⟩, fun h => absurd h (by decide)⟩
theorem l_MD_265 : ml_OK "PlainMusicModel" 265 ⟨"PlainMusicModel", "isDigit", "(I)Z"⟩ := Or.inl (gw_in 1866 (by decide +kernel) (by decide +kernel))
theorem d_MD_number_19 : decode prog_14_method_14_code 19 = .ok (.ifCond .eq 47, 3) := by decide +kernel
theorem d_MD_number_66 : decode prog_14_method_14_code 66 = .ok (.aload_n 0, 1) := by decide +kernel
theorem d_MD_number_67 : decode prog_14_method_14_code 67 = .ok (.iload_n 1, 1) := by decide +kernel
theorem d_MD_number_68 : decode prog_14_method_14_code 68 = .ok (.iconst 4, 1) := by decide +kernel
theorem d_MD_number_69 : decode prog_14_method_14_code 69 = .ok (.if_icmp .le 8, 3) := by decide +kernel
theorem d_MD_number_77 : decode prog_14_method_14_code 77 = .ok (.iconst 3, 1) := by decide +kernel
theorem d_MD_number_78 : decode prog_14_method_14_code 78 = .ok (.putfield 239, 3) := by decide +kernel
theorem d_MD_number_81 : decode prog_14_method_14_code 81 = .ok (.return_, 1) := by decide +kernel
theorem d_MD_number_72 : decode prog_14_method_14_code 72 = .ok (.bipush 6, 2) := by decide +kernel
theorem d_MD_number_74 : decode prog_14_method_14_code 74 = .ok (.goto 4, 3) := by decide +kernel
theorem d_MD_number_22 : decode prog_14_method_14_code 22 = .ok (.iload_n 1, 1) := by decide +kernel
theorem d_MD_number_23 : decode prog_14_method_14_code 23 = .ok (.iconst 4, 1) := by decide +kernel
theorem d_MD_number_24 : decode prog_14_method_14_code 24 = .ok (.if_icmp .ge 26, 3) := by decide +kernel
theorem d_MD_number_50 : decode prog_14_method_14_code 50 = .ok (.aload_n 0, 1) := by decide +kernel
theorem d_MD_number_51 : decode prog_14_method_14_code 51 = .ok (.dup, 1) := by decide +kernel
theorem d_MD_number_52 : decode prog_14_method_14_code 52 = .ok (.getfield 252, 3) := by decide +kernel
theorem d_MD_number_55 : decode prog_14_method_14_code 55 = .ok (.iconst 1, 1) := by decide +kernel
theorem d_MD_number_56 : decode prog_14_method_14_code 56 = .ok (.iadd, 1) := by decide +kernel
theorem d_MD_number_57 : decode prog_14_method_14_code 57 = .ok (.putfield 252, 3) := by decide +kernel
theorem d_MD_number_60 : decode prog_14_method_14_code 60 = .ok (.iinc 1 1, 3) := by decide +kernel
theorem d_MD_number_63 : decode prog_14_method_14_code 63 = .ok (.goto (-56), 3) := by decide +kernel
theorem d_MD_number_27 : decode prog_14_method_14_code 27 = .ok (.aload_n 0, 1) := by decide +kernel
theorem d_MD_number_28 : decode prog_14_method_14_code 28 = .ok (.bipush 10, 2) := by decide +kernel
theorem d_MD_number_30 : decode prog_14_method_14_code 30 = .ok (.aload_n 0, 1) := by decide +kernel
theorem d_MD_number_31 : decode prog_14_method_14_code 31 = .ok (.getfield 271, 3) := by decide +kernel
theorem d_MD_number_34 : decode prog_14_method_14_code 34 = .ok (.imul, 1) := by decide +kernel
theorem d_MD_number_35 : decode prog_14_method_14_code 35 = .ok (.aload_n 0, 1) := by decide +kernel
theorem d_MD_number_36 : decode prog_14_method_14_code 36 = .ok (.aload_n 0, 1) := by decide +kernel
theorem d_MD_number_37 : decode prog_14_method_14_code 37 = .ok (.getfield 252, 3) := by decide +kernel
theorem d_MD_number_40 : decode prog_14_method_14_code 40 = .ok (.invokevirtual 274, 3) := by decide +kernel
theorem d_MD_number_43 : decode prog_14_method_14_code 43 = .ok (.iadd, 1) := by decide +kernel
theorem d_MD_number_44 : decode prog_14_method_14_code 44 = .ok (.bipush 48, 2) := by decide +kernel
theorem d_MD_number_46 : decode prog_14_method_14_code 46 = .ok (.isub, 1) := by decide +kernel
theorem d_MD_number_47 : decode prog_14_method_14_code 47 = .ok (.putfield 271, 3) := by decide +kernel
def m_MD_next : mr_T := (⟨"PlainMusicModel", "next", "()Z"⟩, prog_14_method_10_code, 4, some .boolean)
theorem d_MD_next_0 : decode prog_14_method_10_code 0 = .ok (.iconst 0, 1) := by decide +kernel
theorem d_MD_next_1 : decode prog_14_method_10_code 1 = .ok (.istore_n 1, 1) := by decide +kernel
theorem d_MD_next_2 : decode prog_14_method_10_code 2 = .ok (.aload_n 0, 1) := by decide +kernel
theorem d_MD_next_3 : decode prog_14_method_10_code 3 = .ok (.getfield 252, 3) := by decide +kernel
theorem d_MD_next_6 : decode prog_14_method_10_code 6 = .ok (.aload_n 0, 1) := by decide +kernel
theorem d_MD_next_7 : decode prog_14_method_10_code 7 = .ok (.getfield 249, 3) := by decide +kernel
theorem d_MD_next_10 : decode prog_14_method_10_code 10 = .ok (.if_icmp .ge 128, 3) := by decide +kernel
theorem d_MD_next_138 : decode prog_14_method_10_code 138 = .ok (.aload_n 0, 1) := by decide +kernel
theorem d_MD_next_139 : decode prog_14_method_10_code 139 = .ok (.aload_n 0, 1) := by decide +kernel
theorem d_MD_next_140 : decode prog_14_method_10_code 140 = .ok (.getfield 252, 3) := by decide +kernel
theorem d_MD_next_143 : decode prog_14_method_10_code 143 = .ok (.putfield 242, 3) := by decide +kernel
theorem d_MD_next_146 : decode prog_14_method_10_code 146 = .ok (.aload_n 0, 1) := by decide +kernel
theorem d_MD_next_147 : decode prog_14_method_10_code 147 = .ok (.getfield 252, 3) := by decide +kernel
theorem d_MD_next_150 : decode prog_14_method_10_code 150 = .ok (.aload_n 0, 1) := by decide +kernel
theorem d_MD_next_151 : decode prog_14_method_10_code 151 = .ok (.getfield 249, 3) := by decide +kernel
theorem d_MD_next_154 : decode prog_14_method_10_code 154 = .ok (.if_icmp .ne 10, 3) := by decide +kernel
theorem d_MD_next_164 : decode prog_14_method_10_code 164 = .ok (.aload_n 0, 1) := by decide +kernel
theorem d_MD_next_165 : decode prog_14_method_10_code 165 = .ok (.getfield 7, 3) := by decide +kernel
theorem d_MD_next_168 : decode prog_14_method_10_code 168 = .ok (.aload_n 0, 1) := by decide +kernel
theorem d_MD_next_169 : decode prog_14_method_10_code 169 = .ok (.getfield 252, 3) := by decide +kernel
theorem d_MD_next_172 : decode prog_14_method_10_code 172 = .ok (.iaload, 1) := by decide +kernel
theorem d_MD_next_173 : decode prog_14_method_10_code 173 = .ok (.istore_n 2, 1) := by decide +kernel
theorem d_MD_next_174 : decode prog_14_method_10_code 174 = .ok (.iload_n 2, 1) := by decide +kernel
theorem d_MD_next_175 : decode prog_14_method_10_code 175 = .ok (.bipush 65, 2) := by decide +kernel
theorem d_MD_next_177 : decode prog_14_method_10_code 177 = .ok (.if_icmp .lt 17, 3) := by decide +kernel
theorem d_MD_next_194 : decode prog_14_method_10_code 194 = .ok (.aload_n 0, 1) := by decide +kernel
theorem d_MD_next_195 : decode prog_14_method_10_code 195 = .ok (.iload_n 2, 1) := by decide +kernel
theorem d_MD_next_196 : decode prog_14_method_10_code 196 = .ok (.invokevirtual 258, 3) := by decide +kernel
theorem d_MD_next_199 : decode prog_14_method_10_code 199 = .ok (.ifCond .eq 10, 3) := by decide +kernel
theorem d_MD_next_209 : decode prog_14_method_10_code 209 = .ok (.aload_n 0, 1) := by decide +kernel
theorem d_MD_next_210 : decode prog_14_method_10_code 210 = .ok (.iload_n 2, 1) := by decide +kernel
theorem d_MD_next_211 : decode prog_14_method_10_code 211 = .ok (.invokevirtual 265, 3) := by decide +kernel
theorem d_MD_next_214 : decode prog_14_method_10_code 214 = .ok (.ifCond .eq 10, 3) := by decide +kernel
theorem d_MD_next_224 : decode prog_14_method_10_code 224 = .ok (.iload_n 2, 1) := by decide +kernel
theorem d_MD_next_225 : decode prog_14_method_10_code 225 = .ok (.bipush 59, 2) := by decide +kernel
theorem d_MD_next_227 : decode prog_14_method_10_code 227 = .ok (.if_icmp .eq 75, 3) := by decide +kernel
theorem d_MD_next_302 : decode prog_14_method_10_code 302 = .ok (.iconst 1, 1) := by decide +kernel
theorem d_MD_next_303 : decode prog_14_method_10_code 303 = .ok (.goto 4, 3) := by decide +kernel
theorem d_MD_next_307 : decode prog_14_method_10_code 307 = .ok (.istore_n 3, 1) := by decide +kernel
theorem d_MD_next_308 : decode prog_14_method_10_code 308 = .ok (.aload_n 0, 1) := by decide +kernel
theorem d_MD_next_309 : decode prog_14_method_10_code 309 = .ok (.iload_n 3, 1) := by decide +kernel
theorem d_MD_next_310 : decode prog_14_method_10_code 310 = .ok (.ifCond .eq 7, 3) := by decide +kernel
theorem d_MD_next_313 : decode prog_14_method_10_code 313 = .ok (.iconst 5, 1) := by decide +kernel
theorem d_MD_next_314 : decode prog_14_method_10_code 314 = .ok (.goto 5, 3) := by decide +kernel
theorem d_MD_next_319 : decode prog_14_method_10_code 319 = .ok (.putfield 239, 3) := by decide +kernel
theorem d_MD_next_322 : decode prog_14_method_10_code 322 = .ok (.aload_n 0, 1) := by decide +kernel
theorem d_MD_next_323 : decode prog_14_method_10_code 323 = .ok (.iload_n 2, 1) := by decide +kernel
theorem d_MD_next_324 : decode prog_14_method_10_code 324 = .ok (.putfield 271, 3) := by decide +kernel
theorem d_MD_next_327 : decode prog_14_method_10_code 327 = .ok (.aload_n 0, 1) := by decide +kernel
theorem d_MD_next_328 : decode prog_14_method_10_code 328 = .ok (.dup, 1) := by decide +kernel
theorem d_MD_next_329 : decode prog_14_method_10_code 329 = .ok (.getfield 252, 3) := by decide +kernel
theorem d_MD_next_332 : decode prog_14_method_10_code 332 = .ok (.iconst 1, 1) := by decide +kernel
theorem d_MD_next_333 : decode prog_14_method_10_code 333 = .ok (.iadd, 1) := by decide +kernel
theorem d_MD_next_334 : decode prog_14_method_10_code 334 = .ok (.putfield 252, 3) := by decide +kernel
theorem d_MD_next_337 : decode prog_14_method_10_code 337 = .ok (.iconst 1, 1) := by decide +kernel
theorem d_MD_next_338 : decode prog_14_method_10_code 338 = .ok (.ireturn, 1) := by decide +kernel
theorem d_MD_next_230 : decode prog_14_method_10_code 230 = .ok (.iload_n 2, 1) := by decide +kernel
theorem d_MD_next_231 : decode prog_14_method_10_code 231 = .ok (.bipush 58, 2) := by decide +kernel
theorem d_MD_next_233 : decode prog_14_method_10_code 233 = .ok (.if_icmp .eq 69, 3) := by decide +kernel
theorem d_MD_next_236 : decode prog_14_method_10_code 236 = .ok (.iload_n 2, 1) := by decide +kernel
theorem d_MD_next_237 : decode prog_14_method_10_code 237 = .ok (.bipush 47, 2) := by decide +kernel
theorem d_MD_next_239 : decode prog_14_method_10_code 239 = .ok (.if_icmp .eq 63, 3) := by decide +kernel
theorem d_MD_next_242 : decode prog_14_method_10_code 242 = .ok (.iload_n 2, 1) := by decide +kernel
theorem d_MD_next_243 : decode prog_14_method_10_code 243 = .ok (.bipush 124, 2) := by decide +kernel
theorem d_MD_next_245 : decode prog_14_method_10_code 245 = .ok (.if_icmp .eq 57, 3) := by decide +kernel
theorem d_MD_next_248 : decode prog_14_method_10_code 248 = .ok (.iload_n 2, 1) := by decide +kernel
theorem d_MD_next_249 : decode prog_14_method_10_code 249 = .ok (.bipush 91, 2) := by decide +kernel
theorem d_MD_next_251 : decode prog_14_method_10_code 251 = .ok (.if_icmp .eq 51, 3) := by decide +kernel
theorem d_MD_next_254 : decode prog_14_method_10_code 254 = .ok (.iload_n 2, 1) := by decide +kernel
theorem d_MD_next_255 : decode prog_14_method_10_code 255 = .ok (.bipush 93, 2) := by decide +kernel
theorem d_MD_next_257 : decode prog_14_method_10_code 257 = .ok (.if_icmp .eq 45, 3) := by decide +kernel
theorem d_MD_next_260 : decode prog_14_method_10_code 260 = .ok (.iload_n 2, 1) := by decide +kernel
theorem d_MD_next_261 : decode prog_14_method_10_code 261 = .ok (.bipush 123, 2) := by decide +kernel
theorem d_MD_next_263 : decode prog_14_method_10_code 263 = .ok (.if_icmp .eq 39, 3) := by decide +kernel
theorem d_MD_next_266 : decode prog_14_method_10_code 266 = .ok (.iload_n 2, 1) := by decide +kernel
theorem d_MD_next_267 : decode prog_14_method_10_code 267 = .ok (.bipush 125, 2) := by decide +kernel
theorem d_MD_next_269 : decode prog_14_method_10_code 269 = .ok (.if_icmp .eq 33, 3) := by decide +kernel
theorem d_MD_next_272 : decode prog_14_method_10_code 272 = .ok (.iload_n 2, 1) := by decide +kernel
theorem d_MD_next_273 : decode prog_14_method_10_code 273 = .ok (.bipush 60, 2) := by decide +kernel
theorem d_MD_next_275 : decode prog_14_method_10_code 275 = .ok (.if_icmp .eq 27, 3) := by decide +kernel
theorem d_MD_next_278 : decode prog_14_method_10_code 278 = .ok (.iload_n 2, 1) := by decide +kernel
theorem d_MD_next_279 : decode prog_14_method_10_code 279 = .ok (.bipush 62, 2) := by decide +kernel
theorem d_MD_next_281 : decode prog_14_method_10_code 281 = .ok (.if_icmp .eq 21, 3) := by decide +kernel
theorem d_MD_next_284 : decode prog_14_method_10_code 284 = .ok (.iload_n 2, 1) := by decide +kernel
theorem d_MD_next_285 : decode prog_14_method_10_code 285 = .ok (.bipush 61, 2) := by decide +kernel
theorem d_MD_next_287 : decode prog_14_method_10_code 287 = .ok (.if_icmp .eq 15, 3) := by decide +kernel
theorem d_MD_next_290 : decode prog_14_method_10_code 290 = .ok (.iload_n 2, 1) := by decide +kernel
theorem d_MD_next_291 : decode prog_14_method_10_code 291 = .ok (.bipush 46, 2) := by decide +kernel
theorem d_MD_next_293 : decode prog_14_method_10_code 293 = .ok (.if_icmp .eq 9, 3) := by decide +kernel
theorem d_MD_next_296 : decode prog_14_method_10_code 296 = .ok (.iload_n 2, 1) := by decide +kernel
theorem d_MD_next_297 : decode prog_14_method_10_code 297 = .ok (.bipush 126, 2) := by decide +kernel
theorem d_MD_next_299 : decode prog_14_method_10_code 299 = .ok (.if_icmp .ne 7, 3) := by decide +kernel
theorem d_MD_next_306 : decode prog_14_method_10_code 306 = .ok (.iconst 0, 1) := by decide +kernel
theorem d_MD_next_317 : decode prog_14_method_10_code 317 = .ok (.bipush 6, 2) := by decide +kernel
theorem d_MD_next_217 : decode prog_14_method_10_code 217 = .ok (.aload_n 0, 1) := by decide +kernel
theorem d_MD_next_218 : decode prog_14_method_10_code 218 = .ok (.invokevirtual 268, 3) := by decide +kernel
theorem k_MD_number : mt_OK m_MD_number 0 1 := ⟨(gw_in 1873 (by decide +kernel) (by decide +kernel)), (gw_in 146 (by decide +kernel) (by decide +kernel)), ⟨by decide +kernel, by decide +kernel, by decide +kernel⟩, fun h => absurd h (by decide), fun _ => ⟨(gw_in 1872 (by decide +kernel) (by decide +kernel)), (gw_in 68 (by decide +kernel) (by decide +kernel))⟩, fun h => absurd h (by decide)⟩
theorem l_MD_268 : ml_OK "PlainMusicModel" 268 ⟨"PlainMusicModel", "number", "()V"⟩ := Or.inl (gw_in 1870 (by decide +kernel) (by decide +kernel))
theorem d_MD_next_221 : decode prog_14_method_10_code 221 = .ok (.goto 116, 3) := by decide +kernel
theorem d_MD_next_202 : decode prog_14_method_10_code 202 = .ok (.aload_n 0, 1) := by decide +kernel
theorem d_MD_next_203 : decode prog_14_method_10_code 203 = .ok (.invokevirtual 262, 3) := by decide +kernel
theorem k_MD_word : mt_OK m_MD_word 0 1 := ⟨(gw_in 1859 (by decide +kernel) (by decide +kernel)), (gw_in 146 (by decide +kernel) (by decide +kernel)), ⟨by decide +kernel, by decide +kernel, by decide +kernel⟩, fun h => absurd h (by decide), fun _ => ⟨(gw_in 1858 (by decide +kernel) (by decide +kernel)), (gw_in 66 (by decide +kernel) (by decide +kernel))⟩, fun h => absurd h (by decide)⟩
theorem l_MD_262 : ml_OK "PlainMusicModel" 262 ⟨"PlainMusicModel", "word", "()V"⟩ := Or.inl (gw_in 1856 (by decide +kernel) (by decide +kernel))
theorem d_MD_next_206 : decode prog_14_method_10_code 206 = .ok (.goto 131, 3) := by decide +kernel
theorem d_MD_next_180 : decode prog_14_method_10_code 180 = .ok (.iload_n 2, 1) := by decide +kernel
theorem d_MD_next_181 : decode prog_14_method_10_code 181 = .ok (.bipush 71, 2) := by decide +kernel
theorem d_MD_next_183 : decode prog_14_method_10_code 183 = .ok (.if_icmp .gt 11, 3) := by decide +kernel
theorem d_MD_next_186 : decode prog_14_method_10_code 186 = .ok (.aload_n 0, 1) := by decide +kernel
theorem d_MD_next_187 : decode prog_14_method_10_code 187 = .ok (.iload_n 2, 1) := by decide +kernel
theorem d_MD_next_188 : decode prog_14_method_10_code 188 = .ok (.invokevirtual 255, 3) := by decide +kernel
theorem k_MD_pitch : mt_OK m_MD_pitch 1 1 := ⟨(gw_in 1843 (by decide +kernel) (by decide +kernel)), (gw_in 146 (by decide +kernel) (by decide +kernel)), ⟨by decide +kernel, by decide +kernel, by decide +kernel⟩, fun h => absurd h (by decide), fun _ => ⟨(gw_in 1842 (by decide +kernel) (by decide +kernel)), (gw_in 62 (by decide +kernel) (by decide +kernel))⟩, fun h => absurd h (by decide)⟩
theorem l_MD_255 : ml_OK "PlainMusicModel" 255 ⟨"PlainMusicModel", "pitch", "(I)V"⟩ := Or.inl (gw_in 1840 (by decide +kernel) (by decide +kernel))
theorem d_MD_next_191 : decode prog_14_method_10_code 191 = .ok (.goto 146, 3) := by decide +kernel
theorem d_MD_next_157 : decode prog_14_method_10_code 157 = .ok (.aload_n 0, 1) := by decide +kernel
theorem d_MD_next_158 : decode prog_14_method_10_code 158 = .ok (.iconst 0, 1) := by decide +kernel
theorem d_MD_next_159 : decode prog_14_method_10_code 159 = .ok (.putfield 239, 3) := by decide +kernel
theorem d_MD_next_162 : decode prog_14_method_10_code 162 = .ok (.iconst 1, 1) := by decide +kernel
theorem d_MD_next_163 : decode prog_14_method_10_code 163 = .ok (.ireturn, 1) := by decide +kernel
theorem d_MD_next_13 : decode prog_14_method_10_code 13 = .ok (.iload_n 1, 1) := by decide +kernel
theorem d_MD_next_14 : decode prog_14_method_10_code 14 = .ok (.ifCond .ne 73, 3) := by decide +kernel
theorem d_MD_next_17 : decode prog_14_method_10_code 17 = .ok (.aload_n 0, 1) := by decide +kernel
theorem d_MD_next_18 : decode prog_14_method_10_code 18 = .ok (.getfield 7, 3) := by decide +kernel
theorem d_MD_next_21 : decode prog_14_method_10_code 21 = .ok (.aload_n 0, 1) := by decide +kernel
theorem d_MD_next_22 : decode prog_14_method_10_code 22 = .ok (.getfield 252, 3) := by decide +kernel
theorem d_MD_next_25 : decode prog_14_method_10_code 25 = .ok (.iaload, 1) := by decide +kernel
theorem d_MD_next_26 : decode prog_14_method_10_code 26 = .ok (.bipush 9, 2) := by decide +kernel
theorem d_MD_next_28 : decode prog_14_method_10_code 28 = .ok (.if_icmp .eq 59, 3) := by decide +kernel
theorem d_MD_next_87 : decode prog_14_method_10_code 87 = .ok (.aload_n 0, 1) := by decide +kernel
theorem d_MD_next_88 : decode prog_14_method_10_code 88 = .ok (.getfield 7, 3) := by decide +kernel
theorem d_MD_next_91 : decode prog_14_method_10_code 91 = .ok (.aload_n 0, 1) := by decide +kernel
theorem d_MD_next_92 : decode prog_14_method_10_code 92 = .ok (.getfield 252, 3) := by decide +kernel
theorem d_MD_next_95 : decode prog_14_method_10_code 95 = .ok (.iaload, 1) := by decide +kernel
theorem d_MD_next_96 : decode prog_14_method_10_code 96 = .ok (.bipush 10, 2) := by decide +kernel
theorem d_MD_next_98 : decode prog_14_method_10_code 98 = .ok (.if_icmp .eq 25, 3) := by decide +kernel
theorem d_MD_next_101 : decode prog_14_method_10_code 101 = .ok (.iload_n 1, 1) := by decide +kernel
theorem d_MD_next_102 : decode prog_14_method_10_code 102 = .ok (.ifCond .ne 17, 3) := by decide +kernel
theorem d_MD_next_105 : decode prog_14_method_10_code 105 = .ok (.aload_n 0, 1) := by decide +kernel
theorem d_MD_next_106 : decode prog_14_method_10_code 106 = .ok (.getfield 7, 3) := by decide +kernel
theorem d_MD_next_109 : decode prog_14_method_10_code 109 = .ok (.aload_n 0, 1) := by decide +kernel
theorem d_MD_next_110 : decode prog_14_method_10_code 110 = .ok (.getfield 252, 3) := by decide +kernel
theorem d_MD_next_113 : decode prog_14_method_10_code 113 = .ok (.iaload, 1) := by decide +kernel
theorem d_MD_next_114 : decode prog_14_method_10_code 114 = .ok (.bipush 37, 2) := by decide +kernel
theorem d_MD_next_116 : decode prog_14_method_10_code 116 = .ok (.if_icmp .ne 7, 3) := by decide +kernel
theorem d_MD_next_123 : decode prog_14_method_10_code 123 = .ok (.iconst 0, 1) := by decide +kernel
theorem d_MD_next_124 : decode prog_14_method_10_code 124 = .ok (.istore_n 1, 1) := by decide +kernel
theorem d_MD_next_125 : decode prog_14_method_10_code 125 = .ok (.aload_n 0, 1) := by decide +kernel
theorem d_MD_next_126 : decode prog_14_method_10_code 126 = .ok (.dup, 1) := by decide +kernel
theorem d_MD_next_127 : decode prog_14_method_10_code 127 = .ok (.getfield 252, 3) := by decide +kernel
theorem d_MD_next_130 : decode prog_14_method_10_code 130 = .ok (.iconst 1, 1) := by decide +kernel
theorem d_MD_next_131 : decode prog_14_method_10_code 131 = .ok (.iadd, 1) := by decide +kernel
theorem d_MD_next_132 : decode prog_14_method_10_code 132 = .ok (.putfield 252, 3) := by decide +kernel
theorem d_MD_next_135 : decode prog_14_method_10_code 135 = .ok (.goto (-133), 3) := by decide +kernel
theorem d_MD_next_31 : decode prog_14_method_10_code 31 = .ok (.aload_n 0, 1) := by decide +kernel
theorem d_MD_next_32 : decode prog_14_method_10_code 32 = .ok (.getfield 7, 3) := by decide +kernel
theorem d_MD_next_35 : decode prog_14_method_10_code 35 = .ok (.aload_n 0, 1) := by decide +kernel
theorem d_MD_next_36 : decode prog_14_method_10_code 36 = .ok (.getfield 252, 3) := by decide +kernel
theorem d_MD_next_39 : decode prog_14_method_10_code 39 = .ok (.iaload, 1) := by decide +kernel
theorem d_MD_next_40 : decode prog_14_method_10_code 40 = .ok (.bipush 10, 2) := by decide +kernel
theorem d_MD_next_42 : decode prog_14_method_10_code 42 = .ok (.if_icmp .eq 45, 3) := by decide +kernel
theorem d_MD_next_45 : decode prog_14_method_10_code 45 = .ok (.aload_n 0, 1) := by decide +kernel
theorem d_MD_next_46 : decode prog_14_method_10_code 46 = .ok (.getfield 7, 3) := by decide +kernel
theorem d_MD_next_49 : decode prog_14_method_10_code 49 = .ok (.aload_n 0, 1) := by decide +kernel
theorem d_MD_next_50 : decode prog_14_method_10_code 50 = .ok (.getfield 252, 3) := by decide +kernel
theorem d_MD_next_53 : decode prog_14_method_10_code 53 = .ok (.iaload, 1) := by decide +kernel
theorem d_MD_next_54 : decode prog_14_method_10_code 54 = .ok (.bipush 13, 2) := by decide +kernel
theorem d_MD_next_56 : decode prog_14_method_10_code 56 = .ok (.if_icmp .eq 31, 3) := by decide +kernel
theorem d_MD_next_59 : decode prog_14_method_10_code 59 = .ok (.aload_n 0, 1) := by decide +kernel
theorem d_MD_next_60 : decode prog_14_method_10_code 60 = .ok (.getfield 7, 3) := by decide +kernel
theorem d_MD_next_63 : decode prog_14_method_10_code 63 = .ok (.aload_n 0, 1) := by decide +kernel
theorem d_MD_next_64 : decode prog_14_method_10_code 64 = .ok (.getfield 252, 3) := by decide +kernel
theorem d_MD_next_67 : decode prog_14_method_10_code 67 = .ok (.iaload, 1) := by decide +kernel
theorem d_MD_next_68 : decode prog_14_method_10_code 68 = .ok (.bipush 32, 2) := by decide +kernel
theorem d_MD_next_70 : decode prog_14_method_10_code 70 = .ok (.if_icmp .eq 17, 3) := by decide +kernel
theorem d_MD_next_73 : decode prog_14_method_10_code 73 = .ok (.aload_n 0, 1) := by decide +kernel
theorem d_MD_next_74 : decode prog_14_method_10_code 74 = .ok (.getfield 7, 3) := by decide +kernel
theorem d_MD_next_77 : decode prog_14_method_10_code 77 = .ok (.aload_n 0, 1) := by decide +kernel
theorem d_MD_next_78 : decode prog_14_method_10_code 78 = .ok (.getfield 252, 3) := by decide +kernel
theorem d_MD_next_81 : decode prog_14_method_10_code 81 = .ok (.iaload, 1) := by decide +kernel
theorem d_MD_next_82 : decode prog_14_method_10_code 82 = .ok (.bipush 37, 2) := by decide +kernel
theorem d_MD_next_84 : decode prog_14_method_10_code 84 = .ok (.if_icmp .ne 54, 3) := by decide +kernel
theorem d_MD_next_119 : decode prog_14_method_10_code 119 = .ok (.iconst 1, 1) := by decide +kernel
theorem d_MD_next_120 : decode prog_14_method_10_code 120 = .ok (.goto 4, 3) := by decide +kernel
def m_MD_isSign : mr_T := (⟨"PlainMusicModel", "isSign", "(I)Z"⟩, prog_14_method_15_code, 2, some .boolean)
theorem d_MD_isSign_0 : decode prog_14_method_15_code 0 = .ok (.aload_n 0, 1) := by decide +kernel
theorem d_MD_isSign_1 : decode prog_14_method_15_code 1 = .ok (.getfield 239, 3) := by decide +kernel
theorem d_MD_isSign_4 : decode prog_14_method_15_code 4 = .ok (.iconst 5, 1) := by decide +kernel
theorem d_MD_isSign_5 : decode prog_14_method_15_code 5 = .ok (.if_icmp .ne 15, 3) := by decide +kernel
theorem d_MD_isSign_20 : decode prog_14_method_15_code 20 = .ok (.iconst 0, 1) := by decide +kernel
theorem d_MD_isSign_21 : decode prog_14_method_15_code 21 = .ok (.ireturn, 1) := by decide +kernel
theorem d_MD_isSign_8 : decode prog_14_method_15_code 8 = .ok (.aload_n 0, 1) := by decide +kernel
theorem d_MD_isSign_9 : decode prog_14_method_15_code 9 = .ok (.getfield 271, 3) := by decide +kernel
theorem d_MD_isSign_12 : decode prog_14_method_15_code 12 = .ok (.iload_n 1, 1) := by decide +kernel
theorem d_MD_isSign_13 : decode prog_14_method_15_code 13 = .ok (.if_icmp .ne 7, 3) := by decide +kernel
theorem d_MD_isSign_16 : decode prog_14_method_15_code 16 = .ok (.iconst 1, 1) := by decide +kernel
theorem d_MD_isSign_17 : decode prog_14_method_15_code 17 = .ok (.goto 4, 3) := by decide +kernel
def m_MD_isWord : mr_T := (⟨"PlainMusicModel", "isWord", "(I)Z"⟩, prog_14_method_16_code, 2, some .boolean)
theorem d_MD_isWord_0 : decode prog_14_method_16_code 0 = .ok (.aload_n 0, 1) := by decide +kernel
theorem d_MD_isWord_1 : decode prog_14_method_16_code 1 = .ok (.getfield 239, 3) := by decide +kernel
theorem d_MD_isWord_4 : decode prog_14_method_16_code 4 = .ok (.iconst 4, 1) := by decide +kernel
theorem d_MD_isWord_5 : decode prog_14_method_16_code 5 = .ok (.if_icmp .ne 15, 3) := by decide +kernel
theorem d_MD_isWord_20 : decode prog_14_method_16_code 20 = .ok (.iconst 0, 1) := by decide +kernel
theorem d_MD_isWord_21 : decode prog_14_method_16_code 21 = .ok (.ireturn, 1) := by decide +kernel
theorem d_MD_isWord_8 : decode prog_14_method_16_code 8 = .ok (.aload_n 0, 1) := by decide +kernel
theorem d_MD_isWord_9 : decode prog_14_method_16_code 9 = .ok (.getfield 271, 3) := by decide +kernel
theorem d_MD_isWord_12 : decode prog_14_method_16_code 12 = .ok (.iload_n 1, 1) := by decide +kernel
theorem d_MD_isWord_13 : decode prog_14_method_16_code 13 = .ok (.if_icmp .ne 7, 3) := by decide +kernel
theorem d_MD_isWord_16 : decode prog_14_method_16_code 16 = .ok (.iconst 1, 1) := by decide +kernel
theorem d_MD_isWord_17 : decode prog_14_method_16_code 17 = .ok (.goto 4, 3) := by decide +kernel
def m_MD_want : mr_T := (⟨"PlainMusicModel", "want", "(I)Z"⟩, prog_14_method_17_code, 2, some .boolean)
theorem d_MD_want_0 : decode prog_14_method_17_code 0 = .ok (.aload_n 0, 1) := by decide +kernel
theorem d_MD_want_1 : decode prog_14_method_17_code 1 = .ok (.iload_n 1, 1) := by decide +kernel
theorem d_MD_want_2 : decode prog_14_method_17_code 2 = .ok (.invokevirtual 306, 3) := by decide +kernel
theorem k_MD_isSign : mt_OK m_MD_isSign 1 1 := ⟨(gw_in 1897 (by decide +kernel) (by decide +kernel)), (gw_in 146 (by decide +kernel) (by decide +kernel)), ⟨by decide +kernel, by decide +kernel, by decide +kernel⟩, fun h => absurd h (by decide), fun _ => ⟨(gw_in 1896 (by decide +kernel) (by decide +kernel)), (gw_in 74 (by decide +kernel) (by decide +kernel))⟩, fun h => absurd h (by decide)⟩
theorem l_MD_306 : ml_OK "PlainMusicModel" 306 ⟨"PlainMusicModel", "isSign", "(I)Z"⟩ := Or.inl (gw_in 1894 (by decide +kernel) (by decide +kernel))
theorem d_MD_want_5 : decode prog_14_method_17_code 5 = .ok (.ifCond .eq 10, 3) := by decide +kernel
theorem d_MD_want_15 : decode prog_14_method_17_code 15 = .ok (.aload_n 0, 1) := by decide +kernel
theorem d_MD_want_16 : decode prog_14_method_17_code 16 = .ok (.invokevirtual 313, 3) := by decide +kernel
theorem k_MD_cant : mt_OK m_MD_cant 0 1 := ⟨(gw_in 1889 (by decide +kernel) (by decide +kernel)), (gw_in 146 (by decide +kernel) (by decide +kernel)), ⟨by decide +kernel, by decide +kernel, by decide +kernel⟩, fun h => absurd h (by decide), fun _ => ⟨(gw_in 1888 (by decide +kernel) (by decide +kernel)), (gw_in 72 (by decide +kernel) (by decide +kernel))⟩, fun h => absurd h (by decide)⟩
theorem l_MD_313 : ml_OK "PlainMusicModel" 313 ⟨"PlainMusicModel", "cant", "()Z"⟩ := Or.inl (gw_in 1886 (by decide +kernel) (by decide +kernel))
theorem d_MD_want_19 : decode prog_14_method_17_code 19 = .ok (.ireturn, 1) := by decide +kernel
theorem d_MD_want_8 : decode prog_14_method_17_code 8 = .ok (.aload_n 0, 1) := by decide +kernel
theorem d_MD_want_9 : decode prog_14_method_17_code 9 = .ok (.invokevirtual 309, 3) := by decide +kernel
theorem k_MD_next : mt_OK m_MD_next 0 1 := ⟨(gw_in 1839 (by decide +kernel) (by decide +kernel)), (gw_in 146 (by decide +kernel) (by decide +kernel)), ⟨by decide +kernel, by decide +kernel, by decide +kernel⟩, fun h => absurd h (by decide), fun _ => ⟨(gw_in 1838 (by decide +kernel) (by decide +kernel)), (gw_in 61 (by decide +kernel) (by decide +kernel))⟩, fun h => absurd h (by decide)⟩
theorem l_MD_309 : ml_OK "PlainMusicModel" 309 ⟨"PlainMusicModel", "next", "()Z"⟩ := Or.inl (gw_in 1836 (by decide +kernel) (by decide +kernel))
theorem d_MD_want_12 : decode prog_14_method_17_code 12 = .ok (.goto 7, 3) := by decide +kernel
def m_MD_isPower : mr_T := (⟨"PlainMusicModel", "isPower", "(II)Z"⟩, prog_14_method_18_code, 3, some .boolean)
theorem d_MD_isPower_0 : decode prog_14_method_18_code 0 = .ok (.iload_n 1, 1) := by decide +kernel
theorem d_MD_isPower_1 : decode prog_14_method_18_code 1 = .ok (.iconst 1, 1) := by decide +kernel
theorem d_MD_isPower_2 : decode prog_14_method_18_code 2 = .ok (.if_icmp .lt 20, 3) := by decide +kernel
theorem d_MD_isPower_22 : decode prog_14_method_18_code 22 = .ok (.iconst 0, 1) := by decide +kernel
theorem d_MD_isPower_23 : decode prog_14_method_18_code 23 = .ok (.ireturn, 1) := by decide +kernel
theorem d_MD_isPower_5 : decode prog_14_method_18_code 5 = .ok (.iload_n 1, 1) := by decide +kernel
theorem d_MD_isPower_6 : decode prog_14_method_18_code 6 = .ok (.iload_n 2, 1) := by decide +kernel
theorem d_MD_isPower_7 : decode prog_14_method_18_code 7 = .ok (.if_icmp .gt 15, 3) := by decide +kernel
theorem d_MD_isPower_10 : decode prog_14_method_18_code 10 = .ok (.iload_n 1, 1) := by decide +kernel
theorem d_MD_isPower_11 : decode prog_14_method_18_code 11 = .ok (.iload_n 1, 1) := by decide +kernel
theorem d_MD_isPower_12 : decode prog_14_method_18_code 12 = .ok (.iconst 1, 1) := by decide +kernel
theorem d_MD_isPower_13 : decode prog_14_method_18_code 13 = .ok (.isub, 1) := by decide +kernel
theorem d_MD_isPower_14 : decode prog_14_method_18_code 14 = .ok (.iand, 1) := by decide +kernel
theorem d_MD_isPower_15 : decode prog_14_method_18_code 15 = .ok (.ifCond .ne 7, 3) := by decide +kernel
theorem d_MD_isPower_18 : decode prog_14_method_18_code 18 = .ok (.iconst 1, 1) := by decide +kernel
theorem d_MD_isPower_19 : decode prog_14_method_18_code 19 = .ok (.goto 4, 3) := by decide +kernel
def m_MD_timeItem : mr_T := (⟨"PlainMusicModel", "timeItem", "()Z"⟩, prog_14_method_20_code, 1, some .boolean)
theorem d_MD_timeItem_0 : decode prog_14_method_20_code 0 = .ok (.aload_n 0, 1) := by decide +kernel
theorem d_MD_timeItem_1 : decode prog_14_method_20_code 1 = .ok (.getfield 316, 3) := by decide +kernel
theorem f_MD_316 : fl_OK "PlainMusicModel" 316 12 59 .boolean false := ⟨_, rfl, by decide, (gw_in 1541 (by decide +kernel) (by decide +kernel)), rfl, rfl⟩
theorem d_MD_timeItem_4 : decode prog_14_method_20_code 4 = .ok (.ifCond .eq 13, 3) := by decide +kernel
theorem d_MD_timeItem_17 : decode prog_14_method_20_code 17 = .ok (.aload_n 0, 1) := by decide +kernel
theorem d_MD_timeItem_18 : decode prog_14_method_20_code 18 = .ok (.iconst 1, 1) := by decide +kernel
theorem d_MD_timeItem_19 : decode prog_14_method_20_code 19 = .ok (.putfield 316, 3) := by decide +kernel
theorem mr_170_59 : mr 170 59 = ((-2147483648), 2147483647) := by decide +kernel
theorem d_MD_timeItem_22 : decode prog_14_method_20_code 22 = .ok (.aload_n 0, 1) := by decide +kernel
theorem d_MD_timeItem_23 : decode prog_14_method_20_code 23 = .ok (.invokevirtual 309, 3) := by decide +kernel
theorem d_MD_timeItem_26 : decode prog_14_method_20_code 26 = .ok (.pop, 1) := by decide +kernel
theorem d_MD_timeItem_27 : decode prog_14_method_20_code 27 = .ok (.aload_n 0, 1) := by decide +kernel
theorem d_MD_timeItem_28 : decode prog_14_method_20_code 28 = .ok (.getfield 239, 3) := by decide +kernel
theorem d_MD_timeItem_31 : decode prog_14_method_20_code 31 = .ok (.iconst 3, 1) := by decide +kernel
theorem d_MD_timeItem_32 : decode prog_14_method_20_code 32 = .ok (.if_icmp .eq 8, 3) := by decide +kernel
theorem d_MD_timeItem_40 : decode prog_14_method_20_code 40 = .ok (.aload_n 0, 1) := by decide +kernel
theorem d_MD_timeItem_41 : decode prog_14_method_20_code 41 = .ok (.getfield 271, 3) := by decide +kernel
theorem d_MD_timeItem_44 : decode prog_14_method_20_code 44 = .ok (.iconst 1, 1) := by decide +kernel
theorem d_MD_timeItem_45 : decode prog_14_method_20_code 45 = .ok (.if_icmp .lt 12, 3) := by decide +kernel
theorem d_MD_timeItem_57 : decode prog_14_method_20_code 57 = .ok (.aload_n 0, 1) := by decide +kernel
theorem d_MD_timeItem_58 : decode prog_14_method_20_code 58 = .ok (.iconst 5, 1) := by decide +kernel
theorem d_MD_timeItem_59 : decode prog_14_method_20_code 59 = .ok (.aload_n 0, 1) := by decide +kernel
theorem d_MD_timeItem_60 : decode prog_14_method_20_code 60 = .ok (.getfield 242, 3) := by decide +kernel
theorem d_MD_timeItem_63 : decode prog_14_method_20_code 63 = .ok (.invokevirtual 245, 3) := by decide +kernel
theorem d_MD_timeItem_66 : decode prog_14_method_20_code 66 = .ok (.ireturn, 1) := by decide +kernel
theorem d_MD_timeItem_48 : decode prog_14_method_20_code 48 = .ok (.aload_n 0, 1) := by decide +kernel
theorem d_MD_timeItem_49 : decode prog_14_method_20_code 49 = .ok (.getfield 271, 3) := by decide +kernel
theorem d_MD_timeItem_52 : decode prog_14_method_20_code 52 = .ok (.bipush 32, 2) := by decide +kernel
theorem d_MD_timeItem_54 : decode prog_14_method_20_code 54 = .ok (.if_icmp .le 13, 3) := by decide +kernel
theorem d_MD_timeItem_67 : decode prog_14_method_20_code 67 = .ok (.aload_n 0, 1) := by decide +kernel
theorem d_MD_timeItem_68 : decode prog_14_method_20_code 68 = .ok (.getfield 20, 3) := by decide +kernel
theorem rfm_15 : (15, 173) ∈ mf_L := by decide +kernel
theorem d_MD_timeItem_71 : decode prog_14_method_20_code 71 = .ok (.iconst 1, 1) := by decide +kernel
theorem d_MD_timeItem_72 : decode prog_14_method_20_code 72 = .ok (.aload_n 0, 1) := by decide +kernel
theorem d_MD_timeItem_73 : decode prog_14_method_20_code 73 = .ok (.getfield 271, 3) := by decide +kernel
theorem d_MD_timeItem_76 : decode prog_14_method_20_code 76 = .ok (.iastore, 1) := by decide +kernel
theorem sf_173 : sh_L[173]? = some (0, 2) := by decide +kernel
theorem mr_173 (k : Nat) : mr 173 k = (0, 32) := rfl
theorem d_MD_timeItem_77 : decode prog_14_method_20_code 77 = .ok (.aload_n 0, 1) := by decide +kernel
theorem d_MD_timeItem_78 : decode prog_14_method_20_code 78 = .ok (.invokevirtual 309, 3) := by decide +kernel
theorem d_MD_timeItem_81 : decode prog_14_method_20_code 81 = .ok (.pop, 1) := by decide +kernel
theorem d_MD_timeItem_82 : decode prog_14_method_20_code 82 = .ok (.aload_n 0, 1) := by decide +kernel
theorem d_MD_timeItem_83 : decode prog_14_method_20_code 83 = .ok (.bipush 47, 2) := by decide +kernel
theorem d_MD_timeItem_85 : decode prog_14_method_20_code 85 = .ok (.invokevirtual 344, 3) := by decide +kernel
theorem k_MD_want : mt_OK m_MD_want 1 1 := ⟨(gw_in 1893 (by decide +kernel) (by decide +kernel)), (gw_in 146 (by decide +kernel) (by decide +kernel)), ⟨by decide +kernel, by decide +kernel, by decide +kernel⟩, fun h => absurd h (by decide), fun _ => ⟨(gw_in 1892 (by decide +kernel) (by decide +kernel)), (gw_in 73 (by decide +kernel) (by decide +kernel))⟩, fun h => absurd h (by decide)⟩
theorem l_MD_344 : ml_OK "PlainMusicModel" 344 ⟨"PlainMusicModel", "want", "(I)Z"⟩ := Or.inl (gw_in 1890 (by decide +kernel) (by decide +kernel))
theorem d_MD_timeItem_88 : decode prog_14_method_20_code 88 = .ok (.ifCond .ne 5, 3) := by decide +kernel
theorem d_MD_timeItem_93 : decode prog_14_method_20_code 93 = .ok (.aload_n 0, 1) := by decide +kernel
theorem d_MD_timeItem_94 : decode prog_14_method_20_code 94 = .ok (.getfield 239, 3) := by decide +kernel
theorem d_MD_timeItem_97 : decode prog_14_method_20_code 97 = .ok (.iconst 3, 1) := by decide +kernel
theorem d_MD_timeItem_98 : decode prog_14_method_20_code 98 = .ok (.if_icmp .eq 8, 3) := by decide +kernel
theorem d_MD_timeItem_106 : decode prog_14_method_20_code 106 = .ok (.aload_n 0, 1) := by decide +kernel
theorem d_MD_timeItem_107 : decode prog_14_method_20_code 107 = .ok (.aload_n 0, 1) := by decide +kernel
theorem d_MD_timeItem_108 : decode prog_14_method_20_code 108 = .ok (.getfield 271, 3) := by decide +kernel
theorem d_MD_timeItem_111 : decode prog_14_method_20_code 111 = .ok (.bipush 32, 2) := by decide +kernel
theorem d_MD_timeItem_113 : decode prog_14_method_20_code 113 = .ok (.invokevirtual 347, 3) := by decide +kernel
theorem k_MD_isPower : mt_OK m_MD_isPower 2 1 := ⟨(gw_in 1901 (by decide +kernel) (by decide +kernel)), (gw_in 146 (by decide +kernel) (by decide +kernel)), ⟨by decide +kernel, by decide +kernel, by decide +kernel⟩, fun h => absurd h (by decide), fun _ => ⟨(gw_in 1900 (by decide +kernel) (by decide +kernel)), (gw_in 75 (by decide +kernel) (by decide +kernel))⟩, fun h => absurd h (by decide)⟩
theorem l_MD_347 : ml_OK "PlainMusicModel" 347 ⟨"PlainMusicModel", "isPower", "(II)Z"⟩ := Or.inl (gw_in 1898 (by decide +kernel) (by decide +kernel))
theorem d_MD_timeItem_116 : decode prog_14_method_20_code 116 = .ok (.ifCond .ne 13, 3) := by decide +kernel
theorem d_MD_timeItem_129 : decode prog_14_method_20_code 129 = .ok (.aload_n 0, 1) := by decide +kernel
theorem d_MD_timeItem_130 : decode prog_14_method_20_code 130 = .ok (.getfield 23, 3) := by decide +kernel
theorem rfm_16 : (16, 174) ∈ mf_L := by decide +kernel
theorem d_MD_timeItem_133 : decode prog_14_method_20_code 133 = .ok (.iconst 1, 1) := by decide +kernel
theorem d_MD_timeItem_134 : decode prog_14_method_20_code 134 = .ok (.aload_n 0, 1) := by decide +kernel
theorem d_MD_timeItem_135 : decode prog_14_method_20_code 135 = .ok (.getfield 271, 3) := by decide +kernel
theorem d_MD_timeItem_138 : decode prog_14_method_20_code 138 = .ok (.iastore, 1) := by decide +kernel
theorem sf_174 : sh_L[174]? = some (0, 2) := by decide +kernel
theorem mr_174 (k : Nat) : mr 174 k = (0, 32) := rfl
theorem d_MD_timeItem_139 : decode prog_14_method_20_code 139 = .ok (.aload_n 0, 1) := by decide +kernel
theorem d_MD_timeItem_140 : decode prog_14_method_20_code 140 = .ok (.invokevirtual 309, 3) := by decide +kernel
theorem d_MD_timeItem_143 : decode prog_14_method_20_code 143 = .ok (.pop, 1) := by decide +kernel
theorem d_MD_timeItem_144 : decode prog_14_method_20_code 144 = .ok (.aload_n 0, 1) := by decide +kernel
theorem d_MD_timeItem_145 : decode prog_14_method_20_code 145 = .ok (.bipush 59, 2) := by decide +kernel
theorem d_MD_timeItem_147 : decode prog_14_method_20_code 147 = .ok (.invokevirtual 344, 3) := by decide +kernel
theorem d_MD_timeItem_150 : decode prog_14_method_20_code 150 = .ok (.ireturn, 1) := by decide +kernel
theorem d_MD_timeItem_119 : decode prog_14_method_20_code 119 = .ok (.aload_n 0, 1) := by decide +kernel
theorem d_MD_timeItem_120 : decode prog_14_method_20_code 120 = .ok (.iconst 5, 1) := by decide +kernel
theorem d_MD_timeItem_121 : decode prog_14_method_20_code 121 = .ok (.aload_n 0, 1) := by decide +kernel
theorem d_MD_timeItem_122 : decode prog_14_method_20_code 122 = .ok (.getfield 242, 3) := by decide +kernel
theorem d_MD_timeItem_125 : decode prog_14_method_20_code 125 = .ok (.invokevirtual 245, 3) := by decide +kernel
theorem d_MD_timeItem_128 : decode prog_14_method_20_code 128 = .ok (.ireturn, 1) := by decide +kernel
theorem d_MD_timeItem_101 : decode prog_14_method_20_code 101 = .ok (.aload_n 0, 1) := by decide +kernel
theorem d_MD_timeItem_102 : decode prog_14_method_20_code 102 = .ok (.invokevirtual 313, 3) := by decide +kernel
theorem d_MD_timeItem_105 : decode prog_14_method_20_code 105 = .ok (.ireturn, 1) := by decide +kernel
theorem d_MD_timeItem_91 : decode prog_14_method_20_code 91 = .ok (.iconst 0, 1) := by decide +kernel
theorem d_MD_timeItem_92 : decode prog_14_method_20_code 92 = .ok (.ireturn, 1) := by decide +kernel
theorem d_MD_timeItem_35 : decode prog_14_method_20_code 35 = .ok (.aload_n 0, 1) := by decide +kernel
theorem d_MD_timeItem_36 : decode prog_14_method_20_code 36 = .ok (.invokevirtual 313, 3) := by decide +kernel
theorem d_MD_timeItem_39 : decode prog_14_method_20_code 39 = .ok (.ireturn, 1) := by decide +kernel
theorem d_MD_timeItem_7 : decode prog_14_method_20_code 7 = .ok (.aload_n 0, 1) := by decide +kernel
theorem d_MD_timeItem_8 : decode prog_14_method_20_code 8 = .ok (.iconst 4, 1) := by decide +kernel
theorem d_MD_timeItem_9 : decode prog_14_method_20_code 9 = .ok (.aload_n 0, 1) := by decide +kernel
theorem d_MD_timeItem_10 : decode prog_14_method_20_code 10 = .ok (.getfield 242, 3) := by decide +kernel
theorem d_MD_timeItem_13 : decode prog_14_method_20_code 13 = .ok (.invokevirtual 245, 3) := by decide +kernel
theorem d_MD_timeItem_16 : decode prog_14_method_20_code 16 = .ok (.ireturn, 1) := by decide +kernel
def m_MD_lineItem : mr_T := (⟨"PlainMusicModel", "lineItem", "()Z"⟩, prog_14_method_21_code, 1, some .boolean)
theorem d_MD_lineItem_0 : decode prog_14_method_21_code 0 = .ok (.aload_n 0, 1) := by decide +kernel
theorem d_MD_lineItem_1 : decode prog_14_method_21_code 1 = .ok (.getfield 320, 3) := by decide +kernel
theorem f_MD_320 : fl_OK "PlainMusicModel" 320 12 60 .boolean false := ⟨_, rfl, by decide, (gw_in 1542 (by decide +kernel) (by decide +kernel)), rfl, rfl⟩
theorem d_MD_lineItem_4 : decode prog_14_method_21_code 4 = .ok (.ifCond .eq 13, 3) := by decide +kernel
theorem d_MD_lineItem_17 : decode prog_14_method_21_code 17 = .ok (.aload_n 0, 1) := by decide +kernel
theorem d_MD_lineItem_18 : decode prog_14_method_21_code 18 = .ok (.iconst 1, 1) := by decide +kernel
theorem d_MD_lineItem_19 : decode prog_14_method_21_code 19 = .ok (.putfield 320, 3) := by decide +kernel
theorem mr_170_60 : mr 170 60 = ((-2147483648), 2147483647) := by decide +kernel
theorem d_MD_lineItem_22 : decode prog_14_method_21_code 22 = .ok (.aload_n 0, 1) := by decide +kernel
theorem d_MD_lineItem_23 : decode prog_14_method_21_code 23 = .ok (.invokevirtual 309, 3) := by decide +kernel
theorem d_MD_lineItem_26 : decode prog_14_method_21_code 26 = .ok (.pop, 1) := by decide +kernel
theorem d_MD_lineItem_27 : decode prog_14_method_21_code 27 = .ok (.aload_n 0, 1) := by decide +kernel
theorem d_MD_lineItem_28 : decode prog_14_method_21_code 28 = .ok (.getfield 239, 3) := by decide +kernel
theorem d_MD_lineItem_31 : decode prog_14_method_21_code 31 = .ok (.iconst 1, 1) := by decide +kernel
theorem d_MD_lineItem_32 : decode prog_14_method_21_code 32 = .ok (.if_icmp .eq 8, 3) := by decide +kernel
theorem d_MD_lineItem_40 : decode prog_14_method_21_code 40 = .ok (.aload_n 0, 1) := by decide +kernel
theorem d_MD_lineItem_41 : decode prog_14_method_21_code 41 = .ok (.getfield 26, 3) := by decide +kernel
theorem rfm_17 : (17, 175) ∈ mf_L := by decide +kernel
theorem d_MD_lineItem_44 : decode prog_14_method_21_code 44 = .ok (.iconst 1, 1) := by decide +kernel
theorem d_MD_lineItem_45 : decode prog_14_method_21_code 45 = .ok (.iaload, 1) := by decide +kernel
theorem sf_175 : sh_L[175]? = some (0, 2) := by decide +kernel
theorem mr_175 (k : Nat) : mr 175 k = (0, 8) := rfl
theorem d_MD_lineItem_46 : decode prog_14_method_21_code 46 = .ok (.bipush 8, 2) := by decide +kernel
theorem d_MD_lineItem_48 : decode prog_14_method_21_code 48 = .ok (.if_icmp .ne 13, 3) := by decide +kernel
theorem d_MD_lineItem_61 : decode prog_14_method_21_code 61 = .ok (.aload_n 0, 1) := by decide +kernel
theorem d_MD_lineItem_62 : decode prog_14_method_21_code 62 = .ok (.getfield 29, 3) := by decide +kernel
theorem rfm_18 : (18, 176) ∈ mf_L := by decide +kernel
theorem d_MD_lineItem_65 : decode prog_14_method_21_code 65 = .ok (.bipush 8, 2) := by decide +kernel
theorem d_MD_lineItem_67 : decode prog_14_method_21_code 67 = .ok (.aload_n 0, 1) := by decide +kernel
theorem d_MD_lineItem_68 : decode prog_14_method_21_code 68 = .ok (.getfield 26, 3) := by decide +kernel
theorem d_MD_lineItem_71 : decode prog_14_method_21_code 71 = .ok (.iconst 1, 1) := by decide +kernel
theorem d_MD_lineItem_72 : decode prog_14_method_21_code 72 = .ok (.iaload, 1) := by decide +kernel
theorem d_MD_lineItem_73 : decode prog_14_method_21_code 73 = .ok (.iadd, 1) := by decide +kernel
theorem d_MD_lineItem_74 : decode prog_14_method_21_code 74 = .ok (.aload_n 0, 1) := by decide +kernel
theorem d_MD_lineItem_75 : decode prog_14_method_21_code 75 = .ok (.getfield 284, 3) := by decide +kernel
theorem d_MD_lineItem_78 : decode prog_14_method_21_code 78 = .ok (.iastore, 1) := by decide +kernel
theorem sf_176 : sh_L[176]? = some (0, 16) := by decide +kernel
theorem mr_176 (k : Nat) : mr 176 k = ((-2), 109) := rfl
theorem d_MD_lineItem_79 : decode prog_14_method_21_code 79 = .ok (.aload_n 0, 1) := by decide +kernel
theorem d_MD_lineItem_80 : decode prog_14_method_21_code 80 = .ok (.getfield 26, 3) := by decide +kernel
theorem d_MD_lineItem_83 : decode prog_14_method_21_code 83 = .ok (.iconst 1, 1) := by decide +kernel
theorem d_MD_lineItem_84 : decode prog_14_method_21_code 84 = .ok (.dup2, 1) := by decide +kernel
theorem d_MD_lineItem_85 : decode prog_14_method_21_code 85 = .ok (.iaload, 1) := by decide +kernel
theorem d_MD_lineItem_86 : decode prog_14_method_21_code 86 = .ok (.iconst 1, 1) := by decide +kernel
theorem d_MD_lineItem_87 : decode prog_14_method_21_code 87 = .ok (.iadd, 1) := by decide +kernel
theorem d_MD_lineItem_88 : decode prog_14_method_21_code 88 = .ok (.iastore, 1) := by decide +kernel
theorem d_MD_lineItem_89 : decode prog_14_method_21_code 89 = .ok (.aload_n 0, 1) := by decide +kernel
theorem d_MD_lineItem_90 : decode prog_14_method_21_code 90 = .ok (.invokevirtual 309, 3) := by decide +kernel
theorem d_MD_lineItem_93 : decode prog_14_method_21_code 93 = .ok (.pop, 1) := by decide +kernel
theorem d_MD_lineItem_94 : decode prog_14_method_21_code 94 = .ok (.aload_n 0, 1) := by decide +kernel
theorem d_MD_lineItem_95 : decode prog_14_method_21_code 95 = .ok (.bipush 59, 2) := by decide +kernel
theorem d_MD_lineItem_97 : decode prog_14_method_21_code 97 = .ok (.invokevirtual 306, 3) := by decide +kernel
theorem d_MD_lineItem_100 : decode prog_14_method_21_code 100 = .ok (.ifCond .eq (-73), 3) := by decide +kernel
theorem d_MD_lineItem_103 : decode prog_14_method_21_code 103 = .ok (.aload_n 0, 1) := by decide +kernel
theorem d_MD_lineItem_104 : decode prog_14_method_21_code 104 = .ok (.invokevirtual 309, 3) := by decide +kernel
theorem d_MD_lineItem_107 : decode prog_14_method_21_code 107 = .ok (.ireturn, 1) := by decide +kernel
theorem d_MD_lineItem_51 : decode prog_14_method_21_code 51 = .ok (.aload_n 0, 1) := by decide +kernel
theorem d_MD_lineItem_52 : decode prog_14_method_21_code 52 = .ok (.iconst 3, 1) := by decide +kernel
theorem d_MD_lineItem_53 : decode prog_14_method_21_code 53 = .ok (.aload_n 0, 1) := by decide +kernel
theorem d_MD_lineItem_54 : decode prog_14_method_21_code 54 = .ok (.getfield 242, 3) := by decide +kernel
theorem d_MD_lineItem_57 : decode prog_14_method_21_code 57 = .ok (.invokevirtual 245, 3) := by decide +kernel
theorem d_MD_lineItem_60 : decode prog_14_method_21_code 60 = .ok (.ireturn, 1) := by decide +kernel
theorem d_MD_lineItem_35 : decode prog_14_method_21_code 35 = .ok (.aload_n 0, 1) := by decide +kernel
theorem d_MD_lineItem_36 : decode prog_14_method_21_code 36 = .ok (.invokevirtual 313, 3) := by decide +kernel
theorem d_MD_lineItem_39 : decode prog_14_method_21_code 39 = .ok (.ireturn, 1) := by decide +kernel
theorem d_MD_lineItem_7 : decode prog_14_method_21_code 7 = .ok (.aload_n 0, 1) := by decide +kernel
theorem d_MD_lineItem_8 : decode prog_14_method_21_code 8 = .ok (.iconst 4, 1) := by decide +kernel
theorem d_MD_lineItem_9 : decode prog_14_method_21_code 9 = .ok (.aload_n 0, 1) := by decide +kernel
theorem d_MD_lineItem_10 : decode prog_14_method_21_code 10 = .ok (.getfield 242, 3) := by decide +kernel
theorem d_MD_lineItem_13 : decode prog_14_method_21_code 13 = .ok (.invokevirtual 245, 3) := by decide +kernel
theorem d_MD_lineItem_16 : decode prog_14_method_21_code 16 = .ok (.ireturn, 1) := by decide +kernel
def m_MD_nameNumber : mr_T := (⟨"PlainMusicModel", "nameNumber", "()I"⟩, prog_14_method_22_code, 2, some .int)
theorem d_MD_nameNumber_0 : decode prog_14_method_22_code 0 = .ok (.iconst 0, 1) := by decide +kernel
theorem d_MD_nameNumber_1 : decode prog_14_method_22_code 1 = .ok (.istore_n 1, 1) := by decide +kernel
theorem d_MD_nameNumber_2 : decode prog_14_method_22_code 2 = .ok (.iload_n 1, 1) := by decide +kernel
theorem d_MD_nameNumber_3 : decode prog_14_method_22_code 3 = .ok (.aload_n 0, 1) := by decide +kernel
theorem d_MD_nameNumber_4 : decode prog_14_method_22_code 4 = .ok (.getfield 50, 3) := by decide +kernel
theorem rfm_25 : (25, 183) ∈ mf_L := by decide +kernel
theorem d_MD_nameNumber_7 : decode prog_14_method_22_code 7 = .ok (.iconst 1, 1) := by decide +kernel
theorem d_MD_nameNumber_8 : decode prog_14_method_22_code 8 = .ok (.iaload, 1) := by decide +kernel
theorem sf_183 : sh_L[183]? = some (0, 2) := by decide +kernel
theorem mr_183 (k : Nat) : mr 183 k = (0, 16) := rfl
theorem d_MD_nameNumber_9 : decode prog_14_method_22_code 9 = .ok (.if_icmp .ge 28, 3) := by decide +kernel
theorem d_MD_nameNumber_37 : decode prog_14_method_22_code 37 = .ok (.aload_n 0, 1) := by decide +kernel
theorem d_MD_nameNumber_38 : decode prog_14_method_22_code 38 = .ok (.getfield 50, 3) := by decide +kernel
theorem d_MD_nameNumber_41 : decode prog_14_method_22_code 41 = .ok (.iconst 1, 1) := by decide +kernel
theorem d_MD_nameNumber_42 : decode prog_14_method_22_code 42 = .ok (.iaload, 1) := by decide +kernel
theorem d_MD_nameNumber_43 : decode prog_14_method_22_code 43 = .ok (.bipush 16, 2) := by decide +kernel
theorem d_MD_nameNumber_45 : decode prog_14_method_22_code 45 = .ok (.if_icmp .ne 16, 3) := by decide +kernel
theorem d_MD_nameNumber_61 : decode prog_14_method_22_code 61 = .ok (.aload_n 0, 1) := by decide +kernel
theorem d_MD_nameNumber_62 : decode prog_14_method_22_code 62 = .ok (.getfield 53, 3) := by decide +kernel
theorem rfm_26 : (26, 184) ∈ mf_L := by decide +kernel
theorem d_MD_nameNumber_65 : decode prog_14_method_22_code 65 = .ok (.bipush 16, 2) := by decide +kernel
theorem d_MD_nameNumber_67 : decode prog_14_method_22_code 67 = .ok (.aload_n 0, 1) := by decide +kernel
theorem d_MD_nameNumber_68 : decode prog_14_method_22_code 68 = .ok (.getfield 50, 3) := by decide +kernel
theorem d_MD_nameNumber_71 : decode prog_14_method_22_code 71 = .ok (.iconst 1, 1) := by decide +kernel
theorem d_MD_nameNumber_72 : decode prog_14_method_22_code 72 = .ok (.iaload, 1) := by decide +kernel
theorem d_MD_nameNumber_73 : decode prog_14_method_22_code 73 = .ok (.iadd, 1) := by decide +kernel
theorem d_MD_nameNumber_74 : decode prog_14_method_22_code 74 = .ok (.aload_n 0, 1) := by decide +kernel
theorem d_MD_nameNumber_75 : decode prog_14_method_22_code 75 = .ok (.getfield 290, 3) := by decide +kernel
theorem d_MD_nameNumber_78 : decode prog_14_method_22_code 78 = .ok (.lastore, 1) := by decide +kernel
theorem sf_184 : sh_L[184]? = some (1, 32) := by decide +kernel
theorem mq_184 (k : Nat) : mq 184 k = ((-9223372036854775808), 9223372036854775807) := rfl
theorem d_MD_nameNumber_79 : decode prog_14_method_22_code 79 = .ok (.aload_n 0, 1) := by decide +kernel
theorem d_MD_nameNumber_80 : decode prog_14_method_22_code 80 = .ok (.getfield 50, 3) := by decide +kernel
theorem d_MD_nameNumber_83 : decode prog_14_method_22_code 83 = .ok (.iconst 1, 1) := by decide +kernel
theorem d_MD_nameNumber_84 : decode prog_14_method_22_code 84 = .ok (.dup2, 1) := by decide +kernel
theorem d_MD_nameNumber_85 : decode prog_14_method_22_code 85 = .ok (.iaload, 1) := by decide +kernel
theorem d_MD_nameNumber_86 : decode prog_14_method_22_code 86 = .ok (.iconst 1, 1) := by decide +kernel
theorem d_MD_nameNumber_87 : decode prog_14_method_22_code 87 = .ok (.iadd, 1) := by decide +kernel
theorem d_MD_nameNumber_88 : decode prog_14_method_22_code 88 = .ok (.iastore, 1) := by decide +kernel
theorem d_MD_nameNumber_89 : decode prog_14_method_22_code 89 = .ok (.aload_n 0, 1) := by decide +kernel
theorem d_MD_nameNumber_90 : decode prog_14_method_22_code 90 = .ok (.getfield 50, 3) := by decide +kernel
theorem d_MD_nameNumber_93 : decode prog_14_method_22_code 93 = .ok (.iconst 1, 1) := by decide +kernel
theorem d_MD_nameNumber_94 : decode prog_14_method_22_code 94 = .ok (.iaload, 1) := by decide +kernel
theorem d_MD_nameNumber_95 : decode prog_14_method_22_code 95 = .ok (.iconst 1, 1) := by decide +kernel
theorem d_MD_nameNumber_96 : decode prog_14_method_22_code 96 = .ok (.isub, 1) := by decide +kernel
theorem d_MD_nameNumber_97 : decode prog_14_method_22_code 97 = .ok (.ireturn, 1) := by decide +kernel
theorem d_MD_nameNumber_12 : decode prog_14_method_22_code 12 = .ok (.aload_n 0, 1) := by decide +kernel
theorem d_MD_nameNumber_13 : decode prog_14_method_22_code 13 = .ok (.getfield 53, 3) := by decide +kernel
theorem d_MD_nameNumber_16 : decode prog_14_method_22_code 16 = .ok (.bipush 16, 2) := by decide +kernel
theorem d_MD_nameNumber_18 : decode prog_14_method_22_code 18 = .ok (.iload_n 1, 1) := by decide +kernel
theorem d_MD_nameNumber_19 : decode prog_14_method_22_code 19 = .ok (.iadd, 1) := by decide +kernel
theorem d_MD_nameNumber_20 : decode prog_14_method_22_code 20 = .ok (.laload, 1) := by decide +kernel
theorem d_MD_nameNumber_21 : decode prog_14_method_22_code 21 = .ok (.aload_n 0, 1) := by decide +kernel
theorem d_MD_nameNumber_22 : decode prog_14_method_22_code 22 = .ok (.getfield 290, 3) := by decide +kernel
theorem d_MD_nameNumber_25 : decode prog_14_method_22_code 25 = .ok (.lcmp, 1) := by decide +kernel
theorem d_MD_nameNumber_26 : decode prog_14_method_22_code 26 = .ok (.ifCond .ne 5, 3) := by decide +kernel
theorem d_MD_nameNumber_31 : decode prog_14_method_22_code 31 = .ok (.iinc 1 1, 3) := by decide +kernel
theorem d_MD_nameNumber_34 : decode prog_14_method_22_code 34 = .ok (.goto (-32), 3) := by decide +kernel
theorem d_MD_nameNumber_29 : decode prog_14_method_22_code 29 = .ok (.iload_n 1, 1) := by decide +kernel
theorem d_MD_nameNumber_30 : decode prog_14_method_22_code 30 = .ok (.ireturn, 1) := by decide +kernel
theorem d_MD_nameNumber_48 : decode prog_14_method_22_code 48 = .ok (.aload_n 0, 1) := by decide +kernel
theorem d_MD_nameNumber_49 : decode prog_14_method_22_code 49 = .ok (.iconst 3, 1) := by decide +kernel
theorem d_MD_nameNumber_50 : decode prog_14_method_22_code 50 = .ok (.aload_n 0, 1) := by decide +kernel
theorem d_MD_nameNumber_51 : decode prog_14_method_22_code 51 = .ok (.getfield 242, 3) := by decide +kernel
theorem d_MD_nameNumber_54 : decode prog_14_method_22_code 54 = .ok (.invokevirtual 245, 3) := by decide +kernel
theorem d_MD_nameNumber_57 : decode prog_14_method_22_code 57 = .ok (.pop, 1) := by decide +kernel
theorem d_MD_nameNumber_58 : decode prog_14_method_22_code 58 = .ok (.bipush (-2), 2) := by decide +kernel
theorem d_MD_nameNumber_60 : decode prog_14_method_22_code 60 = .ok (.ireturn, 1) := by decide +kernel
def m_MD_ruleItem : mr_T := (⟨"PlainMusicModel", "ruleItem", "()Z"⟩, prog_14_method_23_code, 2, some .boolean)
theorem d_MD_ruleItem_0 : decode prog_14_method_23_code 0 = .ok (.aload_n 0, 1) := by decide +kernel
theorem d_MD_ruleItem_1 : decode prog_14_method_23_code 1 = .ok (.getfield 32, 3) := by decide +kernel
theorem rfm_19 : (19, 177) ∈ mf_L := by decide +kernel
theorem d_MD_ruleItem_4 : decode prog_14_method_23_code 4 = .ok (.iconst 1, 1) := by decide +kernel
theorem d_MD_ruleItem_5 : decode prog_14_method_23_code 5 = .ok (.iaload, 1) := by decide +kernel
theorem sf_177 : sh_L[177]? = some (0, 2) := by decide +kernel
theorem mr_177 (k : Nat) : mr 177 k = (0, 24) := rfl
theorem d_MD_ruleItem_6 : decode prog_14_method_23_code 6 = .ok (.bipush 24, 2) := by decide +kernel
theorem d_MD_ruleItem_8 : decode prog_14_method_23_code 8 = .ok (.if_icmp .ne 13, 3) := by decide +kernel
theorem d_MD_ruleItem_21 : decode prog_14_method_23_code 21 = .ok (.bipush 24, 2) := by decide +kernel
theorem d_MD_ruleItem_23 : decode prog_14_method_23_code 23 = .ok (.aload_n 0, 1) := by decide +kernel
theorem d_MD_ruleItem_24 : decode prog_14_method_23_code 24 = .ok (.getfield 32, 3) := by decide +kernel
theorem d_MD_ruleItem_27 : decode prog_14_method_23_code 27 = .ok (.iconst 1, 1) := by decide +kernel
theorem d_MD_ruleItem_28 : decode prog_14_method_23_code 28 = .ok (.iaload, 1) := by decide +kernel
theorem d_MD_ruleItem_29 : decode prog_14_method_23_code 29 = .ok (.iadd, 1) := by decide +kernel
theorem d_MD_ruleItem_30 : decode prog_14_method_23_code 30 = .ok (.istore_n 1, 1) := by decide +kernel
theorem d_MD_ruleItem_31 : decode prog_14_method_23_code 31 = .ok (.aload_n 0, 1) := by decide +kernel
theorem d_MD_ruleItem_32 : decode prog_14_method_23_code 32 = .ok (.invokevirtual 309, 3) := by decide +kernel
theorem d_MD_ruleItem_35 : decode prog_14_method_23_code 35 = .ok (.pop, 1) := by decide +kernel
theorem d_MD_ruleItem_36 : decode prog_14_method_23_code 36 = .ok (.aload_n 0, 1) := by decide +kernel
theorem d_MD_ruleItem_37 : decode prog_14_method_23_code 37 = .ok (.getfield 239, 3) := by decide +kernel
theorem d_MD_ruleItem_40 : decode prog_14_method_23_code 40 = .ok (.iconst 2, 1) := by decide +kernel
theorem d_MD_ruleItem_41 : decode prog_14_method_23_code 41 = .ok (.if_icmp .eq 8, 3) := by decide +kernel
theorem d_MD_ruleItem_49 : decode prog_14_method_23_code 49 = .ok (.aload_n 0, 1) := by decide +kernel
theorem d_MD_ruleItem_50 : decode prog_14_method_23_code 50 = .ok (.getfield 35, 3) := by decide +kernel
theorem rfm_20 : (20, 178) ∈ mf_L := by decide +kernel
theorem d_MD_ruleItem_53 : decode prog_14_method_23_code 53 = .ok (.iload_n 1, 1) := by decide +kernel
theorem d_MD_ruleItem_54 : decode prog_14_method_23_code 54 = .ok (.aload_n 0, 1) := by decide +kernel
theorem d_MD_ruleItem_55 : decode prog_14_method_23_code 55 = .ok (.invokevirtual 350, 3) := by decide +kernel
theorem k_MD_nameNumber : mt_OK m_MD_nameNumber 0 1 := ⟨(gw_in 1992 (by decide +kernel) (by decide +kernel)), (gw_in 146 (by decide +kernel) (by decide +kernel)), ⟨by decide +kernel, by decide +kernel, by decide +kernel⟩, fun h => absurd h (by decide), fun _ => ⟨(gw_in 1991 (by decide +kernel) (by decide +kernel)), (gw_in 97 (by decide +kernel) (by decide +kernel))⟩, fun h => absurd h (by decide)⟩
theorem l_MD_350 : ml_OK "PlainMusicModel" 350 ⟨"PlainMusicModel", "nameNumber", "()I"⟩ := Or.inl (gw_in 1989 (by decide +kernel) (by decide +kernel))
theorem d_MD_ruleItem_58 : decode prog_14_method_23_code 58 = .ok (.iastore, 1) := by decide +kernel
theorem sf_178 : sh_L[178]? = some (0, 48) := by decide +kernel
theorem mr_178 (k : Nat) : mr 178 k = ((-2), 15) := rfl
theorem d_MD_ruleItem_59 : decode prog_14_method_23_code 59 = .ok (.aload_n 0, 1) := by decide +kernel
theorem d_MD_ruleItem_60 : decode prog_14_method_23_code 60 = .ok (.getfield 35, 3) := by decide +kernel
theorem d_MD_ruleItem_63 : decode prog_14_method_23_code 63 = .ok (.iload_n 1, 1) := by decide +kernel
theorem d_MD_ruleItem_64 : decode prog_14_method_23_code 64 = .ok (.iaload, 1) := by decide +kernel
theorem d_MD_ruleItem_65 : decode prog_14_method_23_code 65 = .ok (.ifCond .ge 5, 3) := by decide +kernel
theorem d_MD_ruleItem_70 : decode prog_14_method_23_code 70 = .ok (.aload_n 0, 1) := by decide +kernel
theorem d_MD_ruleItem_71 : decode prog_14_method_23_code 71 = .ok (.invokevirtual 309, 3) := by decide +kernel
theorem d_MD_ruleItem_74 : decode prog_14_method_23_code 74 = .ok (.pop, 1) := by decide +kernel
theorem d_MD_ruleItem_75 : decode prog_14_method_23_code 75 = .ok (.aload_n 0, 1) := by decide +kernel
theorem d_MD_ruleItem_76 : decode prog_14_method_23_code 76 = .ok (.bipush 61, 2) := by decide +kernel
theorem d_MD_ruleItem_78 : decode prog_14_method_23_code 78 = .ok (.invokevirtual 344, 3) := by decide +kernel
theorem d_MD_ruleItem_81 : decode prog_14_method_23_code 81 = .ok (.ifCond .ne 5, 3) := by decide +kernel
theorem d_MD_ruleItem_86 : decode prog_14_method_23_code 86 = .ok (.aload_n 0, 1) := by decide +kernel
theorem d_MD_ruleItem_87 : decode prog_14_method_23_code 87 = .ok (.getfield 239, 3) := by decide +kernel
theorem d_MD_ruleItem_90 : decode prog_14_method_23_code 90 = .ok (.iconst 2, 1) := by decide +kernel
theorem d_MD_ruleItem_91 : decode prog_14_method_23_code 91 = .ok (.if_icmp .eq 8, 3) := by decide +kernel
theorem d_MD_ruleItem_99 : decode prog_14_method_23_code 99 = .ok (.aload_n 0, 1) := by decide +kernel
theorem d_MD_ruleItem_100 : decode prog_14_method_23_code 100 = .ok (.getfield 38, 3) := by decide +kernel
theorem rfm_21 : (21, 179) ∈ mf_L := by decide +kernel
theorem d_MD_ruleItem_103 : decode prog_14_method_23_code 103 = .ok (.iload_n 1, 1) := by decide +kernel
theorem d_MD_ruleItem_104 : decode prog_14_method_23_code 104 = .ok (.aload_n 0, 1) := by decide +kernel
theorem d_MD_ruleItem_105 : decode prog_14_method_23_code 105 = .ok (.invokevirtual 350, 3) := by decide +kernel
theorem d_MD_ruleItem_108 : decode prog_14_method_23_code 108 = .ok (.iastore, 1) := by decide +kernel
theorem sf_179 : sh_L[179]? = some (0, 48) := by decide +kernel
theorem mr_179 (k : Nat) : mr 179 k = ((-2), 15) := rfl
theorem d_MD_ruleItem_109 : decode prog_14_method_23_code 109 = .ok (.aload_n 0, 1) := by decide +kernel
theorem d_MD_ruleItem_110 : decode prog_14_method_23_code 110 = .ok (.getfield 38, 3) := by decide +kernel
theorem d_MD_ruleItem_113 : decode prog_14_method_23_code 113 = .ok (.iload_n 1, 1) := by decide +kernel
theorem d_MD_ruleItem_114 : decode prog_14_method_23_code 114 = .ok (.iaload, 1) := by decide +kernel
theorem d_MD_ruleItem_115 : decode prog_14_method_23_code 115 = .ok (.ifCond .ge 5, 3) := by decide +kernel
theorem d_MD_ruleItem_120 : decode prog_14_method_23_code 120 = .ok (.aload_n 0, 1) := by decide +kernel
theorem d_MD_ruleItem_121 : decode prog_14_method_23_code 121 = .ok (.getfield 41, 3) := by decide +kernel
theorem rfm_22 : (22, 180) ∈ mf_L := by decide +kernel
theorem d_MD_ruleItem_124 : decode prog_14_method_23_code 124 = .ok (.iload_n 1, 1) := by decide +kernel
theorem d_MD_ruleItem_125 : decode prog_14_method_23_code 125 = .ok (.bipush (-2), 2) := by decide +kernel
theorem d_MD_ruleItem_127 : decode prog_14_method_23_code 127 = .ok (.iastore, 1) := by decide +kernel
theorem sf_180 : sh_L[180]? = some (0, 48) := by decide +kernel
theorem mr_180 (k : Nat) : mr 180 k = ((-2), 15) := rfl
theorem d_MD_ruleItem_128 : decode prog_14_method_23_code 128 = .ok (.aload_n 0, 1) := by decide +kernel
theorem d_MD_ruleItem_129 : decode prog_14_method_23_code 129 = .ok (.invokevirtual 309, 3) := by decide +kernel
theorem d_MD_ruleItem_132 : decode prog_14_method_23_code 132 = .ok (.pop, 1) := by decide +kernel
theorem d_MD_ruleItem_133 : decode prog_14_method_23_code 133 = .ok (.aload_n 0, 1) := by decide +kernel
theorem d_MD_ruleItem_134 : decode prog_14_method_23_code 134 = .ok (.getfield 239, 3) := by decide +kernel
theorem d_MD_ruleItem_137 : decode prog_14_method_23_code 137 = .ok (.iconst 2, 1) := by decide +kernel
theorem d_MD_ruleItem_138 : decode prog_14_method_23_code 138 = .ok (.if_icmp .ne 29, 3) := by decide +kernel
theorem d_MD_ruleItem_167 : decode prog_14_method_23_code 167 = .ok (.aload_n 0, 1) := by decide +kernel
theorem d_MD_ruleItem_168 : decode prog_14_method_23_code 168 = .ok (.getfield 32, 3) := by decide +kernel
theorem d_MD_ruleItem_171 : decode prog_14_method_23_code 171 = .ok (.iconst 1, 1) := by decide +kernel
theorem d_MD_ruleItem_172 : decode prog_14_method_23_code 172 = .ok (.dup2, 1) := by decide +kernel
theorem d_MD_ruleItem_173 : decode prog_14_method_23_code 173 = .ok (.iaload, 1) := by decide +kernel
theorem d_MD_ruleItem_174 : decode prog_14_method_23_code 174 = .ok (.iconst 1, 1) := by decide +kernel
theorem d_MD_ruleItem_175 : decode prog_14_method_23_code 175 = .ok (.iadd, 1) := by decide +kernel
theorem d_MD_ruleItem_176 : decode prog_14_method_23_code 176 = .ok (.iastore, 1) := by decide +kernel
theorem d_MD_ruleItem_177 : decode prog_14_method_23_code 177 = .ok (.aload_n 0, 1) := by decide +kernel
theorem d_MD_ruleItem_178 : decode prog_14_method_23_code 178 = .ok (.bipush 59, 2) := by decide +kernel
theorem d_MD_ruleItem_180 : decode prog_14_method_23_code 180 = .ok (.invokevirtual 344, 3) := by decide +kernel
theorem d_MD_ruleItem_183 : decode prog_14_method_23_code 183 = .ok (.ireturn, 1) := by decide +kernel
theorem d_MD_ruleItem_141 : decode prog_14_method_23_code 141 = .ok (.aload_n 0, 1) := by decide +kernel
theorem d_MD_ruleItem_142 : decode prog_14_method_23_code 142 = .ok (.getfield 41, 3) := by decide +kernel
theorem d_MD_ruleItem_145 : decode prog_14_method_23_code 145 = .ok (.iload_n 1, 1) := by decide +kernel
theorem d_MD_ruleItem_146 : decode prog_14_method_23_code 146 = .ok (.aload_n 0, 1) := by decide +kernel
theorem d_MD_ruleItem_147 : decode prog_14_method_23_code 147 = .ok (.invokevirtual 350, 3) := by decide +kernel
theorem d_MD_ruleItem_150 : decode prog_14_method_23_code 150 = .ok (.iastore, 1) := by decide +kernel
theorem d_MD_ruleItem_151 : decode prog_14_method_23_code 151 = .ok (.aload_n 0, 1) := by decide +kernel
theorem d_MD_ruleItem_152 : decode prog_14_method_23_code 152 = .ok (.getfield 41, 3) := by decide +kernel
theorem d_MD_ruleItem_155 : decode prog_14_method_23_code 155 = .ok (.iload_n 1, 1) := by decide +kernel
theorem d_MD_ruleItem_156 : decode prog_14_method_23_code 156 = .ok (.iaload, 1) := by decide +kernel
theorem d_MD_ruleItem_157 : decode prog_14_method_23_code 157 = .ok (.ifCond .ge 5, 3) := by decide +kernel
theorem d_MD_ruleItem_162 : decode prog_14_method_23_code 162 = .ok (.aload_n 0, 1) := by decide +kernel
theorem d_MD_ruleItem_163 : decode prog_14_method_23_code 163 = .ok (.invokevirtual 309, 3) := by decide +kernel
theorem d_MD_ruleItem_166 : decode prog_14_method_23_code 166 = .ok (.pop, 1) := by decide +kernel
theorem d_MD_ruleItem_160 : decode prog_14_method_23_code 160 = .ok (.iconst 0, 1) := by decide +kernel
theorem d_MD_ruleItem_161 : decode prog_14_method_23_code 161 = .ok (.ireturn, 1) := by decide +kernel
theorem d_MD_ruleItem_118 : decode prog_14_method_23_code 118 = .ok (.iconst 0, 1) := by decide +kernel
theorem d_MD_ruleItem_119 : decode prog_14_method_23_code 119 = .ok (.ireturn, 1) := by decide +kernel
theorem d_MD_ruleItem_94 : decode prog_14_method_23_code 94 = .ok (.aload_n 0, 1) := by decide +kernel
theorem d_MD_ruleItem_95 : decode prog_14_method_23_code 95 = .ok (.invokevirtual 313, 3) := by decide +kernel
theorem d_MD_ruleItem_98 : decode prog_14_method_23_code 98 = .ok (.ireturn, 1) := by decide +kernel
theorem d_MD_ruleItem_84 : decode prog_14_method_23_code 84 = .ok (.iconst 0, 1) := by decide +kernel
theorem d_MD_ruleItem_85 : decode prog_14_method_23_code 85 = .ok (.ireturn, 1) := by decide +kernel
theorem d_MD_ruleItem_68 : decode prog_14_method_23_code 68 = .ok (.iconst 0, 1) := by decide +kernel
theorem d_MD_ruleItem_69 : decode prog_14_method_23_code 69 = .ok (.ireturn, 1) := by decide +kernel
theorem d_MD_ruleItem_44 : decode prog_14_method_23_code 44 = .ok (.aload_n 0, 1) := by decide +kernel
theorem d_MD_ruleItem_45 : decode prog_14_method_23_code 45 = .ok (.invokevirtual 313, 3) := by decide +kernel
theorem d_MD_ruleItem_48 : decode prog_14_method_23_code 48 = .ok (.ireturn, 1) := by decide +kernel
theorem d_MD_ruleItem_11 : decode prog_14_method_23_code 11 = .ok (.aload_n 0, 1) := by decide +kernel
theorem d_MD_ruleItem_12 : decode prog_14_method_23_code 12 = .ok (.iconst 3, 1) := by decide +kernel
theorem d_MD_ruleItem_13 : decode prog_14_method_23_code 13 = .ok (.aload_n 0, 1) := by decide +kernel
theorem d_MD_ruleItem_14 : decode prog_14_method_23_code 14 = .ok (.getfield 242, 3) := by decide +kernel
theorem d_MD_ruleItem_17 : decode prog_14_method_23_code 17 = .ok (.invokevirtual 245, 3) := by decide +kernel
theorem d_MD_ruleItem_20 : decode prog_14_method_23_code 20 = .ok (.ireturn, 1) := by decide +kernel
def m_MD_rowItem : mr_T := (⟨"PlainMusicModel", "rowItem", "()Z"⟩, prog_14_method_24_code, 2, some .boolean)
theorem d_MD_rowItem_0 : decode prog_14_method_24_code 0 = .ok (.aload_n 0, 1) := by decide +kernel
theorem d_MD_rowItem_1 : decode prog_14_method_24_code 1 = .ok (.getfield 323, 3) := by decide +kernel
theorem f_MD_323 : fl_OK "PlainMusicModel" 323 12 61 .boolean false := ⟨_, rfl, by decide, (gw_in 1543 (by decide +kernel) (by decide +kernel)), rfl, rfl⟩
theorem d_MD_rowItem_4 : decode prog_14_method_24_code 4 = .ok (.ifCond .eq 13, 3) := by decide +kernel
theorem d_MD_rowItem_17 : decode prog_14_method_24_code 17 = .ok (.aload_n 0, 1) := by decide +kernel
theorem d_MD_rowItem_18 : decode prog_14_method_24_code 18 = .ok (.iconst 1, 1) := by decide +kernel
theorem d_MD_rowItem_19 : decode prog_14_method_24_code 19 = .ok (.putfield 323, 3) := by decide +kernel
theorem mr_170_61 : mr 170 61 = ((-2147483648), 2147483647) := by decide +kernel
theorem d_MD_rowItem_22 : decode prog_14_method_24_code 22 = .ok (.aload_n 0, 1) := by decide +kernel
theorem d_MD_rowItem_23 : decode prog_14_method_24_code 23 = .ok (.invokevirtual 309, 3) := by decide +kernel
theorem d_MD_rowItem_26 : decode prog_14_method_24_code 26 = .ok (.pop, 1) := by decide +kernel
theorem d_MD_rowItem_27 : decode prog_14_method_24_code 27 = .ok (.aload_n 0, 1) := by decide +kernel
theorem d_MD_rowItem_28 : decode prog_14_method_24_code 28 = .ok (.getfield 239, 3) := by decide +kernel
theorem d_MD_rowItem_31 : decode prog_14_method_24_code 31 = .ok (.iconst 2, 1) := by decide +kernel
theorem d_MD_rowItem_32 : decode prog_14_method_24_code 32 = .ok (.if_icmp .eq 8, 3) := by decide +kernel
theorem d_MD_rowItem_40 : decode prog_14_method_24_code 40 = .ok (.aload_n 0, 1) := by decide +kernel
theorem d_MD_rowItem_41 : decode prog_14_method_24_code 41 = .ok (.getfield 44, 3) := by decide +kernel
theorem rfm_23 : (23, 181) ∈ mf_L := by decide +kernel
theorem d_MD_rowItem_44 : decode prog_14_method_24_code 44 = .ok (.iconst 1, 1) := by decide +kernel
theorem d_MD_rowItem_45 : decode prog_14_method_24_code 45 = .ok (.iaload, 1) := by decide +kernel
theorem sf_181 : sh_L[181]? = some (0, 2) := by decide +kernel
theorem mr_181 (k : Nat) : mr 181 k = (0, 12) := rfl
theorem d_MD_rowItem_46 : decode prog_14_method_24_code 46 = .ok (.bipush 12, 2) := by decide +kernel
theorem d_MD_rowItem_48 : decode prog_14_method_24_code 48 = .ok (.if_icmp .ne 13, 3) := by decide +kernel
theorem d_MD_rowItem_61 : decode prog_14_method_24_code 61 = .ok (.aload_n 0, 1) := by decide +kernel
theorem d_MD_rowItem_62 : decode prog_14_method_24_code 62 = .ok (.invokevirtual 350, 3) := by decide +kernel
theorem d_MD_rowItem_65 : decode prog_14_method_24_code 65 = .ok (.istore_n 1, 1) := by decide +kernel
theorem d_MD_rowItem_66 : decode prog_14_method_24_code 66 = .ok (.iload_n 1, 1) := by decide +kernel
theorem d_MD_rowItem_67 : decode prog_14_method_24_code 67 = .ok (.ifCond .ge 5, 3) := by decide +kernel
theorem d_MD_rowItem_72 : decode prog_14_method_24_code 72 = .ok (.aload_n 0, 1) := by decide +kernel
theorem d_MD_rowItem_73 : decode prog_14_method_24_code 73 = .ok (.getfield 47, 3) := by decide +kernel
theorem rfm_24 : (24, 182) ∈ mf_L := by decide +kernel
theorem d_MD_rowItem_76 : decode prog_14_method_24_code 76 = .ok (.bipush 12, 2) := by decide +kernel
theorem d_MD_rowItem_78 : decode prog_14_method_24_code 78 = .ok (.aload_n 0, 1) := by decide +kernel
theorem d_MD_rowItem_79 : decode prog_14_method_24_code 79 = .ok (.getfield 44, 3) := by decide +kernel
theorem d_MD_rowItem_82 : decode prog_14_method_24_code 82 = .ok (.iconst 1, 1) := by decide +kernel
theorem d_MD_rowItem_83 : decode prog_14_method_24_code 83 = .ok (.iaload, 1) := by decide +kernel
theorem d_MD_rowItem_84 : decode prog_14_method_24_code 84 = .ok (.iadd, 1) := by decide +kernel
theorem d_MD_rowItem_85 : decode prog_14_method_24_code 85 = .ok (.iload_n 1, 1) := by decide +kernel
theorem d_MD_rowItem_86 : decode prog_14_method_24_code 86 = .ok (.iastore, 1) := by decide +kernel
theorem sf_182 : sh_L[182]? = some (0, 24) := by decide +kernel
theorem mr_182 (k : Nat) : mr 182 k = (0, 15) := rfl
theorem d_MD_rowItem_87 : decode prog_14_method_24_code 87 = .ok (.aload_n 0, 1) := by decide +kernel
theorem d_MD_rowItem_88 : decode prog_14_method_24_code 88 = .ok (.getfield 44, 3) := by decide +kernel
theorem d_MD_rowItem_91 : decode prog_14_method_24_code 91 = .ok (.iconst 1, 1) := by decide +kernel
theorem d_MD_rowItem_92 : decode prog_14_method_24_code 92 = .ok (.dup2, 1) := by decide +kernel
theorem d_MD_rowItem_93 : decode prog_14_method_24_code 93 = .ok (.iaload, 1) := by decide +kernel
theorem d_MD_rowItem_94 : decode prog_14_method_24_code 94 = .ok (.iconst 1, 1) := by decide +kernel
theorem d_MD_rowItem_95 : decode prog_14_method_24_code 95 = .ok (.iadd, 1) := by decide +kernel
theorem d_MD_rowItem_96 : decode prog_14_method_24_code 96 = .ok (.iastore, 1) := by decide +kernel
theorem d_MD_rowItem_97 : decode prog_14_method_24_code 97 = .ok (.aload_n 0, 1) := by decide +kernel
theorem d_MD_rowItem_98 : decode prog_14_method_24_code 98 = .ok (.invokevirtual 309, 3) := by decide +kernel
theorem d_MD_rowItem_101 : decode prog_14_method_24_code 101 = .ok (.pop, 1) := by decide +kernel
theorem d_MD_rowItem_102 : decode prog_14_method_24_code 102 = .ok (.aload_n 0, 1) := by decide +kernel
theorem d_MD_rowItem_103 : decode prog_14_method_24_code 103 = .ok (.bipush 59, 2) := by decide +kernel
theorem d_MD_rowItem_105 : decode prog_14_method_24_code 105 = .ok (.invokevirtual 306, 3) := by decide +kernel
theorem d_MD_rowItem_108 : decode prog_14_method_24_code 108 = .ok (.ifCond .eq (-81), 3) := by decide +kernel
theorem d_MD_rowItem_111 : decode prog_14_method_24_code 111 = .ok (.aload_n 0, 1) := by decide +kernel
theorem d_MD_rowItem_112 : decode prog_14_method_24_code 112 = .ok (.invokevirtual 309, 3) := by decide +kernel
theorem d_MD_rowItem_115 : decode prog_14_method_24_code 115 = .ok (.ireturn, 1) := by decide +kernel
theorem d_MD_rowItem_70 : decode prog_14_method_24_code 70 = .ok (.iconst 0, 1) := by decide +kernel
theorem d_MD_rowItem_71 : decode prog_14_method_24_code 71 = .ok (.ireturn, 1) := by decide +kernel
theorem d_MD_rowItem_51 : decode prog_14_method_24_code 51 = .ok (.aload_n 0, 1) := by decide +kernel
theorem d_MD_rowItem_52 : decode prog_14_method_24_code 52 = .ok (.iconst 3, 1) := by decide +kernel
theorem d_MD_rowItem_53 : decode prog_14_method_24_code 53 = .ok (.aload_n 0, 1) := by decide +kernel
theorem d_MD_rowItem_54 : decode prog_14_method_24_code 54 = .ok (.getfield 242, 3) := by decide +kernel
theorem d_MD_rowItem_57 : decode prog_14_method_24_code 57 = .ok (.invokevirtual 245, 3) := by decide +kernel
theorem d_MD_rowItem_60 : decode prog_14_method_24_code 60 = .ok (.ireturn, 1) := by decide +kernel
theorem d_MD_rowItem_35 : decode prog_14_method_24_code 35 = .ok (.aload_n 0, 1) := by decide +kernel
theorem d_MD_rowItem_36 : decode prog_14_method_24_code 36 = .ok (.invokevirtual 313, 3) := by decide +kernel
theorem d_MD_rowItem_39 : decode prog_14_method_24_code 39 = .ok (.ireturn, 1) := by decide +kernel
theorem d_MD_rowItem_7 : decode prog_14_method_24_code 7 = .ok (.aload_n 0, 1) := by decide +kernel
theorem d_MD_rowItem_8 : decode prog_14_method_24_code 8 = .ok (.iconst 4, 1) := by decide +kernel
theorem d_MD_rowItem_9 : decode prog_14_method_24_code 9 = .ok (.aload_n 0, 1) := by decide +kernel
theorem d_MD_rowItem_10 : decode prog_14_method_24_code 10 = .ok (.getfield 242, 3) := by decide +kernel
theorem d_MD_rowItem_13 : decode prog_14_method_24_code 13 = .ok (.invokevirtual 245, 3) := by decide +kernel
theorem d_MD_rowItem_16 : decode prog_14_method_24_code 16 = .ok (.ireturn, 1) := by decide +kernel
theorem s_MD_lay {G : cx_T} {h : ah_T} (hx : mi h) {a1 : Int} (hT : h.2.1 170 1 ≤ 1996) : con G 0 0 0 m_MD_lay [av_R (some 170), av_I a1] h (fun r h' => r = none ∧ (h'.2.1 170 1 = h.2.1 170 1 + 4) ∧ kM (pm [1] [171]) h h') := by
  refine con_of (L := [some (av_R (some 170)), some (av_I a1), none]) (by decide +kernel) (Nat.le_of_ble_eq_true rfl) rfl ?_
  have k0 : kM (pm [1] [171]) h h := kM_0 hx
  obtain ⟨sd1, esd1⟩ : ∃ x, x = h.2.1 170 1 := ⟨_, rfl⟩
  have rsd1 : 0 ≤ sd1 ∧ sd1 ≤ 2000 := (by rw [esd1]; exact mi_g k0.1 (by decide) mr_170_1)
  refine A_locI 1 rfl (fun ra => ?_)
  obtain ⟨_, _⟩ := ra
  refine A_bipush d_MD_lay_0 rfl ?_
  refine A_istore_n 2 (L' := [some (av_R (some 170)), some (av_I a1), some (av_I 24)]) d_MD_lay_2 rfl (Nat.le_of_ble_eq_true rfl) rfl ?_
  have lp3 : ∀ (n : Nat) (i2 : Int) (h3 : ah_T) , (-8) ≤ i2 → i2 ≤ 24 → kM (pm [1] [171]) h h3 → (i2 + 9).toNat < n → aw G (rm_R 0 0 0) m_MD_lay 0 0 3 [some (av_R (some 170)), some (av_I a1), some (av_I i2)] [] h3 (fun r h' => r = none ∧ (h'.2.1 170 1 = h.2.1 170 1 + 4) ∧ kM (pm [1] [171]) h h') := by
    intro n
    induction n with
    | zero => intro i2 h3 _ _ _ hm; omega
    | succ n ih3 =>
      intro i2 h3 hl0 hl1 k4 hm
      obtain ⟨sd5, esd5⟩ : ∃ x, x = h3.2.1 170 1 := ⟨_, rfl⟩
      have rsd5 : 0 ≤ sd5 ∧ sd5 ≤ 2000 := (by rw [esd5]; exact mi_g k4.1 (by decide) mr_170_1)
      refine A_iload_n 2 d_MD_lay_3 rfl rfl ?_
      refine A_if_lt (tgt := 39) d_MD_lay_4 (by decide) (fun c6 => ?_) (fun c6 => ?_)
      · exact A_vret d_MD_lay_39 (by decide) rfl ⟨rfl, (by have qq0 := esd5.symm; omega), k4⟩
      · refine A_aload_n 0 d_MD_lay_7 rfl rfl ?_
        refine A_getAv (z := some 171) T_ok d_MD_lay_8 f_MD_7 (mi_s k4.1 sf_170) (mi_r k4.1 rfm_0) ?_
        refine A_aload_n 0 d_MD_lay_11 rfl rfl ?_
        refine A_getIv (z := sd5) T_ok d_MD_lay_12 f_MD_226 (mi_s k4.1 sf_170) esd5.symm ?_
        refine A_iload_n 1 d_MD_lay_15 rfl rfl ?_
        refine A_pc (pc' := 16) rfl ?_
        refine A_iload_n 2 d_MD_lay_16 rfl rfl ?_
        refine A_ishr d_MD_lay_17 ?_
        refine A_nrI (fun x9 ex9 _ _ => ?_)
        refine A_sipush d_MD_lay_18 rfl ?_
        refine A_iand d_MD_lay_21 ?_
        refine A_nrI (fun x10 ex10 _ _ => ?_)
        have bx10 := and_r (m := 255) 8 ex10 (by decide) (by decide) (by decide)
        refine A_iastorek (KR := kM (pm [1] [171]) h) d_MD_lay_22 (mi_s k4.1 sf_171) (by omega) (by omega) (kM_i k4 (by decide) rfl (mr_171 _) (by omega) (by omega)) (fun h11 k12 eh11 => ?_)
        refine A_aload_n 0 d_MD_lay_23 rfl rfl ?_
        refine A_pc (pc' := 24) rfl ?_
        refine A_dupR d_MD_lay_24 ?_
        refine A_getIv (z := sd5) T_ok d_MD_lay_25 f_MD_226 (mi_s k12.1 sf_170) ((eh11.1 _ _ (fun q => absurd q (by decide))).trans esd5.symm) ?_
        refine A_iconst d_MD_lay_28 rfl ?_
        refine A_iaddv (z := (sd5 + 1)) d_MD_lay_29 (w32_to (by omega) (by unfold i32; omega)) ?_
        refine A_putIk (KR := kM (pm [1] [171]) h) T_ok d_MD_lay_30 f_MD_226 (mi_s k12.1 sf_170) fin_f (kM_i k12 (by decide) (by decide) mr_170_1 (by omega) (by omega)) (fun h14 k15 eh14 => ?_)
        refine A_iincv (z := (i2 - 8)) (L' := [some (av_R (some 170)), some (av_I a1), some (av_I (i2 - 8))]) d_MD_lay_33 rfl (w32_to (by omega) (by unfold i32; omega)) rfl ?_
        refine A_pc (pc' := 36) rfl ?_
        refine A_goto (tgt := 3) d_MD_lay_36 (by decide) ?_
        exact ih3 (i2 - 8) h14 (by omega) (by omega) k15 (by omega)
  exact lp3 _ 24 h (by omega) (by omega) k0 (Nat.lt_succ_self _)
theorem s_MD_feed {G : cx_T} {h : ah_T} (hx : mi h) {a1 : Int} {a2 : Int} {a3 : Int} {a4 : Int} {a5 : Int}  : con G 1 0 0 m_MD_feed [av_R (some 170), av_I a1, av_I a2, av_I a3, av_I a4, av_I a5] h (fun r h' => ∃ z, r = some (av_I z) ∧ ((-3) ≤ z ∧ z ≤ 2000) ∧ ((h.2.1 170 1 ≤ 1980 → z = h.2.1 170 1 + 20 ∧ h'.2.1 170 1 = h.2.1 170 1 + 20) ∧ (1980 < h.2.1 170 1 → z = -3 ∧ h'.2.1 170 1 = h.2.1 170 1)) ∧ kM (pm [1] [171]) h h') := by
  refine con_of (L := [some (av_R (some 170)), some (av_I a1), some (av_I a2), some (av_I a3), some (av_I a4), some (av_I a5)]) (by decide +kernel) (Nat.le_of_ble_eq_true rfl) rfl ?_
  have k0 : kM (pm [1] [171]) h h := kM_0 hx
  obtain ⟨sd1, esd1⟩ : ∃ x, x = h.2.1 170 1 := ⟨_, rfl⟩
  have rsd1 : 0 ≤ sd1 ∧ sd1 ≤ 2000 := (by rw [esd1]; exact mi_g k0.1 (by decide) mr_170_1)
  refine A_locI 1 rfl (fun ra => ?_)
  obtain ⟨_, _⟩ := ra
  refine A_locI 2 rfl (fun ra => ?_)
  obtain ⟨_, _⟩ := ra
  refine A_locI 3 rfl (fun ra => ?_)
  obtain ⟨_, _⟩ := ra
  refine A_locI 4 rfl (fun ra => ?_)
  obtain ⟨_, _⟩ := ra
  refine A_locI 5 rfl (fun ra => ?_)
  obtain ⟨_, _⟩ := ra
  refine A_aload_n 0 d_MD_feed_0 rfl rfl ?_
  refine A_getIv (z := sd1) T_ok d_MD_feed_1 f_MD_226 (mi_s k0.1 sf_170) esd1.symm ?_
  refine A_bipush d_MD_feed_4 rfl ?_
  refine A_iaddv (z := (sd1 + 20)) d_MD_feed_6 (w32_to (by omega) (by unfold i32; omega)) ?_
  refine A_sipush d_MD_feed_7 rfl ?_
  refine A_pc (pc' := 10) rfl ?_
  refine A_icmp_le (tgt := 16) d_MD_feed_10 (by decide) (fun c3 => ?_) (fun c3 => ?_)
  · refine A_aload_n 0 d_MD_feed_16 rfl rfl ?_
    refine A_iload_n 1 d_MD_feed_17 rfl rfl ?_
    have zf5 := esd1.symm
    refine A_callV1 m_MD_lay T_ok d_MD_feed_18 l_MD_229 k_MD_lay (mi_s k0.1 sf_170) rfl (by decide +kernel) (by decide) (Nat.le_of_ble_eq_true rfl) (s_MD_lay k0.1 (by have qq0 := esd1.symm; omega)) (fun r h4 hq => ?_)
    obtain ⟨rfl, xk6, k6⟩ := hq
    have k7 := kM_t k0 k6 (pm_s (by decide) (by decide))
    obtain ⟨sd8, esd8⟩ : ∃ x, x = h4.2.1 170 1 := ⟨_, rfl⟩
    have rsd8 : 0 ≤ sd8 ∧ sd8 ≤ 2000 := (by rw [esd8]; exact mi_g k7.1 (by decide) mr_170_1)
    refine A_aload_n 0 d_MD_feed_21 rfl rfl ?_
    refine A_iload_n 2 d_MD_feed_22 rfl rfl ?_
    have zf10 := esd8.symm
    refine A_callV1 m_MD_lay T_ok d_MD_feed_23 l_MD_229 k_MD_lay (mi_s k7.1 sf_170) rfl (by decide +kernel) (by decide) (Nat.le_of_ble_eq_true rfl) (s_MD_lay k7.1 (by have qq0 := esd8.symm; omega)) (fun r h9 hq => ?_)
    obtain ⟨rfl, xk11, k11⟩ := hq
    have k12 := kM_t k7 k11 (pm_s (by decide) (by decide))
    obtain ⟨sd13, esd13⟩ : ∃ x, x = h9.2.1 170 1 := ⟨_, rfl⟩
    have rsd13 : 0 ≤ sd13 ∧ sd13 ≤ 2000 := (by rw [esd13]; exact mi_g k12.1 (by decide) mr_170_1)
    refine A_aload_n 0 d_MD_feed_26 rfl rfl ?_
    refine A_iload_n 3 d_MD_feed_27 rfl rfl ?_
    have zf15 := esd13.symm
    refine A_callV1 m_MD_lay T_ok d_MD_feed_28 l_MD_229 k_MD_lay (mi_s k12.1 sf_170) rfl (by decide +kernel) (by decide) (Nat.le_of_ble_eq_true rfl) (s_MD_lay k12.1 (by have qq0 := esd13.symm; omega)) (fun r h14 hq => ?_)
    obtain ⟨rfl, xk16, k16⟩ := hq
    have k17 := kM_t k12 k16 (pm_s (by decide) (by decide))
    obtain ⟨sd18, esd18⟩ : ∃ x, x = h14.2.1 170 1 := ⟨_, rfl⟩
    have rsd18 : 0 ≤ sd18 ∧ sd18 ≤ 2000 := (by rw [esd18]; exact mi_g k17.1 (by decide) mr_170_1)
    refine A_aload_n 0 d_MD_feed_31 rfl rfl ?_
    refine A_iload d_MD_feed_32 rfl ?_
    have zf20 := esd18.symm
    refine A_callV1 m_MD_lay T_ok d_MD_feed_34 l_MD_229 k_MD_lay (mi_s k17.1 sf_170) rfl (by decide +kernel) (by decide) (Nat.le_of_ble_eq_true rfl) (s_MD_lay k17.1 (by have qq0 := esd18.symm; omega)) (fun r h19 hq => ?_)
    obtain ⟨rfl, xk21, k21⟩ := hq
    have k22 := kM_t k17 k21 (pm_s (by decide) (by decide))
    obtain ⟨sd23, esd23⟩ : ∃ x, x = h19.2.1 170 1 := ⟨_, rfl⟩
    have rsd23 : 0 ≤ sd23 ∧ sd23 ≤ 2000 := (by rw [esd23]; exact mi_g k22.1 (by decide) mr_170_1)
    refine A_aload_n 0 d_MD_feed_37 rfl rfl ?_
    refine A_iload d_MD_feed_38 rfl ?_
    have zf25 := esd23.symm
    refine A_callV1 m_MD_lay T_ok d_MD_feed_40 l_MD_229 k_MD_lay (mi_s k22.1 sf_170) rfl (by decide +kernel) (by decide) (Nat.le_of_ble_eq_true rfl) (s_MD_lay k22.1 (by have qq0 := esd23.symm; omega)) (fun r h24 hq => ?_)
    obtain ⟨rfl, xk26, k26⟩ := hq
    have k27 := kM_t k22 k26 (pm_s (by decide) (by decide))
    obtain ⟨sd28, esd28⟩ : ∃ x, x = h24.2.1 170 1 := ⟨_, rfl⟩
    have rsd28 : 0 ≤ sd28 ∧ sd28 ≤ 2000 := (by rw [esd28]; exact mi_g k27.1 (by decide) mr_170_1)
    refine A_aload_n 0 d_MD_feed_43 rfl rfl ?_
    refine A_getIv (z := sd28) T_ok d_MD_feed_44 f_MD_226 (mi_s k27.1 sf_170) esd28.symm ?_
    exact A_iret d_MD_feed_47 (by decide) rfl ⟨_, rfl, ⟨by omega, by omega⟩, (by have qq0 := esd28.symm; omega), k27⟩
  · refine A_bipush d_MD_feed_13 rfl ?_
    exact A_iret d_MD_feed_15 (by decide) rfl ⟨_, rfl, ⟨by omega, by omega⟩, (by have qq0 := esd1.symm; omega), k0⟩
theorem s_MD_cut {G : cx_T} {h : ah_T} (hx : mi h) {a1 : Int}  : con G 0 0 0 m_MD_cut [av_R (some 170), av_I a1] h (fun r h' => ∃ z, r = some (av_I z) ∧ ((-1) ≤ z ∧ z ≤ 2000) ∧ ((a1 < 0 ∨ h.2.1 170 1 < a1 → z = -1 ∧ h'.2.1 170 1 = h.2.1 170 1) ∧ (0 ≤ a1 → a1 ≤ h.2.1 170 1 → z = h.2.1 170 1 - a1 ∧ h'.2.1 170 1 = h.2.1 170 1 - a1)) ∧ kM (pm [1] []) h h') := by
  refine con_of (L := [some (av_R (some 170)), some (av_I a1)]) (by decide +kernel) (Nat.le_of_ble_eq_true rfl) rfl ?_
  have k0 : kM (pm [1] []) h h := kM_0 hx
  obtain ⟨sd1, esd1⟩ : ∃ x, x = h.2.1 170 1 := ⟨_, rfl⟩
  have rsd1 : 0 ≤ sd1 ∧ sd1 ≤ 2000 := (by rw [esd1]; exact mi_g k0.1 (by decide) mr_170_1)
  refine A_locI 1 rfl (fun ra => ?_)
  obtain ⟨_, _⟩ := ra
  refine A_iload_n 1 d_MD_cut_0 rfl rfl ?_
  refine A_if_lt (tgt := 12) d_MD_cut_1 (by decide) (fun c2 => ?_) (fun c2 => ?_)
  · refine A_iconst d_MD_cut_12 rfl ?_
    exact A_iret d_MD_cut_13 (by decide) rfl ⟨_, rfl, ⟨by omega, by omega⟩, (by have qq0 := esd1.symm; omega), k0⟩
  · refine A_iload_n 1 d_MD_cut_4 rfl rfl ?_
    refine A_aload_n 0 d_MD_cut_5 rfl rfl ?_
    refine A_getIv (z := sd1) T_ok d_MD_cut_6 f_MD_226 (mi_s k0.1 sf_170) esd1.symm ?_
    refine A_icmp_le (tgt := 14) d_MD_cut_9 (by decide) (fun c4 => ?_) (fun c4 => ?_)
    · refine A_aload_n 0 d_MD_cut_14 rfl rfl ?_
      refine A_dupR d_MD_cut_15 ?_
      refine A_getIv (z := sd1) T_ok d_MD_cut_16 f_MD_226 (mi_s k0.1 sf_170) esd1.symm ?_
      refine A_iload_n 1 d_MD_cut_19 rfl rfl ?_
      refine A_isubv (z := (sd1 - a1)) d_MD_cut_20 (w32_to (by omega) (by unfold i32; omega)) ?_
      refine A_pc (pc' := 21) rfl ?_
      refine A_putIk (KR := kM (pm [1] []) h) T_ok d_MD_cut_21 f_MD_226 (mi_s k0.1 sf_170) fin_f (kM_i k0 (by decide) (by decide) mr_170_1 (by omega) (by omega)) (fun h6 k7 eh6 => ?_)
      refine A_aload_n 0 d_MD_cut_24 rfl rfl ?_
      refine A_getIv (z := (sd1 - a1)) T_ok d_MD_cut_25 f_MD_226 (mi_s k7.1 sf_170) eh6.2.1 ?_
      exact A_iret d_MD_cut_28 (by decide) rfl ⟨_, rfl, ⟨by omega, by omega⟩, (by have qq0 := eh6.2.1; omega), k7⟩
    · refine A_iconst d_MD_cut_12 rfl ?_
      exact A_iret d_MD_cut_13 (by decide) rfl ⟨_, rfl, ⟨by omega, by omega⟩, (by have qq0 := esd1.symm; omega), k0⟩
theorem s_MD_wrong {G : cx_T} {h : ah_T} (hx : mi h) {a1 : Int} {a2 : Int} (la1 : 1 ≤ a1) (ua1 : a1 ≤ 7) (la2 : 0 ≤ a2) (ua2 : a2 ≤ 2000) : con G 0 0 0 m_MD_wrong [av_R (some 170), av_I a1, av_I a2] h (fun r h' => ∃ z, r = some (av_I z) ∧ (0 ≤ z ∧ z ≤ 0) ∧ kM (pm [11, 12] []) h h') := by
  refine con_of (L := [some (av_R (some 170)), some (av_I a1), some (av_I a2)]) (by decide +kernel) (Nat.le_of_ble_eq_true rfl) rfl ?_
  have k0 : kM (pm [11, 12] []) h h := kM_0 hx
  refine A_aload_n 0 d_MD_wrong_0 rfl rfl ?_
  refine A_getIn (lo := 0) (hi := 7) T_ok d_MD_wrong_1 f_MD_233 (mi_s k0.1 sf_170) (mi_g k0.1 (by decide) mr_170_11) (fun x1 ex1 _ _ => ?_)
  refine A_if_ne (tgt := 17) d_MD_wrong_4 (by decide) (fun c2 => ?_) (fun c2 => ?_)
  · refine A_iconst d_MD_wrong_17 rfl ?_
    exact A_zret d_MD_wrong_18 (by decide) rfl (by omega) ⟨_, rfl, ⟨by omega, by omega⟩, k0⟩
  · refine A_aload_n 0 d_MD_wrong_7 rfl rfl ?_
    refine A_iload_n 1 d_MD_wrong_8 rfl rfl ?_
    refine A_putIk (KR := kM (pm [11, 12] []) h) T_ok d_MD_wrong_9 f_MD_233 (mi_s k0.1 sf_170) fin_f (kM_i k0 (by decide) (by decide) mr_170_11 (by omega) (by omega)) (fun h3 k4 eh3 => ?_)
    refine A_aload_n 0 d_MD_wrong_12 rfl rfl ?_
    refine A_iload_n 2 d_MD_wrong_13 rfl rfl ?_
    refine A_pc (pc' := 14) rfl ?_
    refine A_putIk (KR := kM (pm [11, 12] []) h) T_ok d_MD_wrong_14 f_MD_236 (mi_s k4.1 sf_170) fin_f (kM_i k4 (by decide) (by decide) mr_170_12 (by omega) (by omega)) (fun h5 k6 eh5 => ?_)
    refine A_iconst d_MD_wrong_17 rfl ?_
    exact A_zret d_MD_wrong_18 (by decide) rfl (by omega) ⟨_, rfl, ⟨by omega, by omega⟩, k6⟩
theorem s_MD_cant {G : cx_T} {h : ah_T} (hx : mi h)   : con G 1 0 0 m_MD_cant [av_R (some 170)] h (fun r h' => ∃ z, r = some (av_I z) ∧ (0 ≤ z ∧ z ≤ 0) ∧ kM (pm [11, 12] []) h h') := by
  refine con_of (L := [some (av_R (some 170))]) (by decide +kernel) (Nat.le_of_ble_eq_true rfl) rfl ?_
  have k0 : kM (pm [11, 12] []) h h := kM_0 hx
  refine A_aload_n 0 d_MD_cant_0 rfl rfl ?_
  refine A_aload_n 0 d_MD_cant_1 rfl rfl ?_
  refine A_getIn (lo := 0) (hi := 6) T_ok d_MD_cant_2 f_MD_239 (mi_s k0.1 sf_170) (mi_g k0.1 (by decide) mr_170_4) (fun x1 ex1 _ _ => ?_)
  refine A_bipush d_MD_cant_5 rfl ?_
  refine A_icmp_ne (tgt := 14) d_MD_cant_7 (by decide) (fun c2 => ?_) (fun c2 => ?_)
  · refine A_iconst d_MD_cant_14 rfl ?_
    refine A_aload_n 0 d_MD_cant_15 rfl rfl ?_
    refine A_getIn (lo := 0) (hi := 2000) T_ok d_MD_cant_16 f_MD_242 (mi_s k0.1 sf_170) (mi_g k0.1 (by decide) mr_170_5) (fun x3 ex3 _ _ => ?_)
    refine A_callV2 m_MD_wrong T_ok d_MD_cant_19 l_MD_245 k_MD_wrong (mi_s k0.1 sf_170) rfl (by decide +kernel) (by decide) (Nat.le_of_ble_eq_true rfl) (s_MD_wrong k0.1 (by omega) (by omega) (by omega) (by omega)) (fun r h4 hq => ?_)
    obtain ⟨x6, rfl, ⟨_, _⟩, k5⟩ := hq
    have k7 := kM_t k0 k5 (pm_s (by decide) (by decide))
    obtain rfl : x6 = 0 := by omega
    exact A_zret d_MD_cant_22 (by decide) rfl (by omega) ⟨_, rfl, ⟨by omega, by omega⟩, k7⟩
  · refine A_iconst d_MD_cant_10 rfl ?_
    refine A_goto (tgt := 15) d_MD_cant_11 (by decide) ?_
    refine A_aload_n 0 d_MD_cant_15 rfl rfl ?_
    refine A_getIn (lo := 0) (hi := 2000) T_ok d_MD_cant_16 f_MD_242 (mi_s k0.1 sf_170) (mi_g k0.1 (by decide) mr_170_5) (fun x8 ex8 _ _ => ?_)
    refine A_callV2 m_MD_wrong T_ok d_MD_cant_19 l_MD_245 k_MD_wrong (mi_s k0.1 sf_170) rfl (by decide +kernel) (by decide) (Nat.le_of_ble_eq_true rfl) (s_MD_wrong k0.1 (by omega) (by omega) (by omega) (by omega)) (fun r h9 hq => ?_)
    obtain ⟨x11, rfl, ⟨_, _⟩, k10⟩ := hq
    have k12 := kM_t k0 k10 (pm_s (by decide) (by decide))
    obtain rfl : x11 = 0 := by omega
    exact A_zret d_MD_cant_22 (by decide) rfl (by omega) ⟨_, rfl, ⟨by omega, by omega⟩, k12⟩
theorem s_MD_at {G : cx_T} {h : ah_T} (hx : mi h) {a1 : Int} (la1 : 0 ≤ a1) (ua1 : a1 ≤ 2001) : con G 0 0 0 m_MD_at [av_R (some 170), av_I a1] h (fun r h' => ∃ z, r = some (av_I z) ∧ (0 ≤ z ∧ z ≤ 255) ∧ ((z ≠ 0 → a1 < h.2.1 170 2) ∧ (a1 < h.2.1 170 2 → z = h.2.1 171 a1.toNat)) ∧ h = h') := by
  refine con_of (L := [some (av_R (some 170)), some (av_I a1)]) (by decide +kernel) (Nat.le_of_ble_eq_true rfl) rfl ?_
  refine A_iload_n 1 d_MD_at_0 rfl rfl ?_
  refine A_aload_n 0 d_MD_at_1 rfl rfl ?_
  refine A_getIn (lo := 0) (hi := 2000) T_ok d_MD_at_2 f_MD_249 (mi_s hx sf_170) (mi_g hx (by decide) mr_170_2) (fun x1 ex1 _ _ => ?_)
  refine A_icmp_ge (tgt := 17) d_MD_at_5 (by decide) (fun c2 => ?_) (fun c2 => ?_)
  · refine A_iconst d_MD_at_17 rfl ?_
    exact A_iret d_MD_at_18 (by decide) rfl ⟨_, rfl, ⟨by omega, by omega⟩, (by have qq0 := ex1.symm; omega), rfl⟩
  · refine A_aload_n 0 d_MD_at_8 rfl rfl ?_
    refine A_getAv (z := some 171) T_ok d_MD_at_9 f_MD_7 (mi_s hx sf_170) (mi_r hx rfm_0) ?_
    refine A_iload_n 1 d_MD_at_12 rfl rfl ?_
    refine A_ialoadn (lo := 0) (hi := 255) d_MD_at_13 (mi_s hx sf_171) (by omega) (by omega) (mi_g hx (by decide) (mr_171 _)) (fun x4 ex4 _ _ => ?_)
    refine A_goto (tgt := 18) d_MD_at_14 (by decide) ?_
    exact A_iret d_MD_at_18 (by decide) rfl ⟨_, rfl, ⟨by omega, by omega⟩, (by have qq0 := ex1.symm; omega), rfl⟩
theorem s_MD_isDigit {G : cx_T} {h : ah_T} (hx : mi h) {a1 : Int}  : con G 0 0 0 m_MD_isDigit [av_R (some 170), av_I a1] h (fun r h' => ∃ z, r = some (av_I z) ∧ (z = 0 ∨ z = 1) ∧ ((z = 1 → 48 ≤ a1 ∧ a1 ≤ 57) ∧ (48 ≤ a1 → a1 ≤ 57 → z = 1)) ∧ h = h') := by
  refine con_of (L := [some (av_R (some 170)), some (av_I a1)]) (by decide +kernel) (Nat.le_of_ble_eq_true rfl) rfl ?_
  refine A_locI 1 rfl (fun ra => ?_)
  obtain ⟨_, _⟩ := ra
  refine A_iload_n 1 d_MD_isDigit_0 rfl rfl ?_
  refine A_bipush d_MD_isDigit_1 rfl ?_
  refine A_icmp_lt (tgt := 16) d_MD_isDigit_3 (by decide) (fun c1 => ?_) (fun c1 => ?_)
  · refine A_iconst d_MD_isDigit_16 rfl ?_
    exact A_zret d_MD_isDigit_17 (by decide) rfl (by omega) ⟨_, rfl, by omega, (by omega), rfl⟩
  · refine A_iload_n 1 d_MD_isDigit_6 rfl rfl ?_
    refine A_bipush d_MD_isDigit_7 rfl ?_
    refine A_icmp_gt (tgt := 16) d_MD_isDigit_9 (by decide) (fun c2 => ?_) (fun c2 => ?_)
    · refine A_iconst d_MD_isDigit_16 rfl ?_
      exact A_zret d_MD_isDigit_17 (by decide) rfl (by omega) ⟨_, rfl, by omega, (by omega), rfl⟩
    · refine A_iconst d_MD_isDigit_12 rfl ?_
      refine A_goto (tgt := 17) d_MD_isDigit_13 (by decide) ?_
      exact A_zret d_MD_isDigit_17 (by decide) rfl (by omega) ⟨_, rfl, by omega, (by omega), rfl⟩
theorem s_MD_isSmall {G : cx_T} {h : ah_T} (hx : mi h) {a1 : Int}  : con G 0 0 0 m_MD_isSmall [av_R (some 170), av_I a1] h (fun r h' => ∃ z, r = some (av_I z) ∧ (z = 0 ∨ z = 1) ∧ ((z = 1 → 97 ≤ a1 ∧ a1 ≤ 122) ∧ (97 ≤ a1 → a1 ≤ 122 → z = 1)) ∧ h = h') := by
  refine con_of (L := [some (av_R (some 170)), some (av_I a1)]) (by decide +kernel) (Nat.le_of_ble_eq_true rfl) rfl ?_
  refine A_locI 1 rfl (fun ra => ?_)
  obtain ⟨_, _⟩ := ra
  refine A_iload_n 1 d_MD_isSmall_0 rfl rfl ?_
  refine A_bipush d_MD_isSmall_1 rfl ?_
  refine A_icmp_lt (tgt := 16) d_MD_isSmall_3 (by decide) (fun c1 => ?_) (fun c1 => ?_)
  · refine A_iconst d_MD_isSmall_16 rfl ?_
    exact A_zret d_MD_isSmall_17 (by decide) rfl (by omega) ⟨_, rfl, by omega, (by omega), rfl⟩
  · refine A_iload_n 1 d_MD_isSmall_6 rfl rfl ?_
    refine A_bipush d_MD_isSmall_7 rfl ?_
    refine A_icmp_gt (tgt := 16) d_MD_isSmall_9 (by decide) (fun c2 => ?_) (fun c2 => ?_)
    · refine A_iconst d_MD_isSmall_16 rfl ?_
      exact A_zret d_MD_isSmall_17 (by decide) rfl (by omega) ⟨_, rfl, by omega, (by omega), rfl⟩
    · refine A_iconst d_MD_isSmall_12 rfl ?_
      refine A_goto (tgt := 17) d_MD_isSmall_13 (by decide) ?_
      exact A_zret d_MD_isSmall_17 (by decide) rfl (by omega) ⟨_, rfl, by omega, (by omega), rfl⟩
theorem s_MD_whites {G : cx_T} {h : ah_T} (hx : mi h) {a1 : Int}  : con G 0 0 0 m_MD_whites [av_R (some 170), av_I a1] h (fun r h' => ∃ z, r = some (av_I z) ∧ (0 ≤ z ∧ z ≤ 11) ∧ h = h') := by
  refine con_of (L := [some (av_R (some 170)), some (av_I a1), none]) (by decide +kernel) (Nat.le_of_ble_eq_true rfl) rfl ?_
  refine A_locI 1 rfl (fun ra => ?_)
  obtain ⟨_, _⟩ := ra
  refine A_iload_n 1 d_MD_whites_0 rfl rfl ?_
  refine A_bipush d_MD_whites_1 rfl ?_
  refine A_isubw d_MD_whites_3 (fun x1 _ _ _ => ?_)
  refine A_istore_n 2 (L' := [some (av_R (some 170)), some (av_I a1), some (av_I x1)]) d_MD_whites_4 rfl (Nat.le_of_ble_eq_true rfl) rfl ?_
  refine A_iload_n 2 d_MD_whites_5 rfl rfl ?_
  refine A_pc (pc' := 6) rfl ?_
  refine A_if_ne (tgt := 14) d_MD_whites_6 (by decide) (fun c2 => ?_) (fun c2 => ?_)
  · refine A_iload_n 2 d_MD_whites_14 rfl rfl ?_
    refine A_iconst d_MD_whites_15 rfl ?_
    refine A_icmp_ne (tgt := 24) d_MD_whites_16 (by decide) (fun c3 => ?_) (fun c3 => ?_)
    · refine A_iload_n 2 d_MD_whites_24 rfl rfl ?_
      refine A_iconst d_MD_whites_25 rfl ?_
      refine A_icmp_ne (tgt := 33) d_MD_whites_26 (by decide) (fun c4 => ?_) (fun c4 => ?_)
      · refine A_iload_n 2 d_MD_whites_33 rfl rfl ?_
        refine A_iconst d_MD_whites_34 rfl ?_
        refine A_icmp_ne (tgt := 42) d_MD_whites_35 (by decide) (fun c5 => ?_) (fun c5 => ?_)
        · refine A_iload_n 2 d_MD_whites_42 rfl rfl ?_
          refine A_iconst d_MD_whites_43 rfl ?_
          refine A_icmp_ne (tgt := 51) d_MD_whites_44 (by decide) (fun c6 => ?_) (fun c6 => ?_)
          · refine A_iload_n 2 d_MD_whites_51 rfl rfl ?_
            refine A_iconst d_MD_whites_52 rfl ?_
            refine A_icmp_ne (tgt := 60) d_MD_whites_53 (by decide) (fun c7 => ?_) (fun c7 => ?_)
            · refine A_bipush d_MD_whites_60 rfl ?_
              exact A_iret d_MD_whites_62 (by decide) rfl ⟨_, rfl, ⟨by omega, by omega⟩, rfl⟩
            · refine A_iconst d_MD_whites_56 rfl ?_
              refine A_goto (tgt := 62) d_MD_whites_57 (by decide) ?_
              exact A_iret d_MD_whites_62 (by decide) rfl ⟨_, rfl, ⟨by omega, by omega⟩, rfl⟩
          · refine A_iconst d_MD_whites_47 rfl ?_
            refine A_goto (tgt := 62) d_MD_whites_48 (by decide) ?_
            exact A_iret d_MD_whites_62 (by decide) rfl ⟨_, rfl, ⟨by omega, by omega⟩, rfl⟩
        · refine A_iconst d_MD_whites_38 rfl ?_
          refine A_goto (tgt := 62) d_MD_whites_39 (by decide) ?_
          exact A_iret d_MD_whites_62 (by decide) rfl ⟨_, rfl, ⟨by omega, by omega⟩, rfl⟩
      · refine A_iconst d_MD_whites_29 rfl ?_
        refine A_goto (tgt := 62) d_MD_whites_30 (by decide) ?_
        exact A_iret d_MD_whites_62 (by decide) rfl ⟨_, rfl, ⟨by omega, by omega⟩, rfl⟩
    · refine A_bipush d_MD_whites_19 rfl ?_
      refine A_goto (tgt := 62) d_MD_whites_21 (by decide) ?_
      exact A_iret d_MD_whites_62 (by decide) rfl ⟨_, rfl, ⟨by omega, by omega⟩, rfl⟩
  · refine A_bipush d_MD_whites_9 rfl ?_
    refine A_goto (tgt := 62) d_MD_whites_11 (by decide) ?_
    exact A_iret d_MD_whites_62 (by decide) rfl ⟨_, rfl, ⟨by omega, by omega⟩, rfl⟩
theorem s_MD_pitch {G : cx_T} {h : ah_T} (hx : mi h) {a1 : Int} (la1 : 65 ≤ a1) (ua1 : a1 ≤ 71) (hse : h.2.1 170 3 < h.2.1 170 2) : con G 1 0 0 m_MD_pitch [av_R (some 170), av_I a1] h (fun r h' => r = none ∧ (h.2.1 170 3 ≤ h'.2.1 170 3 ∧ h'.2.1 170 3 ≤ h.2.1 170 2 ∧ (h'.2.1 170 4 ≠ 0 → h'.2.1 170 4 ≠ 6 → h.2.1 170 3 < h'.2.1 170 3) ∧ (h'.2.1 170 4 = 0 → h'.2.1 170 3 = h.2.1 170 2)) ∧ kM (pm [3, 4, 8, 9, 10] []) h h') := by
  refine con_of (L := [some (av_R (some 170)), some (av_I a1), none, none, none]) (by decide +kernel) (Nat.le_of_ble_eq_true rfl) rfl ?_
  have k0 : kM (pm [3, 4, 8, 9, 10] []) h h := kM_0 hx
  obtain ⟨sd1, esd1⟩ : ∃ x, x = h.2.1 170 3 := ⟨_, rfl⟩
  have rsd1 : 0 ≤ sd1 ∧ sd1 ≤ 2000 := (by rw [esd1]; exact mi_g k0.1 (by decide) mr_170_3)
  obtain ⟨sd2, esd2⟩ : ∃ x, x = h.2.1 170 2 := ⟨_, rfl⟩
  have rsd2 : 0 ≤ sd2 ∧ sd2 ≤ 2000 := (by rw [esd2]; exact mi_g k0.1 (by decide) mr_170_2)
  refine A_aload_n 0 d_MD_pitch_0 rfl rfl ?_
  refine A_getIv (z := sd1) T_ok d_MD_pitch_1 f_MD_252 (mi_s k0.1 sf_170) esd1.symm ?_
  refine A_iconst d_MD_pitch_4 rfl ?_
  refine A_iaddv (z := (sd1 + 1)) d_MD_pitch_5 (w32_to (by omega) (by unfold i32; omega)) ?_
  refine A_istore_n 2 (L' := [some (av_R (some 170)), some (av_I a1), some (av_I (sd1 + 1)), none, none]) d_MD_pitch_6 rfl (Nat.le_of_ble_eq_true rfl) rfl ?_
  refine A_pc (pc' := 7) rfl ?_
  refine A_iconst d_MD_pitch_7 rfl ?_
  refine A_istore_n 3 (L' := [some (av_R (some 170)), some (av_I a1), some (av_I (sd1 + 1)), some (av_I 0), none]) d_MD_pitch_8 rfl (Nat.le_of_ble_eq_true rfl) rfl ?_
  refine A_aload_n 0 d_MD_pitch_9 rfl rfl ?_
  refine A_iload_n 2 d_MD_pitch_10 rfl rfl ?_
  refine A_callV1 m_MD_at T_ok d_MD_pitch_11 l_MD_274 k_MD_at (mi_s k0.1 sf_170) rfl (by decide +kernel) (by decide) (Nat.le_of_ble_eq_true rfl) (s_MD_at k0.1 (by omega) (by omega)) (fun r h4 hq => ?_)
  obtain ⟨x6, rfl, ⟨_, _⟩, xx6, rfl⟩ := hq
  refine A_bipush d_MD_pitch_14 rfl ?_
  have jp29 : aw G (rm_R 1 0 0) m_MD_pitch 0 0 29 [some (av_R (some 170)), some (av_I a1), some (av_I (sd1 + 1)), some (av_I 0), none] [] h (fun r h' => r = none ∧ (h.2.1 170 3 ≤ h'.2.1 170 3 ∧ h'.2.1 170 3 ≤ h.2.1 170 2 ∧ (h'.2.1 170 4 ≠ 0 → h'.2.1 170 4 ≠ 6 → h.2.1 170 3 < h'.2.1 170 3) ∧ (h'.2.1 170 4 = 0 → h'.2.1 170 3 = h.2.1 170 2)) ∧ kM (pm [3, 4, 8, 9, 10] []) h h') := by
    refine A_aload_n 0 d_MD_pitch_29 rfl rfl ?_
    refine A_iload_n 2 d_MD_pitch_30 rfl rfl ?_
    refine A_callV1 m_MD_at T_ok d_MD_pitch_31 l_MD_274 k_MD_at (mi_s k0.1 sf_170) rfl (by decide +kernel) (by decide) (Nat.le_of_ble_eq_true rfl) (s_MD_at k0.1 (by omega) (by omega)) (fun r h7 hq => ?_)
    obtain ⟨x9, rfl, ⟨_, _⟩, xx9, rfl⟩ := hq
    refine A_istore (L' := [some (av_R (some 170)), some (av_I a1), some (av_I (sd1 + 1)), some (av_I 0), some (av_I x9)]) d_MD_pitch_34 (Nat.le_of_ble_eq_true rfl) rfl ?_
    refine A_iincv (z := (sd1 + 2)) (L' := [some (av_R (some 170)), some (av_I a1), some (av_I (sd1 + 2)), some (av_I 0), some (av_I x9)]) d_MD_pitch_36 rfl (w32_to (by omega) (by unfold i32; omega)) rfl ?_
    refine A_iconst d_MD_pitch_39 rfl ?_
    refine A_istore_n 3 (L' := [some (av_R (some 170)), some (av_I a1), some (av_I (sd1 + 2)), some (av_I 1), some (av_I x9)]) d_MD_pitch_40 rfl (Nat.le_of_ble_eq_true rfl) rfl ?_
    refine A_aload_n 0 d_MD_pitch_41 rfl rfl ?_
    refine A_pc (pc' := 42) rfl ?_
    refine A_iload_n 2 d_MD_pitch_42 rfl rfl ?_
    refine A_callV1 m_MD_at T_ok d_MD_pitch_43 l_MD_274 k_MD_at (mi_s k0.1 sf_170) rfl (by decide +kernel) (by decide) (Nat.le_of_ble_eq_true rfl) (s_MD_at k0.1 (by omega) (by omega)) (fun r h10 hq => ?_)
    obtain ⟨x12, rfl, ⟨_, _⟩, xx12, rfl⟩ := hq
    refine A_iload d_MD_pitch_46 rfl ?_
    have jp56 : ∀ (j13 j14 : Int) , 2 ≤ j13 → j13 ≤ 2003 → 1 ≤ j14 → j14 ≤ 2 → aw G (rm_R 1 0 0) m_MD_pitch 0 0 56 [some (av_R (some 170)), some (av_I a1), some (av_I j13), some (av_I j14), some (av_I x9)] [] h (fun r h' => r = none ∧ (h.2.1 170 3 ≤ h'.2.1 170 3 ∧ h'.2.1 170 3 ≤ h.2.1 170 2 ∧ (h'.2.1 170 4 ≠ 0 → h'.2.1 170 4 ≠ 6 → h.2.1 170 3 < h'.2.1 170 3) ∧ (h'.2.1 170 4 = 0 → h'.2.1 170 3 = h.2.1 170 2)) ∧ kM (pm [3, 4, 8, 9, 10] []) h h') := by
      intro j13 j14  _ _ _ _ 
      refine A_aload_n 0 d_MD_pitch_56 rfl rfl ?_
      refine A_iload_n 3 d_MD_pitch_57 rfl rfl ?_
      refine A_putIk (KR := kM (pm [3, 4, 8, 9, 10] []) h) T_ok d_MD_pitch_58 f_MD_278 (mi_s k0.1 sf_170) fin_f (kM_i k0 (by decide) (by decide) mr_170_10 (by omega) (by omega)) (fun h15 k16 eh15 => ?_)
      refine A_iload d_MD_pitch_61 rfl ?_
      refine A_bipush d_MD_pitch_63 rfl ?_
      have jp74 : ∀ (j17 : Int) , (-2) ≤ j17 → j17 ≤ 2 → aw G (rm_R 1 0 0) m_MD_pitch 0 0 74 [some (av_R (some 170)), some (av_I a1), some (av_I j13), some (av_I j14), some (av_I x9)] [av_I j17] h15 (fun r h' => r = none ∧ (h.2.1 170 3 ≤ h'.2.1 170 3 ∧ h'.2.1 170 3 ≤ h.2.1 170 2 ∧ (h'.2.1 170 4 ≠ 0 → h'.2.1 170 4 ≠ 6 → h.2.1 170 3 < h'.2.1 170 3) ∧ (h'.2.1 170 4 = 0 → h'.2.1 170 3 = h.2.1 170 2)) ∧ kM (pm [3, 4, 8, 9, 10] []) h h') := by
        intro j17  _ _ 
        refine A_istore_n 3 (L' := [some (av_R (some 170)), some (av_I a1), some (av_I j13), some (av_I j17), some (av_I x9)]) d_MD_pitch_74 rfl (Nat.le_of_ble_eq_true rfl) rfl ?_
        refine A_goto (tgt := 83) d_MD_pitch_75 (by decide) ?_
        refine A_aload_n 0 d_MD_pitch_83 rfl rfl ?_
        refine A_iload_n 2 d_MD_pitch_84 rfl rfl ?_
        refine A_callV1 m_MD_at T_ok d_MD_pitch_85 l_MD_274 k_MD_at (mi_s k16.1 sf_170) rfl (by decide +kernel) (by decide) (Nat.le_of_ble_eq_true rfl) (s_MD_at k16.1 (by omega) (by omega)) (fun r h18 hq => ?_)
        obtain ⟨x20, rfl, ⟨_, _⟩, xx20, rfl⟩ := hq
        refine A_istore (L' := [some (av_R (some 170)), some (av_I a1), some (av_I j13), some (av_I j17), some (av_I x20)]) d_MD_pitch_88 (Nat.le_of_ble_eq_true rfl) rfl ?_
        refine A_iload d_MD_pitch_90 rfl ?_
        refine A_bipush d_MD_pitch_92 rfl ?_
        have jp104 : aw G (rm_R 1 0 0) m_MD_pitch 0 0 104 [some (av_R (some 170)), some (av_I a1), some (av_I j13), some (av_I j17), some (av_I x20)] [] h15 (fun r h' => r = none ∧ (h.2.1 170 3 ≤ h'.2.1 170 3 ∧ h'.2.1 170 3 ≤ h.2.1 170 2 ∧ (h'.2.1 170 4 ≠ 0 → h'.2.1 170 4 ≠ 6 → h.2.1 170 3 < h'.2.1 170 3) ∧ (h'.2.1 170 4 = 0 → h'.2.1 170 3 = h.2.1 170 2)) ∧ kM (pm [3, 4, 8, 9, 10] []) h h') := by
          refine A_aload_n 0 d_MD_pitch_104 rfl rfl ?_
          refine A_bipush d_MD_pitch_105 rfl ?_
          refine A_putIk (KR := kM (pm [3, 4, 8, 9, 10] []) h) T_ok d_MD_pitch_107 f_MD_239 (mi_s k16.1 sf_170) fin_f (kM_i k16 (by decide) (by decide) mr_170_4 (by omega) (by omega)) (fun h21 k22 eh21 => ?_)
          exact A_vret d_MD_pitch_110 (by decide) rfl ⟨rfl, (by have qq0 := ((eh21.1 _ _ (fun _ => by decide)).trans ((eh15.1 _ _ (fun _ => by decide)).trans esd1.symm)); have qq1 := ((eh21.1 _ _ (fun _ => by decide)).trans ((eh15.1 _ _ (fun _ => by decide)).trans esd2.symm)); have qq2 := eh21.2.1; exact ⟨by omega, by omega, by omega, by omega⟩), k22⟩
        refine A_icmp_lt (tgt := 104) d_MD_pitch_94 (by decide) (fun c23 => ?_) (fun c23 => ?_)
        · refine A_pc (pc' := 104) rfl ?_
          exact jp104 
        · refine A_iload d_MD_pitch_97 rfl ?_
          refine A_bipush d_MD_pitch_99 rfl ?_
          refine A_icmp_le (tgt := 111) d_MD_pitch_101 (by decide) (fun c24 => ?_) (fun c24 => ?_)
          · refine A_aload_n 0 d_MD_pitch_111 rfl rfl ?_
            refine A_iconst d_MD_pitch_112 rfl ?_
            refine A_putIk (KR := kM (pm [3, 4, 8, 9, 10] []) h) T_ok d_MD_pitch_113 f_MD_239 (mi_s k16.1 sf_170) fin_f (kM_i k16 (by decide) (by decide) mr_170_4 (by omega) (by omega)) (fun h25 k26 eh25 => ?_)
            refine A_aload_n 0 d_MD_pitch_116 rfl rfl ?_
            refine A_bipush d_MD_pitch_117 rfl ?_
            refine A_pc (pc' := 119) rfl ?_
            refine A_iload d_MD_pitch_119 rfl ?_
            refine A_bipush d_MD_pitch_121 rfl ?_
            refine A_isubv (z := (x20 - 48)) d_MD_pitch_123 (w32_to (by omega) (by unfold i32; omega)) ?_
            refine A_imulv (z := (12 * x20 - 576)) d_MD_pitch_124 (w32_to (by omega) (by unfold i32; omega)) ?_
            refine A_aload_n 0 d_MD_pitch_125 rfl rfl ?_
            refine A_iload_n 1 d_MD_pitch_126 rfl rfl ?_
            refine A_pc (pc' := 127) rfl ?_
            refine A_callV1 m_MD_whites T_ok d_MD_pitch_127 l_MD_281 k_MD_whites (mi_s k26.1 sf_170) rfl (by decide +kernel) (by decide) (Nat.le_of_ble_eq_true rfl) (s_MD_whites k26.1 ) (fun r h27 hq => ?_)
            obtain ⟨x29, rfl, ⟨_, _⟩, rfl⟩ := hq
            refine A_iaddv (z := (12 * x20 + x29 - 576)) d_MD_pitch_130 (w32_to (by omega) (by unfold i32; omega)) ?_
            refine A_iload_n 3 d_MD_pitch_131 rfl rfl ?_
            refine A_iaddv (z := (12 * x20 + x29 + j17 - 576)) d_MD_pitch_132 (w32_to (by omega) (by unfold i32; omega)) ?_
            refine A_putIk (KR := kM (pm [3, 4, 8, 9, 10] []) h) T_ok d_MD_pitch_133 f_MD_284 (mi_s k26.1 sf_170) fin_f (kM_i k26 (by decide) (by decide) mr_170_8 (by omega) (by omega)) (fun h30 k31 eh30 => ?_)
            refine A_aload_n 0 d_MD_pitch_136 rfl rfl ?_
            refine A_pc (pc' := 137) rfl ?_
            refine A_bipush d_MD_pitch_137 rfl ?_
            refine A_iload d_MD_pitch_139 rfl ?_
            refine A_bipush d_MD_pitch_141 rfl ?_
            refine A_isubv (z := (x20 - 48)) d_MD_pitch_143 (w32_to (by omega) (by unfold i32; omega)) ?_
            refine A_imulv (z := (7 * x20 - 336)) d_MD_pitch_144 (w32_to (by omega) (by unfold i32; omega)) ?_
            refine A_iload_n 1 d_MD_pitch_145 rfl rfl ?_
            refine A_pc (pc' := 146) rfl ?_
            refine A_bipush d_MD_pitch_146 rfl ?_
            have jp164 : ∀ (j32 : Int) , 0 ≤ j32 → j32 ≤ 6 → aw G (rm_R 1 0 0) m_MD_pitch 0 0 164 [some (av_R (some 170)), some (av_I a1), some (av_I j13), some (av_I j17), some (av_I x20)] [av_I j32, av_I (7 * x20 - 336), av_R (some 170)] h30 (fun r h' => r = none ∧ (h.2.1 170 3 ≤ h'.2.1 170 3 ∧ h'.2.1 170 3 ≤ h.2.1 170 2 ∧ (h'.2.1 170 4 ≠ 0 → h'.2.1 170 4 ≠ 6 → h.2.1 170 3 < h'.2.1 170 3) ∧ (h'.2.1 170 4 = 0 → h'.2.1 170 3 = h.2.1 170 2)) ∧ kM (pm [3, 4, 8, 9, 10] []) h h') := by
              intro j32  _ _ 
              refine A_iaddv (z := (7 * x20 + j32 - 336)) d_MD_pitch_164 (w32_to (by omega) (by unfold i32; omega)) ?_
              refine A_putIk (KR := kM (pm [3, 4, 8, 9, 10] []) h) T_ok d_MD_pitch_165 f_MD_287 (mi_s k31.1 sf_170) fin_f (kM_i k31 (by decide) (by decide) mr_170_9 (by omega) (by omega)) (fun h33 k34 eh33 => ?_)
              refine A_aload_n 0 d_MD_pitch_168 rfl rfl ?_
              refine A_iload_n 2 d_MD_pitch_169 rfl rfl ?_
              refine A_iconst d_MD_pitch_170 rfl ?_
              refine A_pc (pc' := 171) rfl ?_
              refine A_iaddv (z := (j13 + 1)) d_MD_pitch_171 (w32_to (by omega) (by unfold i32; omega)) ?_
              refine A_putIk (KR := kM (pm [3, 4, 8, 9, 10] []) h) T_ok d_MD_pitch_172 f_MD_252 (mi_s k34.1 sf_170) fin_f (kM_i k34 (by decide) (by decide) mr_170_3 (by omega) (by omega)) (fun h35 k36 eh35 => ?_)
              exact A_vret d_MD_pitch_175 (by decide) rfl ⟨rfl, (by have qq0 := eh35.2.1; have qq1 := ((eh35.1 _ _ (fun _ => by decide)).trans ((eh33.1 _ _ (fun _ => by decide)).trans ((eh30.1 _ _ (fun _ => by decide)).trans ((eh25.1 _ _ (fun _ => by decide)).trans ((eh15.1 _ _ (fun _ => by decide)).trans esd2.symm))))); have qq2 := ((eh35.1 _ _ (fun _ => by decide)).trans ((eh33.1 _ _ (fun _ => by decide)).trans ((eh30.1 _ _ (fun _ => by decide)).trans eh25.2.1))); exact ⟨by omega, by omega, by omega, by omega⟩), k36⟩
            refine A_icmp_lt (tgt := 158) d_MD_pitch_148 (by decide) (fun c37 => ?_) (fun c37 => ?_)
            · refine A_iload_n 1 d_MD_pitch_158 rfl rfl ?_
              refine A_bipush d_MD_pitch_159 rfl ?_
              refine A_isubv (z := (a1 - 65)) d_MD_pitch_161 (w32_to (by omega) (by unfold i32; omega)) ?_
              refine A_iconst d_MD_pitch_162 rfl ?_
              refine A_iaddv (z := (a1 - 60)) d_MD_pitch_163 (w32_to (by omega) (by unfold i32; omega)) ?_
              refine A_pc (pc' := 164) rfl ?_
              exact jp164 (a1 - 60) (by omega) (by omega)
            · refine A_iload_n 1 d_MD_pitch_151 rfl rfl ?_
              refine A_bipush d_MD_pitch_152 rfl ?_
              refine A_isubv (z := (a1 - 67)) d_MD_pitch_154 (w32_to (by omega) (by unfold i32; omega)) ?_
              refine A_goto (tgt := 164) d_MD_pitch_155 (by decide) ?_
              refine A_pc (pc' := 164) rfl ?_
              exact jp164 (a1 - 67) (by omega) (by omega)
          · refine A_pc (pc' := 104) rfl ?_
            exact jp104 
      refine A_icmp_ne (tgt := 72) d_MD_pitch_65 (by decide) (fun c38 => ?_) (fun c38 => ?_)
      · refine A_iload_n 3 d_MD_pitch_72 rfl rfl ?_
        refine A_inegv (z := (-j14)) d_MD_pitch_73 (w32_to (by omega) (by unfold i32; omega)) ?_
        refine A_pc (pc' := 74) rfl ?_
        exact jp74 (-j14) (by omega) (by omega)
      · refine A_iload_n 3 d_MD_pitch_68 rfl rfl ?_
        refine A_goto (tgt := 74) d_MD_pitch_69 (by decide) ?_
        refine A_pc (pc' := 74) rfl ?_
        exact jp74 j14 (by omega) (by omega)
    refine A_icmp_ne (tgt := 56) d_MD_pitch_48 (by decide) (fun c39 => ?_) (fun c39 => ?_)
    · refine A_pc (pc' := 56) rfl ?_
      exact jp56 (sd1 + 2) 1 (by omega) (by omega) (by omega) (by omega)
    · refine A_iincv (z := (sd1 + 3)) (L' := [some (av_R (some 170)), some (av_I a1), some (av_I (sd1 + 3)), some (av_I 1), some (av_I x9)]) d_MD_pitch_51 rfl (w32_to (by omega) (by unfold i32; omega)) rfl ?_
      refine A_iconst d_MD_pitch_54 rfl ?_
      refine A_istore_n 3 (L' := [some (av_R (some 170)), some (av_I a1), some (av_I (sd1 + 3)), some (av_I 2), some (av_I x9)]) d_MD_pitch_55 rfl (Nat.le_of_ble_eq_true rfl) rfl ?_
      refine A_pc (pc' := 56) rfl ?_
      exact jp56 (sd1 + 3) 2 (by omega) (by omega) (by omega) (by omega)
  have jp83 : ∀ (j40 j41 : Int) (h42 : ah_T) , 1 ≤ j40 → j40 ≤ 2003 → (-2) ≤ j41 → j41 ≤ 2 → kM (pm [3, 4, 8, 9, 10] []) h h42 → aw G (rm_R 1 0 0) m_MD_pitch 0 0 83 [some (av_R (some 170)), some (av_I a1), some (av_I j40), some (av_I j41), none] [] h42 (fun r h' => r = none ∧ (h.2.1 170 3 ≤ h'.2.1 170 3 ∧ h'.2.1 170 3 ≤ h.2.1 170 2 ∧ (h'.2.1 170 4 ≠ 0 → h'.2.1 170 4 ≠ 6 → h.2.1 170 3 < h'.2.1 170 3) ∧ (h'.2.1 170 4 = 0 → h'.2.1 170 3 = h.2.1 170 2)) ∧ kM (pm [3, 4, 8, 9, 10] []) h h') := by
    intro j40 j41 h42 _ _ _ _ k43
    refine A_aload_n 0 d_MD_pitch_83 rfl rfl ?_
    refine A_iload_n 2 d_MD_pitch_84 rfl rfl ?_
    refine A_callV1 m_MD_at T_ok d_MD_pitch_85 l_MD_274 k_MD_at (mi_s k43.1 sf_170) rfl (by decide +kernel) (by decide) (Nat.le_of_ble_eq_true rfl) (s_MD_at k43.1 (by omega) (by omega)) (fun r h44 hq => ?_)
    obtain ⟨x46, rfl, ⟨_, _⟩, xx46, rfl⟩ := hq
    refine A_istore (L' := [some (av_R (some 170)), some (av_I a1), some (av_I j40), some (av_I j41), some (av_I x46)]) d_MD_pitch_88 (Nat.le_of_ble_eq_true rfl) rfl ?_
    refine A_iload d_MD_pitch_90 rfl ?_
    refine A_bipush d_MD_pitch_92 rfl ?_
    have jp104 : aw G (rm_R 1 0 0) m_MD_pitch 0 0 104 [some (av_R (some 170)), some (av_I a1), some (av_I j40), some (av_I j41), some (av_I x46)] [] h42 (fun r h' => r = none ∧ (h.2.1 170 3 ≤ h'.2.1 170 3 ∧ h'.2.1 170 3 ≤ h.2.1 170 2 ∧ (h'.2.1 170 4 ≠ 0 → h'.2.1 170 4 ≠ 6 → h.2.1 170 3 < h'.2.1 170 3) ∧ (h'.2.1 170 4 = 0 → h'.2.1 170 3 = h.2.1 170 2)) ∧ kM (pm [3, 4, 8, 9, 10] []) h h') := by
      refine A_aload_n 0 d_MD_pitch_104 rfl rfl ?_
      refine A_bipush d_MD_pitch_105 rfl ?_
      refine A_putIk (KR := kM (pm [3, 4, 8, 9, 10] []) h) T_ok d_MD_pitch_107 f_MD_239 (mi_s k43.1 sf_170) fin_f (kM_i k43 (by decide) (by decide) mr_170_4 (by omega) (by omega)) (fun h47 k48 eh47 => ?_)
      exact A_vret d_MD_pitch_110 (by decide) rfl ⟨rfl, (by have qq2 := eh47.2.1; exact ⟨by omega, by omega, by omega, by omega⟩), k48⟩
    refine A_icmp_lt (tgt := 104) d_MD_pitch_94 (by decide) (fun c49 => ?_) (fun c49 => ?_)
    · refine A_pc (pc' := 104) rfl ?_
      exact jp104 
    · refine A_iload d_MD_pitch_97 rfl ?_
      refine A_bipush d_MD_pitch_99 rfl ?_
      refine A_icmp_le (tgt := 111) d_MD_pitch_101 (by decide) (fun c50 => ?_) (fun c50 => ?_)
      · refine A_aload_n 0 d_MD_pitch_111 rfl rfl ?_
        refine A_iconst d_MD_pitch_112 rfl ?_
        refine A_putIk (KR := kM (pm [3, 4, 8, 9, 10] []) h) T_ok d_MD_pitch_113 f_MD_239 (mi_s k43.1 sf_170) fin_f (kM_i k43 (by decide) (by decide) mr_170_4 (by omega) (by omega)) (fun h51 k52 eh51 => ?_)
        refine A_aload_n 0 d_MD_pitch_116 rfl rfl ?_
        refine A_bipush d_MD_pitch_117 rfl ?_
        refine A_pc (pc' := 119) rfl ?_
        refine A_iload d_MD_pitch_119 rfl ?_
        refine A_bipush d_MD_pitch_121 rfl ?_
        refine A_isubv (z := (x46 - 48)) d_MD_pitch_123 (w32_to (by omega) (by unfold i32; omega)) ?_
        refine A_imulv (z := (12 * x46 - 576)) d_MD_pitch_124 (w32_to (by omega) (by unfold i32; omega)) ?_
        refine A_aload_n 0 d_MD_pitch_125 rfl rfl ?_
        refine A_iload_n 1 d_MD_pitch_126 rfl rfl ?_
        refine A_pc (pc' := 127) rfl ?_
        refine A_callV1 m_MD_whites T_ok d_MD_pitch_127 l_MD_281 k_MD_whites (mi_s k52.1 sf_170) rfl (by decide +kernel) (by decide) (Nat.le_of_ble_eq_true rfl) (s_MD_whites k52.1 ) (fun r h53 hq => ?_)
        obtain ⟨x55, rfl, ⟨_, _⟩, rfl⟩ := hq
        refine A_iaddv (z := (12 * x46 + x55 - 576)) d_MD_pitch_130 (w32_to (by omega) (by unfold i32; omega)) ?_
        refine A_iload_n 3 d_MD_pitch_131 rfl rfl ?_
        refine A_iaddv (z := (12 * x46 + x55 + j41 - 576)) d_MD_pitch_132 (w32_to (by omega) (by unfold i32; omega)) ?_
        refine A_putIk (KR := kM (pm [3, 4, 8, 9, 10] []) h) T_ok d_MD_pitch_133 f_MD_284 (mi_s k52.1 sf_170) fin_f (kM_i k52 (by decide) (by decide) mr_170_8 (by omega) (by omega)) (fun h56 k57 eh56 => ?_)
        refine A_aload_n 0 d_MD_pitch_136 rfl rfl ?_
        refine A_pc (pc' := 137) rfl ?_
        refine A_bipush d_MD_pitch_137 rfl ?_
        refine A_iload d_MD_pitch_139 rfl ?_
        refine A_bipush d_MD_pitch_141 rfl ?_
        refine A_isubv (z := (x46 - 48)) d_MD_pitch_143 (w32_to (by omega) (by unfold i32; omega)) ?_
        refine A_imulv (z := (7 * x46 - 336)) d_MD_pitch_144 (w32_to (by omega) (by unfold i32; omega)) ?_
        refine A_iload_n 1 d_MD_pitch_145 rfl rfl ?_
        refine A_pc (pc' := 146) rfl ?_
        refine A_bipush d_MD_pitch_146 rfl ?_
        have jp164 : ∀ (j58 : Int) , 0 ≤ j58 → j58 ≤ 6 → aw G (rm_R 1 0 0) m_MD_pitch 0 0 164 [some (av_R (some 170)), some (av_I a1), some (av_I j40), some (av_I j41), some (av_I x46)] [av_I j58, av_I (7 * x46 - 336), av_R (some 170)] h56 (fun r h' => r = none ∧ (h.2.1 170 3 ≤ h'.2.1 170 3 ∧ h'.2.1 170 3 ≤ h.2.1 170 2 ∧ (h'.2.1 170 4 ≠ 0 → h'.2.1 170 4 ≠ 6 → h.2.1 170 3 < h'.2.1 170 3) ∧ (h'.2.1 170 4 = 0 → h'.2.1 170 3 = h.2.1 170 2)) ∧ kM (pm [3, 4, 8, 9, 10] []) h h') := by
          intro j58  _ _ 
          refine A_iaddv (z := (7 * x46 + j58 - 336)) d_MD_pitch_164 (w32_to (by omega) (by unfold i32; omega)) ?_
          refine A_putIk (KR := kM (pm [3, 4, 8, 9, 10] []) h) T_ok d_MD_pitch_165 f_MD_287 (mi_s k57.1 sf_170) fin_f (kM_i k57 (by decide) (by decide) mr_170_9 (by omega) (by omega)) (fun h59 k60 eh59 => ?_)
          refine A_aload_n 0 d_MD_pitch_168 rfl rfl ?_
          refine A_iload_n 2 d_MD_pitch_169 rfl rfl ?_
          refine A_iconst d_MD_pitch_170 rfl ?_
          refine A_pc (pc' := 171) rfl ?_
          refine A_iaddv (z := (j40 + 1)) d_MD_pitch_171 (w32_to (by omega) (by unfold i32; omega)) ?_
          refine A_putIk (KR := kM (pm [3, 4, 8, 9, 10] []) h) T_ok d_MD_pitch_172 f_MD_252 (mi_s k60.1 sf_170) fin_f (kM_i k60 (by decide) (by decide) mr_170_3 (by omega) (by omega)) (fun h61 k62 eh61 => ?_)
          exact A_vret d_MD_pitch_175 (by decide) rfl ⟨rfl, (by have qq0 := eh61.2.1; have qq2 := ((eh61.1 _ _ (fun _ => by decide)).trans ((eh59.1 _ _ (fun _ => by decide)).trans ((eh56.1 _ _ (fun _ => by decide)).trans eh51.2.1))); exact ⟨by omega, by omega, by omega, by omega⟩), k62⟩
        refine A_icmp_lt (tgt := 158) d_MD_pitch_148 (by decide) (fun c63 => ?_) (fun c63 => ?_)
        · refine A_iload_n 1 d_MD_pitch_158 rfl rfl ?_
          refine A_bipush d_MD_pitch_159 rfl ?_
          refine A_isubv (z := (a1 - 65)) d_MD_pitch_161 (w32_to (by omega) (by unfold i32; omega)) ?_
          refine A_iconst d_MD_pitch_162 rfl ?_
          refine A_iaddv (z := (a1 - 60)) d_MD_pitch_163 (w32_to (by omega) (by unfold i32; omega)) ?_
          refine A_pc (pc' := 164) rfl ?_
          exact jp164 (a1 - 60) (by omega) (by omega)
        · refine A_iload_n 1 d_MD_pitch_151 rfl rfl ?_
          refine A_bipush d_MD_pitch_152 rfl ?_
          refine A_isubv (z := (a1 - 67)) d_MD_pitch_154 (w32_to (by omega) (by unfold i32; omega)) ?_
          refine A_goto (tgt := 164) d_MD_pitch_155 (by decide) ?_
          refine A_pc (pc' := 164) rfl ?_
          exact jp164 (a1 - 67) (by omega) (by omega)
      · refine A_pc (pc' := 104) rfl ?_
        exact jp104 
  refine A_icmp_eq (tgt := 29) d_MD_pitch_16 (by decide) (fun c64 => ?_) (fun c64 => ?_)
  · refine A_pc (pc' := 29) rfl ?_
    exact jp29 
  · refine A_aload_n 0 d_MD_pitch_19 rfl rfl ?_
    refine A_iload_n 2 d_MD_pitch_20 rfl rfl ?_
    refine A_callV1 m_MD_at T_ok d_MD_pitch_21 l_MD_274 k_MD_at (mi_s k0.1 sf_170) rfl (by decide +kernel) (by decide) (Nat.le_of_ble_eq_true rfl) (s_MD_at k0.1 (by omega) (by omega)) (fun r h65 hq => ?_)
    obtain ⟨x67, rfl, ⟨_, _⟩, xx67, rfl⟩ := hq
    refine A_bipush d_MD_pitch_24 rfl ?_
    refine A_icmp_ne (tgt := 78) d_MD_pitch_26 (by decide) (fun c68 => ?_) (fun c68 => ?_)
    · refine A_aload_n 0 d_MD_pitch_78 rfl rfl ?_
      refine A_iconst d_MD_pitch_79 rfl ?_
      refine A_putIk (KR := kM (pm [3, 4, 8, 9, 10] []) h) T_ok d_MD_pitch_80 f_MD_278 (mi_s k0.1 sf_170) fin_f (kM_i k0 (by decide) (by decide) mr_170_10 (by omega) (by omega)) (fun h69 k70 eh69 => ?_)
      refine A_pc (pc' := 83) rfl ?_
      exact jp83 (sd1 + 1) 0 h69 (by omega) (by omega) (by omega) (by omega) k70
    · refine A_pc (pc' := 29) rfl ?_
      exact jp29 
theorem s_MD_word {G : cx_T} {h : ah_T} (hx : mi h)  (hse : h.2.1 170 3 < h.2.1 170 2) (hsm : 97 ≤ h.2.1 171 (h.2.1 170 3).toNat ∧ h.2.1 171 (h.2.1 170 3).toNat ≤ 122) : con G 1 0 0 m_MD_word [av_R (some 170)] h (fun r h' => r = none ∧ (h.2.1 170 3 ≤ h'.2.1 170 3 ∧ h'.2.1 170 3 ≤ h.2.1 170 2 ∧ (h'.2.1 170 4 ≠ 0 → h'.2.1 170 4 ≠ 6 → h.2.1 170 3 < h'.2.1 170 3) ∧ (h'.2.1 170 4 = 0 → h'.2.1 170 3 = h.2.1 170 2)) ∧ kM (pm [3, 4, 6, 7] []) h h') := by
  refine con_of (L := [some (av_R (some 170)), none, none]) (by decide +kernel) (Nat.le_of_ble_eq_true rfl) rfl ?_
  have k0 : kM (pm [3, 4, 6, 7] []) h h := kM_0 hx
  obtain ⟨sd1, esd1⟩ : ∃ x, x = h.2.1 170 3 := ⟨_, rfl⟩
  have rsd1 : 0 ≤ sd1 ∧ sd1 ≤ 2000 := (by rw [esd1]; exact mi_g k0.1 (by decide) mr_170_3)
  obtain ⟨sd2, esd2⟩ : ∃ x, x = h.2.1 170 2 := ⟨_, rfl⟩
  have rsd2 : 0 ≤ sd2 ∧ sd2 ≤ 2000 := (by rw [esd2]; exact mi_g k0.1 (by decide) mr_170_2)
  refine A_iconst d_MD_word_0 rfl ?_
  refine A_istore_n 1 (L' := [some (av_R (some 170)), some (av_I 0), none]) d_MD_word_1 rfl (Nat.le_of_ble_eq_true rfl) rfl ?_
  refine A_aload_n 0 d_MD_word_2 rfl rfl ?_
  refine A_lconst_0 d_MD_word_3 ?_
  refine A_putLk (KR := kM (pm [3, 4, 6, 7] []) h) T_ok d_MD_word_4 f_MD_290 (mi_s k0.1 sf_170) fin_f (kM_l k0 (by decide) (by decide) mq_170_7 (by omega) (by omega)) (fun h3 k4 eh3 => ?_)
  have lp7 : ∀ (n : Nat) (i5 : Int) (h6 : ah_T) , 0 ≤ i5 → i5 ≤ 2000 → (h6.2.1 170 3 = h.2.1 170 3 + i5 ∧ 0 ≤ i5 ∧ h6.2.1 170 3 ≤ h.2.1 170 2) ∧ (i5 = 0 → 97 ≤ h6.2.1 171 (h6.2.1 170 3).toNat ∧ h6.2.1 171 (h6.2.1 170 3).toNat ≤ 122) → kM (pm [3, 4, 6, 7] []) h h6 → (2001 - i5).toNat < n → aw G (rm_R 1 0 0) m_MD_word 0 0 7 [some (av_R (some 170)), some (av_I i5), none] [] h6 (fun r h' => r = none ∧ (h.2.1 170 3 ≤ h'.2.1 170 3 ∧ h'.2.1 170 3 ≤ h.2.1 170 2 ∧ (h'.2.1 170 4 ≠ 0 → h'.2.1 170 4 ≠ 6 → h.2.1 170 3 < h'.2.1 170 3) ∧ (h'.2.1 170 4 = 0 → h'.2.1 170 3 = h.2.1 170 2)) ∧ kM (pm [3, 4, 6, 7] []) h h') := by
    intro n
    induction n with
    | zero => intro i5 h6 _ _ _ _ hm; omega
    | succ n ih7 =>
      intro i5 h6 hl0 hl1 hinv k7 hm
      obtain ⟨sd8, esd8⟩ : ∃ x, x = h6.2.1 170 3 := ⟨_, rfl⟩
      have rsd8 : 0 ≤ sd8 ∧ sd8 ≤ 2000 := (by rw [esd8]; exact mi_g k7.1 (by decide) mr_170_3)
      obtain ⟨sd9, esd9⟩ : ∃ x, x = h6.2.1 170 2 := ⟨_, rfl⟩
      have rsd9 : 0 ≤ sd9 ∧ sd9 ≤ 2000 := (by rw [esd9]; exact mi_g k7.1 (by decide) mr_170_2)
      refine A_aload_n 0 d_MD_word_7 rfl rfl ?_
      refine A_aload_n 0 d_MD_word_8 rfl rfl ?_
      refine A_aload_n 0 d_MD_word_9 rfl rfl ?_
      refine A_getIv (z := sd8) T_ok d_MD_word_10 f_MD_252 (mi_s k7.1 sf_170) esd8.symm ?_
      refine A_callV1 m_MD_at T_ok d_MD_word_13 l_MD_274 k_MD_at (mi_s k7.1 sf_170) rfl (by decide +kernel) (by decide) (Nat.le_of_ble_eq_true rfl) (s_MD_at k7.1 (by omega) (by omega)) (fun r h11 hq => ?_)
      obtain ⟨x13, rfl, ⟨_, _⟩, xx13, rfl⟩ := hq
      refine A_callV1 m_MD_isSmall T_ok d_MD_word_16 l_MD_258 k_MD_isSmall (mi_s k7.1 sf_170) rfl (by decide +kernel) (by decide) (Nat.le_of_ble_eq_true rfl) (s_MD_isSmall k7.1 ) (fun r h14 hq => ?_)
      obtain ⟨x16, rfl, bx16, xx16, rfl⟩ := hq
      refine A_if_eq (tgt := 59) d_MD_word_19 (by decide) (fun c17 => ?_) (fun c17 => ?_)
      · refine A_aload_n 0 d_MD_word_59 rfl rfl ?_
        refine A_iload_n 1 d_MD_word_60 rfl rfl ?_
        refine A_bipush d_MD_word_61 rfl ?_
        have jp72 : ∀ (j18 : Int) , 2 ≤ j18 → j18 ≤ 6 → aw G (rm_R 1 0 0) m_MD_word 0 0 72 [some (av_R (some 170)), some (av_I i5), none] [av_I j18, av_R (some 170)] h6 (fun r h' => r = none ∧ (h.2.1 170 3 ≤ h'.2.1 170 3 ∧ h'.2.1 170 3 ≤ h.2.1 170 2 ∧ (h'.2.1 170 4 ≠ 0 → h'.2.1 170 4 ≠ 6 → h.2.1 170 3 < h'.2.1 170 3) ∧ (h'.2.1 170 4 = 0 → h'.2.1 170 3 = h.2.1 170 2)) ∧ kM (pm [3, 4, 6, 7] []) h h') := by
          intro j18  _ _ 
          refine A_putIk (KR := kM (pm [3, 4, 6, 7] []) h) T_ok d_MD_word_72 f_MD_239 (mi_s k7.1 sf_170) fin_f (kM_i k7 (by decide) (by decide) mr_170_4 (by omega) (by omega)) (fun h19 k20 eh19 => ?_)
          refine A_iload_n 1 d_MD_word_75 rfl rfl ?_
          refine A_iconst d_MD_word_76 rfl ?_
          refine A_icmp_le (tgt := 81) d_MD_word_77 (by decide) (fun c21 => ?_) (fun c21 => ?_)
          · refine A_aload_n 0 d_MD_word_81 rfl rfl ?_
            refine A_getLf T_ok d_MD_word_82 f_MD_290 (mi_s k20.1 sf_170) (fun x22 ex22 _ _ => ?_)
            refine A_ldc2 (z := 1953066341) d_MD_word_85 cst_MD_294 rfl ?_
            refine A_lcmpn d_MD_word_88 (fun x23 lx23 ex23 gx23 _ _ => ?_)
            have jp173 : ∀ (j24 : Int) , (-2) ≤ j24 → j24 ≤ 5 → aw G (rm_R 1 0 0) m_MD_word 0 0 173 [some (av_R (some 170)), some (av_I i5), none] [av_I j24] h19 (fun r h' => r = none ∧ (h.2.1 170 3 ≤ h'.2.1 170 3 ∧ h'.2.1 170 3 ≤ h.2.1 170 2 ∧ (h'.2.1 170 4 ≠ 0 → h'.2.1 170 4 ≠ 6 → h.2.1 170 3 < h'.2.1 170 3) ∧ (h'.2.1 170 4 = 0 → h'.2.1 170 3 = h.2.1 170 2)) ∧ kM (pm [3, 4, 6, 7] []) h h') := by
              intro j24  _ _ 
              refine A_istore_n 2 (L' := [some (av_R (some 170)), some (av_I i5), some (av_I j24)]) d_MD_word_173 rfl (Nat.le_of_ble_eq_true rfl) rfl ?_
              refine A_iload_n 2 d_MD_word_174 rfl rfl ?_
              refine A_bipush d_MD_word_175 rfl ?_
              refine A_icmp_ne (tgt := 181) d_MD_word_177 (by decide) (fun c25 => ?_) (fun c25 => ?_)
              · refine A_aload_n 0 d_MD_word_181 rfl rfl ?_
                refine A_iconst d_MD_word_182 rfl ?_
                refine A_putIk (KR := kM (pm [3, 4, 6, 7] []) h) T_ok d_MD_word_183 f_MD_239 (mi_s k20.1 sf_170) fin_f (kM_i k20 (by decide) (by decide) mr_170_4 (by omega) (by omega)) (fun h26 k27 eh26 => ?_)
                refine A_aload_n 0 d_MD_word_186 rfl rfl ?_
                refine A_iload_n 2 d_MD_word_187 rfl rfl ?_
                refine A_pc (pc' := 188) rfl ?_
                refine A_putIk (KR := kM (pm [3, 4, 6, 7] []) h) T_ok d_MD_word_188 f_MD_271 (mi_s k27.1 sf_170) fin_f (kM_i k27 (by decide) (by decide) mr_170_6 (by omega) (by omega)) (fun h28 k29 eh28 => ?_)
                exact A_vret d_MD_word_191 (by decide) rfl ⟨rfl, (by have hi1 := hinv.1; have qq0 := ((eh28.1 _ _ (fun _ => by decide)).trans ((eh26.1 _ _ (fun _ => by decide)).trans ((eh19.1 _ _ (fun _ => by decide)).trans esd8.symm))); have qq1 := ((eh28.1 _ _ (fun _ => by decide)).trans ((eh26.1 _ _ (fun _ => by decide)).trans ((eh19.1 _ _ (fun _ => by decide)).trans esd9.symm))); have qq2 := ((eh28.1 _ _ (fun _ => by decide)).trans eh26.2.1); exact ⟨by omega, by omega, by omega, by omega⟩), k29⟩
              · exact A_vret d_MD_word_180 (by decide) rfl ⟨rfl, (by have hi1 := hinv.1; have qq0 := ((eh19.1 _ _ (fun _ => by decide)).trans esd8.symm); have qq1 := ((eh19.1 _ _ (fun _ => by decide)).trans esd9.symm); have qq2 := eh19.2.1; exact ⟨by omega, by omega, by omega, by omega⟩), k20⟩
            refine A_if_ne (tgt := 96) d_MD_word_89 (by decide) (fun c30 => ?_) (fun c30 => ?_)
            · have mc30 : (x22 - 1953066341) ≠ 0 := by omega
              refine A_aload_n 0 d_MD_word_96 rfl rfl ?_
              refine A_getLv (z := x22) T_ok d_MD_word_97 f_MD_290 (mi_s k20.1 sf_170) ex22.symm ?_
              refine A_ldc2 (z := 508675318629) d_MD_word_100 cst_MD_296 rfl ?_
              refine A_lcmpn d_MD_word_103 (fun x32 lx32 ex32 gx32 _ _ => ?_)
              refine A_if_ne (tgt := 111) d_MD_word_104 (by decide) (fun c33 => ?_) (fun c33 => ?_)
              · have mc33 : (x22 - 508675318629) ≠ 0 := by omega
                refine A_aload_n 0 d_MD_word_111 rfl rfl ?_
                refine A_getLv (z := x22) T_ok d_MD_word_112 f_MD_290 (mi_s k20.1 sf_170) ex22.symm ?_
                refine A_ldc2 (z := 1818848869) d_MD_word_115 cst_MD_298 rfl ?_
                refine A_lcmpn d_MD_word_118 (fun x35 lx35 ex35 gx35 _ _ => ?_)
                refine A_if_ne (tgt := 126) d_MD_word_119 (by decide) (fun c36 => ?_) (fun c36 => ?_)
                · have mc36 : (x22 - 1818848869) ≠ 0 := by omega
                  refine A_aload_n 0 d_MD_word_126 rfl rfl ?_
                  refine A_getLv (z := x22) T_ok d_MD_word_127 f_MD_290 (mi_s k20.1 sf_170) ex22.symm ?_
                  refine A_ldc2 (z := 1920298085) d_MD_word_130 cst_MD_300 rfl ?_
                  refine A_lcmpn d_MD_word_133 (fun x38 lx38 ex38 gx38 _ _ => ?_)
                  refine A_if_ne (tgt := 141) d_MD_word_134 (by decide) (fun c39 => ?_) (fun c39 => ?_)
                  · have mc39 : (x22 - 1920298085) ≠ 0 := by omega
                    refine A_aload_n 0 d_MD_word_141 rfl rfl ?_
                    refine A_getLv (z := x22) T_ok d_MD_word_142 f_MD_290 (mi_s k20.1 sf_170) ex22.symm ?_
                    refine A_ldc2 (z := 7499639) d_MD_word_145 cst_MD_302 rfl ?_
                    refine A_lcmpn d_MD_word_148 (fun x41 lx41 ex41 gx41 _ _ => ?_)
                    refine A_if_ne (tgt := 156) d_MD_word_149 (by decide) (fun c42 => ?_) (fun c42 => ?_)
                    · have mc42 : (x22 - 7499639) ≠ 0 := by omega
                      refine A_aload_n 0 d_MD_word_156 rfl rfl ?_
                      refine A_getLv (z := x22) T_ok d_MD_word_157 f_MD_290 (mi_s k20.1 sf_170) ex22.symm ?_
                      refine A_ldc2 (z := 114) d_MD_word_160 cst_MD_304 rfl ?_
                      refine A_lcmpn d_MD_word_163 (fun x44 lx44 ex44 gx44 _ _ => ?_)
                      refine A_if_ne (tgt := 171) d_MD_word_164 (by decide) (fun c45 => ?_) (fun c45 => ?_)
                      · have mc45 : (x22 - 114) ≠ 0 := by omega
                        refine A_bipush d_MD_word_171 rfl ?_
                        refine A_pc (pc' := 173) rfl ?_
                        exact jp173 (-2) (by omega) (by omega)
                      · have mc45 : (x22 - 114) = 0 := by omega
                        refine A_iconst d_MD_word_167 rfl ?_
                        refine A_goto (tgt := 173) d_MD_word_168 (by decide) ?_
                        refine A_pc (pc' := 173) rfl ?_
                        exact jp173 5 (by omega) (by omega)
                    · have mc42 : (x22 - 7499639) = 0 := by omega
                      refine A_iconst d_MD_word_152 rfl ?_
                      refine A_goto (tgt := 173) d_MD_word_153 (by decide) ?_
                      refine A_pc (pc' := 173) rfl ?_
                      exact jp173 4 (by omega) (by omega)
                  · have mc39 : (x22 - 1920298085) = 0 := by omega
                    refine A_iconst d_MD_word_137 rfl ?_
                    refine A_goto (tgt := 173) d_MD_word_138 (by decide) ?_
                    refine A_pc (pc' := 173) rfl ?_
                    exact jp173 3 (by omega) (by omega)
                · have mc36 : (x22 - 1818848869) = 0 := by omega
                  refine A_iconst d_MD_word_122 rfl ?_
                  refine A_goto (tgt := 173) d_MD_word_123 (by decide) ?_
                  refine A_pc (pc' := 173) rfl ?_
                  exact jp173 2 (by omega) (by omega)
              · have mc33 : (x22 - 508675318629) = 0 := by omega
                refine A_iconst d_MD_word_107 rfl ?_
                refine A_goto (tgt := 173) d_MD_word_108 (by decide) ?_
                refine A_pc (pc' := 173) rfl ?_
                exact jp173 1 (by omega) (by omega)
            · have mc30 : (x22 - 1953066341) = 0 := by omega
              refine A_iconst d_MD_word_92 rfl ?_
              refine A_goto (tgt := 173) d_MD_word_93 (by decide) ?_
              refine A_pc (pc' := 173) rfl ?_
              exact jp173 0 (by omega) (by omega)
          · exact A_vret d_MD_word_80 (by decide) rfl ⟨rfl, (by have hi1 := hinv.1; have qq0 := ((eh19.1 _ _ (fun _ => by decide)).trans esd8.symm); have qq1 := ((eh19.1 _ _ (fun _ => by decide)).trans esd9.symm); have qq2 := eh19.2.1; exact ⟨by omega, by omega, by omega, by omega⟩), k20⟩
        refine A_icmp_le (tgt := 71) d_MD_word_63 (by decide) (fun c46 => ?_) (fun c46 => ?_)
        · refine A_iconst d_MD_word_71 rfl ?_
          refine A_pc (pc' := 72) rfl ?_
          exact jp72 2 (by omega) (by omega)
        · refine A_bipush d_MD_word_66 rfl ?_
          refine A_goto (tgt := 72) d_MD_word_68 (by decide) ?_
          refine A_pc (pc' := 72) rfl ?_
          exact jp72 6 (by omega) (by omega)
      · refine A_aload_n 0 d_MD_word_22 rfl rfl ?_
        refine A_aload_n 0 d_MD_word_23 rfl rfl ?_
        refine A_getLf T_ok d_MD_word_24 f_MD_290 (mi_s k7.1 sf_170) (fun x47 ex47 _ _ => ?_)
        refine A_bipush d_MD_word_27 rfl ?_
        refine A_lshl d_MD_word_29 ?_
        refine A_nrL (fun x48 ex48 _ _ => ?_)
        refine A_pc (pc' := 30) rfl ?_
        refine A_aload_n 0 d_MD_word_30 rfl rfl ?_
        refine A_aload_n 0 d_MD_word_31 rfl rfl ?_
        refine A_getIv (z := sd8) T_ok d_MD_word_32 f_MD_252 (mi_s k7.1 sf_170) esd8.symm ?_
        refine A_callV1 m_MD_at T_ok d_MD_word_35 l_MD_274 k_MD_at (mi_s k7.1 sf_170) rfl (by decide +kernel) (by decide) (Nat.le_of_ble_eq_true rfl) (s_MD_at k7.1 (by omega) (by omega)) (fun r h50 hq => ?_)
        obtain ⟨x52, rfl, ⟨_, _⟩, xx52, rfl⟩ := hq
        refine A_i2l d_MD_word_38 ?_
        refine A_lor d_MD_word_39 ?_
        refine A_nrL (fun x53 ex53 _ _ => ?_)
        refine A_putLk (KR := kM (pm [3, 4, 6, 7] []) h) T_ok d_MD_word_40 f_MD_290 (mi_s k7.1 sf_170) fin_f (kM_l k7 (by decide) (by decide) mq_170_7 (by omega) (by omega)) (fun h54 k55 eh54 => ?_)
        refine A_aload_n 0 d_MD_word_43 rfl rfl ?_
        refine A_dupR d_MD_word_44 ?_
        refine A_pc (pc' := 45) rfl ?_
        refine A_getIv (z := sd8) T_ok d_MD_word_45 f_MD_252 (mi_s k55.1 sf_170) ((congrFun (congrFun eh54.1 _) _).trans esd8.symm) ?_
        refine A_iconst d_MD_word_48 rfl ?_
        refine A_iaddv (z := (sd8 + 1)) d_MD_word_49 (w32_to (by omega) (by unfold i32; omega)) ?_
        refine A_putIk (KR := kM (pm [3, 4, 6, 7] []) h) T_ok d_MD_word_50 f_MD_252 (mi_s k55.1 sf_170) fin_f (kM_i k55 (by decide) (by decide) mr_170_3 (by omega) (by omega)) (fun h57 k58 eh57 => ?_)
        refine A_iincv (z := (i5 + 1)) (L' := [some (av_R (some 170)), some (av_I (i5 + 1)), none]) d_MD_word_53 rfl (w32_to (by omega) (by unfold i32; omega)) rfl ?_
        refine A_goto (tgt := 7) d_MD_word_56 (by decide) ?_
        exact ih7 (i5 + 1) h57 (by omega) (by omega) ⟨(by have qq0 := eh57.2.1; have qq1 := ((eh57.1 _ _ (fun _ => by decide)).trans ((congrFun (congrFun eh54.1 _) _).trans esd9.symm)); omega), fun q => False.elim (by omega)⟩ k58 (by omega)
  exact lp7 _ 0 h3 (by omega) (by omega) ⟨(by have qq0 := ((congrFun (congrFun eh3.1 _) _).trans esd1.symm); have qq1 := ((congrFun (congrFun eh3.1 _) _).trans esd2.symm); omega), fun _ => by rw [k4.2.2.1 171 _ rfl, ((congrFun (congrFun eh3.1 _) _).trans esd1.symm), esd1]; exact hsm⟩ k4 (Nat.lt_succ_self _)
theorem s_MD_number {G : cx_T} {h : ah_T} (hx : mi h)  (hse : h.2.1 170 3 < h.2.1 170 2) (hsm : 48 ≤ h.2.1 171 (h.2.1 170 3).toNat ∧ h.2.1 171 (h.2.1 170 3).toNat ≤ 57) : con G 1 0 0 m_MD_number [av_R (some 170)] h (fun r h' => r = none ∧ (h.2.1 170 3 ≤ h'.2.1 170 3 ∧ h'.2.1 170 3 ≤ h.2.1 170 2 ∧ (h'.2.1 170 4 ≠ 0 → h'.2.1 170 4 ≠ 6 → h.2.1 170 3 < h'.2.1 170 3) ∧ (h'.2.1 170 4 = 0 → h'.2.1 170 3 = h.2.1 170 2)) ∧ kM (pm [3, 4, 6] []) h h') := by
  refine con_of (L := [some (av_R (some 170)), none]) (by decide +kernel) (Nat.le_of_ble_eq_true rfl) rfl ?_
  have k0 : kM (pm [3, 4, 6] []) h h := kM_0 hx
  obtain ⟨sd1, esd1⟩ : ∃ x, x = h.2.1 170 3 := ⟨_, rfl⟩
  have rsd1 : 0 ≤ sd1 ∧ sd1 ≤ 2000 := (by rw [esd1]; exact mi_g k0.1 (by decide) mr_170_3)
  obtain ⟨sd2, esd2⟩ : ∃ x, x = h.2.1 170 2 := ⟨_, rfl⟩
  have rsd2 : 0 ≤ sd2 ∧ sd2 ≤ 2000 := (by rw [esd2]; exact mi_g k0.1 (by decide) mr_170_2)
  refine A_iconst d_MD_number_0 rfl ?_
  refine A_istore_n 1 (L' := [some (av_R (some 170)), some (av_I 0)]) d_MD_number_1 rfl (Nat.le_of_ble_eq_true rfl) rfl ?_
  refine A_aload_n 0 d_MD_number_2 rfl rfl ?_
  refine A_iconst d_MD_number_3 rfl ?_
  refine A_putIk (KR := kM (pm [3, 4, 6] []) h) T_ok d_MD_number_4 f_MD_271 (mi_s k0.1 sf_170) fin_f (kM_i k0 (by decide) (by decide) mr_170_6 (by omega) (by omega)) (fun h3 k4 eh3 => ?_)
  have lp7 : ∀ (n : Nat) (i5 : Int) (h6 : ah_T) , 0 ≤ i5 → i5 ≤ 2000 → (h6.2.1 170 3 = h.2.1 170 3 + i5 ∧ 0 ≤ i5 ∧ h6.2.1 170 3 ≤ h.2.1 170 2 ∧ (i5 = 0 → h6.2.1 170 6 = 0) ∧ (i5 = 1 → h6.2.1 170 6 ≤ 9) ∧ (i5 = 2 → h6.2.1 170 6 ≤ 99) ∧ (i5 = 3 → h6.2.1 170 6 ≤ 999)) ∧ (i5 = 0 → 48 ≤ h6.2.1 171 (h6.2.1 170 3).toNat ∧ h6.2.1 171 (h6.2.1 170 3).toNat ≤ 57) → kM (pm [3, 4, 6] []) h h6 → (2001 - i5).toNat < n → aw G (rm_R 1 0 0) m_MD_number 0 0 7 [some (av_R (some 170)), some (av_I i5)] [] h6 (fun r h' => r = none ∧ (h.2.1 170 3 ≤ h'.2.1 170 3 ∧ h'.2.1 170 3 ≤ h.2.1 170 2 ∧ (h'.2.1 170 4 ≠ 0 → h'.2.1 170 4 ≠ 6 → h.2.1 170 3 < h'.2.1 170 3) ∧ (h'.2.1 170 4 = 0 → h'.2.1 170 3 = h.2.1 170 2)) ∧ kM (pm [3, 4, 6] []) h h') := by
    intro n
    induction n with
    | zero => intro i5 h6 _ _ _ _ hm; omega
    | succ n ih7 =>
      intro i5 h6 hl0 hl1 hinv k7 hm
      obtain ⟨sd8, esd8⟩ : ∃ x, x = h6.2.1 170 3 := ⟨_, rfl⟩
      have rsd8 : 0 ≤ sd8 ∧ sd8 ≤ 2000 := (by rw [esd8]; exact mi_g k7.1 (by decide) mr_170_3)
      obtain ⟨sd9, esd9⟩ : ∃ x, x = h6.2.1 170 2 := ⟨_, rfl⟩
      have rsd9 : 0 ≤ sd9 ∧ sd9 ≤ 2000 := (by rw [esd9]; exact mi_g k7.1 (by decide) mr_170_2)
      refine A_aload_n 0 d_MD_number_7 rfl rfl ?_
      refine A_aload_n 0 d_MD_number_8 rfl rfl ?_
      refine A_aload_n 0 d_MD_number_9 rfl rfl ?_
      refine A_getIv (z := sd8) T_ok d_MD_number_10 f_MD_252 (mi_s k7.1 sf_170) esd8.symm ?_
      refine A_callV1 m_MD_at T_ok d_MD_number_13 l_MD_274 k_MD_at (mi_s k7.1 sf_170) rfl (by decide +kernel) (by decide) (Nat.le_of_ble_eq_true rfl) (s_MD_at k7.1 (by omega) (by omega)) (fun r h11 hq => ?_)
      obtain ⟨x13, rfl, ⟨_, _⟩, xx13, rfl⟩ := hq
      refine A_callV1 m_MD_isDigit T_ok d_MD_number_16 l_MD_265 k_MD_isDigit (mi_s k7.1 sf_170) rfl (by decide +kernel) (by decide) (Nat.le_of_ble_eq_true rfl) (s_MD_isDigit k7.1 ) (fun r h14 hq => ?_)
      obtain ⟨x16, rfl, bx16, xx16, rfl⟩ := hq
      refine A_if_eq (tgt := 66) d_MD_number_19 (by decide) (fun c17 => ?_) (fun c17 => ?_)
      · refine A_aload_n 0 d_MD_number_66 rfl rfl ?_
        refine A_iload_n 1 d_MD_number_67 rfl rfl ?_
        refine A_iconst d_MD_number_68 rfl ?_
        refine A_icmp_le (tgt := 77) d_MD_number_69 (by decide) (fun c18 => ?_) (fun c18 => ?_)
        · refine A_iconst d_MD_number_77 rfl ?_
          refine A_putIk (KR := kM (pm [3, 4, 6] []) h) T_ok d_MD_number_78 f_MD_239 (mi_s k7.1 sf_170) fin_f (kM_i k7 (by decide) (by decide) mr_170_4 (by omega) (by omega)) (fun h19 k20 eh19 => ?_)
          exact A_vret d_MD_number_81 (by decide) rfl ⟨rfl, (by have hi1 := hinv.1; have qq0 := ((eh19.1 _ _ (fun _ => by decide)).trans esd8.symm); have qq1 := ((eh19.1 _ _ (fun _ => by decide)).trans esd9.symm); have qq2 := eh19.2.1; exact ⟨by omega, by omega, by omega, by omega⟩), k20⟩
        · refine A_bipush d_MD_number_72 rfl ?_
          refine A_goto (tgt := 78) d_MD_number_74 (by decide) ?_
          refine A_putIk (KR := kM (pm [3, 4, 6] []) h) T_ok d_MD_number_78 f_MD_239 (mi_s k7.1 sf_170) fin_f (kM_i k7 (by decide) (by decide) mr_170_4 (by omega) (by omega)) (fun h21 k22 eh21 => ?_)
          exact A_vret d_MD_number_81 (by decide) rfl ⟨rfl, (by have hi1 := hinv.1; have qq0 := ((eh21.1 _ _ (fun _ => by decide)).trans esd8.symm); have qq1 := ((eh21.1 _ _ (fun _ => by decide)).trans esd9.symm); have qq2 := eh21.2.1; exact ⟨by omega, by omega, by omega, by omega⟩), k22⟩
      · refine A_iload_n 1 d_MD_number_22 rfl rfl ?_
        refine A_iconst d_MD_number_23 rfl ?_
        refine A_icmp_ge (tgt := 50) d_MD_number_24 (by decide) (fun c23 => ?_) (fun c23 => ?_)
        · refine A_aload_n 0 d_MD_number_50 rfl rfl ?_
          refine A_dupR d_MD_number_51 ?_
          refine A_getIv (z := sd8) T_ok d_MD_number_52 f_MD_252 (mi_s k7.1 sf_170) esd8.symm ?_
          refine A_iconst d_MD_number_55 rfl ?_
          refine A_iaddv (z := (sd8 + 1)) d_MD_number_56 (w32_to (by omega) (by unfold i32; omega)) ?_
          refine A_pc (pc' := 57) rfl ?_
          refine A_putIk (KR := kM (pm [3, 4, 6] []) h) T_ok d_MD_number_57 f_MD_252 (mi_s k7.1 sf_170) fin_f (kM_i k7 (by decide) (by decide) mr_170_3 (by omega) (by omega)) (fun h25 k26 eh25 => ?_)
          refine A_iincv (z := (i5 + 1)) (L' := [some (av_R (some 170)), some (av_I (i5 + 1))]) d_MD_number_60 rfl (w32_to (by omega) (by unfold i32; omega)) rfl ?_
          refine A_goto (tgt := 7) d_MD_number_63 (by decide) ?_
          exact ih7 (i5 + 1) h25 (by omega) (by omega) ⟨(by have qq0 := eh25.2.1; have qq1 := ((eh25.1 _ _ (fun _ => by decide)).trans esd9.symm); omega), fun q => False.elim (by omega)⟩ k26 (by omega)
        · refine A_aload_n 0 d_MD_number_27 rfl rfl ?_
          refine A_bipush d_MD_number_28 rfl ?_
          refine A_aload_n 0 d_MD_number_30 rfl rfl ?_
          refine A_getIn (lo := 0) (hi := 9999) T_ok d_MD_number_31 f_MD_271 (mi_s k7.1 sf_170) (mi_g k7.1 (by decide) mr_170_6) (fun x27 ex27 _ _ => ?_)
          refine A_imulv (z := (10 * x27)) d_MD_number_34 (w32_to (by omega) (by unfold i32; omega)) ?_
          refine A_pc (pc' := 35) rfl ?_
          refine A_aload_n 0 d_MD_number_35 rfl rfl ?_
          refine A_aload_n 0 d_MD_number_36 rfl rfl ?_
          refine A_getIv (z := sd8) T_ok d_MD_number_37 f_MD_252 (mi_s k7.1 sf_170) esd8.symm ?_
          refine A_callV1 m_MD_at T_ok d_MD_number_40 l_MD_274 k_MD_at (mi_s k7.1 sf_170) rfl (by decide +kernel) (by decide) (Nat.le_of_ble_eq_true rfl) (s_MD_at k7.1 (by omega) (by omega)) (fun r h29 hq => ?_)
          obtain ⟨x31, rfl, ⟨_, _⟩, xx31, rfl⟩ := hq
          refine A_iaddv (z := (10 * x27 + x31)) d_MD_number_43 (w32_to (by omega) (by unfold i32; omega)) ?_
          refine A_bipush d_MD_number_44 rfl ?_
          refine A_isubv (z := (10 * x27 + x31 - 48)) d_MD_number_46 (w32_to (by omega) (by unfold i32; omega)) ?_
          refine A_putIk (KR := kM (pm [3, 4, 6] []) h) T_ok d_MD_number_47 f_MD_271 (mi_s k7.1 sf_170) fin_f (kM_i k7 (by decide) (by decide) mr_170_6 (by omega) (by omega)) (fun h32 k33 eh32 => ?_)
          refine A_aload_n 0 d_MD_number_50 rfl rfl ?_
          refine A_pc (pc' := 51) rfl ?_
          refine A_dupR d_MD_number_51 ?_
          refine A_getIv (z := sd8) T_ok d_MD_number_52 f_MD_252 (mi_s k33.1 sf_170) ((eh32.1 _ _ (fun _ => by decide)).trans esd8.symm) ?_
          refine A_iconst d_MD_number_55 rfl ?_
          refine A_iaddv (z := (sd8 + 1)) d_MD_number_56 (w32_to (by omega) (by unfold i32; omega)) ?_
          refine A_putIk (KR := kM (pm [3, 4, 6] []) h) T_ok d_MD_number_57 f_MD_252 (mi_s k33.1 sf_170) fin_f (kM_i k33 (by decide) (by decide) mr_170_3 (by omega) (by omega)) (fun h35 k36 eh35 => ?_)
          refine A_iincv (z := (i5 + 1)) (L' := [some (av_R (some 170)), some (av_I (i5 + 1))]) d_MD_number_60 rfl (w32_to (by omega) (by unfold i32; omega)) rfl ?_
          refine A_pc (pc' := 63) rfl ?_
          refine A_goto (tgt := 7) d_MD_number_63 (by decide) ?_
          exact ih7 (i5 + 1) h35 (by omega) (by omega) ⟨(by have qq0 := eh35.2.1; have qq1 := ((eh35.1 _ _ (fun _ => by decide)).trans ((eh32.1 _ _ (fun _ => by decide)).trans esd9.symm)); have qq2 := ((eh35.1 _ _ (fun _ => by decide)).trans eh32.2.1); omega), fun q => False.elim (by omega)⟩ k36 (by omega)
  exact lp7 _ 0 h3 (by omega) (by omega) ⟨(by have qq0 := ((eh3.1 _ _ (fun _ => by decide)).trans esd1.symm); have qq1 := ((eh3.1 _ _ (fun _ => by decide)).trans esd2.symm); have qq2 := eh3.2.1; omega), fun _ => by rw [k4.2.2.1 171 _ rfl, ((eh3.1 _ _ (fun _ => by decide)).trans esd1.symm), esd1]; exact hsm⟩ k4 (Nat.lt_succ_self _)
theorem s_MD_next {G : cx_T} {h : ah_T} (hx : mi h)  (hse : h.2.1 170 3 ≤ h.2.1 170 2) : con G 2 0 0 m_MD_next [av_R (some 170)] h (fun r h' => ∃ z, r = some (av_I z) ∧ (1 ≤ z ∧ z ≤ 1) ∧ (h.2.1 170 3 ≤ h'.2.1 170 3 ∧ h'.2.1 170 3 ≤ h.2.1 170 2 ∧ (h'.2.1 170 4 ≠ 0 → h'.2.1 170 4 ≠ 6 → h.2.1 170 3 < h'.2.1 170 3) ∧ (h'.2.1 170 4 = 0 → h'.2.1 170 3 = h.2.1 170 2)) ∧ kM (pm [3, 4, 5, 6, 7, 8, 9, 10] []) h h') := by
  refine con_of (L := [some (av_R (some 170)), none, none, none]) (by decide +kernel) (Nat.le_of_ble_eq_true rfl) rfl ?_
  have k0 : kM (pm [3, 4, 5, 6, 7, 8, 9, 10] []) h h := kM_0 hx
  obtain ⟨sd1, esd1⟩ : ∃ x, x = h.2.1 170 3 := ⟨_, rfl⟩
  have rsd1 : 0 ≤ sd1 ∧ sd1 ≤ 2000 := (by rw [esd1]; exact mi_g k0.1 (by decide) mr_170_3)
  obtain ⟨sd2, esd2⟩ : ∃ x, x = h.2.1 170 2 := ⟨_, rfl⟩
  have rsd2 : 0 ≤ sd2 ∧ sd2 ≤ 2000 := (by rw [esd2]; exact mi_g k0.1 (by decide) mr_170_2)
  refine A_iconst d_MD_next_0 rfl ?_
  refine A_istore_n 1 (L' := [some (av_R (some 170)), some (av_I 0), none, none]) d_MD_next_1 rfl (Nat.le_of_ble_eq_true rfl) rfl ?_
  have lp2 : ∀ (n : Nat) (i3 : Int) (h4 : ah_T) , 0 ≤ i3 → i3 ≤ 0 → h.2.1 170 3 ≤ h4.2.1 170 3 ∧ h4.2.1 170 3 ≤ h.2.1 170 2 → kM (pm [3, 4, 5, 6, 7, 8, 9, 10] []) h h4 → (2001 - h4.2.1 170 3).toNat < n → aw G (rm_R 2 0 0) m_MD_next 0 0 2 [some (av_R (some 170)), some (av_I i3), none, none] [] h4 (fun r h' => ∃ z, r = some (av_I z) ∧ (1 ≤ z ∧ z ≤ 1) ∧ (h.2.1 170 3 ≤ h'.2.1 170 3 ∧ h'.2.1 170 3 ≤ h.2.1 170 2 ∧ (h'.2.1 170 4 ≠ 0 → h'.2.1 170 4 ≠ 6 → h.2.1 170 3 < h'.2.1 170 3) ∧ (h'.2.1 170 4 = 0 → h'.2.1 170 3 = h.2.1 170 2)) ∧ kM (pm [3, 4, 5, 6, 7, 8, 9, 10] []) h h') := by
    intro n
    induction n with
    | zero => intro i3 h4 _ _ _ _ hm; omega
    | succ n ih2 =>
      intro i3 h4 hl0 hl1 hinv k5 hm
      obtain ⟨sd6, esd6⟩ : ∃ x, x = h4.2.1 170 3 := ⟨_, rfl⟩
      have rsd6 : 0 ≤ sd6 ∧ sd6 ≤ 2000 := (by rw [esd6]; exact mi_g k5.1 (by decide) mr_170_3)
      obtain ⟨sd7, esd7⟩ : ∃ x, x = h4.2.1 170 2 := ⟨_, rfl⟩
      have rsd7 : 0 ≤ sd7 ∧ sd7 ≤ 2000 := (by rw [esd7]; exact mi_g k5.1 (by decide) mr_170_2)
      refine A_aload_n 0 d_MD_next_2 rfl rfl ?_
      refine A_getIv (z := sd6) T_ok d_MD_next_3 f_MD_252 (mi_s k5.1 sf_170) esd6.symm ?_
      refine A_aload_n 0 d_MD_next_6 rfl rfl ?_
      refine A_getIv (z := sd7) T_ok d_MD_next_7 f_MD_249 (mi_s k5.1 sf_170) esd7.symm ?_
      have jp138 : aw G (rm_R 2 0 0) m_MD_next 0 0 138 [some (av_R (some 170)), some (av_I i3), none, none] [] h4 (fun r h' => ∃ z, r = some (av_I z) ∧ (1 ≤ z ∧ z ≤ 1) ∧ (h.2.1 170 3 ≤ h'.2.1 170 3 ∧ h'.2.1 170 3 ≤ h.2.1 170 2 ∧ (h'.2.1 170 4 ≠ 0 → h'.2.1 170 4 ≠ 6 → h.2.1 170 3 < h'.2.1 170 3) ∧ (h'.2.1 170 4 = 0 → h'.2.1 170 3 = h.2.1 170 2)) ∧ kM (pm [3, 4, 5, 6, 7, 8, 9, 10] []) h h') := by
        refine A_aload_n 0 d_MD_next_138 rfl rfl ?_
        refine A_aload_n 0 d_MD_next_139 rfl rfl ?_
        refine A_getIv (z := sd6) T_ok d_MD_next_140 f_MD_252 (mi_s k5.1 sf_170) esd6.symm ?_
        refine A_putIk (KR := kM (pm [3, 4, 5, 6, 7, 8, 9, 10] []) h) T_ok d_MD_next_143 f_MD_242 (mi_s k5.1 sf_170) fin_f (kM_i k5 (by decide) (by decide) mr_170_5 (by omega) (by omega)) (fun h11 k12 eh11 => ?_)
        refine A_aload_n 0 d_MD_next_146 rfl rfl ?_
        refine A_pc (pc' := 147) rfl ?_
        refine A_getIv (z := sd6) T_ok d_MD_next_147 f_MD_252 (mi_s k12.1 sf_170) ((eh11.1 _ _ (fun _ => by decide)).trans esd6.symm) ?_
        refine A_aload_n 0 d_MD_next_150 rfl rfl ?_
        refine A_getIv (z := sd7) T_ok d_MD_next_151 f_MD_249 (mi_s k12.1 sf_170) ((eh11.1 _ _ (fun _ => by decide)).trans esd7.symm) ?_
        refine A_icmp_ne (tgt := 164) d_MD_next_154 (by decide) (fun c15 => ?_) (fun c15 => ?_)
        · refine A_aload_n 0 d_MD_next_164 rfl rfl ?_
          refine A_getAv (z := some 171) T_ok d_MD_next_165 f_MD_7 (mi_s k12.1 sf_170) (mi_r k12.1 rfm_0) ?_
          refine A_aload_n 0 d_MD_next_168 rfl rfl ?_
          refine A_getIv (z := sd6) T_ok d_MD_next_169 f_MD_252 (mi_s k12.1 sf_170) ((eh11.1 _ _ (fun _ => by decide)).trans esd6.symm) ?_
          refine A_ialoadn (lo := 0) (hi := 255) d_MD_next_172 (mi_s k12.1 sf_171) (by omega) (by omega) (mi_g k12.1 (by decide) (mr_171 _)) (fun x18 ex18 _ _ => ?_)
          refine A_pc (pc' := 173) rfl ?_
          refine A_istore_n 2 (L' := [some (av_R (some 170)), some (av_I i3), some (av_I x18), none]) d_MD_next_173 rfl (Nat.le_of_ble_eq_true rfl) rfl ?_
          refine A_iload_n 2 d_MD_next_174 rfl rfl ?_
          refine A_bipush d_MD_next_175 rfl ?_
          have jp194 : aw G (rm_R 2 0 0) m_MD_next 0 0 194 [some (av_R (some 170)), some (av_I i3), some (av_I x18), none] [] h11 (fun r h' => ∃ z, r = some (av_I z) ∧ (1 ≤ z ∧ z ≤ 1) ∧ (h.2.1 170 3 ≤ h'.2.1 170 3 ∧ h'.2.1 170 3 ≤ h.2.1 170 2 ∧ (h'.2.1 170 4 ≠ 0 → h'.2.1 170 4 ≠ 6 → h.2.1 170 3 < h'.2.1 170 3) ∧ (h'.2.1 170 4 = 0 → h'.2.1 170 3 = h.2.1 170 2)) ∧ kM (pm [3, 4, 5, 6, 7, 8, 9, 10] []) h h') := by
            refine A_aload_n 0 d_MD_next_194 rfl rfl ?_
            refine A_iload_n 2 d_MD_next_195 rfl rfl ?_
            refine A_callV1 m_MD_isSmall T_ok d_MD_next_196 l_MD_258 k_MD_isSmall (mi_s k12.1 sf_170) rfl (by decide +kernel) (by decide) (Nat.le_of_ble_eq_true rfl) (s_MD_isSmall k12.1 ) (fun r h19 hq => ?_)
            obtain ⟨x21, rfl, bx21, xx21, rfl⟩ := hq
            refine A_if_eq (tgt := 209) d_MD_next_199 (by decide) (fun c22 => ?_) (fun c22 => ?_)
            · refine A_aload_n 0 d_MD_next_209 rfl rfl ?_
              refine A_iload_n 2 d_MD_next_210 rfl rfl ?_
              refine A_callV1 m_MD_isDigit T_ok d_MD_next_211 l_MD_265 k_MD_isDigit (mi_s k12.1 sf_170) rfl (by decide +kernel) (by decide) (Nat.le_of_ble_eq_true rfl) (s_MD_isDigit k12.1 ) (fun r h23 hq => ?_)
              obtain ⟨x25, rfl, bx25, xx25, rfl⟩ := hq
              refine A_if_eq (tgt := 224) d_MD_next_214 (by decide) (fun c26 => ?_) (fun c26 => ?_)
              · refine A_iload_n 2 d_MD_next_224 rfl rfl ?_
                refine A_bipush d_MD_next_225 rfl ?_
                have jp302 : aw G (rm_R 2 0 0) m_MD_next 0 0 302 [some (av_R (some 170)), some (av_I i3), some (av_I x18), none] [] h11 (fun r h' => ∃ z, r = some (av_I z) ∧ (1 ≤ z ∧ z ≤ 1) ∧ (h.2.1 170 3 ≤ h'.2.1 170 3 ∧ h'.2.1 170 3 ≤ h.2.1 170 2 ∧ (h'.2.1 170 4 ≠ 0 → h'.2.1 170 4 ≠ 6 → h.2.1 170 3 < h'.2.1 170 3) ∧ (h'.2.1 170 4 = 0 → h'.2.1 170 3 = h.2.1 170 2)) ∧ kM (pm [3, 4, 5, 6, 7, 8, 9, 10] []) h h') := by
                  refine A_iconst d_MD_next_302 rfl ?_
                  refine A_goto (tgt := 307) d_MD_next_303 (by decide) ?_
                  refine A_istore_n 3 (L' := [some (av_R (some 170)), some (av_I i3), some (av_I x18), some (av_I 1)]) d_MD_next_307 rfl (Nat.le_of_ble_eq_true rfl) rfl ?_
                  refine A_aload_n 0 d_MD_next_308 rfl rfl ?_
                  refine A_iload_n 3 d_MD_next_309 rfl rfl ?_
                  refine A_if_eq (tgt := 317) d_MD_next_310 (by decide) (fun c => absurd c (by decide)) (fun _ => ?_)
                  refine A_iconst d_MD_next_313 rfl ?_
                  refine A_goto (tgt := 319) d_MD_next_314 (by decide) ?_
                  refine A_putIk (KR := kM (pm [3, 4, 5, 6, 7, 8, 9, 10] []) h) T_ok d_MD_next_319 f_MD_239 (mi_s k12.1 sf_170) fin_f (kM_i k12 (by decide) (by decide) mr_170_4 (by omega) (by omega)) (fun h28 k29 eh28 => ?_)
                  refine A_aload_n 0 d_MD_next_322 rfl rfl ?_
                  refine A_iload_n 2 d_MD_next_323 rfl rfl ?_
                  refine A_putIk (KR := kM (pm [3, 4, 5, 6, 7, 8, 9, 10] []) h) T_ok d_MD_next_324 f_MD_271 (mi_s k29.1 sf_170) fin_f (kM_i k29 (by decide) (by decide) mr_170_6 (by omega) (by omega)) (fun h30 k31 eh30 => ?_)
                  refine A_aload_n 0 d_MD_next_327 rfl rfl ?_
                  refine A_pc (pc' := 328) rfl ?_
                  refine A_dupR d_MD_next_328 ?_
                  refine A_getIv (z := sd6) T_ok d_MD_next_329 f_MD_252 (mi_s k31.1 sf_170) ((eh30.1 _ _ (fun _ => by decide)).trans ((eh28.1 _ _ (fun _ => by decide)).trans ((eh11.1 _ _ (fun _ => by decide)).trans esd6.symm))) ?_
                  refine A_iconst d_MD_next_332 rfl ?_
                  refine A_iaddv (z := (sd6 + 1)) d_MD_next_333 (w32_to (by omega) (by unfold i32; omega)) ?_
                  refine A_putIk (KR := kM (pm [3, 4, 5, 6, 7, 8, 9, 10] []) h) T_ok d_MD_next_334 f_MD_252 (mi_s k31.1 sf_170) fin_f (kM_i k31 (by decide) (by decide) mr_170_3 (by omega) (by omega)) (fun h33 k34 eh33 => ?_)
                  refine A_iconst d_MD_next_337 rfl ?_
                  refine A_pc (pc' := 338) rfl ?_
                  exact A_zret d_MD_next_338 (by decide) rfl (by omega) ⟨_, rfl, ⟨by omega, by omega⟩, (by have qq0 := eh33.2.1; have qq1 := ((eh33.1 _ _ (fun _ => by decide)).trans ((eh30.1 _ _ (fun _ => by decide)).trans ((eh28.1 _ _ (fun _ => by decide)).trans ((eh11.1 _ _ (fun _ => by decide)).trans esd7.symm)))); have qq2 := ((eh33.1 _ _ (fun _ => by decide)).trans ((eh30.1 _ _ (fun _ => by decide)).trans eh28.2.1)); exact ⟨by omega, by omega, by omega, by omega⟩), k34⟩
                have jp307 : ∀ (j35 : Int) , 0 ≤ j35 → j35 ≤ 1 → aw G (rm_R 2 0 0) m_MD_next 0 0 307 [some (av_R (some 170)), some (av_I i3), some (av_I x18), none] [av_I j35] h11 (fun r h' => ∃ z, r = some (av_I z) ∧ (1 ≤ z ∧ z ≤ 1) ∧ (h.2.1 170 3 ≤ h'.2.1 170 3 ∧ h'.2.1 170 3 ≤ h.2.1 170 2 ∧ (h'.2.1 170 4 ≠ 0 → h'.2.1 170 4 ≠ 6 → h.2.1 170 3 < h'.2.1 170 3) ∧ (h'.2.1 170 4 = 0 → h'.2.1 170 3 = h.2.1 170 2)) ∧ kM (pm [3, 4, 5, 6, 7, 8, 9, 10] []) h h') := by
                  intro j35  _ _ 
                  refine A_istore_n 3 (L' := [some (av_R (some 170)), some (av_I i3), some (av_I x18), some (av_I j35)]) d_MD_next_307 rfl (Nat.le_of_ble_eq_true rfl) rfl ?_
                  refine A_aload_n 0 d_MD_next_308 rfl rfl ?_
                  refine A_iload_n 3 d_MD_next_309 rfl rfl ?_
                  have jp319 : ∀ (j36 : Int) , 5 ≤ j36 → j36 ≤ 6 → aw G (rm_R 2 0 0) m_MD_next 0 0 319 [some (av_R (some 170)), some (av_I i3), some (av_I x18), some (av_I j35)] [av_I j36, av_R (some 170)] h11 (fun r h' => ∃ z, r = some (av_I z) ∧ (1 ≤ z ∧ z ≤ 1) ∧ (h.2.1 170 3 ≤ h'.2.1 170 3 ∧ h'.2.1 170 3 ≤ h.2.1 170 2 ∧ (h'.2.1 170 4 ≠ 0 → h'.2.1 170 4 ≠ 6 → h.2.1 170 3 < h'.2.1 170 3) ∧ (h'.2.1 170 4 = 0 → h'.2.1 170 3 = h.2.1 170 2)) ∧ kM (pm [3, 4, 5, 6, 7, 8, 9, 10] []) h h') := by
                    intro j36  _ _ 
                    refine A_putIk (KR := kM (pm [3, 4, 5, 6, 7, 8, 9, 10] []) h) T_ok d_MD_next_319 f_MD_239 (mi_s k12.1 sf_170) fin_f (kM_i k12 (by decide) (by decide) mr_170_4 (by omega) (by omega)) (fun h37 k38 eh37 => ?_)
                    refine A_aload_n 0 d_MD_next_322 rfl rfl ?_
                    refine A_iload_n 2 d_MD_next_323 rfl rfl ?_
                    refine A_putIk (KR := kM (pm [3, 4, 5, 6, 7, 8, 9, 10] []) h) T_ok d_MD_next_324 f_MD_271 (mi_s k38.1 sf_170) fin_f (kM_i k38 (by decide) (by decide) mr_170_6 (by omega) (by omega)) (fun h39 k40 eh39 => ?_)
                    refine A_aload_n 0 d_MD_next_327 rfl rfl ?_
                    refine A_pc (pc' := 328) rfl ?_
                    refine A_dupR d_MD_next_328 ?_
                    refine A_getIv (z := sd6) T_ok d_MD_next_329 f_MD_252 (mi_s k40.1 sf_170) ((eh39.1 _ _ (fun _ => by decide)).trans ((eh37.1 _ _ (fun _ => by decide)).trans ((eh11.1 _ _ (fun _ => by decide)).trans esd6.symm))) ?_
                    refine A_iconst d_MD_next_332 rfl ?_
                    refine A_iaddv (z := (sd6 + 1)) d_MD_next_333 (w32_to (by omega) (by unfold i32; omega)) ?_
                    refine A_putIk (KR := kM (pm [3, 4, 5, 6, 7, 8, 9, 10] []) h) T_ok d_MD_next_334 f_MD_252 (mi_s k40.1 sf_170) fin_f (kM_i k40 (by decide) (by decide) mr_170_3 (by omega) (by omega)) (fun h42 k43 eh42 => ?_)
                    refine A_iconst d_MD_next_337 rfl ?_
                    refine A_pc (pc' := 338) rfl ?_
                    exact A_zret d_MD_next_338 (by decide) rfl (by omega) ⟨_, rfl, ⟨by omega, by omega⟩, (by have qq0 := eh42.2.1; have qq1 := ((eh42.1 _ _ (fun _ => by decide)).trans ((eh39.1 _ _ (fun _ => by decide)).trans ((eh37.1 _ _ (fun _ => by decide)).trans ((eh11.1 _ _ (fun _ => by decide)).trans esd7.symm)))); have qq2 := ((eh42.1 _ _ (fun _ => by decide)).trans ((eh39.1 _ _ (fun _ => by decide)).trans eh37.2.1)); exact ⟨by omega, by omega, by omega, by omega⟩), k43⟩
                  refine A_if_eq (tgt := 317) d_MD_next_310 (by decide) (fun c44 => ?_) (fun c44 => ?_)
                  · refine A_bipush d_MD_next_317 rfl ?_
                    refine A_pc (pc' := 319) rfl ?_
                    exact jp319 6 (by omega) (by omega)
                  · refine A_iconst d_MD_next_313 rfl ?_
                    refine A_goto (tgt := 319) d_MD_next_314 (by decide) ?_
                    refine A_pc (pc' := 319) rfl ?_
                    exact jp319 5 (by omega) (by omega)
                refine A_icmp_eq (tgt := 302) d_MD_next_227 (by decide) (fun c45 => ?_) (fun c45 => ?_)
                · refine A_pc (pc' := 302) rfl ?_
                  exact jp302 
                · refine A_iload_n 2 d_MD_next_230 rfl rfl ?_
                  refine A_bipush d_MD_next_231 rfl ?_
                  refine A_icmp_eq (tgt := 302) d_MD_next_233 (by decide) (fun c46 => ?_) (fun c46 => ?_)
                  · refine A_pc (pc' := 302) rfl ?_
                    exact jp302 
                  · refine A_iload_n 2 d_MD_next_236 rfl rfl ?_
                    refine A_bipush d_MD_next_237 rfl ?_
                    refine A_icmp_eq (tgt := 302) d_MD_next_239 (by decide) (fun c47 => ?_) (fun c47 => ?_)
                    · refine A_pc (pc' := 302) rfl ?_
                      exact jp302 
                    · refine A_iload_n 2 d_MD_next_242 rfl rfl ?_
                      refine A_bipush d_MD_next_243 rfl ?_
                      refine A_icmp_eq (tgt := 302) d_MD_next_245 (by decide) (fun c48 => ?_) (fun c48 => ?_)
                      · refine A_pc (pc' := 302) rfl ?_
                        exact jp302 
                      · refine A_iload_n 2 d_MD_next_248 rfl rfl ?_
                        refine A_bipush d_MD_next_249 rfl ?_
                        refine A_icmp_eq (tgt := 302) d_MD_next_251 (by decide) (fun c49 => ?_) (fun c49 => ?_)
                        · refine A_pc (pc' := 302) rfl ?_
                          exact jp302 
                        · refine A_iload_n 2 d_MD_next_254 rfl rfl ?_
                          refine A_bipush d_MD_next_255 rfl ?_
                          refine A_icmp_eq (tgt := 302) d_MD_next_257 (by decide) (fun c50 => ?_) (fun c50 => ?_)
                          · refine A_pc (pc' := 302) rfl ?_
                            exact jp302 
                          · refine A_iload_n 2 d_MD_next_260 rfl rfl ?_
                            refine A_bipush d_MD_next_261 rfl ?_
                            refine A_icmp_eq (tgt := 302) d_MD_next_263 (by decide) (fun c51 => ?_) (fun c51 => ?_)
                            · refine A_pc (pc' := 302) rfl ?_
                              exact jp302 
                            · refine A_iload_n 2 d_MD_next_266 rfl rfl ?_
                              refine A_bipush d_MD_next_267 rfl ?_
                              refine A_icmp_eq (tgt := 302) d_MD_next_269 (by decide) (fun c52 => ?_) (fun c52 => ?_)
                              · refine A_pc (pc' := 302) rfl ?_
                                exact jp302 
                              · refine A_iload_n 2 d_MD_next_272 rfl rfl ?_
                                refine A_bipush d_MD_next_273 rfl ?_
                                refine A_icmp_eq (tgt := 302) d_MD_next_275 (by decide) (fun c53 => ?_) (fun c53 => ?_)
                                · refine A_pc (pc' := 302) rfl ?_
                                  exact jp302 
                                · refine A_iload_n 2 d_MD_next_278 rfl rfl ?_
                                  refine A_bipush d_MD_next_279 rfl ?_
                                  refine A_icmp_eq (tgt := 302) d_MD_next_281 (by decide) (fun c54 => ?_) (fun c54 => ?_)
                                  · refine A_pc (pc' := 302) rfl ?_
                                    exact jp302 
                                  · refine A_iload_n 2 d_MD_next_284 rfl rfl ?_
                                    refine A_bipush d_MD_next_285 rfl ?_
                                    refine A_icmp_eq (tgt := 302) d_MD_next_287 (by decide) (fun c55 => ?_) (fun c55 => ?_)
                                    · refine A_pc (pc' := 302) rfl ?_
                                      exact jp302 
                                    · refine A_iload_n 2 d_MD_next_290 rfl rfl ?_
                                      refine A_bipush d_MD_next_291 rfl ?_
                                      refine A_icmp_eq (tgt := 302) d_MD_next_293 (by decide) (fun c56 => ?_) (fun c56 => ?_)
                                      · refine A_pc (pc' := 302) rfl ?_
                                        exact jp302 
                                      · refine A_iload_n 2 d_MD_next_296 rfl rfl ?_
                                        refine A_bipush d_MD_next_297 rfl ?_
                                        refine A_icmp_ne (tgt := 306) d_MD_next_299 (by decide) (fun c57 => ?_) (fun c57 => ?_)
                                        · refine A_iconst d_MD_next_306 rfl ?_
                                          refine A_pc (pc' := 307) rfl ?_
                                          exact jp307 0 (by omega) (by omega)
                                        · refine A_pc (pc' := 302) rfl ?_
                                          exact jp302 
              · refine A_aload_n 0 d_MD_next_217 rfl rfl ?_
                have zf59 := ((eh11.1 _ _ (fun _ => by decide)).trans esd6.symm)
                have zf60 := ((eh11.1 _ _ (fun _ => by decide)).trans esd7.symm)
                refine A_callV0 m_MD_number T_ok d_MD_next_218 l_MD_268 k_MD_number (mi_s k12.1 sf_170) rfl (by decide +kernel) (by decide) (Nat.le_of_ble_eq_true rfl) (s_MD_number k12.1 (by have qq0 := ((eh11.1 _ _ (fun _ => by decide)).trans esd6.symm); have qq1 := ((eh11.1 _ _ (fun _ => by decide)).trans esd7.symm); omega) (by rw [((eh11.1 _ _ (fun _ => by decide)).trans esd6.symm), ex18.symm]; exact ⟨by omega, by omega⟩)) (fun r h58 hq => ?_)
                obtain ⟨rfl, xk61, k61⟩ := hq
                have k62 := kM_t k12 k61 (pm_s (by decide) (by decide))
                obtain ⟨sd63, esd63⟩ : ∃ x, x = h58.2.1 170 3 := ⟨_, rfl⟩
                have rsd63 : 0 ≤ sd63 ∧ sd63 ≤ 2000 := (by rw [esd63]; exact mi_g k62.1 (by decide) mr_170_3)
                refine A_goto (tgt := 337) d_MD_next_221 (by decide) ?_
                refine A_iconst d_MD_next_337 rfl ?_
                exact A_zret d_MD_next_338 (by decide) rfl (by omega) ⟨_, rfl, ⟨by omega, by omega⟩, (by have qq0 := esd63.symm; have qq1 := ((k61.2.2.1 _ _ rfl).trans ((eh11.1 _ _ (fun _ => by decide)).trans esd7.symm)); exact ⟨by omega, by omega, by omega, by omega⟩), k62⟩
            · refine A_aload_n 0 d_MD_next_202 rfl rfl ?_
              have zf65 := ((eh11.1 _ _ (fun _ => by decide)).trans esd6.symm)
              have zf66 := ((eh11.1 _ _ (fun _ => by decide)).trans esd7.symm)
              refine A_callV0 m_MD_word T_ok d_MD_next_203 l_MD_262 k_MD_word (mi_s k12.1 sf_170) rfl (by decide +kernel) (by decide) (Nat.le_of_ble_eq_true rfl) (s_MD_word k12.1 (by have qq0 := ((eh11.1 _ _ (fun _ => by decide)).trans esd6.symm); have qq1 := ((eh11.1 _ _ (fun _ => by decide)).trans esd7.symm); omega) (by rw [((eh11.1 _ _ (fun _ => by decide)).trans esd6.symm), ex18.symm]; exact ⟨by omega, by omega⟩)) (fun r h64 hq => ?_)
              obtain ⟨rfl, xk67, k67⟩ := hq
              have k68 := kM_t k12 k67 (pm_s (by decide) (by decide))
              obtain ⟨sd69, esd69⟩ : ∃ x, x = h64.2.1 170 3 := ⟨_, rfl⟩
              have rsd69 : 0 ≤ sd69 ∧ sd69 ≤ 2000 := (by rw [esd69]; exact mi_g k68.1 (by decide) mr_170_3)
              refine A_goto (tgt := 337) d_MD_next_206 (by decide) ?_
              refine A_iconst d_MD_next_337 rfl ?_
              exact A_zret d_MD_next_338 (by decide) rfl (by omega) ⟨_, rfl, ⟨by omega, by omega⟩, (by have qq0 := esd69.symm; have qq1 := ((k67.2.2.1 _ _ rfl).trans ((eh11.1 _ _ (fun _ => by decide)).trans esd7.symm)); exact ⟨by omega, by omega, by omega, by omega⟩), k68⟩
          have jp337 : ∀ (h70 : ah_T) , kM (pm [3, 4, 5, 6, 7, 8, 9, 10] []) h h70 → aw G (rm_R 2 0 0) m_MD_next 0 0 337 [some (av_R (some 170)), some (av_I i3), some (av_I x18), none] [] h70 (fun r h' => ∃ z, r = some (av_I z) ∧ (1 ≤ z ∧ z ≤ 1) ∧ (h.2.1 170 3 ≤ h'.2.1 170 3 ∧ h'.2.1 170 3 ≤ h.2.1 170 2 ∧ (h'.2.1 170 4 ≠ 0 → h'.2.1 170 4 ≠ 6 → h.2.1 170 3 < h'.2.1 170 3) ∧ (h'.2.1 170 4 = 0 → h'.2.1 170 3 = h.2.1 170 2)) ∧ kM (pm [3, 4, 5, 6, 7, 8, 9, 10] []) h h') := by
            intro  h70  k71
            refine A_iconst d_MD_next_337 rfl ?_
            exact A_zret d_MD_next_338 (by decide) rfl (by omega) ⟨_, rfl, ⟨by omega, by omega⟩, (by exact ⟨by omega, by omega, by omega, by omega⟩), k71⟩
          refine A_icmp_lt (tgt := 194) d_MD_next_177 (by decide) (fun c72 => ?_) (fun c72 => ?_)
          · refine A_pc (pc' := 194) rfl ?_
            exact jp194 
          · refine A_iload_n 2 d_MD_next_180 rfl rfl ?_
            refine A_bipush d_MD_next_181 rfl ?_
            refine A_icmp_gt (tgt := 194) d_MD_next_183 (by decide) (fun c73 => ?_) (fun c73 => ?_)
            · refine A_pc (pc' := 194) rfl ?_
              exact jp194 
            · refine A_aload_n 0 d_MD_next_186 rfl rfl ?_
              refine A_iload_n 2 d_MD_next_187 rfl rfl ?_
              have zf75 := ((eh11.1 _ _ (fun _ => by decide)).trans esd6.symm)
              have zf76 := ((eh11.1 _ _ (fun _ => by decide)).trans esd7.symm)
              refine A_callV1 m_MD_pitch T_ok d_MD_next_188 l_MD_255 k_MD_pitch (mi_s k12.1 sf_170) rfl (by decide +kernel) (by decide) (Nat.le_of_ble_eq_true rfl) (s_MD_pitch k12.1 (by omega) (by omega) (by have qq0 := ((eh11.1 _ _ (fun _ => by decide)).trans esd6.symm); have qq1 := ((eh11.1 _ _ (fun _ => by decide)).trans esd7.symm); omega)) (fun r h74 hq => ?_)
              obtain ⟨rfl, xk77, k77⟩ := hq
              have k78 := kM_t k12 k77 (pm_s (by decide) (by decide))
              obtain ⟨sd79, esd79⟩ : ∃ x, x = h74.2.1 170 3 := ⟨_, rfl⟩
              have rsd79 : 0 ≤ sd79 ∧ sd79 ≤ 2000 := (by rw [esd79]; exact mi_g k78.1 (by decide) mr_170_3)
              refine A_goto (tgt := 337) d_MD_next_191 (by decide) ?_
              refine A_pc (pc' := 337) rfl ?_
              exact jp337 h74 k78
        · refine A_aload_n 0 d_MD_next_157 rfl rfl ?_
          refine A_iconst d_MD_next_158 rfl ?_
          refine A_putIk (KR := kM (pm [3, 4, 5, 6, 7, 8, 9, 10] []) h) T_ok d_MD_next_159 f_MD_239 (mi_s k12.1 sf_170) fin_f (kM_i k12 (by decide) (by decide) mr_170_4 (by omega) (by omega)) (fun h80 k81 eh80 => ?_)
          refine A_iconst d_MD_next_162 rfl ?_
          exact A_zret d_MD_next_163 (by decide) rfl (by omega) ⟨_, rfl, ⟨by omega, by omega⟩, (by have qq0 := ((eh80.1 _ _ (fun _ => by decide)).trans ((eh11.1 _ _ (fun _ => by decide)).trans esd6.symm)); have qq1 := ((eh80.1 _ _ (fun _ => by decide)).trans ((eh11.1 _ _ (fun _ => by decide)).trans esd7.symm)); have qq2 := eh80.2.1; exact ⟨by omega, by omega, by omega, by omega⟩), k81⟩
      refine A_icmp_ge (tgt := 138) d_MD_next_10 (by decide) (fun c82 => ?_) (fun c82 => ?_)
      · refine A_pc (pc' := 138) rfl ?_
        exact jp138 
      · refine A_iload_n 1 d_MD_next_13 rfl rfl ?_
        have jp87 : aw G (rm_R 2 0 0) m_MD_next 0 0 87 [some (av_R (some 170)), some (av_I i3), none, none] [] h4 (fun r h' => ∃ z, r = some (av_I z) ∧ (1 ≤ z ∧ z ≤ 1) ∧ (h.2.1 170 3 ≤ h'.2.1 170 3 ∧ h'.2.1 170 3 ≤ h.2.1 170 2 ∧ (h'.2.1 170 4 ≠ 0 → h'.2.1 170 4 ≠ 6 → h.2.1 170 3 < h'.2.1 170 3) ∧ (h'.2.1 170 4 = 0 → h'.2.1 170 3 = h.2.1 170 2)) ∧ kM (pm [3, 4, 5, 6, 7, 8, 9, 10] []) h h') := by
          refine A_aload_n 0 d_MD_next_87 rfl rfl ?_
          refine A_getAv (z := some 171) T_ok d_MD_next_88 f_MD_7 (mi_s k5.1 sf_170) (mi_r k5.1 rfm_0) ?_
          refine A_aload_n 0 d_MD_next_91 rfl rfl ?_
          refine A_getIv (z := sd6) T_ok d_MD_next_92 f_MD_252 (mi_s k5.1 sf_170) esd6.symm ?_
          refine A_ialoadn (lo := 0) (hi := 255) d_MD_next_95 (mi_s k5.1 sf_171) (by omega) (by omega) (mi_g k5.1 (by decide) (mr_171 _)) (fun x85 ex85 _ _ => ?_)
          refine A_pc (pc' := 96) rfl ?_
          refine A_bipush d_MD_next_96 rfl ?_
          have jp123 : aw G (rm_R 2 0 0) m_MD_next 0 0 123 [some (av_R (some 170)), some (av_I i3), none, none] [] h4 (fun r h' => ∃ z, r = some (av_I z) ∧ (1 ≤ z ∧ z ≤ 1) ∧ (h.2.1 170 3 ≤ h'.2.1 170 3 ∧ h'.2.1 170 3 ≤ h.2.1 170 2 ∧ (h'.2.1 170 4 ≠ 0 → h'.2.1 170 4 ≠ 6 → h.2.1 170 3 < h'.2.1 170 3) ∧ (h'.2.1 170 4 = 0 → h'.2.1 170 3 = h.2.1 170 2)) ∧ kM (pm [3, 4, 5, 6, 7, 8, 9, 10] []) h h') := by
            refine A_iconst d_MD_next_123 rfl ?_
            refine A_istore_n 1 (L' := [some (av_R (some 170)), some (av_I 0), none, none]) d_MD_next_124 rfl (Nat.le_of_ble_eq_true rfl) rfl ?_
            refine A_aload_n 0 d_MD_next_125 rfl rfl ?_
            refine A_dupR d_MD_next_126 ?_
            refine A_getIv (z := sd6) T_ok d_MD_next_127 f_MD_252 (mi_s k5.1 sf_170) esd6.symm ?_
            refine A_pc (pc' := 130) rfl ?_
            refine A_iconst d_MD_next_130 rfl ?_
            refine A_iaddv (z := (sd6 + 1)) d_MD_next_131 (w32_to (by omega) (by unfold i32; omega)) ?_
            refine A_putIk (KR := kM (pm [3, 4, 5, 6, 7, 8, 9, 10] []) h) T_ok d_MD_next_132 f_MD_252 (mi_s k5.1 sf_170) fin_f (kM_i k5 (by decide) (by decide) mr_170_3 (by omega) (by omega)) (fun h87 k88 eh87 => ?_)
            refine A_goto (tgt := 2) d_MD_next_135 (by decide) ?_
            exact ih2 0 h87 (by omega) (by omega) (by have qq0 := eh87.2.1; have qq1 := ((eh87.1 _ _ (fun _ => by decide)).trans esd7.symm); omega) k88 (by have qq0 := eh87.2.1; omega)
          have jp124 : ∀ (j89 : Int) , 0 ≤ j89 → j89 ≤ 1 → aw G (rm_R 2 0 0) m_MD_next 0 0 124 [some (av_R (some 170)), some (av_I i3), none, none] [av_I j89] h4 (fun r h' => ∃ z, r = some (av_I z) ∧ (1 ≤ z ∧ z ≤ 1) ∧ (h.2.1 170 3 ≤ h'.2.1 170 3 ∧ h'.2.1 170 3 ≤ h.2.1 170 2 ∧ (h'.2.1 170 4 ≠ 0 → h'.2.1 170 4 ≠ 6 → h.2.1 170 3 < h'.2.1 170 3) ∧ (h'.2.1 170 4 = 0 → h'.2.1 170 3 = h.2.1 170 2)) ∧ kM (pm [3, 4, 5, 6, 7, 8, 9, 10] []) h h') := by
            intro j89  _ _ 
            refine A_istore_n 1 (L' := [some (av_R (some 170)), some (av_I j89), none, none]) d_MD_next_124 rfl (Nat.le_of_ble_eq_true rfl) rfl ?_
            refine A_aload_n 0 d_MD_next_125 rfl rfl ?_
            refine A_dupR d_MD_next_126 ?_
            refine A_getIv (z := sd6) T_ok d_MD_next_127 f_MD_252 (mi_s k5.1 sf_170) esd6.symm ?_
            refine A_iconst d_MD_next_130 rfl ?_
            refine A_pc (pc' := 131) rfl ?_
            refine A_iaddv (z := (sd6 + 1)) d_MD_next_131 (w32_to (by omega) (by unfold i32; omega)) ?_
            refine A_putIk (KR := kM (pm [3, 4, 5, 6, 7, 8, 9, 10] []) h) T_ok d_MD_next_132 f_MD_252 (mi_s k5.1 sf_170) fin_f (kM_i k5 (by decide) (by decide) mr_170_3 (by omega) (by omega)) (fun h91 k92 eh91 => ?_)
            refine A_goto (tgt := 2) d_MD_next_135 (by decide) ?_
            exact ih2 j89 h91 (by omega) (by omega) (by have qq0 := eh91.2.1; have qq1 := ((eh91.1 _ _ (fun _ => by decide)).trans esd7.symm); omega) k92 (by have qq0 := eh91.2.1; omega)
          refine A_icmp_eq (tgt := 123) d_MD_next_98 (by decide) (fun c93 => ?_) (fun c93 => ?_)
          · refine A_pc (pc' := 123) rfl ?_
            exact jp123 
          · refine A_iload_n 1 d_MD_next_101 rfl rfl ?_
            refine A_if_ne (tgt := 119) d_MD_next_102 (by decide) (fun c => False.elim (by omega)) (fun c94 => ?_)
            refine A_aload_n 0 d_MD_next_105 rfl rfl ?_
            refine A_getAv (z := some 171) T_ok d_MD_next_106 f_MD_7 (mi_s k5.1 sf_170) (mi_r k5.1 rfm_0) ?_
            refine A_aload_n 0 d_MD_next_109 rfl rfl ?_
            refine A_getIv (z := sd6) T_ok d_MD_next_110 f_MD_252 (mi_s k5.1 sf_170) esd6.symm ?_
            refine A_ialoadv (z := x85) d_MD_next_113 (mi_s k5.1 sf_171) (by omega) (by omega) ex85.symm ?_
            refine A_pc (pc' := 114) rfl ?_
            refine A_bipush d_MD_next_114 rfl ?_
            refine A_icmp_ne (tgt := 123) d_MD_next_116 (by decide) (fun c98 => ?_) (fun c98 => ?_)
            · refine A_pc (pc' := 123) rfl ?_
              exact jp123 
            · refine A_iconst d_MD_next_119 rfl ?_
              refine A_goto (tgt := 124) d_MD_next_120 (by decide) ?_
              refine A_pc (pc' := 124) rfl ?_
              exact jp124 1 (by omega) (by omega)
        refine A_if_ne (tgt := 87) d_MD_next_14 (by decide) (fun c => False.elim (by omega)) (fun c99 => ?_)
        refine A_aload_n 0 d_MD_next_17 rfl rfl ?_
        refine A_getAv (z := some 171) T_ok d_MD_next_18 f_MD_7 (mi_s k5.1 sf_170) (mi_r k5.1 rfm_0) ?_
        refine A_aload_n 0 d_MD_next_21 rfl rfl ?_
        refine A_getIv (z := sd6) T_ok d_MD_next_22 f_MD_252 (mi_s k5.1 sf_170) esd6.symm ?_
        refine A_ialoadn (lo := 0) (hi := 255) d_MD_next_25 (mi_s k5.1 sf_171) (by omega) (by omega) (mi_g k5.1 (by decide) (mr_171 _)) (fun x102 ex102 _ _ => ?_)
        refine A_pc (pc' := 26) rfl ?_
        refine A_bipush d_MD_next_26 rfl ?_
        refine A_icmp_eq (tgt := 87) d_MD_next_28 (by decide) (fun c103 => ?_) (fun c103 => ?_)
        · refine A_pc (pc' := 87) rfl ?_
          exact jp87 
        · refine A_aload_n 0 d_MD_next_31 rfl rfl ?_
          refine A_getAv (z := some 171) T_ok d_MD_next_32 f_MD_7 (mi_s k5.1 sf_170) (mi_r k5.1 rfm_0) ?_
          refine A_aload_n 0 d_MD_next_35 rfl rfl ?_
          refine A_getIv (z := sd6) T_ok d_MD_next_36 f_MD_252 (mi_s k5.1 sf_170) esd6.symm ?_
          refine A_ialoadv (z := x102) d_MD_next_39 (mi_s k5.1 sf_171) (by omega) (by omega) ex102.symm ?_
          refine A_pc (pc' := 40) rfl ?_
          refine A_bipush d_MD_next_40 rfl ?_
          refine A_icmp_eq (tgt := 87) d_MD_next_42 (by decide) (fun c107 => ?_) (fun c107 => ?_)
          · refine A_pc (pc' := 87) rfl ?_
            exact jp87 
          · refine A_aload_n 0 d_MD_next_45 rfl rfl ?_
            refine A_getAv (z := some 171) T_ok d_MD_next_46 f_MD_7 (mi_s k5.1 sf_170) (mi_r k5.1 rfm_0) ?_
            refine A_aload_n 0 d_MD_next_49 rfl rfl ?_
            refine A_getIv (z := sd6) T_ok d_MD_next_50 f_MD_252 (mi_s k5.1 sf_170) esd6.symm ?_
            refine A_ialoadv (z := x102) d_MD_next_53 (mi_s k5.1 sf_171) (by omega) (by omega) ex102.symm ?_
            refine A_pc (pc' := 54) rfl ?_
            refine A_bipush d_MD_next_54 rfl ?_
            refine A_icmp_eq (tgt := 87) d_MD_next_56 (by decide) (fun c111 => ?_) (fun c111 => ?_)
            · refine A_pc (pc' := 87) rfl ?_
              exact jp87 
            · refine A_aload_n 0 d_MD_next_59 rfl rfl ?_
              refine A_getAv (z := some 171) T_ok d_MD_next_60 f_MD_7 (mi_s k5.1 sf_170) (mi_r k5.1 rfm_0) ?_
              refine A_aload_n 0 d_MD_next_63 rfl rfl ?_
              refine A_getIv (z := sd6) T_ok d_MD_next_64 f_MD_252 (mi_s k5.1 sf_170) esd6.symm ?_
              refine A_ialoadv (z := x102) d_MD_next_67 (mi_s k5.1 sf_171) (by omega) (by omega) ex102.symm ?_
              refine A_pc (pc' := 68) rfl ?_
              refine A_bipush d_MD_next_68 rfl ?_
              refine A_icmp_eq (tgt := 87) d_MD_next_70 (by decide) (fun c115 => ?_) (fun c115 => ?_)
              · refine A_pc (pc' := 87) rfl ?_
                exact jp87 
              · refine A_aload_n 0 d_MD_next_73 rfl rfl ?_
                refine A_getAv (z := some 171) T_ok d_MD_next_74 f_MD_7 (mi_s k5.1 sf_170) (mi_r k5.1 rfm_0) ?_
                refine A_aload_n 0 d_MD_next_77 rfl rfl ?_
                refine A_getIv (z := sd6) T_ok d_MD_next_78 f_MD_252 (mi_s k5.1 sf_170) esd6.symm ?_
                refine A_ialoadv (z := x102) d_MD_next_81 (mi_s k5.1 sf_171) (by omega) (by omega) ex102.symm ?_
                refine A_pc (pc' := 82) rfl ?_
                refine A_bipush d_MD_next_82 rfl ?_
                refine A_icmp_ne (tgt := 138) d_MD_next_84 (by decide) (fun c119 => ?_) (fun c119 => ?_)
                · refine A_pc (pc' := 138) rfl ?_
                  exact jp138 
                · refine A_pc (pc' := 87) rfl ?_
                  exact jp87 
  exact lp2 _ 0 h (by omega) (by omega) (by have qq0 := esd1.symm; have qq1 := esd2.symm; omega) k0 (Nat.lt_succ_self _)
theorem s_MD_isSign {G : cx_T} {h : ah_T} (hx : mi h) {a1 : Int}  : con G 0 0 0 m_MD_isSign [av_R (some 170), av_I a1] h (fun r h' => ∃ z, r = some (av_I z) ∧ (z = 0 ∨ z = 1) ∧ (z = 1 → h.2.1 170 4 = 5 ∧ h.2.1 170 6 = a1) ∧ h = h') := by
  refine con_of (L := [some (av_R (some 170)), some (av_I a1)]) (by decide +kernel) (Nat.le_of_ble_eq_true rfl) rfl ?_
  refine A_locI 1 rfl (fun ra => ?_)
  obtain ⟨_, _⟩ := ra
  refine A_aload_n 0 d_MD_isSign_0 rfl rfl ?_
  refine A_getIn (lo := 0) (hi := 6) T_ok d_MD_isSign_1 f_MD_239 (mi_s hx sf_170) (mi_g hx (by decide) mr_170_4) (fun x1 ex1 _ _ => ?_)
  refine A_iconst d_MD_isSign_4 rfl ?_
  refine A_icmp_ne (tgt := 20) d_MD_isSign_5 (by decide) (fun c2 => ?_) (fun c2 => ?_)
  · refine A_iconst d_MD_isSign_20 rfl ?_
    exact A_zret d_MD_isSign_21 (by decide) rfl (by omega) ⟨_, rfl, by omega, (fun _ => by have qq0 := ex1.symm; omega), rfl⟩
  · refine A_aload_n 0 d_MD_isSign_8 rfl rfl ?_
    refine A_getIn (lo := 0) (hi := 9999) T_ok d_MD_isSign_9 f_MD_271 (mi_s hx sf_170) (mi_g hx (by decide) mr_170_6) (fun x3 ex3 _ _ => ?_)
    refine A_iload_n 1 d_MD_isSign_12 rfl rfl ?_
    refine A_icmp_ne (tgt := 20) d_MD_isSign_13 (by decide) (fun c4 => ?_) (fun c4 => ?_)
    · refine A_iconst d_MD_isSign_20 rfl ?_
      exact A_zret d_MD_isSign_21 (by decide) rfl (by omega) ⟨_, rfl, by omega, (fun _ => by have qq0 := ex1.symm; have qq1 := ex3.symm; omega), rfl⟩
    · refine A_iconst d_MD_isSign_16 rfl ?_
      refine A_goto (tgt := 21) d_MD_isSign_17 (by decide) ?_
      exact A_zret d_MD_isSign_21 (by decide) rfl (by omega) ⟨_, rfl, by omega, (fun _ => by have qq0 := ex1.symm; have qq1 := ex3.symm; omega), rfl⟩
theorem s_MD_isWord {G : cx_T} {h : ah_T} (hx : mi h) {a1 : Int}  : con G 0 0 0 m_MD_isWord [av_R (some 170), av_I a1] h (fun r h' => ∃ z, r = some (av_I z) ∧ (z = 0 ∨ z = 1) ∧ (z = 1 → h.2.1 170 4 = 4 ∧ h.2.1 170 6 = a1) ∧ h = h') := by
  refine con_of (L := [some (av_R (some 170)), some (av_I a1)]) (by decide +kernel) (Nat.le_of_ble_eq_true rfl) rfl ?_
  refine A_locI 1 rfl (fun ra => ?_)
  obtain ⟨_, _⟩ := ra
  refine A_aload_n 0 d_MD_isWord_0 rfl rfl ?_
  refine A_getIn (lo := 0) (hi := 6) T_ok d_MD_isWord_1 f_MD_239 (mi_s hx sf_170) (mi_g hx (by decide) mr_170_4) (fun x1 ex1 _ _ => ?_)
  refine A_iconst d_MD_isWord_4 rfl ?_
  refine A_icmp_ne (tgt := 20) d_MD_isWord_5 (by decide) (fun c2 => ?_) (fun c2 => ?_)
  · refine A_iconst d_MD_isWord_20 rfl ?_
    exact A_zret d_MD_isWord_21 (by decide) rfl (by omega) ⟨_, rfl, by omega, (fun _ => by have qq0 := ex1.symm; omega), rfl⟩
  · refine A_aload_n 0 d_MD_isWord_8 rfl rfl ?_
    refine A_getIn (lo := 0) (hi := 9999) T_ok d_MD_isWord_9 f_MD_271 (mi_s hx sf_170) (mi_g hx (by decide) mr_170_6) (fun x3 ex3 _ _ => ?_)
    refine A_iload_n 1 d_MD_isWord_12 rfl rfl ?_
    refine A_icmp_ne (tgt := 20) d_MD_isWord_13 (by decide) (fun c4 => ?_) (fun c4 => ?_)
    · refine A_iconst d_MD_isWord_20 rfl ?_
      exact A_zret d_MD_isWord_21 (by decide) rfl (by omega) ⟨_, rfl, by omega, (fun _ => by have qq0 := ex1.symm; have qq1 := ex3.symm; omega), rfl⟩
    · refine A_iconst d_MD_isWord_16 rfl ?_
      refine A_goto (tgt := 21) d_MD_isWord_17 (by decide) ?_
      exact A_zret d_MD_isWord_21 (by decide) rfl (by omega) ⟨_, rfl, by omega, (fun _ => by have qq0 := ex1.symm; have qq1 := ex3.symm; omega), rfl⟩
theorem s_MD_want {G : cx_T} {h : ah_T} (hx : mi h) {a1 : Int} (hse : h.2.1 170 3 ≤ h.2.1 170 2) : con G 3 0 0 m_MD_want [av_R (some 170), av_I a1] h (fun r h' => ∃ z, r = some (av_I z) ∧ (z = 0 ∨ z = 1) ∧ (z = 1 → h.2.1 170 3 ≤ h'.2.1 170 3 ∧ h'.2.1 170 3 ≤ h.2.1 170 2 ∧ (h'.2.1 170 4 ≠ 0 → h'.2.1 170 4 ≠ 6 → h.2.1 170 3 < h'.2.1 170 3) ∧ (h'.2.1 170 4 = 0 → h'.2.1 170 3 = h.2.1 170 2)) ∧ kM (pm [3, 4, 5, 6, 7, 8, 9, 10, 11, 12] []) h h') := by
  refine con_of (L := [some (av_R (some 170)), some (av_I a1)]) (by decide +kernel) (Nat.le_of_ble_eq_true rfl) rfl ?_
  have k0 : kM (pm [3, 4, 5, 6, 7, 8, 9, 10, 11, 12] []) h h := kM_0 hx
  obtain ⟨sd1, esd1⟩ : ∃ x, x = h.2.1 170 3 := ⟨_, rfl⟩
  have rsd1 : 0 ≤ sd1 ∧ sd1 ≤ 2000 := (by rw [esd1]; exact mi_g k0.1 (by decide) mr_170_3)
  obtain ⟨sd2, esd2⟩ : ∃ x, x = h.2.1 170 2 := ⟨_, rfl⟩
  have rsd2 : 0 ≤ sd2 ∧ sd2 ≤ 2000 := (by rw [esd2]; exact mi_g k0.1 (by decide) mr_170_2)
  refine A_locI 1 rfl (fun ra => ?_)
  obtain ⟨_, _⟩ := ra
  refine A_aload_n 0 d_MD_want_0 rfl rfl ?_
  refine A_iload_n 1 d_MD_want_1 rfl rfl ?_
  refine A_callV1 m_MD_isSign T_ok d_MD_want_2 l_MD_306 k_MD_isSign (mi_s k0.1 sf_170) rfl (by decide +kernel) (by decide) (Nat.le_of_ble_eq_true rfl) (s_MD_isSign k0.1 ) (fun r h3 hq => ?_)
  obtain ⟨x5, rfl, bx5, xx5, rfl⟩ := hq
  refine A_if_eq (tgt := 15) d_MD_want_5 (by decide) (fun c6 => ?_) (fun c6 => ?_)
  · refine A_aload_n 0 d_MD_want_15 rfl rfl ?_
    have zf8 := esd1.symm
    have zf9 := esd2.symm
    refine A_callV0 m_MD_cant T_ok d_MD_want_16 l_MD_313 k_MD_cant (mi_s k0.1 sf_170) rfl (by decide +kernel) (by decide) (Nat.le_of_ble_eq_true rfl) (s_MD_cant k0.1 ) (fun r h7 hq => ?_)
    obtain ⟨x11, rfl, ⟨_, _⟩, k10⟩ := hq
    have k12 := kM_t k0 k10 (pm_s (by decide) (by decide))
    obtain rfl : x11 = 0 := by omega
    exact A_zret d_MD_want_19 (by decide) rfl (by omega) ⟨_, rfl, by omega, (fun _ => by have qq0 := ((k10.2.2.1 _ _ rfl).trans esd1.symm); have qq1 := ((k10.2.2.1 _ _ rfl).trans esd2.symm); exact ⟨by omega, by omega, by omega, by omega⟩), k12⟩
  · refine A_aload_n 0 d_MD_want_8 rfl rfl ?_
    have zf14 := esd1.symm
    have zf15 := esd2.symm
    refine A_callV0 m_MD_next T_ok d_MD_want_9 l_MD_309 k_MD_next (mi_s k0.1 sf_170) rfl (by decide +kernel) (by decide) (Nat.le_of_ble_eq_true rfl) (s_MD_next k0.1 (by have qq0 := esd1.symm; have qq1 := esd2.symm; omega)) (fun r h13 hq => ?_)
    obtain ⟨x17, rfl, ⟨_, _⟩, xx17, k16⟩ := hq
    have k18 := kM_t k0 k16 (pm_s (by decide) (by decide))
    obtain ⟨sd19, esd19⟩ : ∃ x, x = h13.2.1 170 3 := ⟨_, rfl⟩
    have rsd19 : 0 ≤ sd19 ∧ sd19 ≤ 2000 := (by rw [esd19]; exact mi_g k18.1 (by decide) mr_170_3)
    refine A_goto (tgt := 19) d_MD_want_12 (by decide) ?_
    exact A_zret d_MD_want_19 (by decide) rfl (by omega) ⟨_, rfl, by omega, (fun _ => by have qq0 := esd19.symm; have qq1 := ((k16.2.2.1 _ _ rfl).trans esd2.symm); exact ⟨by omega, by omega, by omega, by omega⟩), k18⟩
theorem s_MD_isPower {G : cx_T} {h : ah_T} {a1 : Int} {a2 : Int}  : con G 0 0 0 m_MD_isPower [av_R (some 170), av_I a1, av_I a2] h (fun r h' => ∃ z, r = some (av_I z) ∧ (z = 0 ∨ z = 1) ∧ (z = 1 → 1 ≤ a1 ∧ a1 ≤ a2) ∧ h = h') := by
  refine con_of (L := [some (av_R (some 170)), some (av_I a1), some (av_I a2)]) (by decide +kernel) (Nat.le_of_ble_eq_true rfl) rfl ?_
  refine A_locI 1 rfl (fun ra => ?_)
  obtain ⟨_, _⟩ := ra
  refine A_locI 2 rfl (fun ra => ?_)
  obtain ⟨_, _⟩ := ra
  refine A_iload_n 1 d_MD_isPower_0 rfl rfl ?_
  refine A_iconst d_MD_isPower_1 rfl ?_
  refine A_icmp_lt (tgt := 22) d_MD_isPower_2 (by decide) (fun c1 => ?_) (fun c1 => ?_)
  · refine A_iconst d_MD_isPower_22 rfl ?_
    exact A_zret d_MD_isPower_23 (by decide) rfl (by omega) ⟨_, rfl, by omega, (fun _ => by omega), rfl⟩
  · refine A_iload_n 1 d_MD_isPower_5 rfl rfl ?_
    refine A_iload_n 2 d_MD_isPower_6 rfl rfl ?_
    refine A_icmp_gt (tgt := 22) d_MD_isPower_7 (by decide) (fun c2 => ?_) (fun c2 => ?_)
    · refine A_iconst d_MD_isPower_22 rfl ?_
      exact A_zret d_MD_isPower_23 (by decide) rfl (by omega) ⟨_, rfl, by omega, (fun _ => by omega), rfl⟩
    · refine A_iload_n 1 d_MD_isPower_10 rfl rfl ?_
      refine A_iload_n 1 d_MD_isPower_11 rfl rfl ?_
      refine A_iconst d_MD_isPower_12 rfl ?_
      refine A_isubv (z := (a1 - 1)) d_MD_isPower_13 (w32_to (by omega) (by unfold i32; omega)) ?_
      refine A_iand d_MD_isPower_14 ?_
      refine A_nrI (fun x3 ex3 _ _ => ?_)
      refine A_pc (pc' := 15) rfl ?_
      refine A_if_ne (tgt := 22) d_MD_isPower_15 (by decide) (fun c4 => ?_) (fun c4 => ?_)
      · refine A_iconst d_MD_isPower_22 rfl ?_
        exact A_zret d_MD_isPower_23 (by decide) rfl (by omega) ⟨_, rfl, by omega, (fun _ => by omega), rfl⟩
      · refine A_iconst d_MD_isPower_18 rfl ?_
        refine A_goto (tgt := 23) d_MD_isPower_19 (by decide) ?_
        exact A_zret d_MD_isPower_23 (by decide) rfl (by omega) ⟨_, rfl, by omega, (fun _ => by omega), rfl⟩
theorem s_MD_timeItem {G : cx_T} {h : ah_T} (hx : mi h)  (hse : h.2.1 170 3 ≤ h.2.1 170 2) : con G 4 0 0 m_MD_timeItem [av_R (some 170)] h (fun r h' => ∃ z, r = some (av_I z) ∧ (z = 0 ∨ z = 1) ∧ (z = 1 → h.2.1 170 3 ≤ h'.2.1 170 3 ∧ h'.2.1 170 3 ≤ h.2.1 170 2 ∧ (h'.2.1 170 4 ≠ 0 → h'.2.1 170 4 ≠ 6 → h.2.1 170 3 < h'.2.1 170 3) ∧ (h'.2.1 170 4 = 0 → h'.2.1 170 3 = h.2.1 170 2)) ∧ kM (pm [3, 4, 5, 6, 7, 8, 9, 10, 11, 12, 59] [173, 174]) h h') := by
  refine con_of (L := [some (av_R (some 170))]) (by decide +kernel) (Nat.le_of_ble_eq_true rfl) rfl ?_
  have k0 : kM (pm [3, 4, 5, 6, 7, 8, 9, 10, 11, 12, 59] [173, 174]) h h := kM_0 hx
  obtain ⟨sd1, esd1⟩ : ∃ x, x = h.2.1 170 3 := ⟨_, rfl⟩
  have rsd1 : 0 ≤ sd1 ∧ sd1 ≤ 2000 := (by rw [esd1]; exact mi_g k0.1 (by decide) mr_170_3)
  obtain ⟨sd2, esd2⟩ : ∃ x, x = h.2.1 170 2 := ⟨_, rfl⟩
  have rsd2 : 0 ≤ sd2 ∧ sd2 ≤ 2000 := (by rw [esd2]; exact mi_g k0.1 (by decide) mr_170_2)
  refine A_aload_n 0 d_MD_timeItem_0 rfl rfl ?_
  refine A_getZn T_ok d_MD_timeItem_1 f_MD_316 (mi_s k0.1 sf_170) (fun x3 ex3 bx3 => ?_)
  refine A_if_eq (tgt := 17) d_MD_timeItem_4 (by decide) (fun c4 => ?_) (fun c4 => ?_)
  · refine A_aload_n 0 d_MD_timeItem_17 rfl rfl ?_
    refine A_iconst d_MD_timeItem_18 rfl ?_
    refine A_putZk (KR := kM (pm [3, 4, 5, 6, 7, 8, 9, 10, 11, 12, 59] [173, 174]) h) T_ok d_MD_timeItem_19 f_MD_316 (mi_s k0.1 sf_170) fin_f (by omega) (kM_i k0 (by decide) (by decide) mr_170_59 (by omega) (by omega)) (fun h5 k6 eh5 => ?_)
    refine A_aload_n 0 d_MD_timeItem_22 rfl rfl ?_
    have zf8 := ((eh5.1 _ _ (fun _ => by decide)).trans esd1.symm)
    have zf9 := ((eh5.1 _ _ (fun _ => by decide)).trans esd2.symm)
    refine A_callV0 m_MD_next T_ok d_MD_timeItem_23 l_MD_309 k_MD_next (mi_s k6.1 sf_170) rfl (by decide +kernel) (by decide) (Nat.le_of_ble_eq_true rfl) (s_MD_next k6.1 (by have qq0 := ((eh5.1 _ _ (fun _ => by decide)).trans esd1.symm); have qq1 := ((eh5.1 _ _ (fun _ => by decide)).trans esd2.symm); omega)) (fun r h7 hq => ?_)
    obtain ⟨x11, rfl, ⟨_, _⟩, xx11, k10⟩ := hq
    have k12 := kM_t k6 k10 (pm_s (by decide) (by decide))
    obtain ⟨sd13, esd13⟩ : ∃ x, x = h7.2.1 170 3 := ⟨_, rfl⟩
    have rsd13 : 0 ≤ sd13 ∧ sd13 ≤ 2000 := (by rw [esd13]; exact mi_g k12.1 (by decide) mr_170_3)
    refine A_popI d_MD_timeItem_26 ?_
    refine A_aload_n 0 d_MD_timeItem_27 rfl rfl ?_
    refine A_getIn (lo := 0) (hi := 6) T_ok d_MD_timeItem_28 f_MD_239 (mi_s k12.1 sf_170) (mi_g k12.1 (by decide) mr_170_4) (fun x14 ex14 _ _ => ?_)
    refine A_iconst d_MD_timeItem_31 rfl ?_
    refine A_icmp_eq (tgt := 40) d_MD_timeItem_32 (by decide) (fun c15 => ?_) (fun c15 => ?_)
    · refine A_aload_n 0 d_MD_timeItem_40 rfl rfl ?_
      refine A_getIn (lo := 0) (hi := 9999) T_ok d_MD_timeItem_41 f_MD_271 (mi_s k12.1 sf_170) (mi_g k12.1 (by decide) mr_170_6) (fun x16 ex16 _ _ => ?_)
      refine A_iconst d_MD_timeItem_44 rfl ?_
      refine A_icmp_lt (tgt := 57) d_MD_timeItem_45 (by decide) (fun c17 => ?_) (fun c17 => ?_)
      · refine A_aload_n 0 d_MD_timeItem_57 rfl rfl ?_
        refine A_iconst d_MD_timeItem_58 rfl ?_
        refine A_aload_n 0 d_MD_timeItem_59 rfl rfl ?_
        refine A_getIn (lo := 0) (hi := 2000) T_ok d_MD_timeItem_60 f_MD_242 (mi_s k12.1 sf_170) (mi_g k12.1 (by decide) mr_170_5) (fun x18 ex18 _ _ => ?_)
        have zf20 := esd13.symm
        have zf21 := ((k10.2.2.1 _ _ rfl).trans ((eh5.1 _ _ (fun _ => by decide)).trans esd2.symm))
        refine A_callV2 m_MD_wrong T_ok d_MD_timeItem_63 l_MD_245 k_MD_wrong (mi_s k12.1 sf_170) rfl (by decide +kernel) (by decide) (Nat.le_of_ble_eq_true rfl) (s_MD_wrong k12.1 (by omega) (by omega) (by omega) (by omega)) (fun r h19 hq => ?_)
        obtain ⟨x23, rfl, ⟨_, _⟩, k22⟩ := hq
        have k24 := kM_t k12 k22 (pm_s (by decide) (by decide))
        obtain rfl : x23 = 0 := by omega
        exact A_zret d_MD_timeItem_66 (by decide) rfl (by omega) ⟨_, rfl, by omega, (fun _ => by have qq0 := ((k22.2.2.1 _ _ rfl).trans esd13.symm); have qq1 := ((k22.2.2.1 _ _ rfl).trans ((k10.2.2.1 _ _ rfl).trans ((eh5.1 _ _ (fun _ => by decide)).trans esd2.symm))); have qq2 := ((k22.2.2.1 _ _ rfl).trans ex14.symm); exact ⟨by omega, by omega, by omega, by omega⟩), k24⟩
      · refine A_aload_n 0 d_MD_timeItem_48 rfl rfl ?_
        refine A_getIv (z := x16) T_ok d_MD_timeItem_49 f_MD_271 (mi_s k12.1 sf_170) ex16.symm ?_
        refine A_bipush d_MD_timeItem_52 rfl ?_
        refine A_icmp_le (tgt := 67) d_MD_timeItem_54 (by decide) (fun c26 => ?_) (fun c26 => ?_)
        · refine A_aload_n 0 d_MD_timeItem_67 rfl rfl ?_
          refine A_getAv (z := some 173) T_ok d_MD_timeItem_68 f_MD_20 (mi_s k12.1 sf_170) (mi_r k12.1 rfm_15) ?_
          refine A_iconst d_MD_timeItem_71 rfl ?_
          refine A_aload_n 0 d_MD_timeItem_72 rfl rfl ?_
          refine A_getIv (z := x16) T_ok d_MD_timeItem_73 f_MD_271 (mi_s k12.1 sf_170) ex16.symm ?_
          refine A_pc (pc' := 76) rfl ?_
          refine A_iastorek (KR := kM (pm [3, 4, 5, 6, 7, 8, 9, 10, 11, 12, 59] [173, 174]) h) d_MD_timeItem_76 (mi_s k12.1 sf_173) (by decide) (by decide) (kM_i k12 (by decide) rfl (mr_173 _) (by omega) (by omega)) (fun h29 k30 eh29 => ?_)
          refine A_aload_n 0 d_MD_timeItem_77 rfl rfl ?_
          have zf32 := ((eh29.1 _ _ (fun q => absurd q (by decide))).trans esd13.symm)
          have zf33 := ((eh29.1 _ _ (fun q => absurd q (by decide))).trans ((k10.2.2.1 _ _ rfl).trans ((eh5.1 _ _ (fun _ => by decide)).trans esd2.symm)))
          refine A_callV0 m_MD_next T_ok d_MD_timeItem_78 l_MD_309 k_MD_next (mi_s k30.1 sf_170) rfl (by decide +kernel) (by decide) (Nat.le_of_ble_eq_true rfl) (s_MD_next k30.1 (by have qq0 := ((eh29.1 _ _ (fun q => absurd q (by decide))).trans esd13.symm); have qq1 := ((eh29.1 _ _ (fun q => absurd q (by decide))).trans ((k10.2.2.1 _ _ rfl).trans ((eh5.1 _ _ (fun _ => by decide)).trans esd2.symm))); omega)) (fun r h31 hq => ?_)
          obtain ⟨x35, rfl, ⟨_, _⟩, xx35, k34⟩ := hq
          have k36 := kM_t k30 k34 (pm_s (by decide) (by decide))
          obtain ⟨sd37, esd37⟩ : ∃ x, x = h31.2.1 170 3 := ⟨_, rfl⟩
          have rsd37 : 0 ≤ sd37 ∧ sd37 ≤ 2000 := (by rw [esd37]; exact mi_g k36.1 (by decide) mr_170_3)
          refine A_popI d_MD_timeItem_81 ?_
          refine A_aload_n 0 d_MD_timeItem_82 rfl rfl ?_
          refine A_bipush d_MD_timeItem_83 rfl ?_
          have zf39 := esd37.symm
          have zf40 := ((k34.2.2.1 _ _ rfl).trans ((eh29.1 _ _ (fun q => absurd q (by decide))).trans ((k10.2.2.1 _ _ rfl).trans ((eh5.1 _ _ (fun _ => by decide)).trans esd2.symm))))
          refine A_callV1 m_MD_want T_ok d_MD_timeItem_85 l_MD_344 k_MD_want (mi_s k36.1 sf_170) rfl (by decide +kernel) (by decide) (Nat.le_of_ble_eq_true rfl) (s_MD_want k36.1 (by have qq0 := esd37.symm; have qq1 := ((k34.2.2.1 _ _ rfl).trans ((eh29.1 _ _ (fun q => absurd q (by decide))).trans ((k10.2.2.1 _ _ rfl).trans ((eh5.1 _ _ (fun _ => by decide)).trans esd2.symm)))); omega)) (fun r h38 hq => ?_)
          obtain ⟨x42, rfl, bx42, xx42, k41⟩ := hq
          have k43 := kM_t k36 k41 (pm_s (by decide) (by decide))
          obtain ⟨sd44, esd44⟩ : ∃ x, x = h38.2.1 170 3 := ⟨_, rfl⟩
          have rsd44 : 0 ≤ sd44 ∧ sd44 ≤ 2000 := (by rw [esd44]; exact mi_g k43.1 (by decide) mr_170_3)
          refine A_if_ne (tgt := 93) d_MD_timeItem_88 (by decide) (fun c45 => ?_) (fun c45 => ?_)
          · refine A_aload_n 0 d_MD_timeItem_93 rfl rfl ?_
            refine A_getIn (lo := 0) (hi := 6) T_ok d_MD_timeItem_94 f_MD_239 (mi_s k43.1 sf_170) (mi_g k43.1 (by decide) mr_170_4) (fun x46 ex46 _ _ => ?_)
            refine A_iconst d_MD_timeItem_97 rfl ?_
            refine A_icmp_eq (tgt := 106) d_MD_timeItem_98 (by decide) (fun c47 => ?_) (fun c47 => ?_)
            · refine A_aload_n 0 d_MD_timeItem_106 rfl rfl ?_
              refine A_aload_n 0 d_MD_timeItem_107 rfl rfl ?_
              refine A_getIn (lo := 0) (hi := 9999) T_ok d_MD_timeItem_108 f_MD_271 (mi_s k43.1 sf_170) (mi_g k43.1 (by decide) mr_170_6) (fun x48 ex48 _ _ => ?_)
              refine A_bipush d_MD_timeItem_111 rfl ?_
              refine A_callV2 m_MD_isPower T_ok d_MD_timeItem_113 l_MD_347 k_MD_isPower (mi_s k43.1 sf_170) rfl (by decide +kernel) (by decide) (Nat.le_of_ble_eq_true rfl) (s_MD_isPower  ) (fun r h49 hq => ?_)
              obtain ⟨x51, rfl, bx51, xx51, rfl⟩ := hq
              refine A_if_ne (tgt := 129) d_MD_timeItem_116 (by decide) (fun c52 => ?_) (fun c52 => ?_)
              · refine A_aload_n 0 d_MD_timeItem_129 rfl rfl ?_
                refine A_getAv (z := some 174) T_ok d_MD_timeItem_130 f_MD_23 (mi_s k43.1 sf_170) (mi_r k43.1 rfm_16) ?_
                refine A_iconst d_MD_timeItem_133 rfl ?_
                refine A_aload_n 0 d_MD_timeItem_134 rfl rfl ?_
                refine A_getIv (z := x48) T_ok d_MD_timeItem_135 f_MD_271 (mi_s k43.1 sf_170) ex48.symm ?_
                refine A_pc (pc' := 138) rfl ?_
                refine A_iastorek (KR := kM (pm [3, 4, 5, 6, 7, 8, 9, 10, 11, 12, 59] [173, 174]) h) d_MD_timeItem_138 (mi_s k43.1 sf_174) (by decide) (by decide) (kM_i k43 (by decide) rfl (mr_174 _) (by omega) (by omega)) (fun h55 k56 eh55 => ?_)
                refine A_aload_n 0 d_MD_timeItem_139 rfl rfl ?_
                have zf58 := ((eh55.1 _ _ (fun q => absurd q (by decide))).trans esd44.symm)
                have zf59 := ((eh55.1 _ _ (fun q => absurd q (by decide))).trans ((k41.2.2.1 _ _ rfl).trans ((k34.2.2.1 _ _ rfl).trans ((eh29.1 _ _ (fun q => absurd q (by decide))).trans ((k10.2.2.1 _ _ rfl).trans ((eh5.1 _ _ (fun _ => by decide)).trans esd2.symm))))))
                refine A_callV0 m_MD_next T_ok d_MD_timeItem_140 l_MD_309 k_MD_next (mi_s k56.1 sf_170) rfl (by decide +kernel) (by decide) (Nat.le_of_ble_eq_true rfl) (s_MD_next k56.1 (by have qq0 := ((eh55.1 _ _ (fun q => absurd q (by decide))).trans esd44.symm); have qq1 := ((eh55.1 _ _ (fun q => absurd q (by decide))).trans ((k41.2.2.1 _ _ rfl).trans ((k34.2.2.1 _ _ rfl).trans ((eh29.1 _ _ (fun q => absurd q (by decide))).trans ((k10.2.2.1 _ _ rfl).trans ((eh5.1 _ _ (fun _ => by decide)).trans esd2.symm)))))); omega)) (fun r h57 hq => ?_)
                obtain ⟨x61, rfl, ⟨_, _⟩, xx61, k60⟩ := hq
                have k62 := kM_t k56 k60 (pm_s (by decide) (by decide))
                obtain ⟨sd63, esd63⟩ : ∃ x, x = h57.2.1 170 3 := ⟨_, rfl⟩
                have rsd63 : 0 ≤ sd63 ∧ sd63 ≤ 2000 := (by rw [esd63]; exact mi_g k62.1 (by decide) mr_170_3)
                refine A_popI d_MD_timeItem_143 ?_
                refine A_aload_n 0 d_MD_timeItem_144 rfl rfl ?_
                refine A_bipush d_MD_timeItem_145 rfl ?_
                have zf65 := esd63.symm
                have zf66 := ((k60.2.2.1 _ _ rfl).trans ((eh55.1 _ _ (fun q => absurd q (by decide))).trans ((k41.2.2.1 _ _ rfl).trans ((k34.2.2.1 _ _ rfl).trans ((eh29.1 _ _ (fun q => absurd q (by decide))).trans ((k10.2.2.1 _ _ rfl).trans ((eh5.1 _ _ (fun _ => by decide)).trans esd2.symm)))))))
                refine A_callV1 m_MD_want T_ok d_MD_timeItem_147 l_MD_344 k_MD_want (mi_s k62.1 sf_170) rfl (by decide +kernel) (by decide) (Nat.le_of_ble_eq_true rfl) (s_MD_want k62.1 (by have qq0 := esd63.symm; have qq1 := ((k60.2.2.1 _ _ rfl).trans ((eh55.1 _ _ (fun q => absurd q (by decide))).trans ((k41.2.2.1 _ _ rfl).trans ((k34.2.2.1 _ _ rfl).trans ((eh29.1 _ _ (fun q => absurd q (by decide))).trans ((k10.2.2.1 _ _ rfl).trans ((eh5.1 _ _ (fun _ => by decide)).trans esd2.symm))))))); omega)) (fun r h64 hq => ?_)
                obtain ⟨x68, rfl, bx68, xx68, k67⟩ := hq
                have k69 := kM_t k62 k67 (pm_s (by decide) (by decide))
                obtain ⟨sd70, esd70⟩ : ∃ x, x = h64.2.1 170 3 := ⟨_, rfl⟩
                have rsd70 : 0 ≤ sd70 ∧ sd70 ≤ 2000 := (by rw [esd70]; exact mi_g k69.1 (by decide) mr_170_3)
                exact A_zret d_MD_timeItem_150 (by decide) rfl (by omega) ⟨_, rfl, by omega, (fun _ => by have qq0 := esd70.symm; have qq1 := ((k67.2.2.1 _ _ rfl).trans ((k60.2.2.1 _ _ rfl).trans ((eh55.1 _ _ (fun q => absurd q (by decide))).trans ((k41.2.2.1 _ _ rfl).trans ((k34.2.2.1 _ _ rfl).trans ((eh29.1 _ _ (fun q => absurd q (by decide))).trans ((k10.2.2.1 _ _ rfl).trans ((eh5.1 _ _ (fun _ => by decide)).trans esd2.symm)))))))); exact ⟨by omega, by omega, by omega, by omega⟩), k69⟩
              · refine A_aload_n 0 d_MD_timeItem_119 rfl rfl ?_
                refine A_iconst d_MD_timeItem_120 rfl ?_
                refine A_aload_n 0 d_MD_timeItem_121 rfl rfl ?_
                refine A_getIn (lo := 0) (hi := 2000) T_ok d_MD_timeItem_122 f_MD_242 (mi_s k43.1 sf_170) (mi_g k43.1 (by decide) mr_170_5) (fun x71 ex71 _ _ => ?_)
                have zf73 := esd44.symm
                have zf74 := ((k41.2.2.1 _ _ rfl).trans ((k34.2.2.1 _ _ rfl).trans ((eh29.1 _ _ (fun q => absurd q (by decide))).trans ((k10.2.2.1 _ _ rfl).trans ((eh5.1 _ _ (fun _ => by decide)).trans esd2.symm)))))
                refine A_callV2 m_MD_wrong T_ok d_MD_timeItem_125 l_MD_245 k_MD_wrong (mi_s k43.1 sf_170) rfl (by decide +kernel) (by decide) (Nat.le_of_ble_eq_true rfl) (s_MD_wrong k43.1 (by omega) (by omega) (by omega) (by omega)) (fun r h72 hq => ?_)
                obtain ⟨x76, rfl, ⟨_, _⟩, k75⟩ := hq
                have k77 := kM_t k43 k75 (pm_s (by decide) (by decide))
                obtain rfl : x76 = 0 := by omega
                exact A_zret d_MD_timeItem_128 (by decide) rfl (by omega) ⟨_, rfl, by omega, (fun _ => by have qq0 := ((k75.2.2.1 _ _ rfl).trans esd44.symm); have qq1 := ((k75.2.2.1 _ _ rfl).trans ((k41.2.2.1 _ _ rfl).trans ((k34.2.2.1 _ _ rfl).trans ((eh29.1 _ _ (fun q => absurd q (by decide))).trans ((k10.2.2.1 _ _ rfl).trans ((eh5.1 _ _ (fun _ => by decide)).trans esd2.symm)))))); have qq2 := ((k75.2.2.1 _ _ rfl).trans ex46.symm); exact ⟨by omega, by omega, by omega, by omega⟩), k77⟩
            · refine A_aload_n 0 d_MD_timeItem_101 rfl rfl ?_
              have zf79 := esd44.symm
              have zf80 := ((k41.2.2.1 _ _ rfl).trans ((k34.2.2.1 _ _ rfl).trans ((eh29.1 _ _ (fun q => absurd q (by decide))).trans ((k10.2.2.1 _ _ rfl).trans ((eh5.1 _ _ (fun _ => by decide)).trans esd2.symm)))))
              refine A_callV0 m_MD_cant T_ok d_MD_timeItem_102 l_MD_313 k_MD_cant (mi_s k43.1 sf_170) rfl (by decide +kernel) (by decide) (Nat.le_of_ble_eq_true rfl) (s_MD_cant k43.1 ) (fun r h78 hq => ?_)
              obtain ⟨x82, rfl, ⟨_, _⟩, k81⟩ := hq
              have k83 := kM_t k43 k81 (pm_s (by decide) (by decide))
              obtain rfl : x82 = 0 := by omega
              exact A_zret d_MD_timeItem_105 (by decide) rfl (by omega) ⟨_, rfl, by omega, (fun _ => by have qq0 := ((k81.2.2.1 _ _ rfl).trans esd44.symm); have qq1 := ((k81.2.2.1 _ _ rfl).trans ((k41.2.2.1 _ _ rfl).trans ((k34.2.2.1 _ _ rfl).trans ((eh29.1 _ _ (fun q => absurd q (by decide))).trans ((k10.2.2.1 _ _ rfl).trans ((eh5.1 _ _ (fun _ => by decide)).trans esd2.symm)))))); have qq2 := ((k81.2.2.1 _ _ rfl).trans ex46.symm); exact ⟨by omega, by omega, by omega, by omega⟩), k83⟩
          · refine A_iconst d_MD_timeItem_91 rfl ?_
            exact A_zret d_MD_timeItem_92 (by decide) rfl (by omega) ⟨_, rfl, by omega, (fun _ => by have qq0 := esd44.symm; have qq1 := ((k41.2.2.1 _ _ rfl).trans ((k34.2.2.1 _ _ rfl).trans ((eh29.1 _ _ (fun q => absurd q (by decide))).trans ((k10.2.2.1 _ _ rfl).trans ((eh5.1 _ _ (fun _ => by decide)).trans esd2.symm))))); exact ⟨by omega, by omega, by omega, by omega⟩), k43⟩
        · refine A_aload_n 0 d_MD_timeItem_57 rfl rfl ?_
          refine A_iconst d_MD_timeItem_58 rfl ?_
          refine A_aload_n 0 d_MD_timeItem_59 rfl rfl ?_
          refine A_getIn (lo := 0) (hi := 2000) T_ok d_MD_timeItem_60 f_MD_242 (mi_s k12.1 sf_170) (mi_g k12.1 (by decide) mr_170_5) (fun x84 ex84 _ _ => ?_)
          have zf86 := esd13.symm
          have zf87 := ((k10.2.2.1 _ _ rfl).trans ((eh5.1 _ _ (fun _ => by decide)).trans esd2.symm))
          refine A_callV2 m_MD_wrong T_ok d_MD_timeItem_63 l_MD_245 k_MD_wrong (mi_s k12.1 sf_170) rfl (by decide +kernel) (by decide) (Nat.le_of_ble_eq_true rfl) (s_MD_wrong k12.1 (by omega) (by omega) (by omega) (by omega)) (fun r h85 hq => ?_)
          obtain ⟨x89, rfl, ⟨_, _⟩, k88⟩ := hq
          have k90 := kM_t k12 k88 (pm_s (by decide) (by decide))
          obtain rfl : x89 = 0 := by omega
          exact A_zret d_MD_timeItem_66 (by decide) rfl (by omega) ⟨_, rfl, by omega, (fun _ => by have qq0 := ((k88.2.2.1 _ _ rfl).trans esd13.symm); have qq1 := ((k88.2.2.1 _ _ rfl).trans ((k10.2.2.1 _ _ rfl).trans ((eh5.1 _ _ (fun _ => by decide)).trans esd2.symm))); have qq2 := ((k88.2.2.1 _ _ rfl).trans ex14.symm); exact ⟨by omega, by omega, by omega, by omega⟩), k90⟩
    · refine A_aload_n 0 d_MD_timeItem_35 rfl rfl ?_
      have zf92 := esd13.symm
      have zf93 := ((k10.2.2.1 _ _ rfl).trans ((eh5.1 _ _ (fun _ => by decide)).trans esd2.symm))
      refine A_callV0 m_MD_cant T_ok d_MD_timeItem_36 l_MD_313 k_MD_cant (mi_s k12.1 sf_170) rfl (by decide +kernel) (by decide) (Nat.le_of_ble_eq_true rfl) (s_MD_cant k12.1 ) (fun r h91 hq => ?_)
      obtain ⟨x95, rfl, ⟨_, _⟩, k94⟩ := hq
      have k96 := kM_t k12 k94 (pm_s (by decide) (by decide))
      obtain rfl : x95 = 0 := by omega
      exact A_zret d_MD_timeItem_39 (by decide) rfl (by omega) ⟨_, rfl, by omega, (fun _ => by have qq0 := ((k94.2.2.1 _ _ rfl).trans esd13.symm); have qq1 := ((k94.2.2.1 _ _ rfl).trans ((k10.2.2.1 _ _ rfl).trans ((eh5.1 _ _ (fun _ => by decide)).trans esd2.symm))); have qq2 := ((k94.2.2.1 _ _ rfl).trans ex14.symm); exact ⟨by omega, by omega, by omega, by omega⟩), k96⟩
  · refine A_aload_n 0 d_MD_timeItem_7 rfl rfl ?_
    refine A_iconst d_MD_timeItem_8 rfl ?_
    refine A_aload_n 0 d_MD_timeItem_9 rfl rfl ?_
    refine A_getIn (lo := 0) (hi := 2000) T_ok d_MD_timeItem_10 f_MD_242 (mi_s k0.1 sf_170) (mi_g k0.1 (by decide) mr_170_5) (fun x97 ex97 _ _ => ?_)
    have zf99 := esd1.symm
    have zf100 := esd2.symm
    refine A_callV2 m_MD_wrong T_ok d_MD_timeItem_13 l_MD_245 k_MD_wrong (mi_s k0.1 sf_170) rfl (by decide +kernel) (by decide) (Nat.le_of_ble_eq_true rfl) (s_MD_wrong k0.1 (by omega) (by omega) (by omega) (by omega)) (fun r h98 hq => ?_)
    obtain ⟨x102, rfl, ⟨_, _⟩, k101⟩ := hq
    have k103 := kM_t k0 k101 (pm_s (by decide) (by decide))
    obtain rfl : x102 = 0 := by omega
    exact A_zret d_MD_timeItem_16 (by decide) rfl (by omega) ⟨_, rfl, by omega, (fun _ => by have qq0 := ((k101.2.2.1 _ _ rfl).trans esd1.symm); have qq1 := ((k101.2.2.1 _ _ rfl).trans esd2.symm); exact ⟨by omega, by omega, by omega, by omega⟩), k103⟩
theorem s_MD_lineItem {G : cx_T} {h : ah_T} (hx : mi h)  (hse : h.2.1 170 3 ≤ h.2.1 170 2) : con G 3 0 0 m_MD_lineItem [av_R (some 170)] h (fun r h' => ∃ z, r = some (av_I z) ∧ (z = 0 ∨ z = 1) ∧ (z = 1 → h.2.1 170 3 ≤ h'.2.1 170 3 ∧ h'.2.1 170 3 ≤ h.2.1 170 2 ∧ (h'.2.1 170 4 ≠ 0 → h'.2.1 170 4 ≠ 6 → h.2.1 170 3 < h'.2.1 170 3) ∧ (h'.2.1 170 4 = 0 → h'.2.1 170 3 = h.2.1 170 2)) ∧ kM (pm [3, 4, 5, 6, 7, 8, 9, 10, 11, 12, 60] [175, 176]) h h') := by
  refine con_of (L := [some (av_R (some 170))]) (by decide +kernel) (Nat.le_of_ble_eq_true rfl) rfl ?_
  have k0 : kM (pm [3, 4, 5, 6, 7, 8, 9, 10, 11, 12, 60] [175, 176]) h h := kM_0 hx
  obtain ⟨sd1, esd1⟩ : ∃ x, x = h.2.1 170 3 := ⟨_, rfl⟩
  have rsd1 : 0 ≤ sd1 ∧ sd1 ≤ 2000 := (by rw [esd1]; exact mi_g k0.1 (by decide) mr_170_3)
  obtain ⟨sd2, esd2⟩ : ∃ x, x = h.2.1 170 2 := ⟨_, rfl⟩
  have rsd2 : 0 ≤ sd2 ∧ sd2 ≤ 2000 := (by rw [esd2]; exact mi_g k0.1 (by decide) mr_170_2)
  refine A_aload_n 0 d_MD_lineItem_0 rfl rfl ?_
  refine A_getZn T_ok d_MD_lineItem_1 f_MD_320 (mi_s k0.1 sf_170) (fun x3 ex3 bx3 => ?_)
  refine A_if_eq (tgt := 17) d_MD_lineItem_4 (by decide) (fun c4 => ?_) (fun c4 => ?_)
  · refine A_aload_n 0 d_MD_lineItem_17 rfl rfl ?_
    refine A_iconst d_MD_lineItem_18 rfl ?_
    refine A_putZk (KR := kM (pm [3, 4, 5, 6, 7, 8, 9, 10, 11, 12, 60] [175, 176]) h) T_ok d_MD_lineItem_19 f_MD_320 (mi_s k0.1 sf_170) fin_f (by omega) (kM_i k0 (by decide) (by decide) mr_170_60 (by omega) (by omega)) (fun h5 k6 eh5 => ?_)
    refine A_aload_n 0 d_MD_lineItem_22 rfl rfl ?_
    have zf8 := ((eh5.1 _ _ (fun _ => by decide)).trans esd1.symm)
    have zf9 := ((eh5.1 _ _ (fun _ => by decide)).trans esd2.symm)
    refine A_callV0 m_MD_next T_ok d_MD_lineItem_23 l_MD_309 k_MD_next (mi_s k6.1 sf_170) rfl (by decide +kernel) (by decide) (Nat.le_of_ble_eq_true rfl) (s_MD_next k6.1 (by have qq0 := ((eh5.1 _ _ (fun _ => by decide)).trans esd1.symm); have qq1 := ((eh5.1 _ _ (fun _ => by decide)).trans esd2.symm); omega)) (fun r h7 hq => ?_)
    obtain ⟨x11, rfl, ⟨_, _⟩, xx11, k10⟩ := hq
    have k12 := kM_t k6 k10 (pm_s (by decide) (by decide))
    obtain ⟨sd13, esd13⟩ : ∃ x, x = h7.2.1 170 3 := ⟨_, rfl⟩
    have rsd13 : 0 ≤ sd13 ∧ sd13 ≤ 2000 := (by rw [esd13]; exact mi_g k12.1 (by decide) mr_170_3)
    refine A_popI d_MD_lineItem_26 ?_
    have lp27 : ∀ (n : Nat) (h14 : ah_T) , h.2.1 170 3 ≤ h14.2.1 170 3 ∧ h14.2.1 170 3 ≤ h.2.1 170 2 ∧ (h14.2.1 170 4 ≠ 0 → h14.2.1 170 4 ≠ 6 → h.2.1 170 3 < h14.2.1 170 3) ∧ (h14.2.1 170 4 = 0 → h14.2.1 170 3 = h.2.1 170 2) → kM (pm [3, 4, 5, 6, 7, 8, 9, 10, 11, 12, 60] [175, 176]) h h14 → (mu h14).toNat < n → aw G (rm_R 3 0 0) m_MD_lineItem 0 0 27 [some (av_R (some 170))] [] h14 (fun r h' => ∃ z, r = some (av_I z) ∧ (z = 0 ∨ z = 1) ∧ (z = 1 → h.2.1 170 3 ≤ h'.2.1 170 3 ∧ h'.2.1 170 3 ≤ h.2.1 170 2 ∧ (h'.2.1 170 4 ≠ 0 → h'.2.1 170 4 ≠ 6 → h.2.1 170 3 < h'.2.1 170 3) ∧ (h'.2.1 170 4 = 0 → h'.2.1 170 3 = h.2.1 170 2)) ∧ kM (pm [3, 4, 5, 6, 7, 8, 9, 10, 11, 12, 60] [175, 176]) h h') := by
      intro n
      induction n with
      | zero => intro h14 _ _ hm; omega
      | succ n ih27 =>
        intro h14  hinv k15 hm
        obtain ⟨sd16, esd16⟩ : ∃ x, x = h14.2.1 170 3 := ⟨_, rfl⟩
        have rsd16 : 0 ≤ sd16 ∧ sd16 ≤ 2000 := (by rw [esd16]; exact mi_g k15.1 (by decide) mr_170_3)
        obtain ⟨sd17, esd17⟩ : ∃ x, x = h14.2.1 170 2 := ⟨_, rfl⟩
        have rsd17 : 0 ≤ sd17 ∧ sd17 ≤ 2000 := (by rw [esd17]; exact mi_g k15.1 (by decide) mr_170_2)
        refine A_aload_n 0 d_MD_lineItem_27 rfl rfl ?_
        refine A_getIn (lo := 0) (hi := 6) T_ok d_MD_lineItem_28 f_MD_239 (mi_s k15.1 sf_170) (mi_g k15.1 (by decide) mr_170_4) (fun x18 ex18 _ _ => ?_)
        refine A_iconst d_MD_lineItem_31 rfl ?_
        refine A_icmp_eq (tgt := 40) d_MD_lineItem_32 (by decide) (fun c19 => ?_) (fun c19 => ?_)
        · refine A_aload_n 0 d_MD_lineItem_40 rfl rfl ?_
          refine A_getAv (z := some 175) T_ok d_MD_lineItem_41 f_MD_26 (mi_s k15.1 sf_170) (mi_r k15.1 rfm_17) ?_
          refine A_iconst d_MD_lineItem_44 rfl ?_
          refine A_ialoadn (lo := 0) (hi := 8) d_MD_lineItem_45 (mi_s k15.1 sf_175) (by decide) (by decide) (mi_g k15.1 (by decide) (mr_175 _)) (fun x21 ex21 _ _ => ?_)
          refine A_bipush d_MD_lineItem_46 rfl ?_
          refine A_pc (pc' := 48) rfl ?_
          refine A_icmp_ne (tgt := 61) d_MD_lineItem_48 (by decide) (fun c22 => ?_) (fun c22 => ?_)
          · refine A_aload_n 0 d_MD_lineItem_61 rfl rfl ?_
            refine A_getAv (z := some 176) T_ok d_MD_lineItem_62 f_MD_29 (mi_s k15.1 sf_170) (mi_r k15.1 rfm_18) ?_
            refine A_bipush d_MD_lineItem_65 rfl ?_
            refine A_aload_n 0 d_MD_lineItem_67 rfl rfl ?_
            refine A_getAv (z := some 175) T_ok d_MD_lineItem_68 f_MD_26 (mi_s k15.1 sf_170) (mi_r k15.1 rfm_17) ?_
            refine A_pc (pc' := 71) rfl ?_
            refine A_iconst d_MD_lineItem_71 rfl ?_
            refine A_ialoadv (z := x21) d_MD_lineItem_72 (mi_s k15.1 sf_175) (by decide) (by decide) ex21.symm ?_
            refine A_iaddv (z := (x21 + 8)) d_MD_lineItem_73 (w32_to (by omega) (by unfold i32; omega)) ?_
            refine A_aload_n 0 d_MD_lineItem_74 rfl rfl ?_
            refine A_getIn (lo := (-2)) (hi := 109) T_ok d_MD_lineItem_75 f_MD_284 (mi_s k15.1 sf_170) (mi_g k15.1 (by decide) mr_170_8) (fun x26 ex26 _ _ => ?_)
            refine A_iastorek (KR := kM (pm [3, 4, 5, 6, 7, 8, 9, 10, 11, 12, 60] [175, 176]) h) d_MD_lineItem_78 (mi_s k15.1 sf_176) (by omega) (by omega) (kM_i k15 (by decide) rfl (mr_176 _) (by omega) (by omega)) (fun h27 k28 eh27 => ?_)
            refine A_pc (pc' := 79) rfl ?_
            refine A_aload_n 0 d_MD_lineItem_79 rfl rfl ?_
            refine A_getAv (z := some 175) T_ok d_MD_lineItem_80 f_MD_26 (mi_s k28.1 sf_170) (mi_r k28.1 rfm_17) ?_
            refine A_iconst d_MD_lineItem_83 rfl ?_
            refine A_dup2RI d_MD_lineItem_84 ?_
            refine A_ialoadv (z := x21) d_MD_lineItem_85 (mi_s k28.1 sf_175) (by decide) (by decide) ((eh27.1 _ _ (fun q => absurd q (by decide))).trans ex21.symm) ?_
            refine A_iconst d_MD_lineItem_86 rfl ?_
            refine A_pc (pc' := 87) rfl ?_
            refine A_iaddv (z := (x21 + 1)) d_MD_lineItem_87 (w32_to (by omega) (by unfold i32; omega)) ?_
            refine A_iastorek (KR := kM (pm [3, 4, 5, 6, 7, 8, 9, 10, 11, 12, 60] [175, 176]) h) d_MD_lineItem_88 (mi_s k28.1 sf_175) (by decide) (by decide) (kM_i k28 (by decide) rfl (mr_175 _) (by omega) (by omega)) (fun h31 k32 eh31 => ?_)
            refine A_aload_n 0 d_MD_lineItem_89 rfl rfl ?_
            have zf34 := ((eh31.1 _ _ (fun q => absurd q (by decide))).trans ((eh27.1 _ _ (fun q => absurd q (by decide))).trans esd16.symm))
            have zf35 := ((eh31.1 _ _ (fun q => absurd q (by decide))).trans ((eh27.1 _ _ (fun q => absurd q (by decide))).trans esd17.symm))
            refine A_callV0 m_MD_next T_ok d_MD_lineItem_90 l_MD_309 k_MD_next (mi_s k32.1 sf_170) rfl (by decide +kernel) (by decide) (Nat.le_of_ble_eq_true rfl) (s_MD_next k32.1 (by have qq0 := ((eh31.1 _ _ (fun q => absurd q (by decide))).trans ((eh27.1 _ _ (fun q => absurd q (by decide))).trans esd16.symm)); have qq1 := ((eh31.1 _ _ (fun q => absurd q (by decide))).trans ((eh27.1 _ _ (fun q => absurd q (by decide))).trans esd17.symm)); omega)) (fun r h33 hq => ?_)
            obtain ⟨x37, rfl, ⟨_, _⟩, xx37, k36⟩ := hq
            have k38 := kM_t k32 k36 (pm_s (by decide) (by decide))
            obtain ⟨sd39, esd39⟩ : ∃ x, x = h33.2.1 170 3 := ⟨_, rfl⟩
            have rsd39 : 0 ≤ sd39 ∧ sd39 ≤ 2000 := (by rw [esd39]; exact mi_g k38.1 (by decide) mr_170_3)
            refine A_popI d_MD_lineItem_93 ?_
            refine A_aload_n 0 d_MD_lineItem_94 rfl rfl ?_
            refine A_bipush d_MD_lineItem_95 rfl ?_
            refine A_callV1 m_MD_isSign T_ok d_MD_lineItem_97 l_MD_306 k_MD_isSign (mi_s k38.1 sf_170) rfl (by decide +kernel) (by decide) (Nat.le_of_ble_eq_true rfl) (s_MD_isSign k38.1 ) (fun r h40 hq => ?_)
            obtain ⟨x42, rfl, bx42, xx42, rfl⟩ := hq
            refine A_if_eq (tgt := 27) d_MD_lineItem_100 (by decide) (fun c43 => ?_) (fun c43 => ?_)
            · exact ih27 h33 (by have qq0 := esd39.symm; have qq1 := ((k36.2.2.1 _ _ rfl).trans ((eh31.1 _ _ (fun q => absurd q (by decide))).trans ((eh27.1 _ _ (fun q => absurd q (by decide))).trans esd17.symm))); exact ⟨by omega, by omega, by omega, by omega⟩) k38 (by have qq0 := esd39.symm; have mm0 := mu_f h14; have mm1 := mu_f h33; omega)
            · refine A_aload_n 0 d_MD_lineItem_103 rfl rfl ?_
              have zf45 := esd39.symm
              have zf46 := ((k36.2.2.1 _ _ rfl).trans ((eh31.1 _ _ (fun q => absurd q (by decide))).trans ((eh27.1 _ _ (fun q => absurd q (by decide))).trans esd17.symm)))
              refine A_callV0 m_MD_next T_ok d_MD_lineItem_104 l_MD_309 k_MD_next (mi_s k38.1 sf_170) rfl (by decide +kernel) (by decide) (Nat.le_of_ble_eq_true rfl) (s_MD_next k38.1 (by have qq0 := esd39.symm; have qq1 := ((k36.2.2.1 _ _ rfl).trans ((eh31.1 _ _ (fun q => absurd q (by decide))).trans ((eh27.1 _ _ (fun q => absurd q (by decide))).trans esd17.symm))); omega)) (fun r h44 hq => ?_)
              obtain ⟨x48, rfl, ⟨_, _⟩, xx48, k47⟩ := hq
              have k49 := kM_t k38 k47 (pm_s (by decide) (by decide))
              obtain ⟨sd50, esd50⟩ : ∃ x, x = h44.2.1 170 3 := ⟨_, rfl⟩
              have rsd50 : 0 ≤ sd50 ∧ sd50 ≤ 2000 := (by rw [esd50]; exact mi_g k49.1 (by decide) mr_170_3)
              exact A_zret d_MD_lineItem_107 (by decide) rfl (by omega) ⟨_, rfl, by omega, (fun _ => by have qq0 := esd50.symm; have qq1 := ((k47.2.2.1 _ _ rfl).trans ((k36.2.2.1 _ _ rfl).trans ((eh31.1 _ _ (fun q => absurd q (by decide))).trans ((eh27.1 _ _ (fun q => absurd q (by decide))).trans esd17.symm)))); exact ⟨by omega, by omega, by omega, by omega⟩), k49⟩
          · refine A_aload_n 0 d_MD_lineItem_51 rfl rfl ?_
            refine A_iconst d_MD_lineItem_52 rfl ?_
            refine A_aload_n 0 d_MD_lineItem_53 rfl rfl ?_
            refine A_getIn (lo := 0) (hi := 2000) T_ok d_MD_lineItem_54 f_MD_242 (mi_s k15.1 sf_170) (mi_g k15.1 (by decide) mr_170_5) (fun x51 ex51 _ _ => ?_)
            have zf53 := esd16.symm
            have zf54 := esd17.symm
            refine A_callV2 m_MD_wrong T_ok d_MD_lineItem_57 l_MD_245 k_MD_wrong (mi_s k15.1 sf_170) rfl (by decide +kernel) (by decide) (Nat.le_of_ble_eq_true rfl) (s_MD_wrong k15.1 (by omega) (by omega) (by omega) (by omega)) (fun r h52 hq => ?_)
            obtain ⟨x56, rfl, ⟨_, _⟩, k55⟩ := hq
            have k57 := kM_t k15 k55 (pm_s (by decide) (by decide))
            obtain rfl : x56 = 0 := by omega
            exact A_zret d_MD_lineItem_60 (by decide) rfl (by omega) ⟨_, rfl, by omega, (fun _ => by have qq0 := ((k55.2.2.1 _ _ rfl).trans esd16.symm); have qq1 := ((k55.2.2.1 _ _ rfl).trans esd17.symm); have qq2 := ((k55.2.2.1 _ _ rfl).trans ex18.symm); exact ⟨by omega, by omega, by omega, by omega⟩), k57⟩
        · refine A_aload_n 0 d_MD_lineItem_35 rfl rfl ?_
          have zf59 := esd16.symm
          have zf60 := esd17.symm
          refine A_callV0 m_MD_cant T_ok d_MD_lineItem_36 l_MD_313 k_MD_cant (mi_s k15.1 sf_170) rfl (by decide +kernel) (by decide) (Nat.le_of_ble_eq_true rfl) (s_MD_cant k15.1 ) (fun r h58 hq => ?_)
          obtain ⟨x62, rfl, ⟨_, _⟩, k61⟩ := hq
          have k63 := kM_t k15 k61 (pm_s (by decide) (by decide))
          obtain rfl : x62 = 0 := by omega
          exact A_zret d_MD_lineItem_39 (by decide) rfl (by omega) ⟨_, rfl, by omega, (fun _ => by have qq0 := ((k61.2.2.1 _ _ rfl).trans esd16.symm); have qq1 := ((k61.2.2.1 _ _ rfl).trans esd17.symm); have qq2 := ((k61.2.2.1 _ _ rfl).trans ex18.symm); exact ⟨by omega, by omega, by omega, by omega⟩), k63⟩
    exact lp27 _ h7 (by have qq0 := esd13.symm; have qq1 := ((k10.2.2.1 _ _ rfl).trans ((eh5.1 _ _ (fun _ => by decide)).trans esd2.symm)); exact ⟨by omega, by omega, by omega, by omega⟩) k12 (Nat.lt_succ_self _)
  · refine A_aload_n 0 d_MD_lineItem_7 rfl rfl ?_
    refine A_iconst d_MD_lineItem_8 rfl ?_
    refine A_aload_n 0 d_MD_lineItem_9 rfl rfl ?_
    refine A_getIn (lo := 0) (hi := 2000) T_ok d_MD_lineItem_10 f_MD_242 (mi_s k0.1 sf_170) (mi_g k0.1 (by decide) mr_170_5) (fun x64 ex64 _ _ => ?_)
    have zf66 := esd1.symm
    have zf67 := esd2.symm
    refine A_callV2 m_MD_wrong T_ok d_MD_lineItem_13 l_MD_245 k_MD_wrong (mi_s k0.1 sf_170) rfl (by decide +kernel) (by decide) (Nat.le_of_ble_eq_true rfl) (s_MD_wrong k0.1 (by omega) (by omega) (by omega) (by omega)) (fun r h65 hq => ?_)
    obtain ⟨x69, rfl, ⟨_, _⟩, k68⟩ := hq
    have k70 := kM_t k0 k68 (pm_s (by decide) (by decide))
    obtain rfl : x69 = 0 := by omega
    exact A_zret d_MD_lineItem_16 (by decide) rfl (by omega) ⟨_, rfl, by omega, (fun _ => by have qq0 := ((k68.2.2.1 _ _ rfl).trans esd1.symm); have qq1 := ((k68.2.2.1 _ _ rfl).trans esd2.symm); exact ⟨by omega, by omega, by omega, by omega⟩), k70⟩
theorem s_MD_nameNumber {G : cx_T} {h : ah_T} (hx : mi h)   : con G 1 0 0 m_MD_nameNumber [av_R (some 170)] h (fun r h' => ∃ z, r = some (av_I z) ∧ ((-2) ≤ z ∧ z ≤ 15) ∧ kM (pm [11, 12] [183, 184]) h h') := by
  refine con_of (L := [some (av_R (some 170)), none]) (by decide +kernel) (Nat.le_of_ble_eq_true rfl) rfl ?_
  have k0 : kM (pm [11, 12] [183, 184]) h h := kM_0 hx
  refine A_iconst d_MD_nameNumber_0 rfl ?_
  refine A_istore_n 1 (L' := [some (av_R (some 170)), some (av_I 0)]) d_MD_nameNumber_1 rfl (Nat.le_of_ble_eq_true rfl) rfl ?_
  have lp2 : ∀ (n : Nat) (i1 : Int) , 0 ≤ i1 → i1 ≤ 16 → (17 - i1).toNat < n → aw G (rm_R 1 0 0) m_MD_nameNumber 0 0 2 [some (av_R (some 170)), some (av_I i1)] [] h (fun r h' => ∃ z, r = some (av_I z) ∧ ((-2) ≤ z ∧ z ≤ 15) ∧ kM (pm [11, 12] [183, 184]) h h') := by
    intro n
    induction n with
    | zero => intro i1 _ _ hm; omega
    | succ n ih2 =>
      intro i1 hl0 hl1 hm
      refine A_iload_n 1 d_MD_nameNumber_2 rfl rfl ?_
      refine A_aload_n 0 d_MD_nameNumber_3 rfl rfl ?_
      refine A_getAv (z := some 183) T_ok d_MD_nameNumber_4 f_MD_50 (mi_s k0.1 sf_170) (mi_r k0.1 rfm_25) ?_
      refine A_iconst d_MD_nameNumber_7 rfl ?_
      refine A_ialoadn (lo := 0) (hi := 16) d_MD_nameNumber_8 (mi_s k0.1 sf_183) (by decide) (by decide) (mi_g k0.1 (by decide) (mr_183 _)) (fun x3 ex3 _ _ => ?_)
      refine A_pc (pc' := 9) rfl ?_
      refine A_icmp_ge (tgt := 37) d_MD_nameNumber_9 (by decide) (fun c4 => ?_) (fun c4 => ?_)
      · refine A_aload_n 0 d_MD_nameNumber_37 rfl rfl ?_
        refine A_getAv (z := some 183) T_ok d_MD_nameNumber_38 f_MD_50 (mi_s k0.1 sf_170) (mi_r k0.1 rfm_25) ?_
        refine A_iconst d_MD_nameNumber_41 rfl ?_
        refine A_ialoadv (z := x3) d_MD_nameNumber_42 (mi_s k0.1 sf_183) (by decide) (by decide) ex3.symm ?_
        refine A_bipush d_MD_nameNumber_43 rfl ?_
        refine A_pc (pc' := 45) rfl ?_
        refine A_icmp_ne (tgt := 61) d_MD_nameNumber_45 (by decide) (fun c7 => ?_) (fun c7 => ?_)
        · refine A_aload_n 0 d_MD_nameNumber_61 rfl rfl ?_
          refine A_getAv (z := some 184) T_ok d_MD_nameNumber_62 f_MD_53 (mi_s k0.1 sf_170) (mi_r k0.1 rfm_26) ?_
          refine A_bipush d_MD_nameNumber_65 rfl ?_
          refine A_aload_n 0 d_MD_nameNumber_67 rfl rfl ?_
          refine A_getAv (z := some 183) T_ok d_MD_nameNumber_68 f_MD_50 (mi_s k0.1 sf_170) (mi_r k0.1 rfm_25) ?_
          refine A_pc (pc' := 71) rfl ?_
          refine A_iconst d_MD_nameNumber_71 rfl ?_
          refine A_ialoadv (z := x3) d_MD_nameNumber_72 (mi_s k0.1 sf_183) (by decide) (by decide) ex3.symm ?_
          refine A_iaddv (z := (x3 + 16)) d_MD_nameNumber_73 (w32_to (by omega) (by unfold i32; omega)) ?_
          refine A_aload_n 0 d_MD_nameNumber_74 rfl rfl ?_
          refine A_getLf T_ok d_MD_nameNumber_75 f_MD_290 (mi_s k0.1 sf_170) (fun x11 ex11 _ _ => ?_)
          refine A_lastorek (KR := kM (pm [11, 12] [183, 184]) h) d_MD_nameNumber_78 (mi_s k0.1 sf_184) (by omega) (by omega) (kM_l k0 (by decide) rfl (mq_184 _) (by omega) (by omega)) (fun h12 k13 eh12 => ?_)
          refine A_pc (pc' := 79) rfl ?_
          refine A_aload_n 0 d_MD_nameNumber_79 rfl rfl ?_
          refine A_getAv (z := some 183) T_ok d_MD_nameNumber_80 f_MD_50 (mi_s k13.1 sf_170) (mi_r k13.1 rfm_25) ?_
          refine A_iconst d_MD_nameNumber_83 rfl ?_
          refine A_dup2RI d_MD_nameNumber_84 ?_
          refine A_ialoadv (z := x3) d_MD_nameNumber_85 (mi_s k13.1 sf_183) (by decide) (by decide) ((congrFun (congrFun eh12.1 _) _).trans ex3.symm) ?_
          refine A_iconst d_MD_nameNumber_86 rfl ?_
          refine A_pc (pc' := 87) rfl ?_
          refine A_iaddv (z := (x3 + 1)) d_MD_nameNumber_87 (w32_to (by omega) (by unfold i32; omega)) ?_
          refine A_iastorek (KR := kM (pm [11, 12] [183, 184]) h) d_MD_nameNumber_88 (mi_s k13.1 sf_183) (by decide) (by decide) (kM_i k13 (by decide) rfl (mr_183 _) (by omega) (by omega)) (fun h16 k17 eh16 => ?_)
          refine A_aload_n 0 d_MD_nameNumber_89 rfl rfl ?_
          refine A_getAv (z := some 183) T_ok d_MD_nameNumber_90 f_MD_50 (mi_s k17.1 sf_170) (mi_r k17.1 rfm_25) ?_
          refine A_iconst d_MD_nameNumber_93 rfl ?_
          refine A_ialoadv (z := (x3 + 1)) d_MD_nameNumber_94 (mi_s k17.1 sf_183) (by decide) (by decide) eh16.2.1 ?_
          refine A_pc (pc' := 95) rfl ?_
          refine A_iconst d_MD_nameNumber_95 rfl ?_
          refine A_isubv (z := x3) d_MD_nameNumber_96 (w32_to (by omega) (by unfold i32; omega)) ?_
          exact A_iret d_MD_nameNumber_97 (by decide) rfl ⟨_, rfl, ⟨by omega, by omega⟩, k17⟩
        · refine A_aload_n 0 d_MD_nameNumber_48 rfl rfl ?_
          refine A_iconst d_MD_nameNumber_49 rfl ?_
          refine A_aload_n 0 d_MD_nameNumber_50 rfl rfl ?_
          refine A_getIn (lo := 0) (hi := 2000) T_ok d_MD_nameNumber_51 f_MD_242 (mi_s k0.1 sf_170) (mi_g k0.1 (by decide) mr_170_5) (fun x20 ex20 _ _ => ?_)
          refine A_callV2 m_MD_wrong T_ok d_MD_nameNumber_54 l_MD_245 k_MD_wrong (mi_s k0.1 sf_170) rfl (by decide +kernel) (by decide) (Nat.le_of_ble_eq_true rfl) (s_MD_wrong k0.1 (by omega) (by omega) (by omega) (by omega)) (fun r h21 hq => ?_)
          obtain ⟨x23, rfl, ⟨_, _⟩, k22⟩ := hq
          have k24 := kM_t k0 k22 (pm_s (by decide) (by decide))
          obtain rfl : x23 = 0 := by omega
          refine A_popI d_MD_nameNumber_57 ?_
          refine A_bipush d_MD_nameNumber_58 rfl ?_
          exact A_iret d_MD_nameNumber_60 (by decide) rfl ⟨_, rfl, ⟨by omega, by omega⟩, k24⟩
      · refine A_aload_n 0 d_MD_nameNumber_12 rfl rfl ?_
        refine A_getAv (z := some 184) T_ok d_MD_nameNumber_13 f_MD_53 (mi_s k0.1 sf_170) (mi_r k0.1 rfm_26) ?_
        refine A_bipush d_MD_nameNumber_16 rfl ?_
        refine A_iload_n 1 d_MD_nameNumber_18 rfl rfl ?_
        refine A_iaddv (z := (i1 + 16)) d_MD_nameNumber_19 (w32_to (by omega) (by unfold i32; omega)) ?_
        refine A_pc (pc' := 20) rfl ?_
        refine A_laloadf d_MD_nameNumber_20 (mi_s k0.1 sf_184) (by omega) (by omega) (fun x26 ex26 _ _ => ?_)
        refine A_aload_n 0 d_MD_nameNumber_21 rfl rfl ?_
        refine A_getLf T_ok d_MD_nameNumber_22 f_MD_290 (mi_s k0.1 sf_170) (fun x27 ex27 _ _ => ?_)
        refine A_lcmpn d_MD_nameNumber_25 (fun x28 lx28 ex28 gx28 _ _ => ?_)
        refine A_if_ne (tgt := 31) d_MD_nameNumber_26 (by decide) (fun c29 => ?_) (fun c29 => ?_)
        · have mc29 : (x26 - x27) ≠ 0 := by omega
          refine A_iincv (z := (i1 + 1)) (L' := [some (av_R (some 170)), some (av_I (i1 + 1))]) d_MD_nameNumber_31 rfl (w32_to (by omega) (by unfold i32; omega)) rfl ?_
          refine A_goto (tgt := 2) d_MD_nameNumber_34 (by decide) ?_
          exact ih2 (i1 + 1) (by omega) (by omega) (by omega)
        · have mc29 : (x26 - x27) = 0 := by omega
          refine A_iload_n 1 d_MD_nameNumber_29 rfl rfl ?_
          exact A_iret d_MD_nameNumber_30 (by decide) rfl ⟨_, rfl, ⟨by omega, by omega⟩, k0⟩
  exact lp2 _ 0 (by omega) (by omega) (Nat.lt_succ_self _)
theorem s_MD_ruleItem {G : cx_T} {h : ah_T} (hx : mi h)  (hse : h.2.1 170 3 ≤ h.2.1 170 2) : con G 4 0 0 m_MD_ruleItem [av_R (some 170)] h (fun r h' => ∃ z, r = some (av_I z) ∧ (z = 0 ∨ z = 1) ∧ (z = 1 → h.2.1 170 3 ≤ h'.2.1 170 3 ∧ h'.2.1 170 3 ≤ h.2.1 170 2 ∧ (h'.2.1 170 4 ≠ 0 → h'.2.1 170 4 ≠ 6 → h.2.1 170 3 < h'.2.1 170 3) ∧ (h'.2.1 170 4 = 0 → h'.2.1 170 3 = h.2.1 170 2)) ∧ kM (pm [3, 4, 5, 6, 7, 8, 9, 10, 11, 12] [177, 178, 179, 180, 183, 184]) h h') := by
  refine con_of (L := [some (av_R (some 170)), none]) (by decide +kernel) (Nat.le_of_ble_eq_true rfl) rfl ?_
  have k0 : kM (pm [3, 4, 5, 6, 7, 8, 9, 10, 11, 12] [177, 178, 179, 180, 183, 184]) h h := kM_0 hx
  obtain ⟨sd1, esd1⟩ : ∃ x, x = h.2.1 170 3 := ⟨_, rfl⟩
  have rsd1 : 0 ≤ sd1 ∧ sd1 ≤ 2000 := (by rw [esd1]; exact mi_g k0.1 (by decide) mr_170_3)
  obtain ⟨sd2, esd2⟩ : ∃ x, x = h.2.1 170 2 := ⟨_, rfl⟩
  have rsd2 : 0 ≤ sd2 ∧ sd2 ≤ 2000 := (by rw [esd2]; exact mi_g k0.1 (by decide) mr_170_2)
  refine A_aload_n 0 d_MD_ruleItem_0 rfl rfl ?_
  refine A_getAv (z := some 177) T_ok d_MD_ruleItem_1 f_MD_32 (mi_s k0.1 sf_170) (mi_r k0.1 rfm_19) ?_
  refine A_iconst d_MD_ruleItem_4 rfl ?_
  refine A_ialoadn (lo := 0) (hi := 24) d_MD_ruleItem_5 (mi_s k0.1 sf_177) (by decide) (by decide) (mi_g k0.1 (by decide) (mr_177 _)) (fun x4 ex4 _ _ => ?_)
  refine A_bipush d_MD_ruleItem_6 rfl ?_
  refine A_pc (pc' := 8) rfl ?_
  refine A_icmp_ne (tgt := 21) d_MD_ruleItem_8 (by decide) (fun c5 => ?_) (fun c5 => ?_)
  · refine A_bipush d_MD_ruleItem_21 rfl ?_
    refine A_aload_n 0 d_MD_ruleItem_23 rfl rfl ?_
    refine A_getAv (z := some 177) T_ok d_MD_ruleItem_24 f_MD_32 (mi_s k0.1 sf_170) (mi_r k0.1 rfm_19) ?_
    refine A_iconst d_MD_ruleItem_27 rfl ?_
    refine A_ialoadv (z := x4) d_MD_ruleItem_28 (mi_s k0.1 sf_177) (by decide) (by decide) ex4.symm ?_
    refine A_pc (pc' := 29) rfl ?_
    refine A_iaddv (z := (x4 + 24)) d_MD_ruleItem_29 (w32_to (by omega) (by unfold i32; omega)) ?_
    refine A_istore_n 1 (L' := [some (av_R (some 170)), some (av_I (x4 + 24))]) d_MD_ruleItem_30 rfl (Nat.le_of_ble_eq_true rfl) rfl ?_
    refine A_aload_n 0 d_MD_ruleItem_31 rfl rfl ?_
    have zf9 := esd1.symm
    have zf10 := esd2.symm
    refine A_callV0 m_MD_next T_ok d_MD_ruleItem_32 l_MD_309 k_MD_next (mi_s k0.1 sf_170) rfl (by decide +kernel) (by decide) (Nat.le_of_ble_eq_true rfl) (s_MD_next k0.1 (by have qq0 := esd1.symm; have qq1 := esd2.symm; omega)) (fun r h8 hq => ?_)
    obtain ⟨x12, rfl, ⟨_, _⟩, xx12, k11⟩ := hq
    have k13 := kM_t k0 k11 (pm_s (by decide) (by decide))
    obtain ⟨sd14, esd14⟩ : ∃ x, x = h8.2.1 170 3 := ⟨_, rfl⟩
    have rsd14 : 0 ≤ sd14 ∧ sd14 ≤ 2000 := (by rw [esd14]; exact mi_g k13.1 (by decide) mr_170_3)
    refine A_popI d_MD_ruleItem_35 ?_
    refine A_aload_n 0 d_MD_ruleItem_36 rfl rfl ?_
    refine A_getIn (lo := 0) (hi := 6) T_ok d_MD_ruleItem_37 f_MD_239 (mi_s k13.1 sf_170) (mi_g k13.1 (by decide) mr_170_4) (fun x15 ex15 _ _ => ?_)
    refine A_iconst d_MD_ruleItem_40 rfl ?_
    refine A_icmp_eq (tgt := 49) d_MD_ruleItem_41 (by decide) (fun c16 => ?_) (fun c16 => ?_)
    · refine A_aload_n 0 d_MD_ruleItem_49 rfl rfl ?_
      refine A_getAv (z := some 178) T_ok d_MD_ruleItem_50 f_MD_35 (mi_s k13.1 sf_170) (mi_r k13.1 rfm_20) ?_
      refine A_iload_n 1 d_MD_ruleItem_53 rfl rfl ?_
      refine A_aload_n 0 d_MD_ruleItem_54 rfl rfl ?_
      have zf19 := esd14.symm
      have zf20 := ((k11.2.2.1 _ _ rfl).trans esd2.symm)
      refine A_callV0 m_MD_nameNumber T_ok d_MD_ruleItem_55 l_MD_350 k_MD_nameNumber (mi_s k13.1 sf_170) rfl (by decide +kernel) (by decide) (Nat.le_of_ble_eq_true rfl) (s_MD_nameNumber k13.1 ) (fun r h18 hq => ?_)
      obtain ⟨x22, rfl, ⟨_, _⟩, k21⟩ := hq
      have k23 := kM_t k13 k21 (pm_s (by decide) (by decide))
      refine A_iastorek (KR := kM (pm [3, 4, 5, 6, 7, 8, 9, 10, 11, 12] [177, 178, 179, 180, 183, 184]) h) d_MD_ruleItem_58 (mi_s k23.1 sf_178) (by omega) (by omega) (kM_i k23 (by decide) rfl (mr_178 _) (by omega) (by omega)) (fun h24 k25 eh24 => ?_)
      refine A_aload_n 0 d_MD_ruleItem_59 rfl rfl ?_
      refine A_getAv (z := some 178) T_ok d_MD_ruleItem_60 f_MD_35 (mi_s k25.1 sf_170) (mi_r k25.1 rfm_20) ?_
      refine A_iload_n 1 d_MD_ruleItem_63 rfl rfl ?_
      refine A_ialoadv (z := x22) d_MD_ruleItem_64 (mi_s k25.1 sf_178) (by omega) (by omega) eh24.2.1 ?_
      refine A_pc (pc' := 65) rfl ?_
      refine A_if_ge (tgt := 70) d_MD_ruleItem_65 (by decide) (fun c28 => ?_) (fun c28 => ?_)
      · refine A_aload_n 0 d_MD_ruleItem_70 rfl rfl ?_
        have zf30 := ((eh24.1 _ _ (fun q => absurd q (by decide))).trans ((k21.2.2.1 _ _ rfl).trans esd14.symm))
        have zf31 := ((eh24.1 _ _ (fun q => absurd q (by decide))).trans ((k21.2.2.1 _ _ rfl).trans ((k11.2.2.1 _ _ rfl).trans esd2.symm)))
        refine A_callV0 m_MD_next T_ok d_MD_ruleItem_71 l_MD_309 k_MD_next (mi_s k25.1 sf_170) rfl (by decide +kernel) (by decide) (Nat.le_of_ble_eq_true rfl) (s_MD_next k25.1 (by have qq0 := ((eh24.1 _ _ (fun q => absurd q (by decide))).trans ((k21.2.2.1 _ _ rfl).trans esd14.symm)); have qq1 := ((eh24.1 _ _ (fun q => absurd q (by decide))).trans ((k21.2.2.1 _ _ rfl).trans ((k11.2.2.1 _ _ rfl).trans esd2.symm))); omega)) (fun r h29 hq => ?_)
        obtain ⟨x33, rfl, ⟨_, _⟩, xx33, k32⟩ := hq
        have k34 := kM_t k25 k32 (pm_s (by decide) (by decide))
        obtain ⟨sd35, esd35⟩ : ∃ x, x = h29.2.1 170 3 := ⟨_, rfl⟩
        have rsd35 : 0 ≤ sd35 ∧ sd35 ≤ 2000 := (by rw [esd35]; exact mi_g k34.1 (by decide) mr_170_3)
        refine A_popI d_MD_ruleItem_74 ?_
        refine A_aload_n 0 d_MD_ruleItem_75 rfl rfl ?_
        refine A_bipush d_MD_ruleItem_76 rfl ?_
        have zf37 := esd35.symm
        have zf38 := ((k32.2.2.1 _ _ rfl).trans ((eh24.1 _ _ (fun q => absurd q (by decide))).trans ((k21.2.2.1 _ _ rfl).trans ((k11.2.2.1 _ _ rfl).trans esd2.symm))))
        refine A_callV1 m_MD_want T_ok d_MD_ruleItem_78 l_MD_344 k_MD_want (mi_s k34.1 sf_170) rfl (by decide +kernel) (by decide) (Nat.le_of_ble_eq_true rfl) (s_MD_want k34.1 (by have qq0 := esd35.symm; have qq1 := ((k32.2.2.1 _ _ rfl).trans ((eh24.1 _ _ (fun q => absurd q (by decide))).trans ((k21.2.2.1 _ _ rfl).trans ((k11.2.2.1 _ _ rfl).trans esd2.symm)))); omega)) (fun r h36 hq => ?_)
        obtain ⟨x40, rfl, bx40, xx40, k39⟩ := hq
        have k41 := kM_t k34 k39 (pm_s (by decide) (by decide))
        obtain ⟨sd42, esd42⟩ : ∃ x, x = h36.2.1 170 3 := ⟨_, rfl⟩
        have rsd42 : 0 ≤ sd42 ∧ sd42 ≤ 2000 := (by rw [esd42]; exact mi_g k41.1 (by decide) mr_170_3)
        refine A_if_ne (tgt := 86) d_MD_ruleItem_81 (by decide) (fun c43 => ?_) (fun c43 => ?_)
        · refine A_aload_n 0 d_MD_ruleItem_86 rfl rfl ?_
          refine A_getIn (lo := 0) (hi := 6) T_ok d_MD_ruleItem_87 f_MD_239 (mi_s k41.1 sf_170) (mi_g k41.1 (by decide) mr_170_4) (fun x44 ex44 _ _ => ?_)
          refine A_iconst d_MD_ruleItem_90 rfl ?_
          refine A_icmp_eq (tgt := 99) d_MD_ruleItem_91 (by decide) (fun c45 => ?_) (fun c45 => ?_)
          · refine A_aload_n 0 d_MD_ruleItem_99 rfl rfl ?_
            refine A_getAv (z := some 179) T_ok d_MD_ruleItem_100 f_MD_38 (mi_s k41.1 sf_170) (mi_r k41.1 rfm_21) ?_
            refine A_iload_n 1 d_MD_ruleItem_103 rfl rfl ?_
            refine A_aload_n 0 d_MD_ruleItem_104 rfl rfl ?_
            have zf48 := esd42.symm
            have zf49 := ((k39.2.2.1 _ _ rfl).trans ((k32.2.2.1 _ _ rfl).trans ((eh24.1 _ _ (fun q => absurd q (by decide))).trans ((k21.2.2.1 _ _ rfl).trans ((k11.2.2.1 _ _ rfl).trans esd2.symm)))))
            refine A_callV0 m_MD_nameNumber T_ok d_MD_ruleItem_105 l_MD_350 k_MD_nameNumber (mi_s k41.1 sf_170) rfl (by decide +kernel) (by decide) (Nat.le_of_ble_eq_true rfl) (s_MD_nameNumber k41.1 ) (fun r h47 hq => ?_)
            obtain ⟨x51, rfl, ⟨_, _⟩, k50⟩ := hq
            have k52 := kM_t k41 k50 (pm_s (by decide) (by decide))
            refine A_iastorek (KR := kM (pm [3, 4, 5, 6, 7, 8, 9, 10, 11, 12] [177, 178, 179, 180, 183, 184]) h) d_MD_ruleItem_108 (mi_s k52.1 sf_179) (by omega) (by omega) (kM_i k52 (by decide) rfl (mr_179 _) (by omega) (by omega)) (fun h53 k54 eh53 => ?_)
            refine A_aload_n 0 d_MD_ruleItem_109 rfl rfl ?_
            refine A_getAv (z := some 179) T_ok d_MD_ruleItem_110 f_MD_38 (mi_s k54.1 sf_170) (mi_r k54.1 rfm_21) ?_
            refine A_iload_n 1 d_MD_ruleItem_113 rfl rfl ?_
            refine A_ialoadv (z := x51) d_MD_ruleItem_114 (mi_s k54.1 sf_179) (by omega) (by omega) eh53.2.1 ?_
            refine A_pc (pc' := 115) rfl ?_
            refine A_if_ge (tgt := 120) d_MD_ruleItem_115 (by decide) (fun c57 => ?_) (fun c57 => ?_)
            · refine A_aload_n 0 d_MD_ruleItem_120 rfl rfl ?_
              refine A_getAv (z := some 180) T_ok d_MD_ruleItem_121 f_MD_41 (mi_s k54.1 sf_170) (mi_r k54.1 rfm_22) ?_
              refine A_iload_n 1 d_MD_ruleItem_124 rfl rfl ?_
              refine A_bipush d_MD_ruleItem_125 rfl ?_
              refine A_iastorek (KR := kM (pm [3, 4, 5, 6, 7, 8, 9, 10, 11, 12] [177, 178, 179, 180, 183, 184]) h) d_MD_ruleItem_127 (mi_s k54.1 sf_180) (by omega) (by omega) (kM_i k54 (by decide) rfl (mr_180 _) (by omega) (by omega)) (fun h59 k60 eh59 => ?_)
              refine A_pc (pc' := 128) rfl ?_
              refine A_aload_n 0 d_MD_ruleItem_128 rfl rfl ?_
              have zf62 := ((eh59.1 _ _ (fun q => absurd q (by decide))).trans ((eh53.1 _ _ (fun q => absurd q (by decide))).trans ((k50.2.2.1 _ _ rfl).trans esd42.symm)))
              have zf63 := ((eh59.1 _ _ (fun q => absurd q (by decide))).trans ((eh53.1 _ _ (fun q => absurd q (by decide))).trans ((k50.2.2.1 _ _ rfl).trans ((k39.2.2.1 _ _ rfl).trans ((k32.2.2.1 _ _ rfl).trans ((eh24.1 _ _ (fun q => absurd q (by decide))).trans ((k21.2.2.1 _ _ rfl).trans ((k11.2.2.1 _ _ rfl).trans esd2.symm))))))))
              refine A_callV0 m_MD_next T_ok d_MD_ruleItem_129 l_MD_309 k_MD_next (mi_s k60.1 sf_170) rfl (by decide +kernel) (by decide) (Nat.le_of_ble_eq_true rfl) (s_MD_next k60.1 (by have qq0 := ((eh59.1 _ _ (fun q => absurd q (by decide))).trans ((eh53.1 _ _ (fun q => absurd q (by decide))).trans ((k50.2.2.1 _ _ rfl).trans esd42.symm))); have qq1 := ((eh59.1 _ _ (fun q => absurd q (by decide))).trans ((eh53.1 _ _ (fun q => absurd q (by decide))).trans ((k50.2.2.1 _ _ rfl).trans ((k39.2.2.1 _ _ rfl).trans ((k32.2.2.1 _ _ rfl).trans ((eh24.1 _ _ (fun q => absurd q (by decide))).trans ((k21.2.2.1 _ _ rfl).trans ((k11.2.2.1 _ _ rfl).trans esd2.symm)))))))); omega)) (fun r h61 hq => ?_)
              obtain ⟨x65, rfl, ⟨_, _⟩, xx65, k64⟩ := hq
              have k66 := kM_t k60 k64 (pm_s (by decide) (by decide))
              obtain ⟨sd67, esd67⟩ : ∃ x, x = h61.2.1 170 3 := ⟨_, rfl⟩
              have rsd67 : 0 ≤ sd67 ∧ sd67 ≤ 2000 := (by rw [esd67]; exact mi_g k66.1 (by decide) mr_170_3)
              refine A_popI d_MD_ruleItem_132 ?_
              refine A_aload_n 0 d_MD_ruleItem_133 rfl rfl ?_
              refine A_getIn (lo := 0) (hi := 6) T_ok d_MD_ruleItem_134 f_MD_239 (mi_s k66.1 sf_170) (mi_g k66.1 (by decide) mr_170_4) (fun x68 ex68 _ _ => ?_)
              refine A_iconst d_MD_ruleItem_137 rfl ?_
              refine A_icmp_ne (tgt := 167) d_MD_ruleItem_138 (by decide) (fun c69 => ?_) (fun c69 => ?_)
              · refine A_aload_n 0 d_MD_ruleItem_167 rfl rfl ?_
                refine A_getAv (z := some 177) T_ok d_MD_ruleItem_168 f_MD_32 (mi_s k66.1 sf_170) (mi_r k66.1 rfm_19) ?_
                refine A_iconst d_MD_ruleItem_171 rfl ?_
                refine A_dup2RI d_MD_ruleItem_172 ?_
                refine A_ialoadv (z := x4) d_MD_ruleItem_173 (mi_s k66.1 sf_177) (by decide) (by decide) ((k64.2.2.1 _ _ rfl).trans ((eh59.1 _ _ (fun q => absurd q (by decide))).trans ((eh53.1 _ _ (fun q => absurd q (by decide))).trans ((k50.2.2.1 _ _ rfl).trans ((k39.2.2.1 _ _ rfl).trans ((k32.2.2.1 _ _ rfl).trans ((eh24.1 _ _ (fun q => absurd q (by decide))).trans ((k21.2.2.1 _ _ rfl).trans ((k11.2.2.1 _ _ rfl).trans ex4.symm))))))))) ?_
                refine A_pc (pc' := 174) rfl ?_
                refine A_iconst d_MD_ruleItem_174 rfl ?_
                refine A_iaddv (z := (x4 + 1)) d_MD_ruleItem_175 (w32_to (by omega) (by unfold i32; omega)) ?_
                refine A_iastorek (KR := kM (pm [3, 4, 5, 6, 7, 8, 9, 10, 11, 12] [177, 178, 179, 180, 183, 184]) h) d_MD_ruleItem_176 (mi_s k66.1 sf_177) (by decide) (by decide) (kM_i k66 (by decide) rfl (mr_177 _) (by omega) (by omega)) (fun h72 k73 eh72 => ?_)
                refine A_aload_n 0 d_MD_ruleItem_177 rfl rfl ?_
                refine A_bipush d_MD_ruleItem_178 rfl ?_
                have zf75 := ((eh72.1 _ _ (fun q => absurd q (by decide))).trans esd67.symm)
                have zf76 := ((eh72.1 _ _ (fun q => absurd q (by decide))).trans ((k64.2.2.1 _ _ rfl).trans ((eh59.1 _ _ (fun q => absurd q (by decide))).trans ((eh53.1 _ _ (fun q => absurd q (by decide))).trans ((k50.2.2.1 _ _ rfl).trans ((k39.2.2.1 _ _ rfl).trans ((k32.2.2.1 _ _ rfl).trans ((eh24.1 _ _ (fun q => absurd q (by decide))).trans ((k21.2.2.1 _ _ rfl).trans ((k11.2.2.1 _ _ rfl).trans esd2.symm))))))))))
                refine A_callV1 m_MD_want T_ok d_MD_ruleItem_180 l_MD_344 k_MD_want (mi_s k73.1 sf_170) rfl (by decide +kernel) (by decide) (Nat.le_of_ble_eq_true rfl) (s_MD_want k73.1 (by have qq0 := ((eh72.1 _ _ (fun q => absurd q (by decide))).trans esd67.symm); have qq1 := ((eh72.1 _ _ (fun q => absurd q (by decide))).trans ((k64.2.2.1 _ _ rfl).trans ((eh59.1 _ _ (fun q => absurd q (by decide))).trans ((eh53.1 _ _ (fun q => absurd q (by decide))).trans ((k50.2.2.1 _ _ rfl).trans ((k39.2.2.1 _ _ rfl).trans ((k32.2.2.1 _ _ rfl).trans ((eh24.1 _ _ (fun q => absurd q (by decide))).trans ((k21.2.2.1 _ _ rfl).trans ((k11.2.2.1 _ _ rfl).trans esd2.symm)))))))))); omega)) (fun r h74 hq => ?_)
                obtain ⟨x78, rfl, bx78, xx78, k77⟩ := hq
                have k79 := kM_t k73 k77 (pm_s (by decide) (by decide))
                obtain ⟨sd80, esd80⟩ : ∃ x, x = h74.2.1 170 3 := ⟨_, rfl⟩
                have rsd80 : 0 ≤ sd80 ∧ sd80 ≤ 2000 := (by rw [esd80]; exact mi_g k79.1 (by decide) mr_170_3)
                exact A_zret d_MD_ruleItem_183 (by decide) rfl (by omega) ⟨_, rfl, by omega, (fun _ => by have qq0 := esd80.symm; have qq1 := ((k77.2.2.1 _ _ rfl).trans ((eh72.1 _ _ (fun q => absurd q (by decide))).trans ((k64.2.2.1 _ _ rfl).trans ((eh59.1 _ _ (fun q => absurd q (by decide))).trans ((eh53.1 _ _ (fun q => absurd q (by decide))).trans ((k50.2.2.1 _ _ rfl).trans ((k39.2.2.1 _ _ rfl).trans ((k32.2.2.1 _ _ rfl).trans ((eh24.1 _ _ (fun q => absurd q (by decide))).trans ((k21.2.2.1 _ _ rfl).trans ((k11.2.2.1 _ _ rfl).trans esd2.symm))))))))))); exact ⟨by omega, by omega, by omega, by omega⟩), k79⟩
              · refine A_aload_n 0 d_MD_ruleItem_141 rfl rfl ?_
                refine A_getAv (z := some 180) T_ok d_MD_ruleItem_142 f_MD_41 (mi_s k66.1 sf_170) (mi_r k66.1 rfm_22) ?_
                refine A_iload_n 1 d_MD_ruleItem_145 rfl rfl ?_
                refine A_aload_n 0 d_MD_ruleItem_146 rfl rfl ?_
                have zf83 := esd67.symm
                have zf84 := ((k64.2.2.1 _ _ rfl).trans ((eh59.1 _ _ (fun q => absurd q (by decide))).trans ((eh53.1 _ _ (fun q => absurd q (by decide))).trans ((k50.2.2.1 _ _ rfl).trans ((k39.2.2.1 _ _ rfl).trans ((k32.2.2.1 _ _ rfl).trans ((eh24.1 _ _ (fun q => absurd q (by decide))).trans ((k21.2.2.1 _ _ rfl).trans ((k11.2.2.1 _ _ rfl).trans esd2.symm)))))))))
                refine A_callV0 m_MD_nameNumber T_ok d_MD_ruleItem_147 l_MD_350 k_MD_nameNumber (mi_s k66.1 sf_170) rfl (by decide +kernel) (by decide) (Nat.le_of_ble_eq_true rfl) (s_MD_nameNumber k66.1 ) (fun r h82 hq => ?_)
                obtain ⟨x86, rfl, ⟨_, _⟩, k85⟩ := hq
                have k87 := kM_t k66 k85 (pm_s (by decide) (by decide))
                refine A_iastorek (KR := kM (pm [3, 4, 5, 6, 7, 8, 9, 10, 11, 12] [177, 178, 179, 180, 183, 184]) h) d_MD_ruleItem_150 (mi_s k87.1 sf_180) (by omega) (by omega) (kM_i k87 (by decide) rfl (mr_180 _) (by omega) (by omega)) (fun h88 k89 eh88 => ?_)
                refine A_aload_n 0 d_MD_ruleItem_151 rfl rfl ?_
                refine A_getAv (z := some 180) T_ok d_MD_ruleItem_152 f_MD_41 (mi_s k89.1 sf_170) (mi_r k89.1 rfm_22) ?_
                refine A_iload_n 1 d_MD_ruleItem_155 rfl rfl ?_
                refine A_ialoadv (z := x86) d_MD_ruleItem_156 (mi_s k89.1 sf_180) (by omega) (by omega) eh88.2.1 ?_
                refine A_pc (pc' := 157) rfl ?_
                refine A_if_ge (tgt := 162) d_MD_ruleItem_157 (by decide) (fun c92 => ?_) (fun c92 => ?_)
                · refine A_aload_n 0 d_MD_ruleItem_162 rfl rfl ?_
                  have zf94 := ((eh88.1 _ _ (fun q => absurd q (by decide))).trans ((k85.2.2.1 _ _ rfl).trans esd67.symm))
                  have zf95 := ((eh88.1 _ _ (fun q => absurd q (by decide))).trans ((k85.2.2.1 _ _ rfl).trans ((k64.2.2.1 _ _ rfl).trans ((eh59.1 _ _ (fun q => absurd q (by decide))).trans ((eh53.1 _ _ (fun q => absurd q (by decide))).trans ((k50.2.2.1 _ _ rfl).trans ((k39.2.2.1 _ _ rfl).trans ((k32.2.2.1 _ _ rfl).trans ((eh24.1 _ _ (fun q => absurd q (by decide))).trans ((k21.2.2.1 _ _ rfl).trans ((k11.2.2.1 _ _ rfl).trans esd2.symm)))))))))))
                  refine A_callV0 m_MD_next T_ok d_MD_ruleItem_163 l_MD_309 k_MD_next (mi_s k89.1 sf_170) rfl (by decide +kernel) (by decide) (Nat.le_of_ble_eq_true rfl) (s_MD_next k89.1 (by have qq0 := ((eh88.1 _ _ (fun q => absurd q (by decide))).trans ((k85.2.2.1 _ _ rfl).trans esd67.symm)); have qq1 := ((eh88.1 _ _ (fun q => absurd q (by decide))).trans ((k85.2.2.1 _ _ rfl).trans ((k64.2.2.1 _ _ rfl).trans ((eh59.1 _ _ (fun q => absurd q (by decide))).trans ((eh53.1 _ _ (fun q => absurd q (by decide))).trans ((k50.2.2.1 _ _ rfl).trans ((k39.2.2.1 _ _ rfl).trans ((k32.2.2.1 _ _ rfl).trans ((eh24.1 _ _ (fun q => absurd q (by decide))).trans ((k21.2.2.1 _ _ rfl).trans ((k11.2.2.1 _ _ rfl).trans esd2.symm))))))))))); omega)) (fun r h93 hq => ?_)
                  obtain ⟨x97, rfl, ⟨_, _⟩, xx97, k96⟩ := hq
                  have k98 := kM_t k89 k96 (pm_s (by decide) (by decide))
                  obtain ⟨sd99, esd99⟩ : ∃ x, x = h93.2.1 170 3 := ⟨_, rfl⟩
                  have rsd99 : 0 ≤ sd99 ∧ sd99 ≤ 2000 := (by rw [esd99]; exact mi_g k98.1 (by decide) mr_170_3)
                  refine A_popI d_MD_ruleItem_166 ?_
                  refine A_aload_n 0 d_MD_ruleItem_167 rfl rfl ?_
                  refine A_getAv (z := some 177) T_ok d_MD_ruleItem_168 f_MD_32 (mi_s k98.1 sf_170) (mi_r k98.1 rfm_19) ?_
                  refine A_iconst d_MD_ruleItem_171 rfl ?_
                  refine A_dup2RI d_MD_ruleItem_172 ?_
                  refine A_pc (pc' := 173) rfl ?_
                  refine A_ialoadv (z := x4) d_MD_ruleItem_173 (mi_s k98.1 sf_177) (by decide) (by decide) ((k96.2.2.1 _ _ rfl).trans ((eh88.1 _ _ (fun q => absurd q (by decide))).trans ((k85.2.2.1 _ _ rfl).trans ((k64.2.2.1 _ _ rfl).trans ((eh59.1 _ _ (fun q => absurd q (by decide))).trans ((eh53.1 _ _ (fun q => absurd q (by decide))).trans ((k50.2.2.1 _ _ rfl).trans ((k39.2.2.1 _ _ rfl).trans ((k32.2.2.1 _ _ rfl).trans ((eh24.1 _ _ (fun q => absurd q (by decide))).trans ((k21.2.2.1 _ _ rfl).trans ((k11.2.2.1 _ _ rfl).trans ex4.symm)))))))))))) ?_
                  refine A_iconst d_MD_ruleItem_174 rfl ?_
                  refine A_iaddv (z := (x4 + 1)) d_MD_ruleItem_175 (w32_to (by omega) (by unfold i32; omega)) ?_
                  refine A_iastorek (KR := kM (pm [3, 4, 5, 6, 7, 8, 9, 10, 11, 12] [177, 178, 179, 180, 183, 184]) h) d_MD_ruleItem_176 (mi_s k98.1 sf_177) (by decide) (by decide) (kM_i k98 (by decide) rfl (mr_177 _) (by omega) (by omega)) (fun h102 k103 eh102 => ?_)
                  refine A_aload_n 0 d_MD_ruleItem_177 rfl rfl ?_
                  refine A_bipush d_MD_ruleItem_178 rfl ?_
                  refine A_pc (pc' := 180) rfl ?_
                  have zf105 := ((eh102.1 _ _ (fun q => absurd q (by decide))).trans esd99.symm)
                  have zf106 := ((eh102.1 _ _ (fun q => absurd q (by decide))).trans ((k96.2.2.1 _ _ rfl).trans ((eh88.1 _ _ (fun q => absurd q (by decide))).trans ((k85.2.2.1 _ _ rfl).trans ((k64.2.2.1 _ _ rfl).trans ((eh59.1 _ _ (fun q => absurd q (by decide))).trans ((eh53.1 _ _ (fun q => absurd q (by decide))).trans ((k50.2.2.1 _ _ rfl).trans ((k39.2.2.1 _ _ rfl).trans ((k32.2.2.1 _ _ rfl).trans ((eh24.1 _ _ (fun q => absurd q (by decide))).trans ((k21.2.2.1 _ _ rfl).trans ((k11.2.2.1 _ _ rfl).trans esd2.symm)))))))))))))
                  refine A_callV1 m_MD_want T_ok d_MD_ruleItem_180 l_MD_344 k_MD_want (mi_s k103.1 sf_170) rfl (by decide +kernel) (by decide) (Nat.le_of_ble_eq_true rfl) (s_MD_want k103.1 (by have qq0 := ((eh102.1 _ _ (fun q => absurd q (by decide))).trans esd99.symm); have qq1 := ((eh102.1 _ _ (fun q => absurd q (by decide))).trans ((k96.2.2.1 _ _ rfl).trans ((eh88.1 _ _ (fun q => absurd q (by decide))).trans ((k85.2.2.1 _ _ rfl).trans ((k64.2.2.1 _ _ rfl).trans ((eh59.1 _ _ (fun q => absurd q (by decide))).trans ((eh53.1 _ _ (fun q => absurd q (by decide))).trans ((k50.2.2.1 _ _ rfl).trans ((k39.2.2.1 _ _ rfl).trans ((k32.2.2.1 _ _ rfl).trans ((eh24.1 _ _ (fun q => absurd q (by decide))).trans ((k21.2.2.1 _ _ rfl).trans ((k11.2.2.1 _ _ rfl).trans esd2.symm))))))))))))); omega)) (fun r h104 hq => ?_)
                  obtain ⟨x108, rfl, bx108, xx108, k107⟩ := hq
                  have k109 := kM_t k103 k107 (pm_s (by decide) (by decide))
                  obtain ⟨sd110, esd110⟩ : ∃ x, x = h104.2.1 170 3 := ⟨_, rfl⟩
                  have rsd110 : 0 ≤ sd110 ∧ sd110 ≤ 2000 := (by rw [esd110]; exact mi_g k109.1 (by decide) mr_170_3)
                  exact A_zret d_MD_ruleItem_183 (by decide) rfl (by omega) ⟨_, rfl, by omega, (fun _ => by have qq0 := esd110.symm; have qq1 := ((k107.2.2.1 _ _ rfl).trans ((eh102.1 _ _ (fun q => absurd q (by decide))).trans ((k96.2.2.1 _ _ rfl).trans ((eh88.1 _ _ (fun q => absurd q (by decide))).trans ((k85.2.2.1 _ _ rfl).trans ((k64.2.2.1 _ _ rfl).trans ((eh59.1 _ _ (fun q => absurd q (by decide))).trans ((eh53.1 _ _ (fun q => absurd q (by decide))).trans ((k50.2.2.1 _ _ rfl).trans ((k39.2.2.1 _ _ rfl).trans ((k32.2.2.1 _ _ rfl).trans ((eh24.1 _ _ (fun q => absurd q (by decide))).trans ((k21.2.2.1 _ _ rfl).trans ((k11.2.2.1 _ _ rfl).trans esd2.symm)))))))))))))); exact ⟨by omega, by omega, by omega, by omega⟩), k109⟩
                · refine A_iconst d_MD_ruleItem_160 rfl ?_
                  exact A_zret d_MD_ruleItem_161 (by decide) rfl (by omega) ⟨_, rfl, by omega, (fun _ => by have qq0 := ((eh88.1 _ _ (fun q => absurd q (by decide))).trans ((k85.2.2.1 _ _ rfl).trans esd67.symm)); have qq1 := ((eh88.1 _ _ (fun q => absurd q (by decide))).trans ((k85.2.2.1 _ _ rfl).trans ((k64.2.2.1 _ _ rfl).trans ((eh59.1 _ _ (fun q => absurd q (by decide))).trans ((eh53.1 _ _ (fun q => absurd q (by decide))).trans ((k50.2.2.1 _ _ rfl).trans ((k39.2.2.1 _ _ rfl).trans ((k32.2.2.1 _ _ rfl).trans ((eh24.1 _ _ (fun q => absurd q (by decide))).trans ((k21.2.2.1 _ _ rfl).trans ((k11.2.2.1 _ _ rfl).trans esd2.symm))))))))))); have qq2 := ((eh88.1 _ _ (fun q => absurd q (by decide))).trans ((k85.2.2.1 _ _ rfl).trans ex68.symm)); exact ⟨by omega, by omega, by omega, by omega⟩), k89⟩
            · refine A_iconst d_MD_ruleItem_118 rfl ?_
              exact A_zret d_MD_ruleItem_119 (by decide) rfl (by omega) ⟨_, rfl, by omega, (fun _ => by have qq0 := ((eh53.1 _ _ (fun q => absurd q (by decide))).trans ((k50.2.2.1 _ _ rfl).trans esd42.symm)); have qq1 := ((eh53.1 _ _ (fun q => absurd q (by decide))).trans ((k50.2.2.1 _ _ rfl).trans ((k39.2.2.1 _ _ rfl).trans ((k32.2.2.1 _ _ rfl).trans ((eh24.1 _ _ (fun q => absurd q (by decide))).trans ((k21.2.2.1 _ _ rfl).trans ((k11.2.2.1 _ _ rfl).trans esd2.symm))))))); have qq2 := ((eh53.1 _ _ (fun q => absurd q (by decide))).trans ((k50.2.2.1 _ _ rfl).trans ex44.symm)); exact ⟨by omega, by omega, by omega, by omega⟩), k54⟩
          · refine A_aload_n 0 d_MD_ruleItem_94 rfl rfl ?_
            have zf112 := esd42.symm
            have zf113 := ((k39.2.2.1 _ _ rfl).trans ((k32.2.2.1 _ _ rfl).trans ((eh24.1 _ _ (fun q => absurd q (by decide))).trans ((k21.2.2.1 _ _ rfl).trans ((k11.2.2.1 _ _ rfl).trans esd2.symm)))))
            refine A_callV0 m_MD_cant T_ok d_MD_ruleItem_95 l_MD_313 k_MD_cant (mi_s k41.1 sf_170) rfl (by decide +kernel) (by decide) (Nat.le_of_ble_eq_true rfl) (s_MD_cant k41.1 ) (fun r h111 hq => ?_)
            obtain ⟨x115, rfl, ⟨_, _⟩, k114⟩ := hq
            have k116 := kM_t k41 k114 (pm_s (by decide) (by decide))
            obtain rfl : x115 = 0 := by omega
            exact A_zret d_MD_ruleItem_98 (by decide) rfl (by omega) ⟨_, rfl, by omega, (fun _ => by have qq0 := ((k114.2.2.1 _ _ rfl).trans esd42.symm); have qq1 := ((k114.2.2.1 _ _ rfl).trans ((k39.2.2.1 _ _ rfl).trans ((k32.2.2.1 _ _ rfl).trans ((eh24.1 _ _ (fun q => absurd q (by decide))).trans ((k21.2.2.1 _ _ rfl).trans ((k11.2.2.1 _ _ rfl).trans esd2.symm)))))); have qq2 := ((k114.2.2.1 _ _ rfl).trans ex44.symm); exact ⟨by omega, by omega, by omega, by omega⟩), k116⟩
        · refine A_iconst d_MD_ruleItem_84 rfl ?_
          exact A_zret d_MD_ruleItem_85 (by decide) rfl (by omega) ⟨_, rfl, by omega, (fun _ => by have qq0 := esd42.symm; have qq1 := ((k39.2.2.1 _ _ rfl).trans ((k32.2.2.1 _ _ rfl).trans ((eh24.1 _ _ (fun q => absurd q (by decide))).trans ((k21.2.2.1 _ _ rfl).trans ((k11.2.2.1 _ _ rfl).trans esd2.symm))))); exact ⟨by omega, by omega, by omega, by omega⟩), k41⟩
      · refine A_iconst d_MD_ruleItem_68 rfl ?_
        exact A_zret d_MD_ruleItem_69 (by decide) rfl (by omega) ⟨_, rfl, by omega, (fun _ => by have qq0 := ((eh24.1 _ _ (fun q => absurd q (by decide))).trans ((k21.2.2.1 _ _ rfl).trans esd14.symm)); have qq1 := ((eh24.1 _ _ (fun q => absurd q (by decide))).trans ((k21.2.2.1 _ _ rfl).trans ((k11.2.2.1 _ _ rfl).trans esd2.symm))); have qq2 := ((eh24.1 _ _ (fun q => absurd q (by decide))).trans ((k21.2.2.1 _ _ rfl).trans ex15.symm)); exact ⟨by omega, by omega, by omega, by omega⟩), k25⟩
    · refine A_aload_n 0 d_MD_ruleItem_44 rfl rfl ?_
      have zf118 := esd14.symm
      have zf119 := ((k11.2.2.1 _ _ rfl).trans esd2.symm)
      refine A_callV0 m_MD_cant T_ok d_MD_ruleItem_45 l_MD_313 k_MD_cant (mi_s k13.1 sf_170) rfl (by decide +kernel) (by decide) (Nat.le_of_ble_eq_true rfl) (s_MD_cant k13.1 ) (fun r h117 hq => ?_)
      obtain ⟨x121, rfl, ⟨_, _⟩, k120⟩ := hq
      have k122 := kM_t k13 k120 (pm_s (by decide) (by decide))
      obtain rfl : x121 = 0 := by omega
      exact A_zret d_MD_ruleItem_48 (by decide) rfl (by omega) ⟨_, rfl, by omega, (fun _ => by have qq0 := ((k120.2.2.1 _ _ rfl).trans esd14.symm); have qq1 := ((k120.2.2.1 _ _ rfl).trans ((k11.2.2.1 _ _ rfl).trans esd2.symm)); have qq2 := ((k120.2.2.1 _ _ rfl).trans ex15.symm); exact ⟨by omega, by omega, by omega, by omega⟩), k122⟩
  · refine A_aload_n 0 d_MD_ruleItem_11 rfl rfl ?_
    refine A_iconst d_MD_ruleItem_12 rfl ?_
    refine A_aload_n 0 d_MD_ruleItem_13 rfl rfl ?_
    refine A_getIn (lo := 0) (hi := 2000) T_ok d_MD_ruleItem_14 f_MD_242 (mi_s k0.1 sf_170) (mi_g k0.1 (by decide) mr_170_5) (fun x123 ex123 _ _ => ?_)
    have zf125 := esd1.symm
    have zf126 := esd2.symm
    refine A_callV2 m_MD_wrong T_ok d_MD_ruleItem_17 l_MD_245 k_MD_wrong (mi_s k0.1 sf_170) rfl (by decide +kernel) (by decide) (Nat.le_of_ble_eq_true rfl) (s_MD_wrong k0.1 (by omega) (by omega) (by omega) (by omega)) (fun r h124 hq => ?_)
    obtain ⟨x128, rfl, ⟨_, _⟩, k127⟩ := hq
    have k129 := kM_t k0 k127 (pm_s (by decide) (by decide))
    obtain rfl : x128 = 0 := by omega
    exact A_zret d_MD_ruleItem_20 (by decide) rfl (by omega) ⟨_, rfl, by omega, (fun _ => by have qq0 := ((k127.2.2.1 _ _ rfl).trans esd1.symm); have qq1 := ((k127.2.2.1 _ _ rfl).trans esd2.symm); exact ⟨by omega, by omega, by omega, by omega⟩), k129⟩
theorem s_MD_rowItem {G : cx_T} {h : ah_T} (hx : mi h)  (hse : h.2.1 170 3 ≤ h.2.1 170 2) : con G 3 0 0 m_MD_rowItem [av_R (some 170)] h (fun r h' => ∃ z, r = some (av_I z) ∧ (z = 0 ∨ z = 1) ∧ (z = 1 → h.2.1 170 3 ≤ h'.2.1 170 3 ∧ h'.2.1 170 3 ≤ h.2.1 170 2 ∧ (h'.2.1 170 4 ≠ 0 → h'.2.1 170 4 ≠ 6 → h.2.1 170 3 < h'.2.1 170 3) ∧ (h'.2.1 170 4 = 0 → h'.2.1 170 3 = h.2.1 170 2)) ∧ kM (pm [3, 4, 5, 6, 7, 8, 9, 10, 11, 12, 61] [181, 182, 183, 184]) h h') := by
  refine con_of (L := [some (av_R (some 170)), none]) (by decide +kernel) (Nat.le_of_ble_eq_true rfl) rfl ?_
  have k0 : kM (pm [3, 4, 5, 6, 7, 8, 9, 10, 11, 12, 61] [181, 182, 183, 184]) h h := kM_0 hx
  obtain ⟨sd1, esd1⟩ : ∃ x, x = h.2.1 170 3 := ⟨_, rfl⟩
  have rsd1 : 0 ≤ sd1 ∧ sd1 ≤ 2000 := (by rw [esd1]; exact mi_g k0.1 (by decide) mr_170_3)
  obtain ⟨sd2, esd2⟩ : ∃ x, x = h.2.1 170 2 := ⟨_, rfl⟩
  have rsd2 : 0 ≤ sd2 ∧ sd2 ≤ 2000 := (by rw [esd2]; exact mi_g k0.1 (by decide) mr_170_2)
  refine A_aload_n 0 d_MD_rowItem_0 rfl rfl ?_
  refine A_getZn T_ok d_MD_rowItem_1 f_MD_323 (mi_s k0.1 sf_170) (fun x3 ex3 bx3 => ?_)
  refine A_if_eq (tgt := 17) d_MD_rowItem_4 (by decide) (fun c4 => ?_) (fun c4 => ?_)
  · refine A_aload_n 0 d_MD_rowItem_17 rfl rfl ?_
    refine A_iconst d_MD_rowItem_18 rfl ?_
    refine A_putZk (KR := kM (pm [3, 4, 5, 6, 7, 8, 9, 10, 11, 12, 61] [181, 182, 183, 184]) h) T_ok d_MD_rowItem_19 f_MD_323 (mi_s k0.1 sf_170) fin_f (by omega) (kM_i k0 (by decide) (by decide) mr_170_61 (by omega) (by omega)) (fun h5 k6 eh5 => ?_)
    refine A_aload_n 0 d_MD_rowItem_22 rfl rfl ?_
    have zf8 := ((eh5.1 _ _ (fun _ => by decide)).trans esd1.symm)
    have zf9 := ((eh5.1 _ _ (fun _ => by decide)).trans esd2.symm)
    refine A_callV0 m_MD_next T_ok d_MD_rowItem_23 l_MD_309 k_MD_next (mi_s k6.1 sf_170) rfl (by decide +kernel) (by decide) (Nat.le_of_ble_eq_true rfl) (s_MD_next k6.1 (by have qq0 := ((eh5.1 _ _ (fun _ => by decide)).trans esd1.symm); have qq1 := ((eh5.1 _ _ (fun _ => by decide)).trans esd2.symm); omega)) (fun r h7 hq => ?_)
    obtain ⟨x11, rfl, ⟨_, _⟩, xx11, k10⟩ := hq
    have k12 := kM_t k6 k10 (pm_s (by decide) (by decide))
    obtain ⟨sd13, esd13⟩ : ∃ x, x = h7.2.1 170 3 := ⟨_, rfl⟩
    have rsd13 : 0 ≤ sd13 ∧ sd13 ≤ 2000 := (by rw [esd13]; exact mi_g k12.1 (by decide) mr_170_3)
    refine A_popI d_MD_rowItem_26 ?_
    have lp27 : ∀ (n : Nat) (h14 : ah_T) , h.2.1 170 3 ≤ h14.2.1 170 3 ∧ h14.2.1 170 3 ≤ h.2.1 170 2 ∧ (h14.2.1 170 4 ≠ 0 → h14.2.1 170 4 ≠ 6 → h.2.1 170 3 < h14.2.1 170 3) ∧ (h14.2.1 170 4 = 0 → h14.2.1 170 3 = h.2.1 170 2) → kM (pm [3, 4, 5, 6, 7, 8, 9, 10, 11, 12, 61] [181, 182, 183, 184]) h h14 → (mu h14).toNat < n → aw G (rm_R 3 0 0) m_MD_rowItem 0 0 27 [some (av_R (some 170)), none] [] h14 (fun r h' => ∃ z, r = some (av_I z) ∧ (z = 0 ∨ z = 1) ∧ (z = 1 → h.2.1 170 3 ≤ h'.2.1 170 3 ∧ h'.2.1 170 3 ≤ h.2.1 170 2 ∧ (h'.2.1 170 4 ≠ 0 → h'.2.1 170 4 ≠ 6 → h.2.1 170 3 < h'.2.1 170 3) ∧ (h'.2.1 170 4 = 0 → h'.2.1 170 3 = h.2.1 170 2)) ∧ kM (pm [3, 4, 5, 6, 7, 8, 9, 10, 11, 12, 61] [181, 182, 183, 184]) h h') := by
      intro n
      induction n with
      | zero => intro h14 _ _ hm; omega
      | succ n ih27 =>
        intro h14  hinv k15 hm
        obtain ⟨sd16, esd16⟩ : ∃ x, x = h14.2.1 170 3 := ⟨_, rfl⟩
        have rsd16 : 0 ≤ sd16 ∧ sd16 ≤ 2000 := (by rw [esd16]; exact mi_g k15.1 (by decide) mr_170_3)
        obtain ⟨sd17, esd17⟩ : ∃ x, x = h14.2.1 170 2 := ⟨_, rfl⟩
        have rsd17 : 0 ≤ sd17 ∧ sd17 ≤ 2000 := (by rw [esd17]; exact mi_g k15.1 (by decide) mr_170_2)
        refine A_aload_n 0 d_MD_rowItem_27 rfl rfl ?_
        refine A_getIn (lo := 0) (hi := 6) T_ok d_MD_rowItem_28 f_MD_239 (mi_s k15.1 sf_170) (mi_g k15.1 (by decide) mr_170_4) (fun x18 ex18 _ _ => ?_)
        refine A_iconst d_MD_rowItem_31 rfl ?_
        refine A_icmp_eq (tgt := 40) d_MD_rowItem_32 (by decide) (fun c19 => ?_) (fun c19 => ?_)
        · refine A_aload_n 0 d_MD_rowItem_40 rfl rfl ?_
          refine A_getAv (z := some 181) T_ok d_MD_rowItem_41 f_MD_44 (mi_s k15.1 sf_170) (mi_r k15.1 rfm_23) ?_
          refine A_iconst d_MD_rowItem_44 rfl ?_
          refine A_ialoadn (lo := 0) (hi := 12) d_MD_rowItem_45 (mi_s k15.1 sf_181) (by decide) (by decide) (mi_g k15.1 (by decide) (mr_181 _)) (fun x21 ex21 _ _ => ?_)
          refine A_bipush d_MD_rowItem_46 rfl ?_
          refine A_pc (pc' := 48) rfl ?_
          refine A_icmp_ne (tgt := 61) d_MD_rowItem_48 (by decide) (fun c22 => ?_) (fun c22 => ?_)
          · refine A_aload_n 0 d_MD_rowItem_61 rfl rfl ?_
            have zf24 := esd16.symm
            have zf25 := esd17.symm
            refine A_callV0 m_MD_nameNumber T_ok d_MD_rowItem_62 l_MD_350 k_MD_nameNumber (mi_s k15.1 sf_170) rfl (by decide +kernel) (by decide) (Nat.le_of_ble_eq_true rfl) (s_MD_nameNumber k15.1 ) (fun r h23 hq => ?_)
            obtain ⟨x27, rfl, ⟨_, _⟩, k26⟩ := hq
            have k28 := kM_t k15 k26 (pm_s (by decide) (by decide))
            refine A_istore_n 1 (L' := [some (av_R (some 170)), some (av_I x27)]) d_MD_rowItem_65 rfl (Nat.le_of_ble_eq_true rfl) rfl ?_
            refine A_iload_n 1 d_MD_rowItem_66 rfl rfl ?_
            refine A_if_ge (tgt := 72) d_MD_rowItem_67 (by decide) (fun c29 => ?_) (fun c29 => ?_)
            · refine A_aload_n 0 d_MD_rowItem_72 rfl rfl ?_
              refine A_getAv (z := some 182) T_ok d_MD_rowItem_73 f_MD_47 (mi_s k28.1 sf_170) (mi_r k28.1 rfm_24) ?_
              refine A_bipush d_MD_rowItem_76 rfl ?_
              refine A_aload_n 0 d_MD_rowItem_78 rfl rfl ?_
              refine A_getAv (z := some 181) T_ok d_MD_rowItem_79 f_MD_44 (mi_s k28.1 sf_170) (mi_r k28.1 rfm_23) ?_
              refine A_pc (pc' := 82) rfl ?_
              refine A_iconst d_MD_rowItem_82 rfl ?_
              refine A_ialoadv (z := x21) d_MD_rowItem_83 (mi_s k28.1 sf_181) (by decide) (by decide) ((k26.2.2.1 _ _ rfl).trans ex21.symm) ?_
              refine A_iaddv (z := (x21 + 12)) d_MD_rowItem_84 (w32_to (by omega) (by unfold i32; omega)) ?_
              refine A_iload_n 1 d_MD_rowItem_85 rfl rfl ?_
              refine A_iastorek (KR := kM (pm [3, 4, 5, 6, 7, 8, 9, 10, 11, 12, 61] [181, 182, 183, 184]) h) d_MD_rowItem_86 (mi_s k28.1 sf_182) (by omega) (by omega) (kM_i k28 (by decide) rfl (mr_182 _) (by omega) (by omega)) (fun h33 k34 eh33 => ?_)
              refine A_aload_n 0 d_MD_rowItem_87 rfl rfl ?_
              refine A_pc (pc' := 88) rfl ?_
              refine A_getAv (z := some 181) T_ok d_MD_rowItem_88 f_MD_44 (mi_s k34.1 sf_170) (mi_r k34.1 rfm_23) ?_
              refine A_iconst d_MD_rowItem_91 rfl ?_
              refine A_dup2RI d_MD_rowItem_92 ?_
              refine A_ialoadv (z := x21) d_MD_rowItem_93 (mi_s k34.1 sf_181) (by decide) (by decide) ((eh33.1 _ _ (fun q => absurd q (by decide))).trans ((k26.2.2.1 _ _ rfl).trans ex21.symm)) ?_
              refine A_iconst d_MD_rowItem_94 rfl ?_
              refine A_iaddv (z := (x21 + 1)) d_MD_rowItem_95 (w32_to (by omega) (by unfold i32; omega)) ?_
              refine A_pc (pc' := 96) rfl ?_
              refine A_iastorek (KR := kM (pm [3, 4, 5, 6, 7, 8, 9, 10, 11, 12, 61] [181, 182, 183, 184]) h) d_MD_rowItem_96 (mi_s k34.1 sf_181) (by decide) (by decide) (kM_i k34 (by decide) rfl (mr_181 _) (by omega) (by omega)) (fun h37 k38 eh37 => ?_)
              refine A_aload_n 0 d_MD_rowItem_97 rfl rfl ?_
              have zf40 := ((eh37.1 _ _ (fun q => absurd q (by decide))).trans ((eh33.1 _ _ (fun q => absurd q (by decide))).trans ((k26.2.2.1 _ _ rfl).trans esd16.symm)))
              have zf41 := ((eh37.1 _ _ (fun q => absurd q (by decide))).trans ((eh33.1 _ _ (fun q => absurd q (by decide))).trans ((k26.2.2.1 _ _ rfl).trans esd17.symm)))
              refine A_callV0 m_MD_next T_ok d_MD_rowItem_98 l_MD_309 k_MD_next (mi_s k38.1 sf_170) rfl (by decide +kernel) (by decide) (Nat.le_of_ble_eq_true rfl) (s_MD_next k38.1 (by have qq0 := ((eh37.1 _ _ (fun q => absurd q (by decide))).trans ((eh33.1 _ _ (fun q => absurd q (by decide))).trans ((k26.2.2.1 _ _ rfl).trans esd16.symm))); have qq1 := ((eh37.1 _ _ (fun q => absurd q (by decide))).trans ((eh33.1 _ _ (fun q => absurd q (by decide))).trans ((k26.2.2.1 _ _ rfl).trans esd17.symm))); omega)) (fun r h39 hq => ?_)
              obtain ⟨x43, rfl, ⟨_, _⟩, xx43, k42⟩ := hq
              have k44 := kM_t k38 k42 (pm_s (by decide) (by decide))
              obtain ⟨sd45, esd45⟩ : ∃ x, x = h39.2.1 170 3 := ⟨_, rfl⟩
              have rsd45 : 0 ≤ sd45 ∧ sd45 ≤ 2000 := (by rw [esd45]; exact mi_g k44.1 (by decide) mr_170_3)
              refine A_popI d_MD_rowItem_101 ?_
              refine A_aload_n 0 d_MD_rowItem_102 rfl rfl ?_
              refine A_bipush d_MD_rowItem_103 rfl ?_
              refine A_callV1 m_MD_isSign T_ok d_MD_rowItem_105 l_MD_306 k_MD_isSign (mi_s k44.1 sf_170) rfl (by decide +kernel) (by decide) (Nat.le_of_ble_eq_true rfl) (s_MD_isSign k44.1 ) (fun r h46 hq => ?_)
              obtain ⟨x48, rfl, bx48, xx48, rfl⟩ := hq
              refine A_if_eq (tgt := 27) d_MD_rowItem_108 (by decide) (fun c49 => ?_) (fun c49 => ?_)
              · refine A_free (L' := [some (av_R (some 170)), none]) (And.intro rfl trivial) ?_
                exact ih27 h39 (by have qq0 := esd45.symm; have qq1 := ((k42.2.2.1 _ _ rfl).trans ((eh37.1 _ _ (fun q => absurd q (by decide))).trans ((eh33.1 _ _ (fun q => absurd q (by decide))).trans ((k26.2.2.1 _ _ rfl).trans esd17.symm)))); exact ⟨by omega, by omega, by omega, by omega⟩) k44 (by have qq0 := esd45.symm; have mm0 := mu_f h14; have mm1 := mu_f h39; omega)
              · refine A_aload_n 0 d_MD_rowItem_111 rfl rfl ?_
                have zf51 := esd45.symm
                have zf52 := ((k42.2.2.1 _ _ rfl).trans ((eh37.1 _ _ (fun q => absurd q (by decide))).trans ((eh33.1 _ _ (fun q => absurd q (by decide))).trans ((k26.2.2.1 _ _ rfl).trans esd17.symm))))
                refine A_callV0 m_MD_next T_ok d_MD_rowItem_112 l_MD_309 k_MD_next (mi_s k44.1 sf_170) rfl (by decide +kernel) (by decide) (Nat.le_of_ble_eq_true rfl) (s_MD_next k44.1 (by have qq0 := esd45.symm; have qq1 := ((k42.2.2.1 _ _ rfl).trans ((eh37.1 _ _ (fun q => absurd q (by decide))).trans ((eh33.1 _ _ (fun q => absurd q (by decide))).trans ((k26.2.2.1 _ _ rfl).trans esd17.symm)))); omega)) (fun r h50 hq => ?_)
                obtain ⟨x54, rfl, ⟨_, _⟩, xx54, k53⟩ := hq
                have k55 := kM_t k44 k53 (pm_s (by decide) (by decide))
                obtain ⟨sd56, esd56⟩ : ∃ x, x = h50.2.1 170 3 := ⟨_, rfl⟩
                have rsd56 : 0 ≤ sd56 ∧ sd56 ≤ 2000 := (by rw [esd56]; exact mi_g k55.1 (by decide) mr_170_3)
                exact A_zret d_MD_rowItem_115 (by decide) rfl (by omega) ⟨_, rfl, by omega, (fun _ => by have qq0 := esd56.symm; have qq1 := ((k53.2.2.1 _ _ rfl).trans ((k42.2.2.1 _ _ rfl).trans ((eh37.1 _ _ (fun q => absurd q (by decide))).trans ((eh33.1 _ _ (fun q => absurd q (by decide))).trans ((k26.2.2.1 _ _ rfl).trans esd17.symm))))); exact ⟨by omega, by omega, by omega, by omega⟩), k55⟩
            · refine A_iconst d_MD_rowItem_70 rfl ?_
              exact A_zret d_MD_rowItem_71 (by decide) rfl (by omega) ⟨_, rfl, by omega, (fun _ => by have qq0 := ((k26.2.2.1 _ _ rfl).trans esd16.symm); have qq1 := ((k26.2.2.1 _ _ rfl).trans esd17.symm); have qq2 := ((k26.2.2.1 _ _ rfl).trans ex18.symm); exact ⟨by omega, by omega, by omega, by omega⟩), k28⟩
          · refine A_aload_n 0 d_MD_rowItem_51 rfl rfl ?_
            refine A_iconst d_MD_rowItem_52 rfl ?_
            refine A_aload_n 0 d_MD_rowItem_53 rfl rfl ?_
            refine A_getIn (lo := 0) (hi := 2000) T_ok d_MD_rowItem_54 f_MD_242 (mi_s k15.1 sf_170) (mi_g k15.1 (by decide) mr_170_5) (fun x57 ex57 _ _ => ?_)
            have zf59 := esd16.symm
            have zf60 := esd17.symm
            refine A_callV2 m_MD_wrong T_ok d_MD_rowItem_57 l_MD_245 k_MD_wrong (mi_s k15.1 sf_170) rfl (by decide +kernel) (by decide) (Nat.le_of_ble_eq_true rfl) (s_MD_wrong k15.1 (by omega) (by omega) (by omega) (by omega)) (fun r h58 hq => ?_)
            obtain ⟨x62, rfl, ⟨_, _⟩, k61⟩ := hq
            have k63 := kM_t k15 k61 (pm_s (by decide) (by decide))
            obtain rfl : x62 = 0 := by omega
            exact A_zret d_MD_rowItem_60 (by decide) rfl (by omega) ⟨_, rfl, by omega, (fun _ => by have qq0 := ((k61.2.2.1 _ _ rfl).trans esd16.symm); have qq1 := ((k61.2.2.1 _ _ rfl).trans esd17.symm); have qq2 := ((k61.2.2.1 _ _ rfl).trans ex18.symm); exact ⟨by omega, by omega, by omega, by omega⟩), k63⟩
        · refine A_aload_n 0 d_MD_rowItem_35 rfl rfl ?_
          have zf65 := esd16.symm
          have zf66 := esd17.symm
          refine A_callV0 m_MD_cant T_ok d_MD_rowItem_36 l_MD_313 k_MD_cant (mi_s k15.1 sf_170) rfl (by decide +kernel) (by decide) (Nat.le_of_ble_eq_true rfl) (s_MD_cant k15.1 ) (fun r h64 hq => ?_)
          obtain ⟨x68, rfl, ⟨_, _⟩, k67⟩ := hq
          have k69 := kM_t k15 k67 (pm_s (by decide) (by decide))
          obtain rfl : x68 = 0 := by omega
          exact A_zret d_MD_rowItem_39 (by decide) rfl (by omega) ⟨_, rfl, by omega, (fun _ => by have qq0 := ((k67.2.2.1 _ _ rfl).trans esd16.symm); have qq1 := ((k67.2.2.1 _ _ rfl).trans esd17.symm); have qq2 := ((k67.2.2.1 _ _ rfl).trans ex18.symm); exact ⟨by omega, by omega, by omega, by omega⟩), k69⟩
    exact lp27 _ h7 (by have qq0 := esd13.symm; have qq1 := ((k10.2.2.1 _ _ rfl).trans ((eh5.1 _ _ (fun _ => by decide)).trans esd2.symm)); exact ⟨by omega, by omega, by omega, by omega⟩) k12 (Nat.lt_succ_self _)
  · refine A_aload_n 0 d_MD_rowItem_7 rfl rfl ?_
    refine A_iconst d_MD_rowItem_8 rfl ?_
    refine A_aload_n 0 d_MD_rowItem_9 rfl rfl ?_
    refine A_getIn (lo := 0) (hi := 2000) T_ok d_MD_rowItem_10 f_MD_242 (mi_s k0.1 sf_170) (mi_g k0.1 (by decide) mr_170_5) (fun x70 ex70 _ _ => ?_)
    have zf72 := esd1.symm
    have zf73 := esd2.symm
    refine A_callV2 m_MD_wrong T_ok d_MD_rowItem_13 l_MD_245 k_MD_wrong (mi_s k0.1 sf_170) rfl (by decide +kernel) (by decide) (Nat.le_of_ble_eq_true rfl) (s_MD_wrong k0.1 (by omega) (by omega) (by omega) (by omega)) (fun r h71 hq => ?_)
    obtain ⟨x75, rfl, ⟨_, _⟩, k74⟩ := hq
    have k76 := kM_t k0 k74 (pm_s (by decide) (by decide))
    obtain rfl : x75 = 0 := by omega
    exact A_zret d_MD_rowItem_16 (by decide) rfl (by omega) ⟨_, rfl, by omega, (fun _ => by have qq0 := ((k74.2.2.1 _ _ rfl).trans esd1.symm); have qq1 := ((k74.2.2.1 _ _ rfl).trans esd2.symm); exact ⟨by omega, by omega, by omega, by omega⟩), k76⟩
