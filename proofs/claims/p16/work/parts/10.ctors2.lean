def i_PM (h : ah_T) (t n : Nat) : ah_T := (st_r (i_Pairing (st_n (st_r (i_Trees (st_n (st_r (i_Seconds (st_n (st_r (i_Page (st_n (st_r (i_Beams (st_n (st_r (i_Judge (st_n (st_i (st_r (i_Score (st_n (st_r (i_Reader (st_n (st_i (st_r (st_n h 0 2000) t 0 (some n)) t 1 0) 9 8) (n + 1) (n + 2)) t 2 (some (n + 1))) 10 13) (n + 79) (n + 80)) t 3 (some (n + 79))) t 4 (-2)) 5 3) (n + 142) (n + 143)) t 5 (some (n + 142))) 4 4) (n + 145) (n + 146)) t 6 (some (n + 145))) 6 8) (n + 149) (n + 150)) t 7 (some (n + 149))) 11 8) (n + 157) (n + 158)) t 8 (some (n + 157))) 13 6) (n + 161) (n + 162)) t 9 (some (n + 161))) 7 8) (n + 163) (n + 164)) t 10 (some (n + 163)))
set_option maxRecDepth 100000 in
theorem i_PM_sh (h : ah_T) (t n : Nat) : (i_PM h t n).1 = h.1 ++ [(0, 2000), (9, 8), (12, 13), (0, 2001), (0, 2001), (1, 2001), (0, 2001), (0, 0), (8, 12), (0, 2000), (0, 2000), (0, 2000), (0, 2000), (0, 7), (0, 7), (1, 16), (10, 13), (3, 4), (0, 8), (0, 24), (0, 24), (0, 24), (0, 12), (14, 17), (0, 300), (0, 300), (0, 301), (0, 300), (0, 300), (2, 300), (0, 300), (0, 300), (1, 301), (1, 301), (1, 300), (1, 300), (0, 102), (14, 17), (0, 300), (0, 300), (0, 301), (0, 300), (0, 300), (2, 300), (0, 300), (0, 300), (1, 301), (1, 301), (1, 300), (1, 300), (0, 102), (14, 17), (0, 300), (0, 300), (0, 301), (0, 300), (0, 300), (2, 300), (0, 300), (0, 300), (1, 301), (1, 301), (1, 300), (1, 300), (0, 102), (14, 17), (0, 300), (0, 300), (0, 301), (0, 300), (0, 300), (2, 300), (0, 300), (0, 300), (1, 301), (1, 301), (1, 300), (1, 300), (0, 102), (10, 13), (3, 4), (0, 8), (0, 24), (0, 24), (0, 24), (0, 12), (14, 17), (0, 300), (0, 300), (0, 301), (0, 300), (0, 300), (2, 300), (0, 300), (0, 300), (1, 301), (1, 301), (1, 300), (1, 300), (0, 102), (14, 17), (0, 300), (0, 300), (0, 301), (0, 300), (0, 300), (2, 300), (0, 300), (0, 300), (1, 301), (1, 301), (1, 300), (1, 300), (0, 102), (14, 17), (0, 300), (0, 300), (0, 301), (0, 300), (0, 300), (2, 300), (0, 300), (0, 300), (1, 301), (1, 301), (1, 300), (1, 300), (0, 102), (14, 17), (0, 300), (0, 300), (0, 301), (0, 300), (0, 300), (2, 300), (0, 300), (0, 300), (1, 301), (1, 301), (1, 300), (1, 300), (0, 102), (5, 3), (0, 6404), (0, 4), (4, 4), (0, 14), (0, 15), (0, 15), (6, 8), (0, 14), (0, 14), (1, 15), (0, 15), (0, 4), (1, 4), (1, 4), (11, 8), (1, 1563), (0, 8), (0, 8), (13, 6), (0, 2704), (7, 8), (0, 80), (0, 80), (0, 1681), (0, 1681), (0, 80)] := by
  simp only [i_PM, n1_s, i1_s, l1_s, r1_s, i_Beams_sh, i_Judge_sh, i_Page_sh, i_Pairing_sh, i_Reader_sh, i_Score_sh, i_Seconds_sh, i_Trees_sh, List.append_assoc, List.cons_append, List.nil_append]
theorem i_PM_len {h : ah_T} {t n q : Nat} (hq : h.1.length = q) : (i_PM h t n).1.length = q + 169 := by rw [i_PM_sh, List.length_append, hq]; rfl
theorem i_PM_at {h : ah_T} {t n x : Nat} {y : Nat × Nat} (hx : h.1[x]? = some y) : (i_PM h t n).1[x]? = some y := by rw [i_PM_sh, List.getElem?_append_left (List.getElem?_eq_some_iff.mp hx).1]; exact hx
theorem i_PM_atE {h h' : ah_T} {t n x : Nat} {y : Nat × Nat} (e : h' = i_PM h t n) (hx : h.1[x]? = some y) : h'.1[x]? = some y := by subst e; exact i_PM_at hx
theorem i_PM_lenE {h h' : ah_T} {t n q : Nat} (e : h' = i_PM h t n) (hq : h.1.length = q) : h'.1.length = q + 169 := by subst e; exact i_PM_len hq
set_option maxRecDepth 100000 in
set_option maxHeartbeats 8000000 in
theorem c_PM_init {G : cx_T} (h : ah_T) (t n : Nat) (hn : h.1.length = n) (hs : h.1[t]? = some (11 + 4, 11)) (d : Nat) (hd : d = 4 := by rfl) : con G d 169 62505 m_PM_init [av_R (some t)] h (fun r h' => r = none ∧ h' = i_PM h t n) := by
  subst hd
  have htn : t < n := by rw [← hn]; exact (List.getElem?_eq_some_iff.mp hs).1
  refine con_of (L := [some (av_R (some t))]) (by decide +kernel) (Nat.le_of_ble_eq_true rfl) rfl ?_
  refine A_aload_n 0 d_PM_init_0 rfl rfl ?_
  refine A_objInit d_PM_init_1 oi_PM.1 oi_PM.2.1 oi_PM.2.2 (by decide) rfl ?_
  refine A_aload_n 0 d_PM_init_4 rfl rfl ?_
  refine A_sipush d_PM_init_5 rfl ?_
  refine A_newIv (q := n) (N := 2000) d_PM_init_8 ac_int rfl (by decide) (by decide) (by decide) hn (fun h1 eh1 nh1 gh1 => ?_)
  have oh1 := hn
  replace hn := nh1
  replace hs := gh1 _ _ hs
  refine A_pc (pc' := 10) rfl ?_
  refine A_putRv T_ok d_PM_init_10 f_PM_9 ty_a hs (Or.inr ⟨rfl, fun q hq => by cases hq; rfl⟩) (fun h2 eh2 => ?_)
  replace hn := sn_r eh2 hn
  replace hs := sp_r eh2 hs
  refine A_aload_n 0 d_PM_init_13 rfl rfl ?_
  refine A_iconst d_PM_init_14 rfl ?_
  refine A_putIv T_ok d_PM_init_15 f_PM_13 hs fin_f (fun h3 eh3 => ?_)
  replace hn := sn_i eh3 hn
  replace hs := sp_i eh3 hs
  refine A_aload_n 0 d_PM_init_18 rfl rfl ?_
  refine A_newv (c := 5) (q := (n + 1)) (N := 8) T_ok T_k d_PM_init_19 rfl rfl cl_PM_17 (by decide) (by decide) hn (fun h4 eh4 nh4 gh4 => ?_)
  have oh4 := hn
  replace hn := nh4
  replace hs := gh4 _ _ hs
  refine A_pc (pc' := 22) rfl ?_
  refine A_dupR d_PM_init_22 ?_
  refine A_callI0 m_Reader_init d_PM_init_23 l_PM_19 k_Reader_init (by decide) (by decide) (Nat.le_of_ble_eq_true rfl) (c_Reader_init h4 (n + 1) (n + 2) hn (sx_n eh4 oh4) 3) (fun r h5 hq => ?_)
  obtain ⟨rfl, eh5⟩ := hq
  replace hn := i_Reader_lenE eh5 hn
  replace hs := i_Reader_atE eh5 hs
  refine A_putRv T_ok d_PM_init_26 f_PM_20 ty_o hs (Or.inr ⟨rfl, fun q hq => by cases hq; rfl⟩) (fun h6 eh6 => ?_)
  replace hn := sn_r eh6 hn
  replace hs := sp_r eh6 hs
  refine A_aload_n 0 d_PM_init_29 rfl rfl ?_
  refine A_newv (c := 6) (q := (n + 79)) (N := 13) T_ok T_k d_PM_init_30 rfl rfl cl_PM_24 (by decide) (by decide) hn (fun h7 eh7 nh7 gh7 => ?_)
  have oh7 := hn
  replace hn := nh7
  replace hs := gh7 _ _ hs
  refine A_dupR d_PM_init_33 ?_
  refine A_pc (pc' := 34) rfl ?_
  refine A_callI0 m_Score_init d_PM_init_34 l_PM_26 k_Score_init (by decide) (by decide) (Nat.le_of_ble_eq_true rfl) (c_Score_init h7 (n + 79) (n + 80) hn (sx_n eh7 oh7) 2) (fun r h8 hq => ?_)
  obtain ⟨rfl, eh8⟩ := hq
  replace hn := i_Score_lenE eh8 hn
  replace hs := i_Score_atE eh8 hs
  refine A_putRv T_ok d_PM_init_37 f_PM_27 ty_o hs fin_f (fun h9 eh9 => ?_)
  replace hn := sn_r eh9 hn
  replace hs := sp_r eh9 hs
  refine A_aload_n 0 d_PM_init_40 rfl rfl ?_
  refine A_bipush d_PM_init_41 rfl ?_
  refine A_putIv T_ok d_PM_init_43 f_PM_31 hs fin_f (fun h10 eh10 => ?_)
  replace hn := sn_i eh10 hn
  replace hs := sp_i eh10 hs
  refine A_aload_n 0 d_PM_init_46 rfl rfl ?_
  refine A_pc (pc' := 47) rfl ?_
  refine A_newv (c := 1) (q := (n + 142)) (N := 3) T_ok T_k d_PM_init_47 rfl rfl cl_PM_34 (by decide) (by decide) hn (fun h11 eh11 nh11 gh11 => ?_)
  have oh11 := hn
  replace hn := nh11
  replace hs := gh11 _ _ hs
  refine A_dupR d_PM_init_50 ?_
  refine A_callI0 m_Judge_init d_PM_init_51 l_PM_36 k_Judge_init (by decide) (by decide) (Nat.le_of_ble_eq_true rfl) (c_Judge_init h11 (n + 142) (n + 143) hn (sx_n eh11 oh11) 1) (fun r h12 hq => ?_)
  obtain ⟨rfl, eh12⟩ := hq
  replace hn := i_Judge_lenE eh12 hn
  replace hs := i_Judge_atE eh12 hs
  refine A_putRv T_ok d_PM_init_54 f_PM_37 ty_o hs (Or.inr ⟨rfl, fun q hq => by cases hq; rfl⟩) (fun h13 eh13 => ?_)
  replace hn := sn_r eh13 hn
  replace hs := sp_r eh13 hs
  refine A_aload_n 0 d_PM_init_57 rfl rfl ?_
  refine A_newv (c := 0) (q := (n + 145)) (N := 4) T_ok T_k d_PM_init_58 rfl rfl cl_PM_41 (by decide) (by decide) hn (fun h14 eh14 nh14 gh14 => ?_)
  have oh14 := hn
  replace hn := nh14
  replace hs := gh14 _ _ hs
  refine A_pc (pc' := 61) rfl ?_
  refine A_dupR d_PM_init_61 ?_
  refine A_callI0 m_Beams_init d_PM_init_62 l_PM_43 k_Beams_init (by decide) (by decide) (Nat.le_of_ble_eq_true rfl) (c_Beams_init h14 (n + 145) (n + 146) hn (sx_n eh14 oh14) 1) (fun r h15 hq => ?_)
  obtain ⟨rfl, eh15⟩ := hq
  replace hn := i_Beams_lenE eh15 hn
  replace hs := i_Beams_atE eh15 hs
  refine A_putRv T_ok d_PM_init_65 f_PM_44 ty_o hs (Or.inr ⟨rfl, fun q hq => by cases hq; rfl⟩) (fun h16 eh16 => ?_)
  replace hn := sn_r eh16 hn
  replace hs := sp_r eh16 hs
  refine A_aload_n 0 d_PM_init_68 rfl rfl ?_
  refine A_newv (c := 2) (q := (n + 149)) (N := 8) T_ok T_k d_PM_init_69 rfl rfl cl_PM_48 (by decide) (by decide) hn (fun h17 eh17 nh17 gh17 => ?_)
  have oh17 := hn
  replace hn := nh17
  replace hs := gh17 _ _ hs
  refine A_dupR d_PM_init_72 ?_
  refine A_pc (pc' := 73) rfl ?_
  refine A_callI0 m_Page_init d_PM_init_73 l_PM_50 k_Page_init (by decide) (by decide) (Nat.le_of_ble_eq_true rfl) (c_Page_init h17 (n + 149) (n + 150) hn (sx_n eh17 oh17) 1) (fun r h18 hq => ?_)
  obtain ⟨rfl, eh18⟩ := hq
  replace hn := i_Page_lenE eh18 hn
  replace hs := i_Page_atE eh18 hs
  refine A_putRv T_ok d_PM_init_76 f_PM_51 ty_o hs (Or.inr ⟨rfl, fun q hq => by cases hq; rfl⟩) (fun h19 eh19 => ?_)
  replace hn := sn_r eh19 hn
  replace hs := sp_r eh19 hs
  refine A_aload_n 0 d_PM_init_79 rfl rfl ?_
  refine A_newv (c := 7) (q := (n + 157)) (N := 8) T_ok T_k d_PM_init_80 rfl rfl cl_PM_55 (by decide) (by decide) hn (fun h20 eh20 nh20 gh20 => ?_)
  have oh20 := hn
  replace hn := nh20
  replace hs := gh20 _ _ hs
  refine A_dupR d_PM_init_83 ?_
  refine A_callI0 m_Seconds_init d_PM_init_84 l_PM_57 k_Seconds_init (by decide) (by decide) (Nat.le_of_ble_eq_true rfl) (c_Seconds_init h20 (n + 157) (n + 158) hn (sx_n eh20 oh20) 1) (fun r h21 hq => ?_)
  obtain ⟨rfl, eh21⟩ := hq
  replace hn := i_Seconds_lenE eh21 hn
  replace hs := i_Seconds_atE eh21 hs
  refine A_pc (pc' := 87) rfl ?_
  refine A_putRv T_ok d_PM_init_87 f_PM_58 ty_o hs (Or.inr ⟨rfl, fun q hq => by cases hq; rfl⟩) (fun h22 eh22 => ?_)
  replace hn := sn_r eh22 hn
  replace hs := sp_r eh22 hs
  refine A_aload_n 0 d_PM_init_90 rfl rfl ?_
  refine A_newv (c := 9) (q := (n + 161)) (N := 6) T_ok T_k d_PM_init_91 rfl rfl cl_PM_62 (by decide) (by decide) hn (fun h23 eh23 nh23 gh23 => ?_)
  have oh23 := hn
  replace hn := nh23
  replace hs := gh23 _ _ hs
  refine A_dupR d_PM_init_94 ?_
  refine A_callI0 m_Trees_init d_PM_init_95 l_PM_64 k_Trees_init (by decide) (by decide) (Nat.le_of_ble_eq_true rfl) (c_Trees_init h23 (n + 161) (n + 162) hn (sx_n eh23 oh23) 1) (fun r h24 hq => ?_)
  obtain ⟨rfl, eh24⟩ := hq
  replace hn := i_Trees_lenE eh24 hn
  replace hs := i_Trees_atE eh24 hs
  refine A_putRv T_ok d_PM_init_98 f_PM_65 ty_o hs (Or.inr ⟨rfl, fun q hq => by cases hq; rfl⟩) (fun h25 eh25 => ?_)
  replace hn := sn_r eh25 hn
  replace hs := sp_r eh25 hs
  refine A_pc (pc' := 101) rfl ?_
  refine A_aload_n 0 d_PM_init_101 rfl rfl ?_
  refine A_newv (c := 3) (q := (n + 163)) (N := 8) T_ok T_k d_PM_init_102 rfl rfl cl_PM_69 (by decide) (by decide) hn (fun h26 eh26 nh26 gh26 => ?_)
  have oh26 := hn
  replace hn := nh26
  replace hs := gh26 _ _ hs
  refine A_dupR d_PM_init_105 ?_
  refine A_callI0 m_Pairing_init d_PM_init_106 l_PM_71 k_Pairing_init (by decide) (by decide) (Nat.le_of_ble_eq_true rfl) (c_Pairing_init h26 (n + 163) (n + 164) hn (sx_n eh26 oh26) 1) (fun r h27 hq => ?_)
  obtain ⟨rfl, eh27⟩ := hq
  replace hn := i_Pairing_lenE eh27 hn
  replace hs := i_Pairing_atE eh27 hs
  refine A_putRv T_ok d_PM_init_109 f_PM_72 ty_o hs (Or.inr ⟨rfl, fun q hq => by cases hq; rfl⟩) (fun h28 eh28 => ?_)
  replace hn := sn_r eh28 hn
  replace hs := sp_r eh28 hs
  exact A_vret d_PM_init_112 (by decide) rfl ⟨rfl, by rw [eh28, eh27, eh26, eh25, eh24, eh23, eh22, eh21, eh20, eh19, eh18, eh17, eh16, eh15, eh14, eh13, eh12, eh11, eh10, eh9, eh8, eh7, eh6, eh5, eh4, eh3, eh2, eh1] <;> rfl⟩
