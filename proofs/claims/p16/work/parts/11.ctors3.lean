def i_MD (h : ah_T) (t n : Nat) : ah_T := (st_r (st_n (st_r (st_n (st_r (st_n (st_r (st_n (st_r (st_n (st_r (st_n (st_r (st_n (st_r (st_n (st_r (st_n (st_r (st_n (st_r (st_n (st_r (st_n (st_r (st_n (st_r (st_n (st_r (st_n (st_r (st_n (st_r (st_n (st_r (st_n (st_r (st_n (st_r (st_n (st_r (st_n (st_r (st_n (st_r (st_n (st_r (st_n (st_r (st_n (st_r (st_n (st_r (st_n (st_r (st_n (st_r (st_n (st_r (st_n (st_r (st_n (st_r (st_n (st_r (st_n (st_r (st_n (st_r (st_n (st_r (st_n (st_r (st_n (st_r (st_n (st_r (st_n (st_r (st_n (st_r (st_n (st_r (st_n (st_r (st_n (st_r (st_n (st_r (st_n (st_r (st_n (st_r (st_n (st_r (st_n (st_r (st_n (st_r (st_n (st_r (st_n (st_r (st_n (st_r (st_n (st_r (st_n (st_r (st_n (st_r (st_n (st_r (st_n (st_r (st_n (st_r (st_n (st_r (st_n (st_r (st_n (st_r (st_n (st_r (st_n (st_r (st_n (st_r (st_n (st_r (st_n (st_r (st_n (st_r (st_n (st_r (st_n (st_i (st_r (st_n h 0 2000) t 0 (some n)) t 13 (-2)) 0 2) t 14 (some (n + 1))) 0 2) t 15 (some (n + 2))) 0 2) t 16 (some (n + 3))) 0 2) t 17 (some (n + 4))) 0 16) t 18 (some (n + 5))) 0 2) t 19 (some (n + 6))) 0 48) t 20 (some (n + 7))) 0 48) t 21 (some (n + 8))) 0 48) t 22 (some (n + 9))) 0 2) t 23 (some (n + 10))) 0 24) t 24 (some (n + 11))) 0 2) t 25 (some (n + 12))) 1 32) t 26 (some (n + 13))) 0 8) t 27 (some (n + 14))) 0 8) t 28 (some (n + 15))) 1 2400) t 29 (some (n + 16))) 1 2400) t 30 (some (n + 17))) 1 2400) t 31 (some (n + 18))) 1 2400) t 32 (some (n + 19))) 0 2400) t 33 (some (n + 20))) 0 9600) t 34 (some (n + 21))) 0 9600) t 35 (some (n + 22))) 0 2400) t 36 (some (n + 23))) 2 2400) t 37 (some (n + 24))) 0 2400) t 38 (some (n + 25))) 0 2400) t 39 (some (n + 26))) 0 2400) t 40 (some (n + 27))) 1 816) t 41 (some (n + 28))) 1 816) t 42 (some (n + 29))) 0 2100) t 44 (some (n + 30))) 0 2100) t 45 (some (n + 31))) 0 2100) t 46 (some (n + 32))) 0 2100) t 47 (some (n + 33))) 0 8400) t 48 (some (n + 34))) 0 8400) t 49 (some (n + 35))) 0 2100) t 50 (some (n + 36))) 2 2100) t 51 (some (n + 37))) 0 2100) t 52 (some (n + 38))) 0 2100) t 53 (some (n + 39))) 0 2100) t 54 (some (n + 40))) 0 2100) t 55 (some (n + 41))) 0 2100) t 56 (some (n + 42))) 0 2100) t 57 (some (n + 43))) 0 8) t 58 (some (n + 44))) 0 8) t 62 (some (n + 45))) 0 10) t 67 (some (n + 46))) 0 10) t 68 (some (n + 47))) 0 10) t 69 (some (n + 48))) 2 10) t 79 (some (n + 49))) 0 8000) t 81 (some (n + 50))) 0 8000) t 82 (some (n + 51))) 0 8000) t 83 (some (n + 52))) 0 8000) t 84 (some (n + 53))) 0 16) t 86 (some (n + 54))) 0 340) t 87 (some (n + 55))) 0 340) t 88 (some (n + 56))) 0 16) t 90 (some (n + 57))) 0 8) t 92 (some (n + 58))) 0 8) t 97 (some (n + 59))) 1 2704) t 99 (some (n + 60))) 0 32) t 100 (some (n + 61))) 0 32) t 101 (some (n + 62))) 0 32) t 102 (some (n + 63))) 1 32) t 103 (some (n + 64))) 0 80) t 106 (some (n + 65))) 0 80) t 107 (some (n + 66))) 0 80) t 108 (some (n + 67))) 0 6561) t 109 (some (n + 68))) 1 6561) t 110 (some (n + 69)))
set_option maxRecDepth 100000 in
theorem i_MD_sh (h : ah_T) (t n : Nat) : (i_MD h t n).1 = h.1 ++ [(0, 2000), (0, 2), (0, 2), (0, 2), (0, 2), (0, 16), (0, 2), (0, 48), (0, 48), (0, 48), (0, 2), (0, 24), (0, 2), (1, 32), (0, 8), (0, 8), (1, 2400), (1, 2400), (1, 2400), (1, 2400), (0, 2400), (0, 9600), (0, 9600), (0, 2400), (2, 2400), (0, 2400), (0, 2400), (0, 2400), (1, 816), (1, 816), (0, 2100), (0, 2100), (0, 2100), (0, 2100), (0, 8400), (0, 8400), (0, 2100), (2, 2100), (0, 2100), (0, 2100), (0, 2100), (0, 2100), (0, 2100), (0, 2100), (0, 8), (0, 8), (0, 10), (0, 10), (0, 10), (2, 10), (0, 8000), (0, 8000), (0, 8000), (0, 8000), (0, 16), (0, 340), (0, 340), (0, 16), (0, 8), (0, 8), (1, 2704), (0, 32), (0, 32), (0, 32), (1, 32), (0, 80), (0, 80), (0, 80), (0, 6561), (1, 6561)] := by
  simp only [i_MD, n1_s, i1_s, l1_s, r1_s, List.append_assoc, List.cons_append, List.nil_append]
theorem i_MD_len {h : ah_T} {t n q : Nat} (hq : h.1.length = q) : (i_MD h t n).1.length = q + 70 := by rw [i_MD_sh, List.length_append, hq]; rfl
theorem i_MD_at {h : ah_T} {t n x : Nat} {y : Nat × Nat} (hx : h.1[x]? = some y) : (i_MD h t n).1[x]? = some y := by rw [i_MD_sh, List.getElem?_append_left (List.getElem?_eq_some_iff.mp hx).1]; exact hx
theorem i_MD_atE {h h' : ah_T} {t n x : Nat} {y : Nat × Nat} (e : h' = i_MD h t n) (hx : h.1[x]? = some y) : h'.1[x]? = some y := by subst e; exact i_MD_at hx
theorem i_MD_lenE {h h' : ah_T} {t n q : Nat} (e : h' = i_MD h t n) (hq : h.1.length = q) : h'.1.length = q + 70 := by subst e; exact i_MD_len hq
set_option maxRecDepth 100000 in
set_option maxHeartbeats 8000000 in
theorem c_MD_init {G : cx_T} (h : ah_T) (t n : Nat) (hn : h.1.length = n) (hs : h.1[t]? = some (12 + 4, 111)) (d : Nat) (hd : d = 1 := by rfl) : con G d 70 138056 m_MD_init [av_R (some t)] h (fun r h' => r = none ∧ h' = i_MD h t n) := by
  subst hd
  have htn : t < n := by rw [← hn]; exact (List.getElem?_eq_some_iff.mp hs).1
  refine con_of (L := [some (av_R (some t))]) (by decide +kernel) (Nat.le_of_ble_eq_true rfl) rfl ?_
  refine A_aload_n 0 d_MD_init_0 rfl rfl ?_
  refine A_objInit d_MD_init_1 oi_MD.1 oi_MD.2.1 oi_MD.2.2 (by decide) rfl ?_
  refine A_aload_n 0 d_MD_init_4 rfl rfl ?_
  refine A_sipush d_MD_init_5 rfl ?_
  refine A_newIv (q := n) (N := 2000) d_MD_init_8 ac_int rfl (by decide) (by decide) (by decide) hn (fun h1 eh1 nh1 gh1 => ?_)
  have oh1 := hn
  replace hn := nh1
  replace hs := gh1 _ _ hs
  refine A_pc (pc' := 10) rfl ?_
  refine A_putRv T_ok d_MD_init_10 f_MD_7 ty_a hs (Or.inr ⟨rfl, fun q hq => by cases hq; rfl⟩) (fun h2 eh2 => ?_)
  replace hn := sn_r eh2 hn
  replace hs := sp_r eh2 hs
  refine A_aload_n 0 d_MD_init_13 rfl rfl ?_
  refine A_bipush d_MD_init_14 rfl ?_
  refine A_putIv T_ok d_MD_init_16 f_MD_13 hs fin_f (fun h3 eh3 => ?_)
  replace hn := sn_i eh3 hn
  replace hs := sp_i eh3 hs
  refine A_aload_n 0 d_MD_init_19 rfl rfl ?_
  refine A_iconst d_MD_init_20 rfl ?_
  refine A_pc (pc' := 21) rfl ?_
  refine A_newIv (q := (n + 1)) (N := 2) d_MD_init_21 ac_int rfl (by decide) (by decide) (by decide) hn (fun h4 eh4 nh4 gh4 => ?_)
  have oh4 := hn
  replace hn := nh4
  replace hs := gh4 _ _ hs
  refine A_putRv T_ok d_MD_init_23 f_MD_17 ty_a hs (Or.inr ⟨rfl, fun q hq => by cases hq; rfl⟩) (fun h5 eh5 => ?_)
  replace hn := sn_r eh5 hn
  replace hs := sp_r eh5 hs
  refine A_aload_n 0 d_MD_init_26 rfl rfl ?_
  refine A_iconst d_MD_init_27 rfl ?_
  refine A_newIv (q := (n + 2)) (N := 2) d_MD_init_28 ac_int rfl (by decide) (by decide) (by decide) hn (fun h6 eh6 nh6 gh6 => ?_)
  have oh6 := hn
  replace hn := nh6
  replace hs := gh6 _ _ hs
  refine A_putRv T_ok d_MD_init_30 f_MD_20 ty_a hs (Or.inr ⟨rfl, fun q hq => by cases hq; rfl⟩) (fun h7 eh7 => ?_)
  replace hn := sn_r eh7 hn
  replace hs := sp_r eh7 hs
  refine A_pc (pc' := 33) rfl ?_
  refine A_aload_n 0 d_MD_init_33 rfl rfl ?_
  refine A_iconst d_MD_init_34 rfl ?_
  refine A_newIv (q := (n + 3)) (N := 2) d_MD_init_35 ac_int rfl (by decide) (by decide) (by decide) hn (fun h8 eh8 nh8 gh8 => ?_)
  have oh8 := hn
  replace hn := nh8
  replace hs := gh8 _ _ hs
  refine A_putRv T_ok d_MD_init_37 f_MD_23 ty_a hs (Or.inr ⟨rfl, fun q hq => by cases hq; rfl⟩) (fun h9 eh9 => ?_)
  replace hn := sn_r eh9 hn
  replace hs := sp_r eh9 hs
  refine A_aload_n 0 d_MD_init_40 rfl rfl ?_
  refine A_iconst d_MD_init_41 rfl ?_
  refine A_pc (pc' := 42) rfl ?_
  refine A_newIv (q := (n + 4)) (N := 2) d_MD_init_42 ac_int rfl (by decide) (by decide) (by decide) hn (fun h10 eh10 nh10 gh10 => ?_)
  have oh10 := hn
  replace hn := nh10
  replace hs := gh10 _ _ hs
  refine A_putRv T_ok d_MD_init_44 f_MD_26 ty_a hs (Or.inr ⟨rfl, fun q hq => by cases hq; rfl⟩) (fun h11 eh11 => ?_)
  replace hn := sn_r eh11 hn
  replace hs := sp_r eh11 hs
  refine A_aload_n 0 d_MD_init_47 rfl rfl ?_
  refine A_bipush d_MD_init_48 rfl ?_
  refine A_newIv (q := (n + 5)) (N := 16) d_MD_init_50 ac_int rfl (by decide) (by decide) (by decide) hn (fun h12 eh12 nh12 gh12 => ?_)
  have oh12 := hn
  replace hn := nh12
  replace hs := gh12 _ _ hs
  refine A_putRv T_ok d_MD_init_52 f_MD_29 ty_a hs (Or.inr ⟨rfl, fun q hq => by cases hq; rfl⟩) (fun h13 eh13 => ?_)
  replace hn := sn_r eh13 hn
  replace hs := sp_r eh13 hs
  refine A_pc (pc' := 55) rfl ?_
  refine A_aload_n 0 d_MD_init_55 rfl rfl ?_
  refine A_iconst d_MD_init_56 rfl ?_
  refine A_newIv (q := (n + 6)) (N := 2) d_MD_init_57 ac_int rfl (by decide) (by decide) (by decide) hn (fun h14 eh14 nh14 gh14 => ?_)
  have oh14 := hn
  replace hn := nh14
  replace hs := gh14 _ _ hs
  refine A_putRv T_ok d_MD_init_59 f_MD_32 ty_a hs (Or.inr ⟨rfl, fun q hq => by cases hq; rfl⟩) (fun h15 eh15 => ?_)
  replace hn := sn_r eh15 hn
  replace hs := sp_r eh15 hs
  refine A_aload_n 0 d_MD_init_62 rfl rfl ?_
  refine A_bipush d_MD_init_63 rfl ?_
  refine A_pc (pc' := 65) rfl ?_
  refine A_newIv (q := (n + 7)) (N := 48) d_MD_init_65 ac_int rfl (by decide) (by decide) (by decide) hn (fun h16 eh16 nh16 gh16 => ?_)
  have oh16 := hn
  replace hn := nh16
  replace hs := gh16 _ _ hs
  refine A_putRv T_ok d_MD_init_67 f_MD_35 ty_a hs (Or.inr ⟨rfl, fun q hq => by cases hq; rfl⟩) (fun h17 eh17 => ?_)
  replace hn := sn_r eh17 hn
  replace hs := sp_r eh17 hs
  refine A_aload_n 0 d_MD_init_70 rfl rfl ?_
  refine A_bipush d_MD_init_71 rfl ?_
  refine A_newIv (q := (n + 8)) (N := 48) d_MD_init_73 ac_int rfl (by decide) (by decide) (by decide) hn (fun h18 eh18 nh18 gh18 => ?_)
  have oh18 := hn
  replace hn := nh18
  replace hs := gh18 _ _ hs
  refine A_putRv T_ok d_MD_init_75 f_MD_38 ty_a hs (Or.inr ⟨rfl, fun q hq => by cases hq; rfl⟩) (fun h19 eh19 => ?_)
  replace hn := sn_r eh19 hn
  replace hs := sp_r eh19 hs
  refine A_pc (pc' := 78) rfl ?_
  refine A_aload_n 0 d_MD_init_78 rfl rfl ?_
  refine A_bipush d_MD_init_79 rfl ?_
  refine A_newIv (q := (n + 9)) (N := 48) d_MD_init_81 ac_int rfl (by decide) (by decide) (by decide) hn (fun h20 eh20 nh20 gh20 => ?_)
  have oh20 := hn
  replace hn := nh20
  replace hs := gh20 _ _ hs
  refine A_putRv T_ok d_MD_init_83 f_MD_41 ty_a hs (Or.inr ⟨rfl, fun q hq => by cases hq; rfl⟩) (fun h21 eh21 => ?_)
  replace hn := sn_r eh21 hn
  replace hs := sp_r eh21 hs
  refine A_aload_n 0 d_MD_init_86 rfl rfl ?_
  refine A_iconst d_MD_init_87 rfl ?_
  refine A_pc (pc' := 88) rfl ?_
  refine A_newIv (q := (n + 10)) (N := 2) d_MD_init_88 ac_int rfl (by decide) (by decide) (by decide) hn (fun h22 eh22 nh22 gh22 => ?_)
  have oh22 := hn
  replace hn := nh22
  replace hs := gh22 _ _ hs
  refine A_putRv T_ok d_MD_init_90 f_MD_44 ty_a hs (Or.inr ⟨rfl, fun q hq => by cases hq; rfl⟩) (fun h23 eh23 => ?_)
  replace hn := sn_r eh23 hn
  replace hs := sp_r eh23 hs
  refine A_aload_n 0 d_MD_init_93 rfl rfl ?_
  refine A_bipush d_MD_init_94 rfl ?_
  refine A_newIv (q := (n + 11)) (N := 24) d_MD_init_96 ac_int rfl (by decide) (by decide) (by decide) hn (fun h24 eh24 nh24 gh24 => ?_)
  have oh24 := hn
  replace hn := nh24
  replace hs := gh24 _ _ hs
  refine A_putRv T_ok d_MD_init_98 f_MD_47 ty_a hs (Or.inr ⟨rfl, fun q hq => by cases hq; rfl⟩) (fun h25 eh25 => ?_)
  replace hn := sn_r eh25 hn
  replace hs := sp_r eh25 hs
  refine A_pc (pc' := 101) rfl ?_
  refine A_aload_n 0 d_MD_init_101 rfl rfl ?_
  refine A_iconst d_MD_init_102 rfl ?_
  refine A_newIv (q := (n + 12)) (N := 2) d_MD_init_103 ac_int rfl (by decide) (by decide) (by decide) hn (fun h26 eh26 nh26 gh26 => ?_)
  have oh26 := hn
  replace hn := nh26
  replace hs := gh26 _ _ hs
  refine A_putRv T_ok d_MD_init_105 f_MD_50 ty_a hs (Or.inr ⟨rfl, fun q hq => by cases hq; rfl⟩) (fun h27 eh27 => ?_)
  replace hn := sn_r eh27 hn
  replace hs := sp_r eh27 hs
  refine A_aload_n 0 d_MD_init_108 rfl rfl ?_
  refine A_bipush d_MD_init_109 rfl ?_
  refine A_pc (pc' := 111) rfl ?_
  refine A_newLv (q := (n + 13)) (N := 32) d_MD_init_111 ac_long rfl (by decide) (by decide) (by decide) hn (fun h28 eh28 nh28 gh28 => ?_)
  have oh28 := hn
  replace hn := nh28
  replace hs := gh28 _ _ hs
  refine A_putRv T_ok d_MD_init_113 f_MD_53 ty_a hs (Or.inr ⟨rfl, fun q hq => by cases hq; rfl⟩) (fun h29 eh29 => ?_)
  replace hn := sn_r eh29 hn
  replace hs := sp_r eh29 hs
  refine A_aload_n 0 d_MD_init_116 rfl rfl ?_
  refine A_bipush d_MD_init_117 rfl ?_
  refine A_newIv (q := (n + 14)) (N := 8) d_MD_init_119 ac_int rfl (by decide) (by decide) (by decide) hn (fun h30 eh30 nh30 gh30 => ?_)
  have oh30 := hn
  replace hn := nh30
  replace hs := gh30 _ _ hs
  refine A_putRv T_ok d_MD_init_121 f_MD_57 ty_a hs (Or.inr ⟨rfl, fun q hq => by cases hq; rfl⟩) (fun h31 eh31 => ?_)
  replace hn := sn_r eh31 hn
  replace hs := sp_r eh31 hs
  refine A_pc (pc' := 124) rfl ?_
  refine A_aload_n 0 d_MD_init_124 rfl rfl ?_
  refine A_bipush d_MD_init_125 rfl ?_
  refine A_newIv (q := (n + 15)) (N := 8) d_MD_init_127 ac_int rfl (by decide) (by decide) (by decide) hn (fun h32 eh32 nh32 gh32 => ?_)
  have oh32 := hn
  replace hn := nh32
  replace hs := gh32 _ _ hs
  refine A_putRv T_ok d_MD_init_129 f_MD_60 ty_a hs (Or.inr ⟨rfl, fun q hq => by cases hq; rfl⟩) (fun h33 eh33 => ?_)
  replace hn := sn_r eh33 hn
  replace hs := sp_r eh33 hs
  refine A_aload_n 0 d_MD_init_132 rfl rfl ?_
  refine A_sipush d_MD_init_133 rfl ?_
  refine A_pc (pc' := 136) rfl ?_
  refine A_newLv (q := (n + 16)) (N := 2400) d_MD_init_136 ac_long rfl (by decide) (by decide) (by decide) hn (fun h34 eh34 nh34 gh34 => ?_)
  have oh34 := hn
  replace hn := nh34
  replace hs := gh34 _ _ hs
  refine A_putRv T_ok d_MD_init_138 f_MD_63 ty_a hs (Or.inr ⟨rfl, fun q hq => by cases hq; rfl⟩) (fun h35 eh35 => ?_)
  replace hn := sn_r eh35 hn
  replace hs := sp_r eh35 hs
  refine A_aload_n 0 d_MD_init_141 rfl rfl ?_
  refine A_sipush d_MD_init_142 rfl ?_
  refine A_newLv (q := (n + 17)) (N := 2400) d_MD_init_145 ac_long rfl (by decide) (by decide) (by decide) hn (fun h36 eh36 nh36 gh36 => ?_)
  have oh36 := hn
  replace hn := nh36
  replace hs := gh36 _ _ hs
  refine A_putRv T_ok d_MD_init_147 f_MD_66 ty_a hs (Or.inr ⟨rfl, fun q hq => by cases hq; rfl⟩) (fun h37 eh37 => ?_)
  replace hn := sn_r eh37 hn
  replace hs := sp_r eh37 hs
  refine A_pc (pc' := 150) rfl ?_
  refine A_aload_n 0 d_MD_init_150 rfl rfl ?_
  refine A_sipush d_MD_init_151 rfl ?_
  refine A_newLv (q := (n + 18)) (N := 2400) d_MD_init_154 ac_long rfl (by decide) (by decide) (by decide) hn (fun h38 eh38 nh38 gh38 => ?_)
  have oh38 := hn
  replace hn := nh38
  replace hs := gh38 _ _ hs
  refine A_putRv T_ok d_MD_init_156 f_MD_69 ty_a hs (Or.inr ⟨rfl, fun q hq => by cases hq; rfl⟩) (fun h39 eh39 => ?_)
  replace hn := sn_r eh39 hn
  replace hs := sp_r eh39 hs
  refine A_aload_n 0 d_MD_init_159 rfl rfl ?_
  refine A_sipush d_MD_init_160 rfl ?_
  refine A_pc (pc' := 163) rfl ?_
  refine A_newLv (q := (n + 19)) (N := 2400) d_MD_init_163 ac_long rfl (by decide) (by decide) (by decide) hn (fun h40 eh40 nh40 gh40 => ?_)
  have oh40 := hn
  replace hn := nh40
  replace hs := gh40 _ _ hs
  refine A_putRv T_ok d_MD_init_165 f_MD_72 ty_a hs (Or.inr ⟨rfl, fun q hq => by cases hq; rfl⟩) (fun h41 eh41 => ?_)
  replace hn := sn_r eh41 hn
  replace hs := sp_r eh41 hs
  refine A_aload_n 0 d_MD_init_168 rfl rfl ?_
  refine A_sipush d_MD_init_169 rfl ?_
  refine A_newIv (q := (n + 20)) (N := 2400) d_MD_init_172 ac_int rfl (by decide) (by decide) (by decide) hn (fun h42 eh42 nh42 gh42 => ?_)
  have oh42 := hn
  replace hn := nh42
  replace hs := gh42 _ _ hs
  refine A_putRv T_ok d_MD_init_174 f_MD_75 ty_a hs (Or.inr ⟨rfl, fun q hq => by cases hq; rfl⟩) (fun h43 eh43 => ?_)
  replace hn := sn_r eh43 hn
  replace hs := sp_r eh43 hs
  refine A_pc (pc' := 177) rfl ?_
  refine A_aload_n 0 d_MD_init_177 rfl rfl ?_
  refine A_sipush d_MD_init_178 rfl ?_
  refine A_newIv (q := (n + 21)) (N := 9600) d_MD_init_181 ac_int rfl (by decide) (by decide) (by decide) hn (fun h44 eh44 nh44 gh44 => ?_)
  have oh44 := hn
  replace hn := nh44
  replace hs := gh44 _ _ hs
  refine A_putRv T_ok d_MD_init_183 f_MD_78 ty_a hs (Or.inr ⟨rfl, fun q hq => by cases hq; rfl⟩) (fun h45 eh45 => ?_)
  replace hn := sn_r eh45 hn
  replace hs := sp_r eh45 hs
  refine A_aload_n 0 d_MD_init_186 rfl rfl ?_
  refine A_sipush d_MD_init_187 rfl ?_
  refine A_pc (pc' := 190) rfl ?_
  refine A_newIv (q := (n + 22)) (N := 9600) d_MD_init_190 ac_int rfl (by decide) (by decide) (by decide) hn (fun h46 eh46 nh46 gh46 => ?_)
  have oh46 := hn
  replace hn := nh46
  replace hs := gh46 _ _ hs
  refine A_putRv T_ok d_MD_init_192 f_MD_81 ty_a hs (Or.inr ⟨rfl, fun q hq => by cases hq; rfl⟩) (fun h47 eh47 => ?_)
  replace hn := sn_r eh47 hn
  replace hs := sp_r eh47 hs
  refine A_aload_n 0 d_MD_init_195 rfl rfl ?_
  refine A_sipush d_MD_init_196 rfl ?_
  refine A_newIv (q := (n + 23)) (N := 2400) d_MD_init_199 ac_int rfl (by decide) (by decide) (by decide) hn (fun h48 eh48 nh48 gh48 => ?_)
  have oh48 := hn
  replace hn := nh48
  replace hs := gh48 _ _ hs
  refine A_putRv T_ok d_MD_init_201 f_MD_84 ty_a hs (Or.inr ⟨rfl, fun q hq => by cases hq; rfl⟩) (fun h49 eh49 => ?_)
  replace hn := sn_r eh49 hn
  replace hs := sp_r eh49 hs
  refine A_pc (pc' := 204) rfl ?_
  refine A_aload_n 0 d_MD_init_204 rfl rfl ?_
  refine A_sipush d_MD_init_205 rfl ?_
  refine A_newZv (q := (n + 24)) (N := 2400) d_MD_init_208 ac_boolean rfl (by decide) (by decide) (by decide) hn (fun h50 eh50 nh50 gh50 => ?_)
  have oh50 := hn
  replace hn := nh50
  replace hs := gh50 _ _ hs
  refine A_putRv T_ok d_MD_init_210 f_MD_87 ty_a hs (Or.inr ⟨rfl, fun q hq => by cases hq; rfl⟩) (fun h51 eh51 => ?_)
  replace hn := sn_r eh51 hn
  replace hs := sp_r eh51 hs
  refine A_aload_n 0 d_MD_init_213 rfl rfl ?_
  refine A_sipush d_MD_init_214 rfl ?_
  refine A_pc (pc' := 217) rfl ?_
  refine A_newIv (q := (n + 25)) (N := 2400) d_MD_init_217 ac_int rfl (by decide) (by decide) (by decide) hn (fun h52 eh52 nh52 gh52 => ?_)
  have oh52 := hn
  replace hn := nh52
  replace hs := gh52 _ _ hs
  refine A_putRv T_ok d_MD_init_219 f_MD_91 ty_a hs (Or.inr ⟨rfl, fun q hq => by cases hq; rfl⟩) (fun h53 eh53 => ?_)
  replace hn := sn_r eh53 hn
  replace hs := sp_r eh53 hs
  refine A_aload_n 0 d_MD_init_222 rfl rfl ?_
  refine A_sipush d_MD_init_223 rfl ?_
  refine A_newIv (q := (n + 26)) (N := 2400) d_MD_init_226 ac_int rfl (by decide) (by decide) (by decide) hn (fun h54 eh54 nh54 gh54 => ?_)
  have oh54 := hn
  replace hn := nh54
  replace hs := gh54 _ _ hs
  refine A_putRv T_ok d_MD_init_228 f_MD_94 ty_a hs (Or.inr ⟨rfl, fun q hq => by cases hq; rfl⟩) (fun h55 eh55 => ?_)
  replace hn := sn_r eh55 hn
  replace hs := sp_r eh55 hs
  refine A_pc (pc' := 231) rfl ?_
  refine A_aload_n 0 d_MD_init_231 rfl rfl ?_
  refine A_sipush d_MD_init_232 rfl ?_
  refine A_newIv (q := (n + 27)) (N := 2400) d_MD_init_235 ac_int rfl (by decide) (by decide) (by decide) hn (fun h56 eh56 nh56 gh56 => ?_)
  have oh56 := hn
  replace hn := nh56
  replace hs := gh56 _ _ hs
  refine A_putRv T_ok d_MD_init_237 f_MD_97 ty_a hs (Or.inr ⟨rfl, fun q hq => by cases hq; rfl⟩) (fun h57 eh57 => ?_)
  replace hn := sn_r eh57 hn
  replace hs := sp_r eh57 hs
  refine A_aload_n 0 d_MD_init_240 rfl rfl ?_
  refine A_sipush d_MD_init_241 rfl ?_
  refine A_pc (pc' := 244) rfl ?_
  refine A_newLv (q := (n + 28)) (N := 816) d_MD_init_244 ac_long rfl (by decide) (by decide) (by decide) hn (fun h58 eh58 nh58 gh58 => ?_)
  have oh58 := hn
  replace hn := nh58
  replace hs := gh58 _ _ hs
  refine A_putRv T_ok d_MD_init_246 f_MD_100 ty_a hs (Or.inr ⟨rfl, fun q hq => by cases hq; rfl⟩) (fun h59 eh59 => ?_)
  replace hn := sn_r eh59 hn
  replace hs := sp_r eh59 hs
  refine A_aload_n 0 d_MD_init_249 rfl rfl ?_
  refine A_sipush d_MD_init_250 rfl ?_
  refine A_newLv (q := (n + 29)) (N := 816) d_MD_init_253 ac_long rfl (by decide) (by decide) (by decide) hn (fun h60 eh60 nh60 gh60 => ?_)
  have oh60 := hn
  replace hn := nh60
  replace hs := gh60 _ _ hs
  refine A_putRv T_ok d_MD_init_255 f_MD_103 ty_a hs (Or.inr ⟨rfl, fun q hq => by cases hq; rfl⟩) (fun h61 eh61 => ?_)
  replace hn := sn_r eh61 hn
  replace hs := sp_r eh61 hs
  refine A_pc (pc' := 258) rfl ?_
  refine A_aload_n 0 d_MD_init_258 rfl rfl ?_
  refine A_sipush d_MD_init_259 rfl ?_
  refine A_newIv (q := (n + 30)) (N := 2100) d_MD_init_262 ac_int rfl (by decide) (by decide) (by decide) hn (fun h62 eh62 nh62 gh62 => ?_)
  have oh62 := hn
  replace hn := nh62
  replace hs := gh62 _ _ hs
  refine A_putRv T_ok d_MD_init_264 f_MD_106 ty_a hs (Or.inr ⟨rfl, fun q hq => by cases hq; rfl⟩) (fun h63 eh63 => ?_)
  replace hn := sn_r eh63 hn
  replace hs := sp_r eh63 hs
  refine A_aload_n 0 d_MD_init_267 rfl rfl ?_
  refine A_sipush d_MD_init_268 rfl ?_
  refine A_pc (pc' := 271) rfl ?_
  refine A_newIv (q := (n + 31)) (N := 2100) d_MD_init_271 ac_int rfl (by decide) (by decide) (by decide) hn (fun h64 eh64 nh64 gh64 => ?_)
  have oh64 := hn
  replace hn := nh64
  replace hs := gh64 _ _ hs
  refine A_putRv T_ok d_MD_init_273 f_MD_109 ty_a hs (Or.inr ⟨rfl, fun q hq => by cases hq; rfl⟩) (fun h65 eh65 => ?_)
  replace hn := sn_r eh65 hn
  replace hs := sp_r eh65 hs
  refine A_aload_n 0 d_MD_init_276 rfl rfl ?_
  refine A_sipush d_MD_init_277 rfl ?_
  refine A_newIv (q := (n + 32)) (N := 2100) d_MD_init_280 ac_int rfl (by decide) (by decide) (by decide) hn (fun h66 eh66 nh66 gh66 => ?_)
  have oh66 := hn
  replace hn := nh66
  replace hs := gh66 _ _ hs
  refine A_putRv T_ok d_MD_init_282 f_MD_112 ty_a hs (Or.inr ⟨rfl, fun q hq => by cases hq; rfl⟩) (fun h67 eh67 => ?_)
  replace hn := sn_r eh67 hn
  replace hs := sp_r eh67 hs
  refine A_pc (pc' := 285) rfl ?_
  refine A_aload_n 0 d_MD_init_285 rfl rfl ?_
  refine A_sipush d_MD_init_286 rfl ?_
  refine A_newIv (q := (n + 33)) (N := 2100) d_MD_init_289 ac_int rfl (by decide) (by decide) (by decide) hn (fun h68 eh68 nh68 gh68 => ?_)
  have oh68 := hn
  replace hn := nh68
  replace hs := gh68 _ _ hs
  refine A_putRv T_ok d_MD_init_291 f_MD_115 ty_a hs (Or.inr ⟨rfl, fun q hq => by cases hq; rfl⟩) (fun h69 eh69 => ?_)
  replace hn := sn_r eh69 hn
  replace hs := sp_r eh69 hs
  refine A_aload_n 0 d_MD_init_294 rfl rfl ?_
  refine A_sipush d_MD_init_295 rfl ?_
  refine A_pc (pc' := 298) rfl ?_
  refine A_newIv (q := (n + 34)) (N := 8400) d_MD_init_298 ac_int rfl (by decide) (by decide) (by decide) hn (fun h70 eh70 nh70 gh70 => ?_)
  have oh70 := hn
  replace hn := nh70
  replace hs := gh70 _ _ hs
  refine A_putRv T_ok d_MD_init_300 f_MD_118 ty_a hs (Or.inr ⟨rfl, fun q hq => by cases hq; rfl⟩) (fun h71 eh71 => ?_)
  replace hn := sn_r eh71 hn
  replace hs := sp_r eh71 hs
  refine A_aload_n 0 d_MD_init_303 rfl rfl ?_
  refine A_sipush d_MD_init_304 rfl ?_
  refine A_newIv (q := (n + 35)) (N := 8400) d_MD_init_307 ac_int rfl (by decide) (by decide) (by decide) hn (fun h72 eh72 nh72 gh72 => ?_)
  have oh72 := hn
  replace hn := nh72
  replace hs := gh72 _ _ hs
  refine A_putRv T_ok d_MD_init_309 f_MD_121 ty_a hs (Or.inr ⟨rfl, fun q hq => by cases hq; rfl⟩) (fun h73 eh73 => ?_)
  replace hn := sn_r eh73 hn
  replace hs := sp_r eh73 hs
  refine A_pc (pc' := 312) rfl ?_
  refine A_aload_n 0 d_MD_init_312 rfl rfl ?_
  refine A_sipush d_MD_init_313 rfl ?_
  refine A_newIv (q := (n + 36)) (N := 2100) d_MD_init_316 ac_int rfl (by decide) (by decide) (by decide) hn (fun h74 eh74 nh74 gh74 => ?_)
  have oh74 := hn
  replace hn := nh74
  replace hs := gh74 _ _ hs
  refine A_putRv T_ok d_MD_init_318 f_MD_124 ty_a hs (Or.inr ⟨rfl, fun q hq => by cases hq; rfl⟩) (fun h75 eh75 => ?_)
  replace hn := sn_r eh75 hn
  replace hs := sp_r eh75 hs
  refine A_aload_n 0 d_MD_init_321 rfl rfl ?_
  refine A_sipush d_MD_init_322 rfl ?_
  refine A_pc (pc' := 325) rfl ?_
  refine A_newZv (q := (n + 37)) (N := 2100) d_MD_init_325 ac_boolean rfl (by decide) (by decide) (by decide) hn (fun h76 eh76 nh76 gh76 => ?_)
  have oh76 := hn
  replace hn := nh76
  replace hs := gh76 _ _ hs
  refine A_putRv T_ok d_MD_init_327 f_MD_127 ty_a hs (Or.inr ⟨rfl, fun q hq => by cases hq; rfl⟩) (fun h77 eh77 => ?_)
  replace hn := sn_r eh77 hn
  replace hs := sp_r eh77 hs
  refine A_aload_n 0 d_MD_init_330 rfl rfl ?_
  refine A_sipush d_MD_init_331 rfl ?_
  refine A_newIv (q := (n + 38)) (N := 2100) d_MD_init_334 ac_int rfl (by decide) (by decide) (by decide) hn (fun h78 eh78 nh78 gh78 => ?_)
  have oh78 := hn
  replace hn := nh78
  replace hs := gh78 _ _ hs
  refine A_putRv T_ok d_MD_init_336 f_MD_130 ty_a hs (Or.inr ⟨rfl, fun q hq => by cases hq; rfl⟩) (fun h79 eh79 => ?_)
  replace hn := sn_r eh79 hn
  replace hs := sp_r eh79 hs
  refine A_pc (pc' := 339) rfl ?_
  refine A_aload_n 0 d_MD_init_339 rfl rfl ?_
  refine A_sipush d_MD_init_340 rfl ?_
  refine A_newIv (q := (n + 39)) (N := 2100) d_MD_init_343 ac_int rfl (by decide) (by decide) (by decide) hn (fun h80 eh80 nh80 gh80 => ?_)
  have oh80 := hn
  replace hn := nh80
  replace hs := gh80 _ _ hs
  refine A_putRv T_ok d_MD_init_345 f_MD_133 ty_a hs (Or.inr ⟨rfl, fun q hq => by cases hq; rfl⟩) (fun h81 eh81 => ?_)
  replace hn := sn_r eh81 hn
  replace hs := sp_r eh81 hs
  refine A_aload_n 0 d_MD_init_348 rfl rfl ?_
  refine A_sipush d_MD_init_349 rfl ?_
  refine A_pc (pc' := 352) rfl ?_
  refine A_newIv (q := (n + 40)) (N := 2100) d_MD_init_352 ac_int rfl (by decide) (by decide) (by decide) hn (fun h82 eh82 nh82 gh82 => ?_)
  have oh82 := hn
  replace hn := nh82
  replace hs := gh82 _ _ hs
  refine A_putRv T_ok d_MD_init_354 f_MD_136 ty_a hs (Or.inr ⟨rfl, fun q hq => by cases hq; rfl⟩) (fun h83 eh83 => ?_)
  replace hn := sn_r eh83 hn
  replace hs := sp_r eh83 hs
  refine A_aload_n 0 d_MD_init_357 rfl rfl ?_
  refine A_sipush d_MD_init_358 rfl ?_
  refine A_newIv (q := (n + 41)) (N := 2100) d_MD_init_361 ac_int rfl (by decide) (by decide) (by decide) hn (fun h84 eh84 nh84 gh84 => ?_)
  have oh84 := hn
  replace hn := nh84
  replace hs := gh84 _ _ hs
  refine A_putRv T_ok d_MD_init_363 f_MD_139 ty_a hs (Or.inr ⟨rfl, fun q hq => by cases hq; rfl⟩) (fun h85 eh85 => ?_)
  replace hn := sn_r eh85 hn
  replace hs := sp_r eh85 hs
  refine A_pc (pc' := 366) rfl ?_
  refine A_aload_n 0 d_MD_init_366 rfl rfl ?_
  refine A_sipush d_MD_init_367 rfl ?_
  refine A_newIv (q := (n + 42)) (N := 2100) d_MD_init_370 ac_int rfl (by decide) (by decide) (by decide) hn (fun h86 eh86 nh86 gh86 => ?_)
  have oh86 := hn
  replace hn := nh86
  replace hs := gh86 _ _ hs
  refine A_putRv T_ok d_MD_init_372 f_MD_142 ty_a hs (Or.inr ⟨rfl, fun q hq => by cases hq; rfl⟩) (fun h87 eh87 => ?_)
  replace hn := sn_r eh87 hn
  replace hs := sp_r eh87 hs
  refine A_aload_n 0 d_MD_init_375 rfl rfl ?_
  refine A_sipush d_MD_init_376 rfl ?_
  refine A_pc (pc' := 379) rfl ?_
  refine A_newIv (q := (n + 43)) (N := 2100) d_MD_init_379 ac_int rfl (by decide) (by decide) (by decide) hn (fun h88 eh88 nh88 gh88 => ?_)
  have oh88 := hn
  replace hn := nh88
  replace hs := gh88 _ _ hs
  refine A_putRv T_ok d_MD_init_381 f_MD_145 ty_a hs (Or.inr ⟨rfl, fun q hq => by cases hq; rfl⟩) (fun h89 eh89 => ?_)
  replace hn := sn_r eh89 hn
  replace hs := sp_r eh89 hs
  refine A_aload_n 0 d_MD_init_384 rfl rfl ?_
  refine A_bipush d_MD_init_385 rfl ?_
  refine A_newIv (q := (n + 44)) (N := 8) d_MD_init_387 ac_int rfl (by decide) (by decide) (by decide) hn (fun h90 eh90 nh90 gh90 => ?_)
  have oh90 := hn
  replace hn := nh90
  replace hs := gh90 _ _ hs
  refine A_putRv T_ok d_MD_init_389 f_MD_148 ty_a hs (Or.inr ⟨rfl, fun q hq => by cases hq; rfl⟩) (fun h91 eh91 => ?_)
  replace hn := sn_r eh91 hn
  replace hs := sp_r eh91 hs
  refine A_pc (pc' := 392) rfl ?_
  refine A_aload_n 0 d_MD_init_392 rfl rfl ?_
  refine A_bipush d_MD_init_393 rfl ?_
  refine A_newIv (q := (n + 45)) (N := 8) d_MD_init_395 ac_int rfl (by decide) (by decide) (by decide) hn (fun h92 eh92 nh92 gh92 => ?_)
  have oh92 := hn
  replace hn := nh92
  replace hs := gh92 _ _ hs
  refine A_putRv T_ok d_MD_init_397 f_MD_151 ty_a hs (Or.inr ⟨rfl, fun q hq => by cases hq; rfl⟩) (fun h93 eh93 => ?_)
  replace hn := sn_r eh93 hn
  replace hs := sp_r eh93 hs
  refine A_aload_n 0 d_MD_init_400 rfl rfl ?_
  refine A_bipush d_MD_init_401 rfl ?_
  refine A_pc (pc' := 403) rfl ?_
  refine A_newIv (q := (n + 46)) (N := 10) d_MD_init_403 ac_int rfl (by decide) (by decide) (by decide) hn (fun h94 eh94 nh94 gh94 => ?_)
  have oh94 := hn
  replace hn := nh94
  replace hs := gh94 _ _ hs
  refine A_putRv T_ok d_MD_init_405 f_MD_154 ty_a hs (Or.inr ⟨rfl, fun q hq => by cases hq; rfl⟩) (fun h95 eh95 => ?_)
  replace hn := sn_r eh95 hn
  replace hs := sp_r eh95 hs
  refine A_aload_n 0 d_MD_init_408 rfl rfl ?_
  refine A_bipush d_MD_init_409 rfl ?_
  refine A_newIv (q := (n + 47)) (N := 10) d_MD_init_411 ac_int rfl (by decide) (by decide) (by decide) hn (fun h96 eh96 nh96 gh96 => ?_)
  have oh96 := hn
  replace hn := nh96
  replace hs := gh96 _ _ hs
  refine A_putRv T_ok d_MD_init_413 f_MD_157 ty_a hs (Or.inr ⟨rfl, fun q hq => by cases hq; rfl⟩) (fun h97 eh97 => ?_)
  replace hn := sn_r eh97 hn
  replace hs := sp_r eh97 hs
  refine A_pc (pc' := 416) rfl ?_
  refine A_aload_n 0 d_MD_init_416 rfl rfl ?_
  refine A_bipush d_MD_init_417 rfl ?_
  refine A_newIv (q := (n + 48)) (N := 10) d_MD_init_419 ac_int rfl (by decide) (by decide) (by decide) hn (fun h98 eh98 nh98 gh98 => ?_)
  have oh98 := hn
  replace hn := nh98
  replace hs := gh98 _ _ hs
  refine A_putRv T_ok d_MD_init_421 f_MD_160 ty_a hs (Or.inr ⟨rfl, fun q hq => by cases hq; rfl⟩) (fun h99 eh99 => ?_)
  replace hn := sn_r eh99 hn
  replace hs := sp_r eh99 hs
  refine A_aload_n 0 d_MD_init_424 rfl rfl ?_
  refine A_bipush d_MD_init_425 rfl ?_
  refine A_pc (pc' := 427) rfl ?_
  refine A_newZv (q := (n + 49)) (N := 10) d_MD_init_427 ac_boolean rfl (by decide) (by decide) (by decide) hn (fun h100 eh100 nh100 gh100 => ?_)
  have oh100 := hn
  replace hn := nh100
  replace hs := gh100 _ _ hs
  refine A_putRv T_ok d_MD_init_429 f_MD_163 ty_a hs (Or.inr ⟨rfl, fun q hq => by cases hq; rfl⟩) (fun h101 eh101 => ?_)
  replace hn := sn_r eh101 hn
  replace hs := sp_r eh101 hs
  refine A_aload_n 0 d_MD_init_432 rfl rfl ?_
  refine A_sipush d_MD_init_433 rfl ?_
  refine A_newIv (q := (n + 50)) (N := 8000) d_MD_init_436 ac_int rfl (by decide) (by decide) (by decide) hn (fun h102 eh102 nh102 gh102 => ?_)
  have oh102 := hn
  replace hn := nh102
  replace hs := gh102 _ _ hs
  refine A_putRv T_ok d_MD_init_438 f_MD_166 ty_a hs (Or.inr ⟨rfl, fun q hq => by cases hq; rfl⟩) (fun h103 eh103 => ?_)
  replace hn := sn_r eh103 hn
  replace hs := sp_r eh103 hs
  refine A_pc (pc' := 441) rfl ?_
  refine A_aload_n 0 d_MD_init_441 rfl rfl ?_
  refine A_sipush d_MD_init_442 rfl ?_
  refine A_newIv (q := (n + 51)) (N := 8000) d_MD_init_445 ac_int rfl (by decide) (by decide) (by decide) hn (fun h104 eh104 nh104 gh104 => ?_)
  have oh104 := hn
  replace hn := nh104
  replace hs := gh104 _ _ hs
  refine A_putRv T_ok d_MD_init_447 f_MD_169 ty_a hs (Or.inr ⟨rfl, fun q hq => by cases hq; rfl⟩) (fun h105 eh105 => ?_)
  replace hn := sn_r eh105 hn
  replace hs := sp_r eh105 hs
  refine A_aload_n 0 d_MD_init_450 rfl rfl ?_
  refine A_sipush d_MD_init_451 rfl ?_
  refine A_pc (pc' := 454) rfl ?_
  refine A_newIv (q := (n + 52)) (N := 8000) d_MD_init_454 ac_int rfl (by decide) (by decide) (by decide) hn (fun h106 eh106 nh106 gh106 => ?_)
  have oh106 := hn
  replace hn := nh106
  replace hs := gh106 _ _ hs
  refine A_putRv T_ok d_MD_init_456 f_MD_172 ty_a hs (Or.inr ⟨rfl, fun q hq => by cases hq; rfl⟩) (fun h107 eh107 => ?_)
  replace hn := sn_r eh107 hn
  replace hs := sp_r eh107 hs
  refine A_aload_n 0 d_MD_init_459 rfl rfl ?_
  refine A_sipush d_MD_init_460 rfl ?_
  refine A_newIv (q := (n + 53)) (N := 8000) d_MD_init_463 ac_int rfl (by decide) (by decide) (by decide) hn (fun h108 eh108 nh108 gh108 => ?_)
  have oh108 := hn
  replace hn := nh108
  replace hs := gh108 _ _ hs
  refine A_putRv T_ok d_MD_init_465 f_MD_175 ty_a hs (Or.inr ⟨rfl, fun q hq => by cases hq; rfl⟩) (fun h109 eh109 => ?_)
  replace hn := sn_r eh109 hn
  replace hs := sp_r eh109 hs
  refine A_pc (pc' := 468) rfl ?_
  refine A_aload_n 0 d_MD_init_468 rfl rfl ?_
  refine A_bipush d_MD_init_469 rfl ?_
  refine A_newIv (q := (n + 54)) (N := 16) d_MD_init_471 ac_int rfl (by decide) (by decide) (by decide) hn (fun h110 eh110 nh110 gh110 => ?_)
  have oh110 := hn
  replace hn := nh110
  replace hs := gh110 _ _ hs
  refine A_putRv T_ok d_MD_init_473 f_MD_178 ty_a hs (Or.inr ⟨rfl, fun q hq => by cases hq; rfl⟩) (fun h111 eh111 => ?_)
  replace hn := sn_r eh111 hn
  replace hs := sp_r eh111 hs
  refine A_aload_n 0 d_MD_init_476 rfl rfl ?_
  refine A_sipush d_MD_init_477 rfl ?_
  refine A_pc (pc' := 480) rfl ?_
  refine A_newIv (q := (n + 55)) (N := 340) d_MD_init_480 ac_int rfl (by decide) (by decide) (by decide) hn (fun h112 eh112 nh112 gh112 => ?_)
  have oh112 := hn
  replace hn := nh112
  replace hs := gh112 _ _ hs
  refine A_putRv T_ok d_MD_init_482 f_MD_181 ty_a hs (Or.inr ⟨rfl, fun q hq => by cases hq; rfl⟩) (fun h113 eh113 => ?_)
  replace hn := sn_r eh113 hn
  replace hs := sp_r eh113 hs
  refine A_aload_n 0 d_MD_init_485 rfl rfl ?_
  refine A_sipush d_MD_init_486 rfl ?_
  refine A_newIv (q := (n + 56)) (N := 340) d_MD_init_489 ac_int rfl (by decide) (by decide) (by decide) hn (fun h114 eh114 nh114 gh114 => ?_)
  have oh114 := hn
  replace hn := nh114
  replace hs := gh114 _ _ hs
  refine A_putRv T_ok d_MD_init_491 f_MD_184 ty_a hs (Or.inr ⟨rfl, fun q hq => by cases hq; rfl⟩) (fun h115 eh115 => ?_)
  replace hn := sn_r eh115 hn
  replace hs := sp_r eh115 hs
  refine A_pc (pc' := 494) rfl ?_
  refine A_aload_n 0 d_MD_init_494 rfl rfl ?_
  refine A_bipush d_MD_init_495 rfl ?_
  refine A_newIv (q := (n + 57)) (N := 16) d_MD_init_497 ac_int rfl (by decide) (by decide) (by decide) hn (fun h116 eh116 nh116 gh116 => ?_)
  have oh116 := hn
  replace hn := nh116
  replace hs := gh116 _ _ hs
  refine A_putRv T_ok d_MD_init_499 f_MD_187 ty_a hs (Or.inr ⟨rfl, fun q hq => by cases hq; rfl⟩) (fun h117 eh117 => ?_)
  replace hn := sn_r eh117 hn
  replace hs := sp_r eh117 hs
  refine A_aload_n 0 d_MD_init_502 rfl rfl ?_
  refine A_bipush d_MD_init_503 rfl ?_
  refine A_pc (pc' := 505) rfl ?_
  refine A_newIv (q := (n + 58)) (N := 8) d_MD_init_505 ac_int rfl (by decide) (by decide) (by decide) hn (fun h118 eh118 nh118 gh118 => ?_)
  have oh118 := hn
  replace hn := nh118
  replace hs := gh118 _ _ hs
  refine A_putRv T_ok d_MD_init_507 f_MD_190 ty_a hs (Or.inr ⟨rfl, fun q hq => by cases hq; rfl⟩) (fun h119 eh119 => ?_)
  replace hn := sn_r eh119 hn
  replace hs := sp_r eh119 hs
  refine A_aload_n 0 d_MD_init_510 rfl rfl ?_
  refine A_bipush d_MD_init_511 rfl ?_
  refine A_newIv (q := (n + 59)) (N := 8) d_MD_init_513 ac_int rfl (by decide) (by decide) (by decide) hn (fun h120 eh120 nh120 gh120 => ?_)
  have oh120 := hn
  replace hn := nh120
  replace hs := gh120 _ _ hs
  refine A_putRv T_ok d_MD_init_515 f_MD_193 ty_a hs (Or.inr ⟨rfl, fun q hq => by cases hq; rfl⟩) (fun h121 eh121 => ?_)
  replace hn := sn_r eh121 hn
  replace hs := sp_r eh121 hs
  refine A_pc (pc' := 518) rfl ?_
  refine A_aload_n 0 d_MD_init_518 rfl rfl ?_
  refine A_sipush d_MD_init_519 rfl ?_
  refine A_newLv (q := (n + 60)) (N := 2704) d_MD_init_522 ac_long rfl (by decide) (by decide) (by decide) hn (fun h122 eh122 nh122 gh122 => ?_)
  have oh122 := hn
  replace hn := nh122
  replace hs := gh122 _ _ hs
  refine A_putRv T_ok d_MD_init_524 f_MD_196 ty_a hs (Or.inr ⟨rfl, fun q hq => by cases hq; rfl⟩) (fun h123 eh123 => ?_)
  replace hn := sn_r eh123 hn
  replace hs := sp_r eh123 hs
  refine A_aload_n 0 d_MD_init_527 rfl rfl ?_
  refine A_bipush d_MD_init_528 rfl ?_
  refine A_pc (pc' := 530) rfl ?_
  refine A_newIv (q := (n + 61)) (N := 32) d_MD_init_530 ac_int rfl (by decide) (by decide) (by decide) hn (fun h124 eh124 nh124 gh124 => ?_)
  have oh124 := hn
  replace hn := nh124
  replace hs := gh124 _ _ hs
  refine A_putRv T_ok d_MD_init_532 f_MD_199 ty_a hs (Or.inr ⟨rfl, fun q hq => by cases hq; rfl⟩) (fun h125 eh125 => ?_)
  replace hn := sn_r eh125 hn
  replace hs := sp_r eh125 hs
  refine A_aload_n 0 d_MD_init_535 rfl rfl ?_
  refine A_bipush d_MD_init_536 rfl ?_
  refine A_newIv (q := (n + 62)) (N := 32) d_MD_init_538 ac_int rfl (by decide) (by decide) (by decide) hn (fun h126 eh126 nh126 gh126 => ?_)
  have oh126 := hn
  replace hn := nh126
  replace hs := gh126 _ _ hs
  refine A_putRv T_ok d_MD_init_540 f_MD_202 ty_a hs (Or.inr ⟨rfl, fun q hq => by cases hq; rfl⟩) (fun h127 eh127 => ?_)
  replace hn := sn_r eh127 hn
  replace hs := sp_r eh127 hs
  refine A_pc (pc' := 543) rfl ?_
  refine A_aload_n 0 d_MD_init_543 rfl rfl ?_
  refine A_bipush d_MD_init_544 rfl ?_
  refine A_newIv (q := (n + 63)) (N := 32) d_MD_init_546 ac_int rfl (by decide) (by decide) (by decide) hn (fun h128 eh128 nh128 gh128 => ?_)
  have oh128 := hn
  replace hn := nh128
  replace hs := gh128 _ _ hs
  refine A_putRv T_ok d_MD_init_548 f_MD_205 ty_a hs (Or.inr ⟨rfl, fun q hq => by cases hq; rfl⟩) (fun h129 eh129 => ?_)
  replace hn := sn_r eh129 hn
  replace hs := sp_r eh129 hs
  refine A_aload_n 0 d_MD_init_551 rfl rfl ?_
  refine A_bipush d_MD_init_552 rfl ?_
  refine A_pc (pc' := 554) rfl ?_
  refine A_newLv (q := (n + 64)) (N := 32) d_MD_init_554 ac_long rfl (by decide) (by decide) (by decide) hn (fun h130 eh130 nh130 gh130 => ?_)
  have oh130 := hn
  replace hn := nh130
  replace hs := gh130 _ _ hs
  refine A_putRv T_ok d_MD_init_556 f_MD_208 ty_a hs (Or.inr ⟨rfl, fun q hq => by cases hq; rfl⟩) (fun h131 eh131 => ?_)
  replace hn := sn_r eh131 hn
  replace hs := sp_r eh131 hs
  refine A_aload_n 0 d_MD_init_559 rfl rfl ?_
  refine A_bipush d_MD_init_560 rfl ?_
  refine A_newIv (q := (n + 65)) (N := 80) d_MD_init_562 ac_int rfl (by decide) (by decide) (by decide) hn (fun h132 eh132 nh132 gh132 => ?_)
  have oh132 := hn
  replace hn := nh132
  replace hs := gh132 _ _ hs
  refine A_putRv T_ok d_MD_init_564 f_MD_211 ty_a hs (Or.inr ⟨rfl, fun q hq => by cases hq; rfl⟩) (fun h133 eh133 => ?_)
  replace hn := sn_r eh133 hn
  replace hs := sp_r eh133 hs
  refine A_pc (pc' := 567) rfl ?_
  refine A_aload_n 0 d_MD_init_567 rfl rfl ?_
  refine A_bipush d_MD_init_568 rfl ?_
  refine A_newIv (q := (n + 66)) (N := 80) d_MD_init_570 ac_int rfl (by decide) (by decide) (by decide) hn (fun h134 eh134 nh134 gh134 => ?_)
  have oh134 := hn
  replace hn := nh134
  replace hs := gh134 _ _ hs
  refine A_putRv T_ok d_MD_init_572 f_MD_214 ty_a hs (Or.inr ⟨rfl, fun q hq => by cases hq; rfl⟩) (fun h135 eh135 => ?_)
  replace hn := sn_r eh135 hn
  replace hs := sp_r eh135 hs
  refine A_aload_n 0 d_MD_init_575 rfl rfl ?_
  refine A_bipush d_MD_init_576 rfl ?_
  refine A_pc (pc' := 578) rfl ?_
  refine A_newIv (q := (n + 67)) (N := 80) d_MD_init_578 ac_int rfl (by decide) (by decide) (by decide) hn (fun h136 eh136 nh136 gh136 => ?_)
  have oh136 := hn
  replace hn := nh136
  replace hs := gh136 _ _ hs
  refine A_putRv T_ok d_MD_init_580 f_MD_217 ty_a hs (Or.inr ⟨rfl, fun q hq => by cases hq; rfl⟩) (fun h137 eh137 => ?_)
  replace hn := sn_r eh137 hn
  replace hs := sp_r eh137 hs
  refine A_aload_n 0 d_MD_init_583 rfl rfl ?_
  refine A_sipush d_MD_init_584 rfl ?_
  refine A_newIv (q := (n + 68)) (N := 6561) d_MD_init_587 ac_int rfl (by decide) (by decide) (by decide) hn (fun h138 eh138 nh138 gh138 => ?_)
  have oh138 := hn
  replace hn := nh138
  replace hs := gh138 _ _ hs
  refine A_putRv T_ok d_MD_init_589 f_MD_220 ty_a hs (Or.inr ⟨rfl, fun q hq => by cases hq; rfl⟩) (fun h139 eh139 => ?_)
  replace hn := sn_r eh139 hn
  replace hs := sp_r eh139 hs
  refine A_pc (pc' := 592) rfl ?_
  refine A_aload_n 0 d_MD_init_592 rfl rfl ?_
  refine A_sipush d_MD_init_593 rfl ?_
  refine A_newLv (q := (n + 69)) (N := 6561) d_MD_init_596 ac_long rfl (by decide) (by decide) (by decide) hn (fun h140 eh140 nh140 gh140 => ?_)
  have oh140 := hn
  replace hn := nh140
  replace hs := gh140 _ _ hs
  refine A_putRv T_ok d_MD_init_598 f_MD_223 ty_a hs (Or.inr ⟨rfl, fun q hq => by cases hq; rfl⟩) (fun h141 eh141 => ?_)
  replace hn := sn_r eh141 hn
  replace hs := sp_r eh141 hs
  exact A_vret d_MD_init_601 (by decide) rfl ⟨rfl, by rw [eh141, eh140, eh139, eh138, eh137, eh136, eh135, eh134, eh133, eh132, eh131, eh130, eh129, eh128, eh127, eh126, eh125, eh124, eh123, eh122, eh121, eh120, eh119, eh118, eh117, eh116, eh115, eh114, eh113, eh112, eh111, eh110, eh109, eh108, eh107, eh106, eh105, eh104, eh103, eh102, eh101, eh100, eh99, eh98, eh97, eh96, eh95, eh94, eh93, eh92, eh91, eh90, eh89, eh88, eh87, eh86, eh85, eh84, eh83, eh82, eh81, eh80, eh79, eh78, eh77, eh76, eh75, eh74, eh73, eh72, eh71, eh70, eh69, eh68, eh67, eh66, eh65, eh64, eh63, eh62, eh61, eh60, eh59, eh58, eh57, eh56, eh55, eh54, eh53, eh52, eh51, eh50, eh49, eh48, eh47, eh46, eh45, eh44, eh43, eh42, eh41, eh40, eh39, eh38, eh37, eh36, eh35, eh34, eh33, eh32, eh31, eh30, eh29, eh28, eh27, eh26, eh25, eh24, eh23, eh22, eh21, eh20, eh19, eh18, eh17, eh16, eh15, eh14, eh13, eh12, eh11, eh10, eh9, eh8, eh7, eh6, eh5, eh4, eh3, eh2, eh1] <;> rfl⟩
