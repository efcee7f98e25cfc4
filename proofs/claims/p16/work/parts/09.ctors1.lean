def i_Voice (h : ah_T) (t n : Nat) : ah_T := (st_r (st_n (st_r (st_n (st_r (st_n (st_r (st_n (st_r (st_n (st_r (st_n (st_r (st_n (st_r (st_n (st_r (st_n (st_r (st_n (st_r (st_n (st_r (st_n (st_r (st_n h 0 300) t 0 (some n)) 0 300) t 1 (some (n + 1))) 0 301) t 3 (some (n + 2))) 0 300) t 4 (some (n + 3))) 0 300) t 5 (some (n + 4))) 2 300) t 6 (some (n + 5))) 0 300) t 8 (some (n + 6))) 0 300) t 9 (some (n + 7))) 1 301) t 10 (some (n + 8))) 1 301) t 11 (some (n + 9))) 1 300) t 12 (some (n + 10))) 1 300) t 13 (some (n + 11))) 0 102) t 15 (some (n + 12)))
set_option maxRecDepth 100000 in
theorem i_Voice_sh (h : ah_T) (t n : Nat) : (i_Voice h t n).1 = h.1 ++ [(0, 300), (0, 300), (0, 301), (0, 300), (0, 300), (2, 300), (0, 300), (0, 300), (1, 301), (1, 301), (1, 300), (1, 300), (0, 102)] := by
  simp only [i_Voice, n1_s, i1_s, l1_s, r1_s, List.append_assoc, List.cons_append, List.nil_append]
theorem i_Voice_len {h : ah_T} {t n q : Nat} (hq : h.1.length = q) : (i_Voice h t n).1.length = q + 13 := by rw [i_Voice_sh, List.length_append, hq]; rfl
theorem i_Voice_at {h : ah_T} {t n x : Nat} {y : Nat × Nat} (hx : h.1[x]? = some y) : (i_Voice h t n).1[x]? = some y := by rw [i_Voice_sh, List.getElem?_append_left (List.getElem?_eq_some_iff.mp hx).1]; exact hx
theorem i_Voice_atE {h h' : ah_T} {t n x : Nat} {y : Nat × Nat} (e : h' = i_Voice h t n) (hx : h.1[x]? = some y) : h'.1[x]? = some y := by subst e; exact i_Voice_at hx
theorem i_Voice_lenE {h h' : ah_T} {t n q : Nat} (e : h' = i_Voice h t n) (hq : h.1.length = q) : h'.1.length = q + 13 := by subst e; exact i_Voice_len hq
theorem i_Voice_roE {h h' : ah_T} {t n x y : Nat} {v : Option Nat} (e : h' = i_Voice h t n) (hx : x ≠ t) (hv : h.2.2.2 x y = v) : h'.2.2.2 x y = v := by subst e; rw [← hv]; simp only [i_Voice, n1_r, i1_r, l1_r, r1_r hx]
theorem i_Voice_ro {h : ah_T} {t n x y : Nat} (hx : x ≠ t) : (i_Voice h t n).2.2.2 x y = h.2.2.2 x y := by
  simp only [i_Voice, n1_r, i1_r, l1_r, r1_r hx]
set_option maxRecDepth 100000 in
set_option maxHeartbeats 8000000 in
theorem c_Voice_init {G : cx_T} (h : ah_T) (t n : Nat) (hn : h.1.length = n) (hs : h.1[t]? = some (10 + 4, 17)) (d : Nat) (hd : d = 1 := by rfl) : con G d 13 3705 m_Voice_init [av_R (some t)] h (fun r h' => r = none ∧ h' = i_Voice h t n) := by
  subst hd
  have htn : t < n := by rw [← hn]; exact (List.getElem?_eq_some_iff.mp hs).1
  refine con_of (L := [some (av_R (some t))]) (by decide +kernel) (Nat.le_of_ble_eq_true rfl) rfl ?_
  refine A_aload_n 0 d_Voice_init_0 rfl rfl ?_
  refine A_objInit d_Voice_init_1 oi_Voice.1 oi_Voice.2.1 oi_Voice.2.2 (by decide) rfl ?_
  refine A_aload_n 0 d_Voice_init_4 rfl rfl ?_
  refine A_sipush d_Voice_init_5 rfl ?_
  refine A_newIv (q := n) (N := 300) d_Voice_init_8 ac_int rfl (by decide) (by decide) (by decide) hn (fun h1 eh1 nh1 gh1 => ?_)
  have oh1 := hn
  replace hn := nh1
  replace hs := gh1 _ _ hs
  refine A_pc (pc' := 10) rfl ?_
  refine A_putRv T_ok d_Voice_init_10 f_Voice_9 ty_a hs (Or.inr ⟨rfl, fun q hq => by cases hq; rfl⟩) (fun h2 eh2 => ?_)
  replace hn := sn_r eh2 hn
  replace hs := sp_r eh2 hs
  refine A_aload_n 0 d_Voice_init_13 rfl rfl ?_
  refine A_sipush d_Voice_init_14 rfl ?_
  refine A_newIv (q := (n + 1)) (N := 300) d_Voice_init_17 ac_int rfl (by decide) (by decide) (by decide) hn (fun h3 eh3 nh3 gh3 => ?_)
  have oh3 := hn
  replace hn := nh3
  replace hs := gh3 _ _ hs
  refine A_putRv T_ok d_Voice_init_19 f_Voice_15 ty_a hs (Or.inr ⟨rfl, fun q hq => by cases hq; rfl⟩) (fun h4 eh4 => ?_)
  replace hn := sn_r eh4 hn
  replace hs := sp_r eh4 hs
  refine A_aload_n 0 d_Voice_init_22 rfl rfl ?_
  refine A_pc (pc' := 23) rfl ?_
  refine A_sipush d_Voice_init_23 rfl ?_
  refine A_newIv (q := (n + 2)) (N := 301) d_Voice_init_26 ac_int rfl (by decide) (by decide) (by decide) hn (fun h5 eh5 nh5 gh5 => ?_)
  have oh5 := hn
  replace hn := nh5
  replace hs := gh5 _ _ hs
  refine A_putRv T_ok d_Voice_init_28 f_Voice_18 ty_a hs (Or.inr ⟨rfl, fun q hq => by cases hq; rfl⟩) (fun h6 eh6 => ?_)
  replace hn := sn_r eh6 hn
  replace hs := sp_r eh6 hs
  refine A_aload_n 0 d_Voice_init_31 rfl rfl ?_
  refine A_sipush d_Voice_init_32 rfl ?_
  refine A_newIv (q := (n + 3)) (N := 300) d_Voice_init_35 ac_int rfl (by decide) (by decide) (by decide) hn (fun h7 eh7 nh7 gh7 => ?_)
  have oh7 := hn
  replace hn := nh7
  replace hs := gh7 _ _ hs
  refine A_pc (pc' := 37) rfl ?_
  refine A_putRv T_ok d_Voice_init_37 f_Voice_21 ty_a hs (Or.inr ⟨rfl, fun q hq => by cases hq; rfl⟩) (fun h8 eh8 => ?_)
  replace hn := sn_r eh8 hn
  replace hs := sp_r eh8 hs
  refine A_aload_n 0 d_Voice_init_40 rfl rfl ?_
  refine A_sipush d_Voice_init_41 rfl ?_
  refine A_newIv (q := (n + 4)) (N := 300) d_Voice_init_44 ac_int rfl (by decide) (by decide) (by decide) hn (fun h9 eh9 nh9 gh9 => ?_)
  have oh9 := hn
  replace hn := nh9
  replace hs := gh9 _ _ hs
  refine A_putRv T_ok d_Voice_init_46 f_Voice_24 ty_a hs (Or.inr ⟨rfl, fun q hq => by cases hq; rfl⟩) (fun h10 eh10 => ?_)
  replace hn := sn_r eh10 hn
  replace hs := sp_r eh10 hs
  refine A_aload_n 0 d_Voice_init_49 rfl rfl ?_
  refine A_pc (pc' := 50) rfl ?_
  refine A_sipush d_Voice_init_50 rfl ?_
  refine A_newZv (q := (n + 5)) (N := 300) d_Voice_init_53 ac_boolean rfl (by decide) (by decide) (by decide) hn (fun h11 eh11 nh11 gh11 => ?_)
  have oh11 := hn
  replace hn := nh11
  replace hs := gh11 _ _ hs
  refine A_putRv T_ok d_Voice_init_55 f_Voice_27 ty_a hs (Or.inr ⟨rfl, fun q hq => by cases hq; rfl⟩) (fun h12 eh12 => ?_)
  replace hn := sn_r eh12 hn
  replace hs := sp_r eh12 hs
  refine A_aload_n 0 d_Voice_init_58 rfl rfl ?_
  refine A_sipush d_Voice_init_59 rfl ?_
  refine A_newIv (q := (n + 6)) (N := 300) d_Voice_init_62 ac_int rfl (by decide) (by decide) (by decide) hn (fun h13 eh13 nh13 gh13 => ?_)
  have oh13 := hn
  replace hn := nh13
  replace hs := gh13 _ _ hs
  refine A_pc (pc' := 64) rfl ?_
  refine A_putRv T_ok d_Voice_init_64 f_Voice_31 ty_a hs (Or.inr ⟨rfl, fun q hq => by cases hq; rfl⟩) (fun h14 eh14 => ?_)
  replace hn := sn_r eh14 hn
  replace hs := sp_r eh14 hs
  refine A_aload_n 0 d_Voice_init_67 rfl rfl ?_
  refine A_sipush d_Voice_init_68 rfl ?_
  refine A_newIv (q := (n + 7)) (N := 300) d_Voice_init_71 ac_int rfl (by decide) (by decide) (by decide) hn (fun h15 eh15 nh15 gh15 => ?_)
  have oh15 := hn
  replace hn := nh15
  replace hs := gh15 _ _ hs
  refine A_putRv T_ok d_Voice_init_73 f_Voice_34 ty_a hs (Or.inr ⟨rfl, fun q hq => by cases hq; rfl⟩) (fun h16 eh16 => ?_)
  replace hn := sn_r eh16 hn
  replace hs := sp_r eh16 hs
  refine A_aload_n 0 d_Voice_init_76 rfl rfl ?_
  refine A_pc (pc' := 77) rfl ?_
  refine A_sipush d_Voice_init_77 rfl ?_
  refine A_newLv (q := (n + 8)) (N := 301) d_Voice_init_80 ac_long rfl (by decide) (by decide) (by decide) hn (fun h17 eh17 nh17 gh17 => ?_)
  have oh17 := hn
  replace hn := nh17
  replace hs := gh17 _ _ hs
  refine A_putRv T_ok d_Voice_init_82 f_Voice_37 ty_a hs (Or.inr ⟨rfl, fun q hq => by cases hq; rfl⟩) (fun h18 eh18 => ?_)
  replace hn := sn_r eh18 hn
  replace hs := sp_r eh18 hs
  refine A_aload_n 0 d_Voice_init_85 rfl rfl ?_
  refine A_sipush d_Voice_init_86 rfl ?_
  refine A_newLv (q := (n + 9)) (N := 301) d_Voice_init_89 ac_long rfl (by decide) (by decide) (by decide) hn (fun h19 eh19 nh19 gh19 => ?_)
  have oh19 := hn
  replace hn := nh19
  replace hs := gh19 _ _ hs
  refine A_pc (pc' := 91) rfl ?_
  refine A_putRv T_ok d_Voice_init_91 f_Voice_41 ty_a hs (Or.inr ⟨rfl, fun q hq => by cases hq; rfl⟩) (fun h20 eh20 => ?_)
  replace hn := sn_r eh20 hn
  replace hs := sp_r eh20 hs
  refine A_aload_n 0 d_Voice_init_94 rfl rfl ?_
  refine A_sipush d_Voice_init_95 rfl ?_
  refine A_newLv (q := (n + 10)) (N := 300) d_Voice_init_98 ac_long rfl (by decide) (by decide) (by decide) hn (fun h21 eh21 nh21 gh21 => ?_)
  have oh21 := hn
  replace hn := nh21
  replace hs := gh21 _ _ hs
  refine A_putRv T_ok d_Voice_init_100 f_Voice_44 ty_a hs (Or.inr ⟨rfl, fun q hq => by cases hq; rfl⟩) (fun h22 eh22 => ?_)
  replace hn := sn_r eh22 hn
  replace hs := sp_r eh22 hs
  refine A_aload_n 0 d_Voice_init_103 rfl rfl ?_
  refine A_pc (pc' := 104) rfl ?_
  refine A_sipush d_Voice_init_104 rfl ?_
  refine A_newLv (q := (n + 11)) (N := 300) d_Voice_init_107 ac_long rfl (by decide) (by decide) (by decide) hn (fun h23 eh23 nh23 gh23 => ?_)
  have oh23 := hn
  replace hn := nh23
  replace hs := gh23 _ _ hs
  refine A_putRv T_ok d_Voice_init_109 f_Voice_47 ty_a hs (Or.inr ⟨rfl, fun q hq => by cases hq; rfl⟩) (fun h24 eh24 => ?_)
  replace hn := sn_r eh24 hn
  replace hs := sp_r eh24 hs
  refine A_aload_n 0 d_Voice_init_112 rfl rfl ?_
  refine A_bipush d_Voice_init_113 rfl ?_
  refine A_newIv (q := (n + 12)) (N := 102) d_Voice_init_115 ac_int rfl (by decide) (by decide) (by decide) hn (fun h25 eh25 nh25 gh25 => ?_)
  have oh25 := hn
  replace hn := nh25
  replace hs := gh25 _ _ hs
  refine A_pc (pc' := 117) rfl ?_
  refine A_putRv T_ok d_Voice_init_117 f_Voice_50 ty_a hs (Or.inr ⟨rfl, fun q hq => by cases hq; rfl⟩) (fun h26 eh26 => ?_)
  replace hn := sn_r eh26 hn
  replace hs := sp_r eh26 hs
  exact A_vret d_Voice_init_120 (by decide) rfl ⟨rfl, by rw [eh26, eh25, eh24, eh23, eh22, eh21, eh20, eh19, eh18, eh17, eh16, eh15, eh14, eh13, eh12, eh11, eh10, eh9, eh8, eh7, eh6, eh5, eh4, eh3, eh2, eh1] <;> rfl⟩
def i_Score (h : ah_T) (t n : Nat) : ah_T := (st_r (i_Voice (st_n (st_r (i_Voice (st_n (st_r (i_Voice (st_n (st_r (i_Voice (st_n (st_r (st_n (st_r (st_n (st_r (st_n (st_r (st_n (st_r (st_n (st_i (st_i (st_r (st_n h 3 4) t 0 (some n)) t 2 4) t 3 4) 0 8) t 5 (some (n + 1))) 0 24) t 7 (some (n + 2))) 0 24) t 8 (some (n + 3))) 0 24) t 9 (some (n + 4))) 0 12) t 11 (some (n + 5))) 14 17) (n + 6) (n + 7)) n 0 (some (n + 6))) 14 17) (n + 20) (n + 21)) n 1 (some (n + 20))) 14 17) (n + 34) (n + 35)) n 2 (some (n + 34))) 14 17) (n + 48) (n + 49)) n 3 (some (n + 48)))
set_option maxRecDepth 100000 in
theorem i_Score_sh (h : ah_T) (t n : Nat) : (i_Score h t n).1 = h.1 ++ [(3, 4), (0, 8), (0, 24), (0, 24), (0, 24), (0, 12), (14, 17), (0, 300), (0, 300), (0, 301), (0, 300), (0, 300), (2, 300), (0, 300), (0, 300), (1, 301), (1, 301), (1, 300), (1, 300), (0, 102), (14, 17), (0, 300), (0, 300), (0, 301), (0, 300), (0, 300), (2, 300), (0, 300), (0, 300), (1, 301), (1, 301), (1, 300), (1, 300), (0, 102), (14, 17), (0, 300), (0, 300), (0, 301), (0, 300), (0, 300), (2, 300), (0, 300), (0, 300), (1, 301), (1, 301), (1, 300), (1, 300), (0, 102), (14, 17), (0, 300), (0, 300), (0, 301), (0, 300), (0, 300), (2, 300), (0, 300), (0, 300), (1, 301), (1, 301), (1, 300), (1, 300), (0, 102)] := by
  simp only [i_Score, n1_s, i1_s, l1_s, r1_s, i_Voice_sh, List.append_assoc, List.cons_append, List.nil_append]
theorem i_Score_len {h : ah_T} {t n q : Nat} (hq : h.1.length = q) : (i_Score h t n).1.length = q + 62 := by rw [i_Score_sh, List.length_append, hq]; rfl
theorem i_Score_at {h : ah_T} {t n x : Nat} {y : Nat × Nat} (hx : h.1[x]? = some y) : (i_Score h t n).1[x]? = some y := by rw [i_Score_sh, List.getElem?_append_left (List.getElem?_eq_some_iff.mp hx).1]; exact hx
theorem i_Score_atE {h h' : ah_T} {t n x : Nat} {y : Nat × Nat} (e : h' = i_Score h t n) (hx : h.1[x]? = some y) : h'.1[x]? = some y := by subst e; exact i_Score_at hx
theorem i_Score_lenE {h h' : ah_T} {t n q : Nat} (e : h' = i_Score h t n) (hq : h.1.length = q) : h'.1.length = q + 62 := by subst e; exact i_Score_len hq
set_option maxRecDepth 100000 in
set_option maxHeartbeats 8000000 in
theorem c_Score_init {G : cx_T} (h : ah_T) (t n : Nat) (hn : h.1.length = n) (hs : h.1[t]? = some (6 + 4, 13)) (d : Nat) (hd : d = 2 := by rfl) : con G d 62 14984 m_Score_init [av_R (some t)] h (fun r h' => r = none ∧ h' = i_Score h t n) := by
  subst hd
  have htn : t < n := by rw [← hn]; exact (List.getElem?_eq_some_iff.mp hs).1
  refine con_of (L := [some (av_R (some t)), none]) (by decide +kernel) (Nat.le_of_ble_eq_true rfl) rfl ?_
  refine A_aload_n 0 d_Score_init_0 rfl rfl ?_
  refine A_objInit d_Score_init_1 oi_Score.1 oi_Score.2.1 oi_Score.2.2 (by decide) rfl ?_
  refine A_aload_n 0 d_Score_init_4 rfl rfl ?_
  refine A_iconst d_Score_init_5 rfl ?_
  refine A_newVv (q := n) (N := 4) d_Score_init_6 cl_Score_9 ao_V rfl (by decide) (by decide) (by decide) hn (fun h1 eh1 nh1 gh1 => ?_)
  have oh1 := hn
  replace hn := nh1
  replace hs := gh1 _ _ hs
  refine A_pc (pc' := 9) rfl ?_
  refine A_putRv T_ok d_Score_init_9 f_Score_11 ty_a hs (Or.inr ⟨rfl, fun q hq => by cases hq; rfl⟩) (fun h2 eh2 => ?_)
  replace hn := sn_r eh2 hn
  replace hs := sp_r eh2 hs
  refine A_aload_n 0 d_Score_init_12 rfl rfl ?_
  refine A_iconst d_Score_init_13 rfl ?_
  refine A_putIv T_ok d_Score_init_14 f_Score_17 hs fin_f (fun h3 eh3 => ?_)
  replace hn := sn_i eh3 hn
  replace hs := sp_i eh3 hs
  refine A_aload_n 0 d_Score_init_17 rfl rfl ?_
  refine A_iconst d_Score_init_18 rfl ?_
  refine A_pc (pc' := 19) rfl ?_
  refine A_putIv T_ok d_Score_init_19 f_Score_21 hs fin_f (fun h4 eh4 => ?_)
  replace hn := sn_i eh4 hn
  replace hs := sp_i eh4 hs
  refine A_aload_n 0 d_Score_init_22 rfl rfl ?_
  refine A_bipush d_Score_init_23 rfl ?_
  refine A_newIv (q := (n + 1)) (N := 8) d_Score_init_25 ac_int rfl (by decide) (by decide) (by decide) hn (fun h5 eh5 nh5 gh5 => ?_)
  have oh5 := hn
  replace hn := nh5
  replace hs := gh5 _ _ hs
  refine A_putRv T_ok d_Score_init_27 f_Score_24 ty_a hs (Or.inr ⟨rfl, fun q hq => by cases hq; rfl⟩) (fun h6 eh6 => ?_)
  replace hn := sn_r eh6 hn
  replace hs := sp_r eh6 hs
  refine A_aload_n 0 d_Score_init_30 rfl rfl ?_
  refine A_pc (pc' := 31) rfl ?_
  refine A_bipush d_Score_init_31 rfl ?_
  refine A_newIv (q := (n + 2)) (N := 24) d_Score_init_33 ac_int rfl (by decide) (by decide) (by decide) hn (fun h7 eh7 nh7 gh7 => ?_)
  have oh7 := hn
  replace hn := nh7
  replace hs := gh7 _ _ hs
  refine A_putRv T_ok d_Score_init_35 f_Score_28 ty_a hs (Or.inr ⟨rfl, fun q hq => by cases hq; rfl⟩) (fun h8 eh8 => ?_)
  replace hn := sn_r eh8 hn
  replace hs := sp_r eh8 hs
  refine A_aload_n 0 d_Score_init_38 rfl rfl ?_
  refine A_bipush d_Score_init_39 rfl ?_
  refine A_newIv (q := (n + 3)) (N := 24) d_Score_init_41 ac_int rfl (by decide) (by decide) (by decide) hn (fun h9 eh9 nh9 gh9 => ?_)
  have oh9 := hn
  replace hn := nh9
  replace hs := gh9 _ _ hs
  refine A_pc (pc' := 43) rfl ?_
  refine A_putRv T_ok d_Score_init_43 f_Score_31 ty_a hs (Or.inr ⟨rfl, fun q hq => by cases hq; rfl⟩) (fun h10 eh10 => ?_)
  replace hn := sn_r eh10 hn
  replace hs := sp_r eh10 hs
  refine A_aload_n 0 d_Score_init_46 rfl rfl ?_
  refine A_bipush d_Score_init_47 rfl ?_
  refine A_newIv (q := (n + 4)) (N := 24) d_Score_init_49 ac_int rfl (by decide) (by decide) (by decide) hn (fun h11 eh11 nh11 gh11 => ?_)
  have oh11 := hn
  replace hn := nh11
  replace hs := gh11 _ _ hs
  refine A_putRv T_ok d_Score_init_51 f_Score_34 ty_a hs (Or.inr ⟨rfl, fun q hq => by cases hq; rfl⟩) (fun h12 eh12 => ?_)
  replace hn := sn_r eh12 hn
  replace hs := sp_r eh12 hs
  refine A_aload_n 0 d_Score_init_54 rfl rfl ?_
  refine A_pc (pc' := 55) rfl ?_
  refine A_bipush d_Score_init_55 rfl ?_
  refine A_newIv (q := (n + 5)) (N := 12) d_Score_init_57 ac_int rfl (by decide) (by decide) (by decide) hn (fun h13 eh13 nh13 gh13 => ?_)
  have oh13 := hn
  replace hn := nh13
  replace hs := gh13 _ _ hs
  refine A_putRv T_ok d_Score_init_59 f_Score_37 ty_a hs (Or.inr ⟨rfl, fun q hq => by cases hq; rfl⟩) (fun h14 eh14 => ?_)
  replace hn := sn_r eh14 hn
  replace hs := sp_r eh14 hs
  refine A_iconst d_Score_init_62 rfl ?_
  refine A_istore_n 1 (L' := [some (av_R (some t)), some (av_I 0)]) d_Score_init_63 rfl (Nat.le_of_ble_eq_true rfl) rfl ?_
  refine A_iload_n 1 d_Score_init_64 rfl rfl ?_
  refine A_pc (pc' := 65) rfl ?_
  refine A_aload_n 0 d_Score_init_65 rfl rfl ?_
  refine A_getAv (z := (some n)) T_ok d_Score_init_66 f_Score_11 hs (rr_o eh14 (fun q => absurd q.2 (by decide)) (rr_n eh13 (rr_o eh12 (fun q => absurd q.2 (by decide)) (rr_n eh11 (rr_o eh10 (fun q => absurd q.2 (by decide)) (rr_n eh9 (rr_o eh8 (fun q => absurd q.2 (by decide)) (rr_n eh7 (rr_o eh6 (fun q => absurd q.2 (by decide)) (rr_n eh5 (rr_i eh4 (rr_i eh3 (rr_s eh2))))))))))))) ?_
  refine A_alenN d_Score_init_69 (sp_r eh14 (gh13 _ _ (sp_r eh12 (gh11 _ _ (sp_r eh10 (gh9 _ _ (sp_r eh8 (gh7 _ _ (sp_r eh6 (gh5 _ _ (sp_i eh4 (sp_i eh3 (sp_r eh2 (sx_n eh1 oh1)))))))))))))) (by decide) (by decide) ?_
  refine A_icmp_ge (tgt := 92) d_Score_init_70 (by decide) (fun c15 => absurd c15 (by decide)) (fun c15 => ?_)
  refine A_aload_n 0 d_Score_init_73 rfl rfl ?_
  refine A_getAv (z := (some n)) T_ok d_Score_init_74 f_Score_11 hs (rr_o eh14 (fun q => absurd q.2 (by decide)) (rr_n eh13 (rr_o eh12 (fun q => absurd q.2 (by decide)) (rr_n eh11 (rr_o eh10 (fun q => absurd q.2 (by decide)) (rr_n eh9 (rr_o eh8 (fun q => absurd q.2 (by decide)) (rr_n eh7 (rr_o eh6 (fun q => absurd q.2 (by decide)) (rr_n eh5 (rr_i eh4 (rr_i eh3 (rr_s eh2))))))))))))) ?_
  refine A_iload_n 1 d_Score_init_77 rfl rfl ?_
  refine A_newv (c := 10) (q := (n + 6)) (N := 17) T_ok T_k d_Score_init_78 rfl rfl cl_Score_9 (by decide) (by decide) hn (fun h16 eh16 nh16 gh16 => ?_)
  have oh16 := hn
  replace hn := nh16
  replace hs := gh16 _ _ hs
  refine A_dupR d_Score_init_81 ?_
  refine A_pc (pc' := 82) rfl ?_
  refine A_callI0 m_Voice_init d_Score_init_82 l_Score_40 k_Voice_init (by decide) (by decide) (Nat.le_of_ble_eq_true rfl) (c_Voice_init h16 (n + 6) (n + 7) hn (sx_n eh16 oh16) 1) (fun r h17 hq => ?_)
  obtain ⟨rfl, eh17⟩ := hq
  replace hn := i_Voice_lenE eh17 hn
  replace hs := i_Voice_atE eh17 hs
  refine A_aastorev (j := 0) d_Score_init_85 (i_Voice_atE eh17 (gh16 _ _ (sp_r eh14 (gh13 _ _ (sp_r eh12 (gh11 _ _ (sp_r eh10 (gh9 _ _ (sp_r eh8 (gh7 _ _ (sp_r eh6 (gh5 _ _ (sp_i eh4 (sp_i eh3 (sp_r eh2 (sx_n eh1 oh1)))))))))))))))) (i_Voice_atE eh17 (sx_n eh16 oh16)) (by decide) (by decide) rfl (fun h18 eh18 => ?_)
  replace hn := sn_r eh18 hn
  replace hs := sp_r eh18 hs
  refine A_iincv (z := 1) (L' := [some (av_R (some t)), some (av_I 1)]) d_Score_init_86 rfl (by decide +kernel) rfl ?_
  refine A_goto (tgt := 64) d_Score_init_89 (by decide) ?_
  refine A_iload_n 1 d_Score_init_64 rfl rfl ?_
  refine A_aload_n 0 d_Score_init_65 rfl rfl ?_
  refine A_getAv (z := (some n)) T_ok d_Score_init_66 f_Score_11 hs (rr_o eh18 (fun q => (Nat.ne_of_lt htn) q.1) (i_Voice_roE eh17 (Nat.ne_of_lt (Nat.lt_add_right 6 htn)) (rr_n eh16 (rr_o eh14 (fun q => absurd q.2 (by decide)) (rr_n eh13 (rr_o eh12 (fun q => absurd q.2 (by decide)) (rr_n eh11 (rr_o eh10 (fun q => absurd q.2 (by decide)) (rr_n eh9 (rr_o eh8 (fun q => absurd q.2 (by decide)) (rr_n eh7 (rr_o eh6 (fun q => absurd q.2 (by decide)) (rr_n eh5 (rr_i eh4 (rr_i eh3 (rr_s eh2)))))))))))))))) ?_
  refine A_alenN d_Score_init_69 (sp_r eh18 (i_Voice_atE eh17 (gh16 _ _ (sp_r eh14 (gh13 _ _ (sp_r eh12 (gh11 _ _ (sp_r eh10 (gh9 _ _ (sp_r eh8 (gh7 _ _ (sp_r eh6 (gh5 _ _ (sp_i eh4 (sp_i eh3 (sp_r eh2 (sx_n eh1 oh1))))))))))))))))) (by decide) (by decide) ?_
  refine A_icmp_ge (tgt := 92) d_Score_init_70 (by decide) (fun c19 => absurd c19 (by decide)) (fun c19 => ?_)
  refine A_aload_n 0 d_Score_init_73 rfl rfl ?_
  refine A_getAv (z := (some n)) T_ok d_Score_init_74 f_Score_11 hs (rr_o eh18 (fun q => (Nat.ne_of_lt htn) q.1) (i_Voice_roE eh17 (Nat.ne_of_lt (Nat.lt_add_right 6 htn)) (rr_n eh16 (rr_o eh14 (fun q => absurd q.2 (by decide)) (rr_n eh13 (rr_o eh12 (fun q => absurd q.2 (by decide)) (rr_n eh11 (rr_o eh10 (fun q => absurd q.2 (by decide)) (rr_n eh9 (rr_o eh8 (fun q => absurd q.2 (by decide)) (rr_n eh7 (rr_o eh6 (fun q => absurd q.2 (by decide)) (rr_n eh5 (rr_i eh4 (rr_i eh3 (rr_s eh2)))))))))))))))) ?_
  refine A_iload_n 1 d_Score_init_77 rfl rfl ?_
  refine A_newv (c := 10) (q := (n + 20)) (N := 17) T_ok T_k d_Score_init_78 rfl rfl cl_Score_9 (by decide) (by decide) hn (fun h20 eh20 nh20 gh20 => ?_)
  have oh20 := hn
  replace hn := nh20
  replace hs := gh20 _ _ hs
  refine A_dupR d_Score_init_81 ?_
  refine A_pc (pc' := 82) rfl ?_
  refine A_callI0 m_Voice_init d_Score_init_82 l_Score_40 k_Voice_init (by decide) (by decide) (Nat.le_of_ble_eq_true rfl) (c_Voice_init h20 (n + 20) (n + 21) hn (sx_n eh20 oh20) 1) (fun r h21 hq => ?_)
  obtain ⟨rfl, eh21⟩ := hq
  replace hn := i_Voice_lenE eh21 hn
  replace hs := i_Voice_atE eh21 hs
  refine A_aastorev (j := 1) d_Score_init_85 (i_Voice_atE eh21 (gh20 _ _ (sp_r eh18 (i_Voice_atE eh17 (gh16 _ _ (sp_r eh14 (gh13 _ _ (sp_r eh12 (gh11 _ _ (sp_r eh10 (gh9 _ _ (sp_r eh8 (gh7 _ _ (sp_r eh6 (gh5 _ _ (sp_i eh4 (sp_i eh3 (sp_r eh2 (sx_n eh1 oh1))))))))))))))))))) (i_Voice_atE eh21 (sx_n eh20 oh20)) (by decide) (by decide) rfl (fun h22 eh22 => ?_)
  replace hn := sn_r eh22 hn
  replace hs := sp_r eh22 hs
  refine A_iincv (z := 2) (L' := [some (av_R (some t)), some (av_I 2)]) d_Score_init_86 rfl (by decide +kernel) rfl ?_
  refine A_goto (tgt := 64) d_Score_init_89 (by decide) ?_
  refine A_iload_n 1 d_Score_init_64 rfl rfl ?_
  refine A_aload_n 0 d_Score_init_65 rfl rfl ?_
  refine A_getAv (z := (some n)) T_ok d_Score_init_66 f_Score_11 hs (rr_o eh22 (fun q => (Nat.ne_of_lt htn) q.1) (i_Voice_roE eh21 (Nat.ne_of_lt (Nat.lt_add_right 20 htn)) (rr_n eh20 (rr_o eh18 (fun q => (Nat.ne_of_lt htn) q.1) (i_Voice_roE eh17 (Nat.ne_of_lt (Nat.lt_add_right 6 htn)) (rr_n eh16 (rr_o eh14 (fun q => absurd q.2 (by decide)) (rr_n eh13 (rr_o eh12 (fun q => absurd q.2 (by decide)) (rr_n eh11 (rr_o eh10 (fun q => absurd q.2 (by decide)) (rr_n eh9 (rr_o eh8 (fun q => absurd q.2 (by decide)) (rr_n eh7 (rr_o eh6 (fun q => absurd q.2 (by decide)) (rr_n eh5 (rr_i eh4 (rr_i eh3 (rr_s eh2))))))))))))))))))) ?_
  refine A_alenN d_Score_init_69 (sp_r eh22 (i_Voice_atE eh21 (gh20 _ _ (sp_r eh18 (i_Voice_atE eh17 (gh16 _ _ (sp_r eh14 (gh13 _ _ (sp_r eh12 (gh11 _ _ (sp_r eh10 (gh9 _ _ (sp_r eh8 (gh7 _ _ (sp_r eh6 (gh5 _ _ (sp_i eh4 (sp_i eh3 (sp_r eh2 (sx_n eh1 oh1)))))))))))))))))))) (by decide) (by decide) ?_
  refine A_icmp_ge (tgt := 92) d_Score_init_70 (by decide) (fun c23 => absurd c23 (by decide)) (fun c23 => ?_)
  refine A_aload_n 0 d_Score_init_73 rfl rfl ?_
  refine A_getAv (z := (some n)) T_ok d_Score_init_74 f_Score_11 hs (rr_o eh22 (fun q => (Nat.ne_of_lt htn) q.1) (i_Voice_roE eh21 (Nat.ne_of_lt (Nat.lt_add_right 20 htn)) (rr_n eh20 (rr_o eh18 (fun q => (Nat.ne_of_lt htn) q.1) (i_Voice_roE eh17 (Nat.ne_of_lt (Nat.lt_add_right 6 htn)) (rr_n eh16 (rr_o eh14 (fun q => absurd q.2 (by decide)) (rr_n eh13 (rr_o eh12 (fun q => absurd q.2 (by decide)) (rr_n eh11 (rr_o eh10 (fun q => absurd q.2 (by decide)) (rr_n eh9 (rr_o eh8 (fun q => absurd q.2 (by decide)) (rr_n eh7 (rr_o eh6 (fun q => absurd q.2 (by decide)) (rr_n eh5 (rr_i eh4 (rr_i eh3 (rr_s eh2))))))))))))))))))) ?_
  refine A_iload_n 1 d_Score_init_77 rfl rfl ?_
  refine A_newv (c := 10) (q := (n + 34)) (N := 17) T_ok T_k d_Score_init_78 rfl rfl cl_Score_9 (by decide) (by decide) hn (fun h24 eh24 nh24 gh24 => ?_)
  have oh24 := hn
  replace hn := nh24
  replace hs := gh24 _ _ hs
  refine A_dupR d_Score_init_81 ?_
  refine A_pc (pc' := 82) rfl ?_
  refine A_callI0 m_Voice_init d_Score_init_82 l_Score_40 k_Voice_init (by decide) (by decide) (Nat.le_of_ble_eq_true rfl) (c_Voice_init h24 (n + 34) (n + 35) hn (sx_n eh24 oh24) 1) (fun r h25 hq => ?_)
  obtain ⟨rfl, eh25⟩ := hq
  replace hn := i_Voice_lenE eh25 hn
  replace hs := i_Voice_atE eh25 hs
  refine A_aastorev (j := 2) d_Score_init_85 (i_Voice_atE eh25 (gh24 _ _ (sp_r eh22 (i_Voice_atE eh21 (gh20 _ _ (sp_r eh18 (i_Voice_atE eh17 (gh16 _ _ (sp_r eh14 (gh13 _ _ (sp_r eh12 (gh11 _ _ (sp_r eh10 (gh9 _ _ (sp_r eh8 (gh7 _ _ (sp_r eh6 (gh5 _ _ (sp_i eh4 (sp_i eh3 (sp_r eh2 (sx_n eh1 oh1)))))))))))))))))))))) (i_Voice_atE eh25 (sx_n eh24 oh24)) (by decide) (by decide) rfl (fun h26 eh26 => ?_)
  replace hn := sn_r eh26 hn
  replace hs := sp_r eh26 hs
  refine A_iincv (z := 3) (L' := [some (av_R (some t)), some (av_I 3)]) d_Score_init_86 rfl (by decide +kernel) rfl ?_
  refine A_goto (tgt := 64) d_Score_init_89 (by decide) ?_
  refine A_iload_n 1 d_Score_init_64 rfl rfl ?_
  refine A_aload_n 0 d_Score_init_65 rfl rfl ?_
  refine A_getAv (z := (some n)) T_ok d_Score_init_66 f_Score_11 hs (rr_o eh26 (fun q => (Nat.ne_of_lt htn) q.1) (i_Voice_roE eh25 (Nat.ne_of_lt (Nat.lt_add_right 34 htn)) (rr_n eh24 (rr_o eh22 (fun q => (Nat.ne_of_lt htn) q.1) (i_Voice_roE eh21 (Nat.ne_of_lt (Nat.lt_add_right 20 htn)) (rr_n eh20 (rr_o eh18 (fun q => (Nat.ne_of_lt htn) q.1) (i_Voice_roE eh17 (Nat.ne_of_lt (Nat.lt_add_right 6 htn)) (rr_n eh16 (rr_o eh14 (fun q => absurd q.2 (by decide)) (rr_n eh13 (rr_o eh12 (fun q => absurd q.2 (by decide)) (rr_n eh11 (rr_o eh10 (fun q => absurd q.2 (by decide)) (rr_n eh9 (rr_o eh8 (fun q => absurd q.2 (by decide)) (rr_n eh7 (rr_o eh6 (fun q => absurd q.2 (by decide)) (rr_n eh5 (rr_i eh4 (rr_i eh3 (rr_s eh2)))))))))))))))))))))) ?_
  refine A_alenN d_Score_init_69 (sp_r eh26 (i_Voice_atE eh25 (gh24 _ _ (sp_r eh22 (i_Voice_atE eh21 (gh20 _ _ (sp_r eh18 (i_Voice_atE eh17 (gh16 _ _ (sp_r eh14 (gh13 _ _ (sp_r eh12 (gh11 _ _ (sp_r eh10 (gh9 _ _ (sp_r eh8 (gh7 _ _ (sp_r eh6 (gh5 _ _ (sp_i eh4 (sp_i eh3 (sp_r eh2 (sx_n eh1 oh1))))))))))))))))))))))) (by decide) (by decide) ?_
  refine A_icmp_ge (tgt := 92) d_Score_init_70 (by decide) (fun c27 => absurd c27 (by decide)) (fun c27 => ?_)
  refine A_aload_n 0 d_Score_init_73 rfl rfl ?_
  refine A_getAv (z := (some n)) T_ok d_Score_init_74 f_Score_11 hs (rr_o eh26 (fun q => (Nat.ne_of_lt htn) q.1) (i_Voice_roE eh25 (Nat.ne_of_lt (Nat.lt_add_right 34 htn)) (rr_n eh24 (rr_o eh22 (fun q => (Nat.ne_of_lt htn) q.1) (i_Voice_roE eh21 (Nat.ne_of_lt (Nat.lt_add_right 20 htn)) (rr_n eh20 (rr_o eh18 (fun q => (Nat.ne_of_lt htn) q.1) (i_Voice_roE eh17 (Nat.ne_of_lt (Nat.lt_add_right 6 htn)) (rr_n eh16 (rr_o eh14 (fun q => absurd q.2 (by decide)) (rr_n eh13 (rr_o eh12 (fun q => absurd q.2 (by decide)) (rr_n eh11 (rr_o eh10 (fun q => absurd q.2 (by decide)) (rr_n eh9 (rr_o eh8 (fun q => absurd q.2 (by decide)) (rr_n eh7 (rr_o eh6 (fun q => absurd q.2 (by decide)) (rr_n eh5 (rr_i eh4 (rr_i eh3 (rr_s eh2)))))))))))))))))))))) ?_
  refine A_iload_n 1 d_Score_init_77 rfl rfl ?_
  refine A_newv (c := 10) (q := (n + 48)) (N := 17) T_ok T_k d_Score_init_78 rfl rfl cl_Score_9 (by decide) (by decide) hn (fun h28 eh28 nh28 gh28 => ?_)
  have oh28 := hn
  replace hn := nh28
  replace hs := gh28 _ _ hs
  refine A_dupR d_Score_init_81 ?_
  refine A_pc (pc' := 82) rfl ?_
  refine A_callI0 m_Voice_init d_Score_init_82 l_Score_40 k_Voice_init (by decide) (by decide) (Nat.le_of_ble_eq_true rfl) (c_Voice_init h28 (n + 48) (n + 49) hn (sx_n eh28 oh28) 1) (fun r h29 hq => ?_)
  obtain ⟨rfl, eh29⟩ := hq
  replace hn := i_Voice_lenE eh29 hn
  replace hs := i_Voice_atE eh29 hs
  refine A_aastorev (j := 3) d_Score_init_85 (i_Voice_atE eh29 (gh28 _ _ (sp_r eh26 (i_Voice_atE eh25 (gh24 _ _ (sp_r eh22 (i_Voice_atE eh21 (gh20 _ _ (sp_r eh18 (i_Voice_atE eh17 (gh16 _ _ (sp_r eh14 (gh13 _ _ (sp_r eh12 (gh11 _ _ (sp_r eh10 (gh9 _ _ (sp_r eh8 (gh7 _ _ (sp_r eh6 (gh5 _ _ (sp_i eh4 (sp_i eh3 (sp_r eh2 (sx_n eh1 oh1))))))))))))))))))))))))) (i_Voice_atE eh29 (sx_n eh28 oh28)) (by decide) (by decide) rfl (fun h30 eh30 => ?_)
  replace hn := sn_r eh30 hn
  replace hs := sp_r eh30 hs
  refine A_iincv (z := 4) (L' := [some (av_R (some t)), some (av_I 4)]) d_Score_init_86 rfl (by decide +kernel) rfl ?_
  refine A_goto (tgt := 64) d_Score_init_89 (by decide) ?_
  refine A_iload_n 1 d_Score_init_64 rfl rfl ?_
  refine A_aload_n 0 d_Score_init_65 rfl rfl ?_
  refine A_getAv (z := (some n)) T_ok d_Score_init_66 f_Score_11 hs (rr_o eh30 (fun q => (Nat.ne_of_lt htn) q.1) (i_Voice_roE eh29 (Nat.ne_of_lt (Nat.lt_add_right 48 htn)) (rr_n eh28 (rr_o eh26 (fun q => (Nat.ne_of_lt htn) q.1) (i_Voice_roE eh25 (Nat.ne_of_lt (Nat.lt_add_right 34 htn)) (rr_n eh24 (rr_o eh22 (fun q => (Nat.ne_of_lt htn) q.1) (i_Voice_roE eh21 (Nat.ne_of_lt (Nat.lt_add_right 20 htn)) (rr_n eh20 (rr_o eh18 (fun q => (Nat.ne_of_lt htn) q.1) (i_Voice_roE eh17 (Nat.ne_of_lt (Nat.lt_add_right 6 htn)) (rr_n eh16 (rr_o eh14 (fun q => absurd q.2 (by decide)) (rr_n eh13 (rr_o eh12 (fun q => absurd q.2 (by decide)) (rr_n eh11 (rr_o eh10 (fun q => absurd q.2 (by decide)) (rr_n eh9 (rr_o eh8 (fun q => absurd q.2 (by decide)) (rr_n eh7 (rr_o eh6 (fun q => absurd q.2 (by decide)) (rr_n eh5 (rr_i eh4 (rr_i eh3 (rr_s eh2))))))))))))))))))))))))) ?_
  refine A_alenN d_Score_init_69 (sp_r eh30 (i_Voice_atE eh29 (gh28 _ _ (sp_r eh26 (i_Voice_atE eh25 (gh24 _ _ (sp_r eh22 (i_Voice_atE eh21 (gh20 _ _ (sp_r eh18 (i_Voice_atE eh17 (gh16 _ _ (sp_r eh14 (gh13 _ _ (sp_r eh12 (gh11 _ _ (sp_r eh10 (gh9 _ _ (sp_r eh8 (gh7 _ _ (sp_r eh6 (gh5 _ _ (sp_i eh4 (sp_i eh3 (sp_r eh2 (sx_n eh1 oh1)))))))))))))))))))))))))) (by decide) (by decide) ?_
  refine A_icmp_ge (tgt := 92) d_Score_init_70 (by decide) (fun c31 => ?_) (fun c31 => absurd c31 (by decide))
  exact A_vret d_Score_init_92 (by decide) rfl ⟨rfl, by rw [eh30, eh29, eh28, eh26, eh25, eh24, eh22, eh21, eh20, eh18, eh17, eh16, eh14, eh13, eh12, eh11, eh10, eh9, eh8, eh7, eh6, eh5, eh4, eh3, eh2, eh1] <;> rfl⟩
def i_Tokens (h : ah_T) (t n : Nat) : ah_T := (st_r (st_n (st_r (st_n (st_r (st_n (st_r (st_n (st_r (st_n h 0 2001) t 0 (some n)) 0 2001) t 1 (some (n + 1))) 1 2001) t 2 (some (n + 2))) 0 2001) t 3 (some (n + 3))) 0 0) t 6 (some (n + 4)))
set_option maxRecDepth 100000 in
theorem i_Tokens_sh (h : ah_T) (t n : Nat) : (i_Tokens h t n).1 = h.1 ++ [(0, 2001), (0, 2001), (1, 2001), (0, 2001), (0, 0)] := by
  simp only [i_Tokens, n1_s, i1_s, l1_s, r1_s, List.append_assoc, List.cons_append, List.nil_append]
theorem i_Tokens_len {h : ah_T} {t n q : Nat} (hq : h.1.length = q) : (i_Tokens h t n).1.length = q + 5 := by rw [i_Tokens_sh, List.length_append, hq]; rfl
theorem i_Tokens_at {h : ah_T} {t n x : Nat} {y : Nat × Nat} (hx : h.1[x]? = some y) : (i_Tokens h t n).1[x]? = some y := by rw [i_Tokens_sh, List.getElem?_append_left (List.getElem?_eq_some_iff.mp hx).1]; exact hx
theorem i_Tokens_atE {h h' : ah_T} {t n x : Nat} {y : Nat × Nat} (e : h' = i_Tokens h t n) (hx : h.1[x]? = some y) : h'.1[x]? = some y := by subst e; exact i_Tokens_at hx
theorem i_Tokens_lenE {h h' : ah_T} {t n q : Nat} (e : h' = i_Tokens h t n) (hq : h.1.length = q) : h'.1.length = q + 5 := by subst e; exact i_Tokens_len hq
set_option maxRecDepth 100000 in
set_option maxHeartbeats 8000000 in
theorem c_Tokens_init {G : cx_T} (h : ah_T) (t n : Nat) (hn : h.1.length = n) (hs : h.1[t]? = some (8 + 4, 13)) (d : Nat) (hd : d = 1 := by rfl) : con G d 5 8004 m_Tokens_init [av_R (some t)] h (fun r h' => r = none ∧ h' = i_Tokens h t n) := by
  subst hd
  have htn : t < n := by rw [← hn]; exact (List.getElem?_eq_some_iff.mp hs).1
  refine con_of (L := [some (av_R (some t))]) (by decide +kernel) (Nat.le_of_ble_eq_true rfl) rfl ?_
  refine A_aload_n 0 d_Tokens_init_0 rfl rfl ?_
  refine A_objInit d_Tokens_init_1 oi_Tokens.1 oi_Tokens.2.1 oi_Tokens.2.2 (by decide) rfl ?_
  refine A_aload_n 0 d_Tokens_init_4 rfl rfl ?_
  refine A_sipush d_Tokens_init_5 rfl ?_
  refine A_newIv (q := n) (N := 2001) d_Tokens_init_8 ac_int rfl (by decide) (by decide) (by decide) hn (fun h1 eh1 nh1 gh1 => ?_)
  have oh1 := hn
  replace hn := nh1
  replace hs := gh1 _ _ hs
  refine A_pc (pc' := 10) rfl ?_
  refine A_putRv T_ok d_Tokens_init_10 f_Tokens_9 ty_a hs (Or.inr ⟨rfl, fun q hq => by cases hq; rfl⟩) (fun h2 eh2 => ?_)
  replace hn := sn_r eh2 hn
  replace hs := sp_r eh2 hs
  refine A_aload_n 0 d_Tokens_init_13 rfl rfl ?_
  refine A_sipush d_Tokens_init_14 rfl ?_
  refine A_newIv (q := (n + 1)) (N := 2001) d_Tokens_init_17 ac_int rfl (by decide) (by decide) (by decide) hn (fun h3 eh3 nh3 gh3 => ?_)
  have oh3 := hn
  replace hn := nh3
  replace hs := gh3 _ _ hs
  refine A_putRv T_ok d_Tokens_init_19 f_Tokens_15 ty_a hs (Or.inr ⟨rfl, fun q hq => by cases hq; rfl⟩) (fun h4 eh4 => ?_)
  replace hn := sn_r eh4 hn
  replace hs := sp_r eh4 hs
  refine A_aload_n 0 d_Tokens_init_22 rfl rfl ?_
  refine A_pc (pc' := 23) rfl ?_
  refine A_sipush d_Tokens_init_23 rfl ?_
  refine A_newLv (q := (n + 2)) (N := 2001) d_Tokens_init_26 ac_long rfl (by decide) (by decide) (by decide) hn (fun h5 eh5 nh5 gh5 => ?_)
  have oh5 := hn
  replace hn := nh5
  replace hs := gh5 _ _ hs
  refine A_putRv T_ok d_Tokens_init_28 f_Tokens_18 ty_a hs (Or.inr ⟨rfl, fun q hq => by cases hq; rfl⟩) (fun h6 eh6 => ?_)
  replace hn := sn_r eh6 hn
  replace hs := sp_r eh6 hs
  refine A_aload_n 0 d_Tokens_init_31 rfl rfl ?_
  refine A_sipush d_Tokens_init_32 rfl ?_
  refine A_newIv (q := (n + 3)) (N := 2001) d_Tokens_init_35 ac_int rfl (by decide) (by decide) (by decide) hn (fun h7 eh7 nh7 gh7 => ?_)
  have oh7 := hn
  replace hn := nh7
  replace hs := gh7 _ _ hs
  refine A_pc (pc' := 37) rfl ?_
  refine A_putRv T_ok d_Tokens_init_37 f_Tokens_22 ty_a hs (Or.inr ⟨rfl, fun q hq => by cases hq; rfl⟩) (fun h8 eh8 => ?_)
  replace hn := sn_r eh8 hn
  replace hs := sp_r eh8 hs
  refine A_aload_n 0 d_Tokens_init_40 rfl rfl ?_
  refine A_iconst d_Tokens_init_41 rfl ?_
  refine A_newIv (q := (n + 4)) (N := 0) d_Tokens_init_42 ac_int rfl (by decide) (by decide) (by decide) hn (fun h9 eh9 nh9 gh9 => ?_)
  have oh9 := hn
  replace hn := nh9
  replace hs := gh9 _ _ hs
  refine A_putRv T_ok d_Tokens_init_44 f_Tokens_25 ty_a hs fin_f (fun h10 eh10 => ?_)
  replace hn := sn_r eh10 hn
  replace hs := sp_r eh10 hs
  exact A_vret d_Tokens_init_47 (by decide) rfl ⟨rfl, by rw [eh10, eh9, eh8, eh7, eh6, eh5, eh4, eh3, eh2, eh1] <;> rfl⟩
def i_Parts (h : ah_T) (t n : Nat) : ah_T := (st_r (st_n (st_r (st_n (st_r (st_n (st_r (st_n (st_r (st_n (st_r (st_n h 0 2000) t 0 (some n)) 0 2000) t 1 (some (n + 1))) 0 2000) t 2 (some (n + 2))) 0 2000) t 3 (some (n + 3))) 0 7) t 5 (some (n + 4))) 0 7) t 6 (some (n + 5)))
set_option maxRecDepth 100000 in
theorem i_Parts_sh (h : ah_T) (t n : Nat) : (i_Parts h t n).1 = h.1 ++ [(0, 2000), (0, 2000), (0, 2000), (0, 2000), (0, 7), (0, 7)] := by
  simp only [i_Parts, n1_s, i1_s, l1_s, r1_s, List.append_assoc, List.cons_append, List.nil_append]
theorem i_Parts_len {h : ah_T} {t n q : Nat} (hq : h.1.length = q) : (i_Parts h t n).1.length = q + 6 := by rw [i_Parts_sh, List.length_append, hq]; rfl
theorem i_Parts_at {h : ah_T} {t n x : Nat} {y : Nat × Nat} (hx : h.1[x]? = some y) : (i_Parts h t n).1[x]? = some y := by rw [i_Parts_sh, List.getElem?_append_left (List.getElem?_eq_some_iff.mp hx).1]; exact hx
theorem i_Parts_atE {h h' : ah_T} {t n x : Nat} {y : Nat × Nat} (e : h' = i_Parts h t n) (hx : h.1[x]? = some y) : h'.1[x]? = some y := by subst e; exact i_Parts_at hx
theorem i_Parts_lenE {h h' : ah_T} {t n q : Nat} (e : h' = i_Parts h t n) (hq : h.1.length = q) : h'.1.length = q + 6 := by subst e; exact i_Parts_len hq
set_option maxRecDepth 100000 in
set_option maxHeartbeats 8000000 in
theorem c_Parts_init {G : cx_T} (h : ah_T) (t n : Nat) (hn : h.1.length = n) (hs : h.1[t]? = some (4 + 4, 12)) (d : Nat) (hd : d = 1 := by rfl) : con G d 6 8014 m_Parts_init [av_R (some t)] h (fun r h' => r = none ∧ h' = i_Parts h t n) := by
  subst hd
  have htn : t < n := by rw [← hn]; exact (List.getElem?_eq_some_iff.mp hs).1
  refine con_of (L := [some (av_R (some t))]) (by decide +kernel) (Nat.le_of_ble_eq_true rfl) rfl ?_
  refine A_aload_n 0 d_Parts_init_0 rfl rfl ?_
  refine A_objInit d_Parts_init_1 oi_Parts.1 oi_Parts.2.1 oi_Parts.2.2 (by decide) rfl ?_
  refine A_aload_n 0 d_Parts_init_4 rfl rfl ?_
  refine A_sipush d_Parts_init_5 rfl ?_
  refine A_newIv (q := n) (N := 2000) d_Parts_init_8 ac_int rfl (by decide) (by decide) (by decide) hn (fun h1 eh1 nh1 gh1 => ?_)
  have oh1 := hn
  replace hn := nh1
  replace hs := gh1 _ _ hs
  refine A_pc (pc' := 10) rfl ?_
  refine A_putRv T_ok d_Parts_init_10 f_Parts_9 ty_a hs (Or.inr ⟨rfl, fun q hq => by cases hq; rfl⟩) (fun h2 eh2 => ?_)
  replace hn := sn_r eh2 hn
  replace hs := sp_r eh2 hs
  refine A_aload_n 0 d_Parts_init_13 rfl rfl ?_
  refine A_sipush d_Parts_init_14 rfl ?_
  refine A_newIv (q := (n + 1)) (N := 2000) d_Parts_init_17 ac_int rfl (by decide) (by decide) (by decide) hn (fun h3 eh3 nh3 gh3 => ?_)
  have oh3 := hn
  replace hn := nh3
  replace hs := gh3 _ _ hs
  refine A_putRv T_ok d_Parts_init_19 f_Parts_15 ty_a hs (Or.inr ⟨rfl, fun q hq => by cases hq; rfl⟩) (fun h4 eh4 => ?_)
  replace hn := sn_r eh4 hn
  replace hs := sp_r eh4 hs
  refine A_aload_n 0 d_Parts_init_22 rfl rfl ?_
  refine A_pc (pc' := 23) rfl ?_
  refine A_sipush d_Parts_init_23 rfl ?_
  refine A_newIv (q := (n + 2)) (N := 2000) d_Parts_init_26 ac_int rfl (by decide) (by decide) (by decide) hn (fun h5 eh5 nh5 gh5 => ?_)
  have oh5 := hn
  replace hn := nh5
  replace hs := gh5 _ _ hs
  refine A_putRv T_ok d_Parts_init_28 f_Parts_18 ty_a hs (Or.inr ⟨rfl, fun q hq => by cases hq; rfl⟩) (fun h6 eh6 => ?_)
  replace hn := sn_r eh6 hn
  replace hs := sp_r eh6 hs
  refine A_aload_n 0 d_Parts_init_31 rfl rfl ?_
  refine A_sipush d_Parts_init_32 rfl ?_
  refine A_newIv (q := (n + 3)) (N := 2000) d_Parts_init_35 ac_int rfl (by decide) (by decide) (by decide) hn (fun h7 eh7 nh7 gh7 => ?_)
  have oh7 := hn
  replace hn := nh7
  replace hs := gh7 _ _ hs
  refine A_pc (pc' := 37) rfl ?_
  refine A_putRv T_ok d_Parts_init_37 f_Parts_21 ty_a hs (Or.inr ⟨rfl, fun q hq => by cases hq; rfl⟩) (fun h8 eh8 => ?_)
  replace hn := sn_r eh8 hn
  replace hs := sp_r eh8 hs
  refine A_aload_n 0 d_Parts_init_40 rfl rfl ?_
  refine A_bipush d_Parts_init_41 rfl ?_
  refine A_newIv (q := (n + 4)) (N := 7) d_Parts_init_43 ac_int rfl (by decide) (by decide) (by decide) hn (fun h9 eh9 nh9 gh9 => ?_)
  have oh9 := hn
  replace hn := nh9
  replace hs := gh9 _ _ hs
  refine A_putRv T_ok d_Parts_init_45 f_Parts_24 ty_a hs (Or.inr ⟨rfl, fun q hq => by cases hq; rfl⟩) (fun h10 eh10 => ?_)
  replace hn := sn_r eh10 hn
  replace hs := sp_r eh10 hs
  refine A_aload_n 0 d_Parts_init_48 rfl rfl ?_
  refine A_pc (pc' := 49) rfl ?_
  refine A_bipush d_Parts_init_49 rfl ?_
  refine A_newIv (q := (n + 5)) (N := 7) d_Parts_init_51 ac_int rfl (by decide) (by decide) (by decide) hn (fun h11 eh11 nh11 gh11 => ?_)
  have oh11 := hn
  replace hn := nh11
  replace hs := gh11 _ _ hs
  refine A_putRv T_ok d_Parts_init_53 f_Parts_27 ty_a hs (Or.inr ⟨rfl, fun q hq => by cases hq; rfl⟩) (fun h12 eh12 => ?_)
  replace hn := sn_r eh12 hn
  replace hs := sp_r eh12 hs
  exact A_vret d_Parts_init_56 (by decide) rfl ⟨rfl, by rw [eh12, eh11, eh10, eh9, eh8, eh7, eh6, eh5, eh4, eh3, eh2, eh1] <;> rfl⟩
def i_Reader (h : ah_T) (t n : Nat) : ah_T := (st_r (i_Score (st_n (st_r (st_n (st_r (i_Parts (st_n (st_r (i_Tokens (st_n h 12 13) n (n + 1)) t 0 (some n)) 8 12) (n + 6) (n + 7)) t 1 (some (n + 6))) 1 16) t 2 (some (n + 13))) 10 13) (n + 14) (n + 15)) t 5 (some (n + 14)))
set_option maxRecDepth 100000 in
theorem i_Reader_sh (h : ah_T) (t n : Nat) : (i_Reader h t n).1 = h.1 ++ [(12, 13), (0, 2001), (0, 2001), (1, 2001), (0, 2001), (0, 0), (8, 12), (0, 2000), (0, 2000), (0, 2000), (0, 2000), (0, 7), (0, 7), (1, 16), (10, 13), (3, 4), (0, 8), (0, 24), (0, 24), (0, 24), (0, 12), (14, 17), (0, 300), (0, 300), (0, 301), (0, 300), (0, 300), (2, 300), (0, 300), (0, 300), (1, 301), (1, 301), (1, 300), (1, 300), (0, 102), (14, 17), (0, 300), (0, 300), (0, 301), (0, 300), (0, 300), (2, 300), (0, 300), (0, 300), (1, 301), (1, 301), (1, 300), (1, 300), (0, 102), (14, 17), (0, 300), (0, 300), (0, 301), (0, 300), (0, 300), (2, 300), (0, 300), (0, 300), (1, 301), (1, 301), (1, 300), (1, 300), (0, 102), (14, 17), (0, 300), (0, 300), (0, 301), (0, 300), (0, 300), (2, 300), (0, 300), (0, 300), (1, 301), (1, 301), (1, 300), (1, 300), (0, 102)] := by
  simp only [i_Reader, n1_s, i1_s, l1_s, r1_s, i_Parts_sh, i_Score_sh, i_Tokens_sh, List.append_assoc, List.cons_append, List.nil_append]
theorem i_Reader_len {h : ah_T} {t n q : Nat} (hq : h.1.length = q) : (i_Reader h t n).1.length = q + 77 := by rw [i_Reader_sh, List.length_append, hq]; rfl
theorem i_Reader_at {h : ah_T} {t n x : Nat} {y : Nat × Nat} (hx : h.1[x]? = some y) : (i_Reader h t n).1[x]? = some y := by rw [i_Reader_sh, List.getElem?_append_left (List.getElem?_eq_some_iff.mp hx).1]; exact hx
theorem i_Reader_atE {h h' : ah_T} {t n x : Nat} {y : Nat × Nat} (e : h' = i_Reader h t n) (hx : h.1[x]? = some y) : h'.1[x]? = some y := by subst e; exact i_Reader_at hx
theorem i_Reader_lenE {h h' : ah_T} {t n q : Nat} (e : h' = i_Reader h t n) (hq : h.1.length = q) : h'.1.length = q + 77 := by subst e; exact i_Reader_len hq
set_option maxRecDepth 100000 in
set_option maxHeartbeats 8000000 in
theorem c_Reader_init {G : cx_T} (h : ah_T) (t n : Nat) (hn : h.1.length = n) (hs : h.1[t]? = some (5 + 4, 8)) (d : Nat) (hd : d = 3 := by rfl) : con G d 77 31056 m_Reader_init [av_R (some t)] h (fun r h' => r = none ∧ h' = i_Reader h t n) := by
  subst hd
  have htn : t < n := by rw [← hn]; exact (List.getElem?_eq_some_iff.mp hs).1
  refine con_of (L := [some (av_R (some t))]) (by decide +kernel) (Nat.le_of_ble_eq_true rfl) rfl ?_
  refine A_aload_n 0 d_Reader_init_0 rfl rfl ?_
  refine A_objInit d_Reader_init_1 oi_Reader.1 oi_Reader.2.1 oi_Reader.2.2 (by decide) rfl ?_
  refine A_aload_n 0 d_Reader_init_4 rfl rfl ?_
  refine A_newv (c := 8) (q := n) (N := 13) T_ok T_k d_Reader_init_5 rfl rfl cl_Reader_9 (by decide) (by decide) hn (fun h1 eh1 nh1 gh1 => ?_)
  have oh1 := hn
  replace hn := nh1
  replace hs := gh1 _ _ hs
  refine A_dupR d_Reader_init_8 ?_
  refine A_pc (pc' := 9) rfl ?_
  refine A_callI0 m_Tokens_init d_Reader_init_9 l_Reader_11 k_Tokens_init (by decide) (by decide) (Nat.le_of_ble_eq_true rfl) (c_Tokens_init h1 n (n + 1) hn (sx_n eh1 oh1) 1) (fun r h2 hq => ?_)
  obtain ⟨rfl, eh2⟩ := hq
  replace hn := i_Tokens_lenE eh2 hn
  replace hs := i_Tokens_atE eh2 hs
  refine A_putRv T_ok d_Reader_init_12 f_Reader_12 ty_o hs (Or.inr ⟨rfl, fun q hq => by cases hq; rfl⟩) (fun h3 eh3 => ?_)
  replace hn := sn_r eh3 hn
  replace hs := sp_r eh3 hs
  refine A_aload_n 0 d_Reader_init_15 rfl rfl ?_
  refine A_newv (c := 4) (q := (n + 6)) (N := 12) T_ok T_k d_Reader_init_16 rfl rfl cl_Reader_18 (by decide) (by decide) hn (fun h4 eh4 nh4 gh4 => ?_)
  have oh4 := hn
  replace hn := nh4
  replace hs := gh4 _ _ hs
  refine A_dupR d_Reader_init_19 ?_
  refine A_callI0 m_Parts_init d_Reader_init_20 l_Reader_20 k_Parts_init (by decide) (by decide) (Nat.le_of_ble_eq_true rfl) (c_Parts_init h4 (n + 6) (n + 7) hn (sx_n eh4 oh4) 1) (fun r h5 hq => ?_)
  obtain ⟨rfl, eh5⟩ := hq
  replace hn := i_Parts_lenE eh5 hn
  replace hs := i_Parts_atE eh5 hs
  refine A_pc (pc' := 23) rfl ?_
  refine A_putRv T_ok d_Reader_init_23 f_Reader_21 ty_o hs (Or.inr ⟨rfl, fun q hq => by cases hq; rfl⟩) (fun h6 eh6 => ?_)
  replace hn := sn_r eh6 hn
  replace hs := sp_r eh6 hs
  refine A_aload_n 0 d_Reader_init_26 rfl rfl ?_
  refine A_bipush d_Reader_init_27 rfl ?_
  refine A_newLv (q := (n + 13)) (N := 16) d_Reader_init_29 ac_long rfl (by decide) (by decide) (by decide) hn (fun h7 eh7 nh7 gh7 => ?_)
  have oh7 := hn
  replace hn := nh7
  replace hs := gh7 _ _ hs
  refine A_putRv T_ok d_Reader_init_31 f_Reader_25 ty_a hs (Or.inr ⟨rfl, fun q hq => by cases hq; rfl⟩) (fun h8 eh8 => ?_)
  replace hn := sn_r eh8 hn
  replace hs := sp_r eh8 hs
  refine A_aload_n 0 d_Reader_init_34 rfl rfl ?_
  refine A_pc (pc' := 35) rfl ?_
  refine A_newv (c := 6) (q := (n + 14)) (N := 13) T_ok T_k d_Reader_init_35 rfl rfl cl_Reader_29 (by decide) (by decide) hn (fun h9 eh9 nh9 gh9 => ?_)
  have oh9 := hn
  replace hn := nh9
  replace hs := gh9 _ _ hs
  refine A_dupR d_Reader_init_38 ?_
  refine A_callI0 m_Score_init d_Reader_init_39 l_Reader_31 k_Score_init (by decide) (by decide) (Nat.le_of_ble_eq_true rfl) (c_Score_init h9 (n + 14) (n + 15) hn (sx_n eh9 oh9) 2) (fun r h10 hq => ?_)
  obtain ⟨rfl, eh10⟩ := hq
  replace hn := i_Score_lenE eh10 hn
  replace hs := i_Score_atE eh10 hs
  refine A_putRv T_ok d_Reader_init_42 f_Reader_32 ty_o hs fin_f (fun h11 eh11 => ?_)
  replace hn := sn_r eh11 hn
  replace hs := sp_r eh11 hs
  exact A_vret d_Reader_init_45 (by decide) rfl ⟨rfl, by rw [eh11, eh10, eh9, eh8, eh7, eh6, eh5, eh4, eh3, eh2, eh1] <;> rfl⟩
def i_Judge (h : ah_T) (t n : Nat) : ah_T := (st_r (st_n (st_r (st_n h 0 6404) t 0 (some n)) 0 4) t 2 (some (n + 1)))
set_option maxRecDepth 100000 in
theorem i_Judge_sh (h : ah_T) (t n : Nat) : (i_Judge h t n).1 = h.1 ++ [(0, 6404), (0, 4)] := by
  simp only [i_Judge, n1_s, i1_s, l1_s, r1_s, List.append_assoc, List.cons_append, List.nil_append]
theorem i_Judge_len {h : ah_T} {t n q : Nat} (hq : h.1.length = q) : (i_Judge h t n).1.length = q + 2 := by rw [i_Judge_sh, List.length_append, hq]; rfl
theorem i_Judge_at {h : ah_T} {t n x : Nat} {y : Nat × Nat} (hx : h.1[x]? = some y) : (i_Judge h t n).1[x]? = some y := by rw [i_Judge_sh, List.getElem?_append_left (List.getElem?_eq_some_iff.mp hx).1]; exact hx
theorem i_Judge_atE {h h' : ah_T} {t n x : Nat} {y : Nat × Nat} (e : h' = i_Judge h t n) (hx : h.1[x]? = some y) : h'.1[x]? = some y := by subst e; exact i_Judge_at hx
theorem i_Judge_lenE {h h' : ah_T} {t n q : Nat} (e : h' = i_Judge h t n) (hq : h.1.length = q) : h'.1.length = q + 2 := by subst e; exact i_Judge_len hq
set_option maxRecDepth 100000 in
set_option maxHeartbeats 8000000 in
theorem c_Judge_init {G : cx_T} (h : ah_T) (t n : Nat) (hn : h.1.length = n) (hs : h.1[t]? = some (1 + 4, 3)) (d : Nat) (hd : d = 1 := by rfl) : con G d 2 6408 m_Judge_init [av_R (some t)] h (fun r h' => r = none ∧ h' = i_Judge h t n) := by
  subst hd
  have htn : t < n := by rw [← hn]; exact (List.getElem?_eq_some_iff.mp hs).1
  refine con_of (L := [some (av_R (some t))]) (by decide +kernel) (Nat.le_of_ble_eq_true rfl) rfl ?_
  refine A_aload_n 0 d_Judge_init_0 rfl rfl ?_
  refine A_objInit d_Judge_init_1 oi_Judge.1 oi_Judge.2.1 oi_Judge.2.2 (by decide) rfl ?_
  refine A_aload_n 0 d_Judge_init_4 rfl rfl ?_
  refine A_sipush d_Judge_init_5 rfl ?_
  refine A_newIv (q := n) (N := 6404) d_Judge_init_8 ac_int rfl (by decide) (by decide) (by decide) hn (fun h1 eh1 nh1 gh1 => ?_)
  have oh1 := hn
  replace hn := nh1
  replace hs := gh1 _ _ hs
  refine A_pc (pc' := 10) rfl ?_
  refine A_putRv T_ok d_Judge_init_10 f_Judge_11 ty_a hs (Or.inr ⟨rfl, fun q hq => by cases hq; rfl⟩) (fun h2 eh2 => ?_)
  replace hn := sn_r eh2 hn
  replace hs := sp_r eh2 hs
  refine A_aload_n 0 d_Judge_init_13 rfl rfl ?_
  refine A_iconst d_Judge_init_14 rfl ?_
  refine A_newIv (q := (n + 1)) (N := 4) d_Judge_init_15 ac_int rfl (by decide) (by decide) (by decide) hn (fun h3 eh3 nh3 gh3 => ?_)
  have oh3 := hn
  replace hn := nh3
  replace hs := gh3 _ _ hs
  refine A_putRv T_ok d_Judge_init_17 f_Judge_15 ty_a hs (Or.inr ⟨rfl, fun q hq => by cases hq; rfl⟩) (fun h4 eh4 => ?_)
  replace hn := sn_r eh4 hn
  replace hs := sp_r eh4 hs
  exact A_vret d_Judge_init_20 (by decide) rfl ⟨rfl, by rw [eh4, eh3, eh2, eh1] <;> rfl⟩
def i_Beams (h : ah_T) (t n : Nat) : ah_T := (st_r (st_n (st_r (st_n (st_r (st_n h 0 14) t 0 (some n)) 0 15) t 2 (some (n + 1))) 0 15) t 3 (some (n + 2)))
set_option maxRecDepth 100000 in
theorem i_Beams_sh (h : ah_T) (t n : Nat) : (i_Beams h t n).1 = h.1 ++ [(0, 14), (0, 15), (0, 15)] := by
  simp only [i_Beams, n1_s, i1_s, l1_s, r1_s, List.append_assoc, List.cons_append, List.nil_append]
theorem i_Beams_len {h : ah_T} {t n q : Nat} (hq : h.1.length = q) : (i_Beams h t n).1.length = q + 3 := by rw [i_Beams_sh, List.length_append, hq]; rfl
theorem i_Beams_at {h : ah_T} {t n x : Nat} {y : Nat × Nat} (hx : h.1[x]? = some y) : (i_Beams h t n).1[x]? = some y := by rw [i_Beams_sh, List.getElem?_append_left (List.getElem?_eq_some_iff.mp hx).1]; exact hx
theorem i_Beams_atE {h h' : ah_T} {t n x : Nat} {y : Nat × Nat} (e : h' = i_Beams h t n) (hx : h.1[x]? = some y) : h'.1[x]? = some y := by subst e; exact i_Beams_at hx
theorem i_Beams_lenE {h h' : ah_T} {t n q : Nat} (e : h' = i_Beams h t n) (hq : h.1.length = q) : h'.1.length = q + 3 := by subst e; exact i_Beams_len hq
set_option maxRecDepth 100000 in
set_option maxHeartbeats 8000000 in
theorem c_Beams_init {G : cx_T} (h : ah_T) (t n : Nat) (hn : h.1.length = n) (hs : h.1[t]? = some (0 + 4, 4)) (d : Nat) (hd : d = 1 := by rfl) : con G d 3 44 m_Beams_init [av_R (some t)] h (fun r h' => r = none ∧ h' = i_Beams h t n) := by
  subst hd
  have htn : t < n := by rw [← hn]; exact (List.getElem?_eq_some_iff.mp hs).1
  refine con_of (L := [some (av_R (some t))]) (by decide +kernel) (Nat.le_of_ble_eq_true rfl) rfl ?_
  refine A_aload_n 0 d_Beams_init_0 rfl rfl ?_
  refine A_objInit d_Beams_init_1 oi_Beams.1 oi_Beams.2.1 oi_Beams.2.2 (by decide) rfl ?_
  refine A_aload_n 0 d_Beams_init_4 rfl rfl ?_
  refine A_bipush d_Beams_init_5 rfl ?_
  refine A_newIv (q := n) (N := 14) d_Beams_init_7 ac_int rfl (by decide) (by decide) (by decide) hn (fun h1 eh1 nh1 gh1 => ?_)
  have oh1 := hn
  replace hn := nh1
  replace hs := gh1 _ _ hs
  refine A_pc (pc' := 9) rfl ?_
  refine A_putRv T_ok d_Beams_init_9 f_Beams_11 ty_a hs (Or.inr ⟨rfl, fun q hq => by cases hq; rfl⟩) (fun h2 eh2 => ?_)
  replace hn := sn_r eh2 hn
  replace hs := sp_r eh2 hs
  refine A_aload_n 0 d_Beams_init_12 rfl rfl ?_
  refine A_bipush d_Beams_init_13 rfl ?_
  refine A_newIv (q := (n + 1)) (N := 15) d_Beams_init_15 ac_int rfl (by decide) (by decide) (by decide) hn (fun h3 eh3 nh3 gh3 => ?_)
  have oh3 := hn
  replace hn := nh3
  replace hs := gh3 _ _ hs
  refine A_putRv T_ok d_Beams_init_17 f_Beams_15 ty_a hs (Or.inr ⟨rfl, fun q hq => by cases hq; rfl⟩) (fun h4 eh4 => ?_)
  replace hn := sn_r eh4 hn
  replace hs := sp_r eh4 hs
  refine A_aload_n 0 d_Beams_init_20 rfl rfl ?_
  refine A_pc (pc' := 21) rfl ?_
  refine A_bipush d_Beams_init_21 rfl ?_
  refine A_newIv (q := (n + 2)) (N := 15) d_Beams_init_23 ac_int rfl (by decide) (by decide) (by decide) hn (fun h5 eh5 nh5 gh5 => ?_)
  have oh5 := hn
  replace hn := nh5
  replace hs := gh5 _ _ hs
  refine A_putRv T_ok d_Beams_init_25 f_Beams_18 ty_a hs (Or.inr ⟨rfl, fun q hq => by cases hq; rfl⟩) (fun h6 eh6 => ?_)
  replace hn := sn_r eh6 hn
  replace hs := sp_r eh6 hs
  exact A_vret d_Beams_init_28 (by decide) rfl ⟨rfl, by rw [eh6, eh5, eh4, eh3, eh2, eh1] <;> rfl⟩
def i_Page (h : ah_T) (t n : Nat) : ah_T := (st_r (st_n (st_r (st_n (st_r (st_n (st_r (st_n (st_r (st_n (st_r (st_n (st_r (st_n h 0 14) t 0 (some n)) 0 14) t 2 (some (n + 1))) 1 15) t 3 (some (n + 2))) 0 15) t 4 (some (n + 3))) 0 4) t 5 (some (n + 4))) 1 4) t 6 (some (n + 5))) 1 4) t 7 (some (n + 6)))
set_option maxRecDepth 100000 in
theorem i_Page_sh (h : ah_T) (t n : Nat) : (i_Page h t n).1 = h.1 ++ [(0, 14), (0, 14), (1, 15), (0, 15), (0, 4), (1, 4), (1, 4)] := by
  simp only [i_Page, n1_s, i1_s, l1_s, r1_s, List.append_assoc, List.cons_append, List.nil_append]
theorem i_Page_len {h : ah_T} {t n q : Nat} (hq : h.1.length = q) : (i_Page h t n).1.length = q + 7 := by rw [i_Page_sh, List.length_append, hq]; rfl
theorem i_Page_at {h : ah_T} {t n x : Nat} {y : Nat × Nat} (hx : h.1[x]? = some y) : (i_Page h t n).1[x]? = some y := by rw [i_Page_sh, List.getElem?_append_left (List.getElem?_eq_some_iff.mp hx).1]; exact hx
theorem i_Page_atE {h h' : ah_T} {t n x : Nat} {y : Nat × Nat} (e : h' = i_Page h t n) (hx : h.1[x]? = some y) : h'.1[x]? = some y := by subst e; exact i_Page_at hx
theorem i_Page_lenE {h h' : ah_T} {t n q : Nat} (e : h' = i_Page h t n) (hq : h.1.length = q) : h'.1.length = q + 7 := by subst e; exact i_Page_len hq
set_option maxRecDepth 100000 in
set_option maxHeartbeats 8000000 in
theorem c_Page_init {G : cx_T} (h : ah_T) (t n : Nat) (hn : h.1.length = n) (hs : h.1[t]? = some (2 + 4, 8)) (d : Nat) (hd : d = 1 := by rfl) : con G d 7 70 m_Page_init [av_R (some t)] h (fun r h' => r = none ∧ h' = i_Page h t n) := by
  subst hd
  have htn : t < n := by rw [← hn]; exact (List.getElem?_eq_some_iff.mp hs).1
  refine con_of (L := [some (av_R (some t))]) (by decide +kernel) (Nat.le_of_ble_eq_true rfl) rfl ?_
  refine A_aload_n 0 d_Page_init_0 rfl rfl ?_
  refine A_objInit d_Page_init_1 oi_Page.1 oi_Page.2.1 oi_Page.2.2 (by decide) rfl ?_
  refine A_aload_n 0 d_Page_init_4 rfl rfl ?_
  refine A_bipush d_Page_init_5 rfl ?_
  refine A_newIv (q := n) (N := 14) d_Page_init_7 ac_int rfl (by decide) (by decide) (by decide) hn (fun h1 eh1 nh1 gh1 => ?_)
  have oh1 := hn
  replace hn := nh1
  replace hs := gh1 _ _ hs
  refine A_pc (pc' := 9) rfl ?_
  refine A_putRv T_ok d_Page_init_9 f_Page_11 ty_a hs (Or.inr ⟨rfl, fun q hq => by cases hq; rfl⟩) (fun h2 eh2 => ?_)
  replace hn := sn_r eh2 hn
  replace hs := sp_r eh2 hs
  refine A_aload_n 0 d_Page_init_12 rfl rfl ?_
  refine A_bipush d_Page_init_13 rfl ?_
  refine A_newIv (q := (n + 1)) (N := 14) d_Page_init_15 ac_int rfl (by decide) (by decide) (by decide) hn (fun h3 eh3 nh3 gh3 => ?_)
  have oh3 := hn
  replace hn := nh3
  replace hs := gh3 _ _ hs
  refine A_putRv T_ok d_Page_init_17 f_Page_15 ty_a hs (Or.inr ⟨rfl, fun q hq => by cases hq; rfl⟩) (fun h4 eh4 => ?_)
  replace hn := sn_r eh4 hn
  replace hs := sp_r eh4 hs
  refine A_aload_n 0 d_Page_init_20 rfl rfl ?_
  refine A_pc (pc' := 21) rfl ?_
  refine A_bipush d_Page_init_21 rfl ?_
  refine A_newLv (q := (n + 2)) (N := 15) d_Page_init_23 ac_long rfl (by decide) (by decide) (by decide) hn (fun h5 eh5 nh5 gh5 => ?_)
  have oh5 := hn
  replace hn := nh5
  replace hs := gh5 _ _ hs
  refine A_putRv T_ok d_Page_init_25 f_Page_18 ty_a hs (Or.inr ⟨rfl, fun q hq => by cases hq; rfl⟩) (fun h6 eh6 => ?_)
  replace hn := sn_r eh6 hn
  replace hs := sp_r eh6 hs
  refine A_aload_n 0 d_Page_init_28 rfl rfl ?_
  refine A_bipush d_Page_init_29 rfl ?_
  refine A_newIv (q := (n + 3)) (N := 15) d_Page_init_31 ac_int rfl (by decide) (by decide) (by decide) hn (fun h7 eh7 nh7 gh7 => ?_)
  have oh7 := hn
  replace hn := nh7
  replace hs := gh7 _ _ hs
  refine A_pc (pc' := 33) rfl ?_
  refine A_putRv T_ok d_Page_init_33 f_Page_22 ty_a hs (Or.inr ⟨rfl, fun q hq => by cases hq; rfl⟩) (fun h8 eh8 => ?_)
  replace hn := sn_r eh8 hn
  replace hs := sp_r eh8 hs
  refine A_aload_n 0 d_Page_init_36 rfl rfl ?_
  refine A_iconst d_Page_init_37 rfl ?_
  refine A_newIv (q := (n + 4)) (N := 4) d_Page_init_38 ac_int rfl (by decide) (by decide) (by decide) hn (fun h9 eh9 nh9 gh9 => ?_)
  have oh9 := hn
  replace hn := nh9
  replace hs := gh9 _ _ hs
  refine A_putRv T_ok d_Page_init_40 f_Page_25 ty_a hs (Or.inr ⟨rfl, fun q hq => by cases hq; rfl⟩) (fun h10 eh10 => ?_)
  replace hn := sn_r eh10 hn
  replace hs := sp_r eh10 hs
  refine A_aload_n 0 d_Page_init_43 rfl rfl ?_
  refine A_pc (pc' := 44) rfl ?_
  refine A_iconst d_Page_init_44 rfl ?_
  refine A_newLv (q := (n + 5)) (N := 4) d_Page_init_45 ac_long rfl (by decide) (by decide) (by decide) hn (fun h11 eh11 nh11 gh11 => ?_)
  have oh11 := hn
  replace hn := nh11
  replace hs := gh11 _ _ hs
  refine A_putRv T_ok d_Page_init_47 f_Page_28 ty_a hs (Or.inr ⟨rfl, fun q hq => by cases hq; rfl⟩) (fun h12 eh12 => ?_)
  replace hn := sn_r eh12 hn
  replace hs := sp_r eh12 hs
  refine A_aload_n 0 d_Page_init_50 rfl rfl ?_
  refine A_iconst d_Page_init_51 rfl ?_
  refine A_newLv (q := (n + 6)) (N := 4) d_Page_init_52 ac_long rfl (by decide) (by decide) (by decide) hn (fun h13 eh13 nh13 gh13 => ?_)
  have oh13 := hn
  replace hn := nh13
  replace hs := gh13 _ _ hs
  refine A_pc (pc' := 54) rfl ?_
  refine A_putRv T_ok d_Page_init_54 f_Page_31 ty_a hs (Or.inr ⟨rfl, fun q hq => by cases hq; rfl⟩) (fun h14 eh14 => ?_)
  replace hn := sn_r eh14 hn
  replace hs := sp_r eh14 hs
  exact A_vret d_Page_init_57 (by decide) rfl ⟨rfl, by rw [eh14, eh13, eh12, eh11, eh10, eh9, eh8, eh7, eh6, eh5, eh4, eh3, eh2, eh1] <;> rfl⟩
def i_Seconds (h : ah_T) (t n : Nat) : ah_T := (st_r (st_n (st_r (st_n (st_r (st_n h 1 1563) t 0 (some n)) 0 8) t 6 (some (n + 1))) 0 8) t 7 (some (n + 2)))
set_option maxRecDepth 100000 in
theorem i_Seconds_sh (h : ah_T) (t n : Nat) : (i_Seconds h t n).1 = h.1 ++ [(1, 1563), (0, 8), (0, 8)] := by
  simp only [i_Seconds, n1_s, i1_s, l1_s, r1_s, List.append_assoc, List.cons_append, List.nil_append]
theorem i_Seconds_len {h : ah_T} {t n q : Nat} (hq : h.1.length = q) : (i_Seconds h t n).1.length = q + 3 := by rw [i_Seconds_sh, List.length_append, hq]; rfl
theorem i_Seconds_at {h : ah_T} {t n x : Nat} {y : Nat × Nat} (hx : h.1[x]? = some y) : (i_Seconds h t n).1[x]? = some y := by rw [i_Seconds_sh, List.getElem?_append_left (List.getElem?_eq_some_iff.mp hx).1]; exact hx
theorem i_Seconds_atE {h h' : ah_T} {t n x : Nat} {y : Nat × Nat} (e : h' = i_Seconds h t n) (hx : h.1[x]? = some y) : h'.1[x]? = some y := by subst e; exact i_Seconds_at hx
theorem i_Seconds_lenE {h h' : ah_T} {t n q : Nat} (e : h' = i_Seconds h t n) (hq : h.1.length = q) : h'.1.length = q + 3 := by subst e; exact i_Seconds_len hq
set_option maxRecDepth 100000 in
set_option maxHeartbeats 8000000 in
theorem c_Seconds_init {G : cx_T} (h : ah_T) (t n : Nat) (hn : h.1.length = n) (hs : h.1[t]? = some (7 + 4, 8)) (d : Nat) (hd : d = 1 := by rfl) : con G d 3 1579 m_Seconds_init [av_R (some t)] h (fun r h' => r = none ∧ h' = i_Seconds h t n) := by
  subst hd
  have htn : t < n := by rw [← hn]; exact (List.getElem?_eq_some_iff.mp hs).1
  refine con_of (L := [some (av_R (some t))]) (by decide +kernel) (Nat.le_of_ble_eq_true rfl) rfl ?_
  refine A_aload_n 0 d_Seconds_init_0 rfl rfl ?_
  refine A_objInit d_Seconds_init_1 oi_Seconds.1 oi_Seconds.2.1 oi_Seconds.2.2 (by decide) rfl ?_
  refine A_aload_n 0 d_Seconds_init_4 rfl rfl ?_
  refine A_sipush d_Seconds_init_5 rfl ?_
  refine A_newLv (q := n) (N := 1563) d_Seconds_init_8 ac_long rfl (by decide) (by decide) (by decide) hn (fun h1 eh1 nh1 gh1 => ?_)
  have oh1 := hn
  replace hn := nh1
  replace hs := gh1 _ _ hs
  refine A_pc (pc' := 10) rfl ?_
  refine A_putRv T_ok d_Seconds_init_10 f_Seconds_11 ty_a hs (Or.inr ⟨rfl, fun q hq => by cases hq; rfl⟩) (fun h2 eh2 => ?_)
  replace hn := sn_r eh2 hn
  replace hs := sp_r eh2 hs
  refine A_aload_n 0 d_Seconds_init_13 rfl rfl ?_
  refine A_bipush d_Seconds_init_14 rfl ?_
  refine A_newIv (q := (n + 1)) (N := 8) d_Seconds_init_16 ac_int rfl (by decide) (by decide) (by decide) hn (fun h3 eh3 nh3 gh3 => ?_)
  have oh3 := hn
  replace hn := nh3
  replace hs := gh3 _ _ hs
  refine A_putRv T_ok d_Seconds_init_18 f_Seconds_15 ty_a hs (Or.inr ⟨rfl, fun q hq => by cases hq; rfl⟩) (fun h4 eh4 => ?_)
  replace hn := sn_r eh4 hn
  replace hs := sp_r eh4 hs
  refine A_aload_n 0 d_Seconds_init_21 rfl rfl ?_
  refine A_pc (pc' := 22) rfl ?_
  refine A_bipush d_Seconds_init_22 rfl ?_
  refine A_newIv (q := (n + 2)) (N := 8) d_Seconds_init_24 ac_int rfl (by decide) (by decide) (by decide) hn (fun h5 eh5 nh5 gh5 => ?_)
  have oh5 := hn
  replace hn := nh5
  replace hs := gh5 _ _ hs
  refine A_putRv T_ok d_Seconds_init_26 f_Seconds_19 ty_a hs (Or.inr ⟨rfl, fun q hq => by cases hq; rfl⟩) (fun h6 eh6 => ?_)
  replace hn := sn_r eh6 hn
  replace hs := sp_r eh6 hs
  exact A_vret d_Seconds_init_29 (by decide) rfl ⟨rfl, by rw [eh6, eh5, eh4, eh3, eh2, eh1] <;> rfl⟩
def i_Trees (h : ah_T) (t n : Nat) : ah_T := (st_r (st_n h 0 2704) t 0 (some n))
set_option maxRecDepth 100000 in
theorem i_Trees_sh (h : ah_T) (t n : Nat) : (i_Trees h t n).1 = h.1 ++ [(0, 2704)] := by
  simp only [i_Trees, n1_s, i1_s, l1_s, r1_s, List.append_assoc, List.cons_append, List.nil_append]
theorem i_Trees_len {h : ah_T} {t n q : Nat} (hq : h.1.length = q) : (i_Trees h t n).1.length = q + 1 := by rw [i_Trees_sh, List.length_append, hq]; rfl
theorem i_Trees_at {h : ah_T} {t n x : Nat} {y : Nat × Nat} (hx : h.1[x]? = some y) : (i_Trees h t n).1[x]? = some y := by rw [i_Trees_sh, List.getElem?_append_left (List.getElem?_eq_some_iff.mp hx).1]; exact hx
theorem i_Trees_atE {h h' : ah_T} {t n x : Nat} {y : Nat × Nat} (e : h' = i_Trees h t n) (hx : h.1[x]? = some y) : h'.1[x]? = some y := by subst e; exact i_Trees_at hx
theorem i_Trees_lenE {h h' : ah_T} {t n q : Nat} (e : h' = i_Trees h t n) (hq : h.1.length = q) : h'.1.length = q + 1 := by subst e; exact i_Trees_len hq
set_option maxRecDepth 100000 in
set_option maxHeartbeats 8000000 in
theorem c_Trees_init {G : cx_T} (h : ah_T) (t n : Nat) (hn : h.1.length = n) (hs : h.1[t]? = some (9 + 4, 6)) (d : Nat) (hd : d = 1 := by rfl) : con G d 1 2704 m_Trees_init [av_R (some t)] h (fun r h' => r = none ∧ h' = i_Trees h t n) := by
  subst hd
  have htn : t < n := by rw [← hn]; exact (List.getElem?_eq_some_iff.mp hs).1
  refine con_of (L := [some (av_R (some t))]) (by decide +kernel) (Nat.le_of_ble_eq_true rfl) rfl ?_
  refine A_aload_n 0 d_Trees_init_0 rfl rfl ?_
  refine A_objInit d_Trees_init_1 oi_Trees.1 oi_Trees.2.1 oi_Trees.2.2 (by decide) rfl ?_
  refine A_aload_n 0 d_Trees_init_4 rfl rfl ?_
  refine A_sipush d_Trees_init_5 rfl ?_
  refine A_newIv (q := n) (N := 2704) d_Trees_init_8 ac_int rfl (by decide) (by decide) (by decide) hn (fun h1 eh1 nh1 gh1 => ?_)
  have oh1 := hn
  replace hn := nh1
  replace hs := gh1 _ _ hs
  refine A_pc (pc' := 10) rfl ?_
  refine A_putRv T_ok d_Trees_init_10 f_Trees_11 ty_a hs (Or.inr ⟨rfl, fun q hq => by cases hq; rfl⟩) (fun h2 eh2 => ?_)
  replace hn := sn_r eh2 hn
  replace hs := sp_r eh2 hs
  exact A_vret d_Trees_init_13 (by decide) rfl ⟨rfl, by rw [eh2, eh1] <;> rfl⟩
def i_Pairing (h : ah_T) (t n : Nat) : ah_T := (st_r (st_n (st_r (st_n (st_r (st_n (st_r (st_n (st_r (st_n h 0 80) t 0 (some n)) 0 80) t 1 (some (n + 1))) 0 1681) t 2 (some (n + 2))) 0 1681) t 3 (some (n + 3))) 0 80) t 4 (some (n + 4)))
set_option maxRecDepth 100000 in
theorem i_Pairing_sh (h : ah_T) (t n : Nat) : (i_Pairing h t n).1 = h.1 ++ [(0, 80), (0, 80), (0, 1681), (0, 1681), (0, 80)] := by
  simp only [i_Pairing, n1_s, i1_s, l1_s, r1_s, List.append_assoc, List.cons_append, List.nil_append]
theorem i_Pairing_len {h : ah_T} {t n q : Nat} (hq : h.1.length = q) : (i_Pairing h t n).1.length = q + 5 := by rw [i_Pairing_sh, List.length_append, hq]; rfl
theorem i_Pairing_at {h : ah_T} {t n x : Nat} {y : Nat × Nat} (hx : h.1[x]? = some y) : (i_Pairing h t n).1[x]? = some y := by rw [i_Pairing_sh, List.getElem?_append_left (List.getElem?_eq_some_iff.mp hx).1]; exact hx
theorem i_Pairing_atE {h h' : ah_T} {t n x : Nat} {y : Nat × Nat} (e : h' = i_Pairing h t n) (hx : h.1[x]? = some y) : h'.1[x]? = some y := by subst e; exact i_Pairing_at hx
theorem i_Pairing_lenE {h h' : ah_T} {t n q : Nat} (e : h' = i_Pairing h t n) (hq : h.1.length = q) : h'.1.length = q + 5 := by subst e; exact i_Pairing_len hq
set_option maxRecDepth 100000 in
set_option maxHeartbeats 8000000 in
theorem c_Pairing_init {G : cx_T} (h : ah_T) (t n : Nat) (hn : h.1.length = n) (hs : h.1[t]? = some (3 + 4, 8)) (d : Nat) (hd : d = 1 := by rfl) : con G d 5 3602 m_Pairing_init [av_R (some t)] h (fun r h' => r = none ∧ h' = i_Pairing h t n) := by
  subst hd
  have htn : t < n := by rw [← hn]; exact (List.getElem?_eq_some_iff.mp hs).1
  refine con_of (L := [some (av_R (some t))]) (by decide +kernel) (Nat.le_of_ble_eq_true rfl) rfl ?_
  refine A_aload_n 0 d_Pairing_init_0 rfl rfl ?_
  refine A_objInit d_Pairing_init_1 oi_Pairing.1 oi_Pairing.2.1 oi_Pairing.2.2 (by decide) rfl ?_
  refine A_aload_n 0 d_Pairing_init_4 rfl rfl ?_
  refine A_bipush d_Pairing_init_5 rfl ?_
  refine A_newIv (q := n) (N := 80) d_Pairing_init_7 ac_int rfl (by decide) (by decide) (by decide) hn (fun h1 eh1 nh1 gh1 => ?_)
  have oh1 := hn
  replace hn := nh1
  replace hs := gh1 _ _ hs
  refine A_pc (pc' := 9) rfl ?_
  refine A_putRv T_ok d_Pairing_init_9 f_Pairing_11 ty_a hs (Or.inr ⟨rfl, fun q hq => by cases hq; rfl⟩) (fun h2 eh2 => ?_)
  replace hn := sn_r eh2 hn
  replace hs := sp_r eh2 hs
  refine A_aload_n 0 d_Pairing_init_12 rfl rfl ?_
  refine A_bipush d_Pairing_init_13 rfl ?_
  refine A_newIv (q := (n + 1)) (N := 80) d_Pairing_init_15 ac_int rfl (by decide) (by decide) (by decide) hn (fun h3 eh3 nh3 gh3 => ?_)
  have oh3 := hn
  replace hn := nh3
  replace hs := gh3 _ _ hs
  refine A_putRv T_ok d_Pairing_init_17 f_Pairing_15 ty_a hs (Or.inr ⟨rfl, fun q hq => by cases hq; rfl⟩) (fun h4 eh4 => ?_)
  replace hn := sn_r eh4 hn
  replace hs := sp_r eh4 hs
  refine A_aload_n 0 d_Pairing_init_20 rfl rfl ?_
  refine A_pc (pc' := 21) rfl ?_
  refine A_sipush d_Pairing_init_21 rfl ?_
  refine A_newIv (q := (n + 2)) (N := 1681) d_Pairing_init_24 ac_int rfl (by decide) (by decide) (by decide) hn (fun h5 eh5 nh5 gh5 => ?_)
  have oh5 := hn
  replace hn := nh5
  replace hs := gh5 _ _ hs
  refine A_putRv T_ok d_Pairing_init_26 f_Pairing_18 ty_a hs (Or.inr ⟨rfl, fun q hq => by cases hq; rfl⟩) (fun h6 eh6 => ?_)
  replace hn := sn_r eh6 hn
  replace hs := sp_r eh6 hs
  refine A_aload_n 0 d_Pairing_init_29 rfl rfl ?_
  refine A_sipush d_Pairing_init_30 rfl ?_
  refine A_newIv (q := (n + 3)) (N := 1681) d_Pairing_init_33 ac_int rfl (by decide) (by decide) (by decide) hn (fun h7 eh7 nh7 gh7 => ?_)
  have oh7 := hn
  replace hn := nh7
  replace hs := gh7 _ _ hs
  refine A_pc (pc' := 35) rfl ?_
  refine A_putRv T_ok d_Pairing_init_35 f_Pairing_21 ty_a hs (Or.inr ⟨rfl, fun q hq => by cases hq; rfl⟩) (fun h8 eh8 => ?_)
  replace hn := sn_r eh8 hn
  replace hs := sp_r eh8 hs
  refine A_aload_n 0 d_Pairing_init_38 rfl rfl ?_
  refine A_bipush d_Pairing_init_39 rfl ?_
  refine A_newIv (q := (n + 4)) (N := 80) d_Pairing_init_41 ac_int rfl (by decide) (by decide) (by decide) hn (fun h9 eh9 nh9 gh9 => ?_)
  have oh9 := hn
  replace hn := nh9
  replace hs := gh9 _ _ hs
  refine A_putRv T_ok d_Pairing_init_43 f_Pairing_24 ty_a hs (Or.inr ⟨rfl, fun q hq => by cases hq; rfl⟩) (fun h10 eh10 => ?_)
  replace hn := sn_r eh10 hn
  replace hs := sp_r eh10 hs
  exact A_vret d_Pairing_init_46 (by decide) rfl ⟨rfl, by rw [eh10, eh9, eh8, eh7, eh6, eh5, eh4, eh3, eh2, eh1] <;> rfl⟩
