set_option maxRecDepth 100000 in
set_option maxHeartbeats 8000000 in
theorem law_aw {G : cx_T} (hN : cx_rl G 0 ≤ 6) : aw G room_1 m_Law_law 0 0 0 [some (av_S 0), none, none, none, none, none, none, none] [] hp_e (fun r _ => r = some (av_I 1)) := by
  have hn : hp_e.1.length = 0 := rfl
  refine A_newv (c := 11) (q := 0) (N := 11) T_ok T_k d_Law_law_0 rfl rfl cl_Law_7 (by decide) (by decide) hn (fun h1 eh1 nh1 gh1 => ?_)
  have hs := sx_n eh1 hn
  replace hn := nh1
  refine A_dupR d_Law_law_3 ?_
  refine A_callI0 m_PM_init d_Law_law_4 l_Law_9 k_PM_init (by decide) (by decide) (Nat.le_of_ble_eq_true rfl) (c_PM_init h1 0 1 hn hs 4) (fun r h2 hq => ?_)
  obtain ⟨rfl, eh2⟩ := hq
  replace hn := i_PM_lenE eh2 hn
  refine A_astore_n 1 (L' := [some (av_S 0), some (av_R (some 0)), none, none, none, none, none, none]) d_Law_law_7 rfl (Nat.le_of_ble_eq_true rfl) rfl ?_
  refine A_newv (c := 12) (q := 170) (N := 111) T_ok T_k d_Law_law_8 rfl rfl cl_Law_10 (by decide) (by decide) hn (fun h3 eh3 nh3 gh3 => ?_)
  replace hs := sx_n eh3 hn
  replace hn := nh3
  refine A_pc (pc' := 11) rfl ?_
  refine A_dupR d_Law_law_11 ?_
  refine A_callI0 m_MD_init d_Law_law_12 l_Law_12 k_MD_init (by decide) (by decide) (Nat.le_of_ble_eq_true rfl) (c_MD_init h3 170 171 hn hs 1) (fun r h4 hq => ?_)
  obtain ⟨rfl, eh4⟩ := hq
  replace hn := i_MD_lenE eh4 hn
  have hh : h4 = hp_0 := by rw [eh4, eh3, eh2, eh1] <;> rfl
  subst hh
  clear eh4 eh3 eh2 eh1
  refine A_astore_n 2 (L' := [some (av_S 0), some (av_R (some 0)), some (av_R (some 170)), none, none, none, none, none]) d_Law_law_15 rfl (Nat.le_of_ble_eq_true rfl) rfl ?_
  refine A_iconst d_Law_law_16 rfl ?_
  refine A_istore_n 3 (L' := [some (av_S 0), some (av_R (some 0)), some (av_R (some 170)), some (av_I 0), none, none, none, none]) d_Law_law_17 rfl (Nat.le_of_ble_eq_true rfl) rfl ?_
  refine A_iload_n 3 d_Law_law_18 rfl rfl ?_
  refine A_pc (pc' := 19) rfl ?_
  refine A_aload_nS 0 d_Law_law_19 rfl rfl ?_
  refine A_alenS d_Law_law_20 (by decide) (by omega) ?_
  refine A_bipush d_Law_law_21 rfl ?_
  refine A_isubv (z := ((cx_rl G 0 : Int) - 6)) d_Law_law_23 (w32_id (by unfold i32; omega)) ?_
  refine A_icmp_gt (tgt := 777) d_Law_law_24 (by decide) (fun _ => ?_) (fun cL => ?_)
  · refine A_iconst d_Law_law_777 rfl ?_
    exact A_zret d_Law_law_778 (by decide) rfl (Or.inr rfl) rfl
  have hL6 : cx_rl G 0 = 6 := by omega
  refine A_aload_nS 0 d_Law_law_27 rfl rfl ?_
  refine A_iload_n 3 d_Law_law_28 rfl rfl ?_
  refine A_ialoadS d_Law_law_29 (by decide) (by omega) (by omega) ?_
  refine A_nmI (fun x5 ex5 => ?_)
  refine A_bipush d_Law_law_30 rfl ?_
  refine A_iand d_Law_law_32 ?_
  refine A_nmI (fun b6 eb6 => ?_)
  rcases (by omega : b6 < 0 ∨ b6 = 0 ∨ b6 = 1 ∨ b6 = 2 ∨ b6 = 3 ∨ b6 = 4 ∨ b6 = 5 ∨ b6 = 6 ∨ b6 = 7 ∨ b6 = 8 ∨ b6 = 9 ∨ b6 = 10 ∨ b6 = 11 ∨ b6 = 12 ∨ b6 = 13 ∨ b6 = 14 ∨ b6 = 15 ∨ b6 = 16 ∨ b6 = 17 ∨ b6 = 18 ∨ b6 = 19 ∨ b6 = 20 ∨ b6 = 21 ∨ 21 < b6) with c7 | c7 | c7 | c7 | c7 | c7 | c7 | c7 | c7 | c7 | c7 | c7 | c7 | c7 | c7 | c7 | c7 | c7 | c7 | c7 | c7 | c7 | c7 | c7
  · refine A_tabOut (tgt := 771) d_Law_law_33 (by omega) (by decide) ?_
    refine A_iincv (z := 6) (L' := [some (av_S 0), some (av_R (some 0)), some (av_R (some 170)), some (av_I 6), none, none, none, none]) d_Law_law_771 rfl (by decide +kernel) rfl ?_
    refine A_goto (tgt := 18) d_Law_law_774 (by decide) ?_
    refine A_iload_n 3 d_Law_law_18 rfl rfl ?_
    refine A_aload_nS 0 d_Law_law_19 rfl rfl ?_
    refine A_alenS d_Law_law_20 (by decide) (by omega) ?_
    refine A_bipush d_Law_law_21 rfl ?_
    refine A_isubv (z := ((cx_rl G 0 : Int) - 6)) d_Law_law_23 (w32_id (by unfold i32; omega)) ?_
    refine A_icmp_gt (tgt := 777) d_Law_law_24 (by decide) (fun _ => ?_) (fun c => False.elim (by omega))
    refine A_iconst d_Law_law_777 rfl ?_
    exact A_zret d_Law_law_778 (by decide) rfl (Or.inr rfl) rfl
  · refine A_tabIn (tgt := 136) d_Law_law_33 (by omega) (by omega) (by rw [c7]; rfl) (by decide) ?_
    refine A_aload_n 1 d_Law_law_136 rfl rfl ?_
    refine A_aload_nS 0 d_Law_law_137 rfl rfl ?_
    refine A_iload_n 3 d_Law_law_138 rfl rfl ?_
    refine A_iconst d_Law_law_139 rfl ?_
    refine A_iaddv (z := 1) d_Law_law_140 (by decide +kernel) ?_
    refine A_ialoadS d_Law_law_141 (by decide) (by omega) (by omega) ?_
    refine A_nmI (fun x8 ex8 => ?_)
    refine A_pc (pc' := 142) rfl ?_
    refine A_aload_nS 0 d_Law_law_142 rfl rfl ?_
    refine A_iload_n 3 d_Law_law_143 rfl rfl ?_
    refine A_iconst d_Law_law_144 rfl ?_
    refine A_iaddv (z := 2) d_Law_law_145 (by decide +kernel) ?_
    refine A_ialoadS d_Law_law_146 (by decide) (by omega) (by omega) ?_
    refine A_nmI (fun x9 ex9 => ?_)
    refine A_aload_nS 0 d_Law_law_147 rfl rfl ?_
    refine A_iload_n 3 d_Law_law_148 rfl rfl ?_
    refine A_pc (pc' := 149) rfl ?_
    refine A_iconst d_Law_law_149 rfl ?_
    refine A_iaddv (z := 3) d_Law_law_150 (by decide +kernel) ?_
    refine A_ialoadS d_Law_law_151 (by decide) (by omega) (by omega) ?_
    refine A_nmI (fun x10 ex10 => ?_)
    refine A_aload_nS 0 d_Law_law_152 rfl rfl ?_
    refine A_iload_n 3 d_Law_law_153 rfl rfl ?_
    refine A_iconst d_Law_law_154 rfl ?_
    refine A_iaddv (z := 4) d_Law_law_155 (by decide +kernel) ?_
    refine A_ialoadS d_Law_law_156 (by decide) (by omega) (by omega) ?_
    refine A_nmI (fun x11 ex11 => ?_)
    refine A_pc (pc' := 157) rfl ?_
    refine A_aload_nS 0 d_Law_law_157 rfl rfl ?_
    refine A_iload_n 3 d_Law_law_158 rfl rfl ?_
    refine A_iconst d_Law_law_159 rfl ?_
    refine A_iaddv (z := 5) d_Law_law_160 (by decide +kernel) ?_
    refine A_ialoadS d_Law_law_161 (by decide) (by omega) (by omega) ?_
    refine A_nmI (fun x12 ex12 => ?_)
    refine A_callV5 m_PM_feed T_ok d_Law_law_162 l_Law_13 k_PM_feed q_s_0 rfl (by decide) (by decide) (Nat.le_of_ble_eq_true rfl) (t_x_feed hp_0 (eqr_0 _ _) x8 x9 x10 x11 x12) (fun r h13 hq => ?_)
    obtain ⟨⟨v14, rfl, qv14⟩, hf⟩ := hq
    refine A_aload_n 2 d_Law_law_165 rfl rfl ?_
    refine A_aload_nS 0 d_Law_law_166 rfl rfl ?_
    refine A_iload_n 3 d_Law_law_167 rfl rfl ?_
    refine A_iconst d_Law_law_168 rfl ?_
    refine A_iaddv (z := 1) d_Law_law_169 (by decide +kernel) ?_
    refine A_ialoadS d_Law_law_170 (by decide) (by omega) (by omega) ?_
    refine A_nmI (fun x15 ex15 => ?_)
    refine A_pc (pc' := 171) rfl ?_
    refine A_aload_nS 0 d_Law_law_171 rfl rfl ?_
    refine A_iload_n 3 d_Law_law_172 rfl rfl ?_
    refine A_iconst d_Law_law_173 rfl ?_
    refine A_iaddv (z := 2) d_Law_law_174 (by decide +kernel) ?_
    refine A_ialoadS d_Law_law_175 (by decide) (by omega) (by omega) ?_
    refine A_nmI (fun x16 ex16 => ?_)
    refine A_aload_nS 0 d_Law_law_176 rfl rfl ?_
    refine A_iload_n 3 d_Law_law_177 rfl rfl ?_
    refine A_pc (pc' := 178) rfl ?_
    refine A_iconst d_Law_law_178 rfl ?_
    refine A_iaddv (z := 3) d_Law_law_179 (by decide +kernel) ?_
    refine A_ialoadS d_Law_law_180 (by decide) (by omega) (by omega) ?_
    refine A_nmI (fun x17 ex17 => ?_)
    refine A_aload_nS 0 d_Law_law_181 rfl rfl ?_
    refine A_iload_n 3 d_Law_law_182 rfl rfl ?_
    refine A_iconst d_Law_law_183 rfl ?_
    refine A_iaddv (z := 4) d_Law_law_184 (by decide +kernel) ?_
    refine A_ialoadS d_Law_law_185 (by decide) (by omega) (by omega) ?_
    refine A_nmI (fun x18 ex18 => ?_)
    refine A_pc (pc' := 186) rfl ?_
    refine A_aload_nS 0 d_Law_law_186 rfl rfl ?_
    refine A_iload_n 3 d_Law_law_187 rfl rfl ?_
    refine A_iconst d_Law_law_188 rfl ?_
    refine A_iaddv (z := 5) d_Law_law_189 (by decide +kernel) ?_
    refine A_ialoadS d_Law_law_190 (by decide) (by omega) (by omega) ?_
    refine A_nmI (fun x19 ex19 => ?_)
    refine A_callV5 m_MD_feed T_ok d_Law_law_191 l_Law_17 k_MD_feed (sb_s (eqr_f hf (eqr_0 170 241)) q_s_170) rfl (by decide) (by decide) (Nat.le_of_ble_eq_true rfl) (t_m_feed h13 (eqr_f hf (eqr_0 _ _)) x15 x16 x17 x18 x19) (fun r h20 hq => ?_)
    obtain ⟨v21, rfl, qv21⟩ := hq
    refine A_icmp_eq (tgt := 771) d_Law_law_194 (by decide) (fun _ => ?_) (fun c => False.elim (c (by omega)))
    refine A_iincv (z := 6) (L' := [some (av_S 0), some (av_R (some 0)), some (av_R (some 170)), some (av_I 6), none, none, none, none]) d_Law_law_771 rfl (by decide +kernel) rfl ?_
    refine A_goto (tgt := 18) d_Law_law_774 (by decide) ?_
    refine A_iload_n 3 d_Law_law_18 rfl rfl ?_
    refine A_aload_nS 0 d_Law_law_19 rfl rfl ?_
    refine A_alenS d_Law_law_20 (by decide) (by omega) ?_
    refine A_bipush d_Law_law_21 rfl ?_
    refine A_isubv (z := ((cx_rl G 0 : Int) - 6)) d_Law_law_23 (w32_id (by unfold i32; omega)) ?_
    refine A_icmp_gt (tgt := 777) d_Law_law_24 (by decide) (fun _ => ?_) (fun c => False.elim (by omega))
    refine A_iconst d_Law_law_777 rfl ?_
    exact A_zret d_Law_law_778 (by decide) rfl (Or.inr rfl) rfl
  · refine A_tabIn (tgt := 199) d_Law_law_33 (by omega) (by omega) (by rw [c7]; rfl) (by decide) ?_
    refine A_aload_n 1 d_Law_law_199 rfl rfl ?_
    refine A_aload_nS 0 d_Law_law_200 rfl rfl ?_
    refine A_iload_n 3 d_Law_law_201 rfl rfl ?_
    refine A_iconst d_Law_law_202 rfl ?_
    refine A_iaddv (z := 1) d_Law_law_203 (by decide +kernel) ?_
    refine A_ialoadS d_Law_law_204 (by decide) (by omega) (by omega) ?_
    refine A_nmI (fun x22 ex22 => ?_)
    refine A_pc (pc' := 205) rfl ?_
    refine A_callV1 m_PM_cut T_ok d_Law_law_205 l_Law_18 k_PM_cut q_s_0 rfl (by decide) (by decide) (Nat.le_of_ble_eq_true rfl) (t_x_cut hp_0 (eqr_0 _ _) x22) (fun r h23 hq => ?_)
    obtain ⟨⟨v24, rfl, qv24⟩, hf⟩ := hq
    refine A_aload_n 2 d_Law_law_208 rfl rfl ?_
    refine A_aload_nS 0 d_Law_law_209 rfl rfl ?_
    refine A_iload_n 3 d_Law_law_210 rfl rfl ?_
    refine A_iconst d_Law_law_211 rfl ?_
    refine A_iaddv (z := 1) d_Law_law_212 (by decide +kernel) ?_
    refine A_ialoadS d_Law_law_213 (by decide) (by omega) (by omega) ?_
    refine A_nmI (fun x25 ex25 => ?_)
    refine A_pc (pc' := 214) rfl ?_
    refine A_callV1 m_MD_cut T_ok d_Law_law_214 l_Law_22 k_MD_cut (sb_s (eqr_f hf (eqr_0 170 241)) q_s_170) rfl (by decide) (by decide) (Nat.le_of_ble_eq_true rfl) (t_m_cut h23 (eqr_f hf (eqr_0 _ _)) x25) (fun r h26 hq => ?_)
    obtain ⟨v27, rfl, qv27⟩ := hq
    refine A_icmp_eq (tgt := 771) d_Law_law_217 (by decide) (fun _ => ?_) (fun c => False.elim (c (by omega)))
    refine A_iincv (z := 6) (L' := [some (av_S 0), some (av_R (some 0)), some (av_R (some 170)), some (av_I 6), none, none, none, none]) d_Law_law_771 rfl (by decide +kernel) rfl ?_
    refine A_goto (tgt := 18) d_Law_law_774 (by decide) ?_
    refine A_iload_n 3 d_Law_law_18 rfl rfl ?_
    refine A_aload_nS 0 d_Law_law_19 rfl rfl ?_
    refine A_alenS d_Law_law_20 (by decide) (by omega) ?_
    refine A_bipush d_Law_law_21 rfl ?_
    refine A_isubv (z := ((cx_rl G 0 : Int) - 6)) d_Law_law_23 (w32_id (by unfold i32; omega)) ?_
    refine A_icmp_gt (tgt := 777) d_Law_law_24 (by decide) (fun _ => ?_) (fun c => False.elim (by omega))
    refine A_iconst d_Law_law_777 rfl ?_
    exact A_zret d_Law_law_778 (by decide) rfl (Or.inr rfl) rfl
  · refine A_tabIn (tgt := 222) d_Law_law_33 (by omega) (by omega) (by rw [c7]; rfl) (by decide) ?_
    refine A_aload_n 1 d_Law_law_222 rfl rfl ?_
    refine A_callV0 m_PM_score T_ok d_Law_law_223 l_Law_23 k_PM_score q_s_0 rfl (by decide) (by decide) (Nat.le_of_ble_eq_true rfl) (t_x_score hp_0 (eqr_0 _ _) ) (fun r h28 hq => ?_)
    obtain ⟨⟨v29, rfl, qv29⟩, hf⟩ := hq
    refine A_aload_n 2 d_Law_law_226 rfl rfl ?_
    refine A_callV0 m_MD_score T_ok d_Law_law_227 l_Law_27 k_MD_score (sb_s (eqr_f hf (eqr_0 170 241)) q_s_170) rfl (by decide) (by decide) (Nat.le_of_ble_eq_true rfl) (t_m_score h28 (eqr_f hf (eqr_0 _ _)) ) (fun r h30 hq => ?_)
    obtain ⟨v31, rfl, qv31⟩ := hq
    refine A_icmp_eq (tgt := 771) d_Law_law_230 (by decide) (fun _ => ?_) (fun c => False.elim (c (by omega)))
    refine A_iincv (z := 6) (L' := [some (av_S 0), some (av_R (some 0)), some (av_R (some 170)), some (av_I 6), none, none, none, none]) d_Law_law_771 rfl (by decide +kernel) rfl ?_
    refine A_goto (tgt := 18) d_Law_law_774 (by decide) ?_
    refine A_iload_n 3 d_Law_law_18 rfl rfl ?_
    refine A_aload_nS 0 d_Law_law_19 rfl rfl ?_
    refine A_alenS d_Law_law_20 (by decide) (by omega) ?_
    refine A_bipush d_Law_law_21 rfl ?_
    refine A_isubv (z := ((cx_rl G 0 : Int) - 6)) d_Law_law_23 (w32_id (by unfold i32; omega)) ?_
    refine A_icmp_gt (tgt := 777) d_Law_law_24 (by decide) (fun _ => ?_) (fun c => False.elim (by omega))
    refine A_iconst d_Law_law_777 rfl ?_
    exact A_zret d_Law_law_778 (by decide) rfl (Or.inr rfl) rfl
  · refine A_tabIn (tgt := 235) d_Law_law_33 (by omega) (by omega) (by rw [c7]; rfl) (by decide) ?_
    refine A_aload_n 1 d_Law_law_235 rfl rfl ?_
    refine A_callV0 m_PM_place T_ok d_Law_law_236 l_Law_28 k_PM_place q_s_0 rfl (by decide) (by decide) (Nat.le_of_ble_eq_true rfl) (t_x_place hp_0 (eqr_0 _ _) ) (fun r h32 hq => ?_)
    obtain ⟨⟨v33, rfl, qv33⟩, hf⟩ := hq
    refine A_aload_n 2 d_Law_law_239 rfl rfl ?_
    refine A_callV0 m_MD_place T_ok d_Law_law_240 l_Law_31 k_MD_place (sb_s (eqr_f hf (eqr_0 170 241)) q_s_170) rfl (by decide) (by decide) (Nat.le_of_ble_eq_true rfl) (t_m_place h32 (eqr_f hf (eqr_0 _ _)) ) (fun r h34 hq => ?_)
    obtain ⟨v35, rfl, qv35⟩ := hq
    refine A_icmp_eq (tgt := 771) d_Law_law_243 (by decide) (fun _ => ?_) (fun c => False.elim (c (by omega)))
    refine A_iincv (z := 6) (L' := [some (av_S 0), some (av_R (some 0)), some (av_R (some 170)), some (av_I 6), none, none, none, none]) d_Law_law_771 rfl (by decide +kernel) rfl ?_
    refine A_goto (tgt := 18) d_Law_law_774 (by decide) ?_
    refine A_iload_n 3 d_Law_law_18 rfl rfl ?_
    refine A_aload_nS 0 d_Law_law_19 rfl rfl ?_
    refine A_alenS d_Law_law_20 (by decide) (by omega) ?_
    refine A_bipush d_Law_law_21 rfl ?_
    refine A_isubv (z := ((cx_rl G 0 : Int) - 6)) d_Law_law_23 (w32_id (by unfold i32; omega)) ?_
    refine A_icmp_gt (tgt := 777) d_Law_law_24 (by decide) (fun _ => ?_) (fun c => False.elim (by omega))
    refine A_iconst d_Law_law_777 rfl ?_
    exact A_zret d_Law_law_778 (by decide) rfl (Or.inr rfl) rfl
  · refine A_tabIn (tgt := 248) d_Law_law_33 (by omega) (by omega) (by rw [c7]; rfl) (by decide) ?_
    refine A_aload_n 1 d_Law_law_248 rfl rfl ?_
    refine A_aload_nS 0 d_Law_law_249 rfl rfl ?_
    refine A_iload_n 3 d_Law_law_250 rfl rfl ?_
    refine A_iconst d_Law_law_251 rfl ?_
    refine A_iaddv (z := 1) d_Law_law_252 (by decide +kernel) ?_
    refine A_ialoadS d_Law_law_253 (by decide) (by omega) (by omega) ?_
    refine A_nmI (fun x36 ex36 => ?_)
    refine A_pc (pc' := 254) rfl ?_
    refine A_callV1 m_PM_told T_ok d_Law_law_254 l_Law_32 k_PM_told q_s_0 rfl (by decide) (by decide) (Nat.le_of_ble_eq_true rfl) (t_x_told hp_0 (eqr_0 _ _) x36) (fun r h37 hq => ?_)
    obtain ⟨⟨v38, rfl, qv38⟩, hf⟩ := hq
    refine A_aload_n 2 d_Law_law_257 rfl rfl ?_
    refine A_aload_nS 0 d_Law_law_258 rfl rfl ?_
    refine A_iload_n 3 d_Law_law_259 rfl rfl ?_
    refine A_iconst d_Law_law_260 rfl ?_
    refine A_iaddv (z := 1) d_Law_law_261 (by decide +kernel) ?_
    refine A_ialoadS d_Law_law_262 (by decide) (by omega) (by omega) ?_
    refine A_nmI (fun x39 ex39 => ?_)
    refine A_pc (pc' := 263) rfl ?_
    refine A_callV1 m_MD_told T_ok d_Law_law_263 l_Law_35 k_MD_told (sb_s (eqr_f hf (eqr_0 170 241)) q_s_170) rfl (by decide) (by decide) (Nat.le_of_ble_eq_true rfl) (t_m_told h37 (eqr_f hf (eqr_0 _ _)) x39) (fun r h40 hq => ?_)
    obtain ⟨v41, rfl, qv41⟩ := hq
    refine A_icmp_eq (tgt := 771) d_Law_law_266 (by decide) (fun _ => ?_) (fun c => False.elim (c (by omega)))
    refine A_iincv (z := 6) (L' := [some (av_S 0), some (av_R (some 0)), some (av_R (some 170)), some (av_I 6), none, none, none, none]) d_Law_law_771 rfl (by decide +kernel) rfl ?_
    refine A_goto (tgt := 18) d_Law_law_774 (by decide) ?_
    refine A_iload_n 3 d_Law_law_18 rfl rfl ?_
    refine A_aload_nS 0 d_Law_law_19 rfl rfl ?_
    refine A_alenS d_Law_law_20 (by decide) (by omega) ?_
    refine A_bipush d_Law_law_21 rfl ?_
    refine A_isubv (z := ((cx_rl G 0 : Int) - 6)) d_Law_law_23 (w32_id (by unfold i32; omega)) ?_
    refine A_icmp_gt (tgt := 777) d_Law_law_24 (by decide) (fun _ => ?_) (fun c => False.elim (by omega))
    refine A_iconst d_Law_law_777 rfl ?_
    exact A_zret d_Law_law_778 (by decide) rfl (Or.inr rfl) rfl
  · refine A_tabIn (tgt := 271) d_Law_law_33 (by omega) (by omega) (by rw [c7]; rfl) (by decide) ?_
    refine A_aload_n 1 d_Law_law_271 rfl rfl ?_
    refine A_aload_nS 0 d_Law_law_272 rfl rfl ?_
    refine A_iload_n 3 d_Law_law_273 rfl rfl ?_
    refine A_iconst d_Law_law_274 rfl ?_
    refine A_iaddv (z := 1) d_Law_law_275 (by decide +kernel) ?_
    refine A_ialoadS d_Law_law_276 (by decide) (by omega) (by omega) ?_
    refine A_nmI (fun x42 ex42 => ?_)
    refine A_pc (pc' := 277) rfl ?_
    refine A_aload_nS 0 d_Law_law_277 rfl rfl ?_
    refine A_iload_n 3 d_Law_law_278 rfl rfl ?_
    refine A_iconst d_Law_law_279 rfl ?_
    refine A_iaddv (z := 2) d_Law_law_280 (by decide +kernel) ?_
    refine A_ialoadS d_Law_law_281 (by decide) (by omega) (by omega) ?_
    refine A_nmI (fun x43 ex43 => ?_)
    refine A_callV2 m_PM_count T_ok d_Law_law_282 l_Law_36 k_PM_count q_s_0 rfl (by decide) (by decide) (Nat.le_of_ble_eq_true rfl) (t_x_count hp_0 (eqr_0 _ _) x42 x43) (fun r h44 hq => ?_)
    obtain ⟨⟨v45, rfl, qv45⟩, hf⟩ := hq
    refine A_aload_n 2 d_Law_law_285 rfl rfl ?_
    refine A_aload_nS 0 d_Law_law_286 rfl rfl ?_
    refine A_iload_n 3 d_Law_law_287 rfl rfl ?_
    refine A_iconst d_Law_law_288 rfl ?_
    refine A_iaddv (z := 1) d_Law_law_289 (by decide +kernel) ?_
    refine A_ialoadS d_Law_law_290 (by decide) (by omega) (by omega) ?_
    refine A_nmI (fun x46 ex46 => ?_)
    refine A_pc (pc' := 291) rfl ?_
    refine A_aload_nS 0 d_Law_law_291 rfl rfl ?_
    refine A_iload_n 3 d_Law_law_292 rfl rfl ?_
    refine A_iconst d_Law_law_293 rfl ?_
    refine A_iaddv (z := 2) d_Law_law_294 (by decide +kernel) ?_
    refine A_ialoadS d_Law_law_295 (by decide) (by omega) (by omega) ?_
    refine A_nmI (fun x47 ex47 => ?_)
    refine A_callV2 m_MD_count T_ok d_Law_law_296 l_Law_40 k_MD_count (sb_s (eqr_f hf (eqr_0 170 241)) q_s_170) rfl (by decide) (by decide) (Nat.le_of_ble_eq_true rfl) (t_m_count h44 (eqr_f hf (eqr_0 _ _)) x46 x47) (fun r h48 hq => ?_)
    obtain ⟨v49, rfl, qv49⟩ := hq
    refine A_icmp_eq (tgt := 771) d_Law_law_299 (by decide) (fun _ => ?_) (fun c => False.elim (c (by omega)))
    refine A_iincv (z := 6) (L' := [some (av_S 0), some (av_R (some 0)), some (av_R (some 170)), some (av_I 6), none, none, none, none]) d_Law_law_771 rfl (by decide +kernel) rfl ?_
    refine A_goto (tgt := 18) d_Law_law_774 (by decide) ?_
    refine A_iload_n 3 d_Law_law_18 rfl rfl ?_
    refine A_aload_nS 0 d_Law_law_19 rfl rfl ?_
    refine A_alenS d_Law_law_20 (by decide) (by omega) ?_
    refine A_bipush d_Law_law_21 rfl ?_
    refine A_isubv (z := ((cx_rl G 0 : Int) - 6)) d_Law_law_23 (w32_id (by unfold i32; omega)) ?_
    refine A_icmp_gt (tgt := 777) d_Law_law_24 (by decide) (fun _ => ?_) (fun c => False.elim (by omega))
    refine A_iconst d_Law_law_777 rfl ?_
    exact A_zret d_Law_law_778 (by decide) rfl (Or.inr rfl) rfl
  · refine A_tabIn (tgt := 304) d_Law_law_33 (by omega) (by omega) (by rw [c7]; rfl) (by decide) ?_
    refine A_aload_n 1 d_Law_law_304 rfl rfl ?_
    refine A_aload_nS 0 d_Law_law_305 rfl rfl ?_
    refine A_iload_n 3 d_Law_law_306 rfl rfl ?_
    refine A_iconst d_Law_law_307 rfl ?_
    refine A_iaddv (z := 1) d_Law_law_308 (by decide +kernel) ?_
    refine A_ialoadS d_Law_law_309 (by decide) (by omega) (by omega) ?_
    refine A_nmI (fun x50 ex50 => ?_)
    refine A_pc (pc' := 310) rfl ?_
    refine A_aload_nS 0 d_Law_law_310 rfl rfl ?_
    refine A_iload_n 3 d_Law_law_311 rfl rfl ?_
    refine A_iconst d_Law_law_312 rfl ?_
    refine A_iaddv (z := 2) d_Law_law_313 (by decide +kernel) ?_
    refine A_ialoadS d_Law_law_314 (by decide) (by omega) (by omega) ?_
    refine A_nmI (fun x51 ex51 => ?_)
    refine A_aload_nS 0 d_Law_law_315 rfl rfl ?_
    refine A_iload_n 3 d_Law_law_316 rfl rfl ?_
    refine A_pc (pc' := 317) rfl ?_
    refine A_iconst d_Law_law_317 rfl ?_
    refine A_iaddv (z := 3) d_Law_law_318 (by decide +kernel) ?_
    refine A_ialoadS d_Law_law_319 (by decide) (by omega) (by omega) ?_
    refine A_nmI (fun x52 ex52 => ?_)
    refine A_callV3 m_PM_event T_ok d_Law_law_320 l_Law_41 k_PM_event q_s_0 rfl (by decide) (by decide) (Nat.le_of_ble_eq_true rfl) (t_x_event hp_0 (eqr_0 _ _) x50 x51 x52) (fun r h53 hq => ?_)
    obtain ⟨⟨v54, rfl, qv54⟩, hf⟩ := hq
    refine A_aload_n 2 d_Law_law_323 rfl rfl ?_
    refine A_aload_nS 0 d_Law_law_324 rfl rfl ?_
    refine A_iload_n 3 d_Law_law_325 rfl rfl ?_
    refine A_iconst d_Law_law_326 rfl ?_
    refine A_iaddv (z := 1) d_Law_law_327 (by decide +kernel) ?_
    refine A_ialoadS d_Law_law_328 (by decide) (by omega) (by omega) ?_
    refine A_nmI (fun x55 ex55 => ?_)
    refine A_pc (pc' := 329) rfl ?_
    refine A_aload_nS 0 d_Law_law_329 rfl rfl ?_
    refine A_iload_n 3 d_Law_law_330 rfl rfl ?_
    refine A_iconst d_Law_law_331 rfl ?_
    refine A_iaddv (z := 2) d_Law_law_332 (by decide +kernel) ?_
    refine A_ialoadS d_Law_law_333 (by decide) (by omega) (by omega) ?_
    refine A_nmI (fun x56 ex56 => ?_)
    refine A_aload_nS 0 d_Law_law_334 rfl rfl ?_
    refine A_iload_n 3 d_Law_law_335 rfl rfl ?_
    refine A_pc (pc' := 336) rfl ?_
    refine A_iconst d_Law_law_336 rfl ?_
    refine A_iaddv (z := 3) d_Law_law_337 (by decide +kernel) ?_
    refine A_ialoadS d_Law_law_338 (by decide) (by omega) (by omega) ?_
    refine A_nmI (fun x57 ex57 => ?_)
    refine A_callV3 m_MD_event_IIIJ T_ok d_Law_law_339 l_Law_45 k_MD_event_IIIJ (sb_s (eqr_f hf (eqr_0 170 241)) q_s_170) rfl (by decide) (by decide) (Nat.le_of_ble_eq_true rfl) (t_m_event h53 (eqr_f hf (eqr_0 _ _)) x55 x56 x57) (fun r h58 hq => ?_)
    obtain ⟨v59, rfl, qv59⟩ := hq
    refine A_lcmpv (z := 0) d_Law_law_342 (cmp_s (by omega)) ?_
    refine A_if_eq (tgt := 771) d_Law_law_343 (by decide) (fun c60 => ?_) (fun c60 => absurd c60 (by decide))
    refine A_iincv (z := 6) (L' := [some (av_S 0), some (av_R (some 0)), some (av_R (some 170)), some (av_I 6), none, none, none, none]) d_Law_law_771 rfl (by decide +kernel) rfl ?_
    refine A_goto (tgt := 18) d_Law_law_774 (by decide) ?_
    refine A_iload_n 3 d_Law_law_18 rfl rfl ?_
    refine A_aload_nS 0 d_Law_law_19 rfl rfl ?_
    refine A_alenS d_Law_law_20 (by decide) (by omega) ?_
    refine A_bipush d_Law_law_21 rfl ?_
    refine A_isubv (z := ((cx_rl G 0 : Int) - 6)) d_Law_law_23 (w32_id (by unfold i32; omega)) ?_
    refine A_icmp_gt (tgt := 777) d_Law_law_24 (by decide) (fun _ => ?_) (fun c => False.elim (by omega))
    refine A_iconst d_Law_law_777 rfl ?_
    exact A_zret d_Law_law_778 (by decide) rfl (Or.inr rfl) rfl
  · refine A_tabIn (tgt := 348) d_Law_law_33 (by omega) (by omega) (by rw [c7]; rfl) (by decide) ?_
    refine A_aload_n 1 d_Law_law_348 rfl rfl ?_
    refine A_callV0 m_PM_judge T_ok d_Law_law_349 l_Law_46 k_PM_judge q_s_0 rfl (by decide) (by decide) (Nat.le_of_ble_eq_true rfl) (t_x_judge hp_0 (eqr_0 _ _) ) (fun r h61 hq => ?_)
    obtain ⟨⟨v62, rfl, qv62⟩, hf⟩ := hq
    refine A_aload_n 2 d_Law_law_352 rfl rfl ?_
    refine A_callV0 m_MD_judge T_ok d_Law_law_353 l_Law_49 k_MD_judge (sb_s (eqr_f hf (eqr_0 170 241)) q_s_170) rfl (by decide) (by decide) (Nat.le_of_ble_eq_true rfl) (t_m_judge h61 (eqr_f hf (eqr_0 _ _)) ) (fun r h63 hq => ?_)
    obtain ⟨v64, rfl, qv64⟩ := hq
    refine A_icmp_eq (tgt := 771) d_Law_law_356 (by decide) (fun _ => ?_) (fun c => False.elim (c (by omega)))
    refine A_iincv (z := 6) (L' := [some (av_S 0), some (av_R (some 0)), some (av_R (some 170)), some (av_I 6), none, none, none, none]) d_Law_law_771 rfl (by decide +kernel) rfl ?_
    refine A_goto (tgt := 18) d_Law_law_774 (by decide) ?_
    refine A_iload_n 3 d_Law_law_18 rfl rfl ?_
    refine A_aload_nS 0 d_Law_law_19 rfl rfl ?_
    refine A_alenS d_Law_law_20 (by decide) (by omega) ?_
    refine A_bipush d_Law_law_21 rfl ?_
    refine A_isubv (z := ((cx_rl G 0 : Int) - 6)) d_Law_law_23 (w32_id (by unfold i32; omega)) ?_
    refine A_icmp_gt (tgt := 777) d_Law_law_24 (by decide) (fun _ => ?_) (fun c => False.elim (by omega))
    refine A_iconst d_Law_law_777 rfl ?_
    exact A_zret d_Law_law_778 (by decide) rfl (Or.inr rfl) rfl
  · refine A_tabIn (tgt := 361) d_Law_law_33 (by omega) (by omega) (by rw [c7]; rfl) (by decide) ?_
    refine A_aload_n 1 d_Law_law_361 rfl rfl ?_
    refine A_aload_nS 0 d_Law_law_362 rfl rfl ?_
    refine A_iload_n 3 d_Law_law_363 rfl rfl ?_
    refine A_iconst d_Law_law_364 rfl ?_
    refine A_iaddv (z := 1) d_Law_law_365 (by decide +kernel) ?_
    refine A_ialoadS d_Law_law_366 (by decide) (by omega) (by omega) ?_
    refine A_nmI (fun x65 ex65 => ?_)
    refine A_pc (pc' := 367) rfl ?_
    refine A_aload_nS 0 d_Law_law_367 rfl rfl ?_
    refine A_iload_n 3 d_Law_law_368 rfl rfl ?_
    refine A_iconst d_Law_law_369 rfl ?_
    refine A_iaddv (z := 2) d_Law_law_370 (by decide +kernel) ?_
    refine A_ialoadS d_Law_law_371 (by decide) (by omega) (by omega) ?_
    refine A_nmI (fun x66 ex66 => ?_)
    refine A_callV2 m_PM_fault T_ok d_Law_law_372 l_Law_50 k_PM_fault q_s_0 rfl (by decide) (by decide) (Nat.le_of_ble_eq_true rfl) (t_x_fault hp_0 (eqr_0 _ _) x65 x66) (fun r h67 hq => ?_)
    obtain ⟨⟨v68, rfl, qv68⟩, hf⟩ := hq
    refine A_aload_n 2 d_Law_law_375 rfl rfl ?_
    refine A_aload_nS 0 d_Law_law_376 rfl rfl ?_
    refine A_iload_n 3 d_Law_law_377 rfl rfl ?_
    refine A_iconst d_Law_law_378 rfl ?_
    refine A_iaddv (z := 1) d_Law_law_379 (by decide +kernel) ?_
    refine A_ialoadS d_Law_law_380 (by decide) (by omega) (by omega) ?_
    refine A_nmI (fun x69 ex69 => ?_)
    refine A_pc (pc' := 381) rfl ?_
    refine A_aload_nS 0 d_Law_law_381 rfl rfl ?_
    refine A_iload_n 3 d_Law_law_382 rfl rfl ?_
    refine A_iconst d_Law_law_383 rfl ?_
    refine A_iaddv (z := 2) d_Law_law_384 (by decide +kernel) ?_
    refine A_ialoadS d_Law_law_385 (by decide) (by omega) (by omega) ?_
    refine A_nmI (fun x70 ex70 => ?_)
    refine A_callV2 m_MD_fault T_ok d_Law_law_386 l_Law_53 k_MD_fault (sb_s (eqr_f hf (eqr_0 170 241)) q_s_170) rfl (by decide) (by decide) (Nat.le_of_ble_eq_true rfl) (t_m_fault h67 (eqr_f hf (eqr_0 _ _)) x69 x70) (fun r h71 hq => ?_)
    obtain ⟨v72, rfl, qv72⟩ := hq
    refine A_icmp_eq (tgt := 771) d_Law_law_389 (by decide) (fun _ => ?_) (fun c => False.elim (c (by omega)))
    refine A_iincv (z := 6) (L' := [some (av_S 0), some (av_R (some 0)), some (av_R (some 170)), some (av_I 6), none, none, none, none]) d_Law_law_771 rfl (by decide +kernel) rfl ?_
    refine A_goto (tgt := 18) d_Law_law_774 (by decide) ?_
    refine A_iload_n 3 d_Law_law_18 rfl rfl ?_
    refine A_aload_nS 0 d_Law_law_19 rfl rfl ?_
    refine A_alenS d_Law_law_20 (by decide) (by omega) ?_
    refine A_bipush d_Law_law_21 rfl ?_
    refine A_isubv (z := ((cx_rl G 0 : Int) - 6)) d_Law_law_23 (w32_id (by unfold i32; omega)) ?_
    refine A_icmp_gt (tgt := 777) d_Law_law_24 (by decide) (fun _ => ?_) (fun c => False.elim (by omega))
    refine A_iconst d_Law_law_777 rfl ?_
    exact A_zret d_Law_law_778 (by decide) rfl (Or.inr rfl) rfl
  · refine A_tabIn (tgt := 394) d_Law_law_33 (by omega) (by omega) (by rw [c7]; rfl) (by decide) ?_
    refine A_aload_n 1 d_Law_law_394 rfl rfl ?_
    refine A_aload_nS 0 d_Law_law_395 rfl rfl ?_
    refine A_iload_n 3 d_Law_law_396 rfl rfl ?_
    refine A_iconst d_Law_law_397 rfl ?_
    refine A_iaddv (z := 1) d_Law_law_398 (by decide +kernel) ?_
    refine A_ialoadS d_Law_law_399 (by decide) (by omega) (by omega) ?_
    refine A_nmI (fun x73 ex73 => ?_)
    refine A_pc (pc' := 400) rfl ?_
    refine A_aload_nS 0 d_Law_law_400 rfl rfl ?_
    refine A_iload_n 3 d_Law_law_401 rfl rfl ?_
    refine A_iconst d_Law_law_402 rfl ?_
    refine A_iaddv (z := 2) d_Law_law_403 (by decide +kernel) ?_
    refine A_ialoadS d_Law_law_404 (by decide) (by omega) (by omega) ?_
    refine A_nmI (fun x74 ex74 => ?_)
    refine A_callV2 m_PM_beam T_ok d_Law_law_405 l_Law_54 k_PM_beam q_s_0 rfl (by decide) (by decide) (Nat.le_of_ble_eq_true rfl) (t_x_beam hp_0 (eqr_0 _ _) x73 x74) (fun r h75 hq => ?_)
    obtain ⟨⟨v76, rfl, qv76⟩, hf⟩ := hq
    refine A_aload_n 2 d_Law_law_408 rfl rfl ?_
    refine A_aload_nS 0 d_Law_law_409 rfl rfl ?_
    refine A_iload_n 3 d_Law_law_410 rfl rfl ?_
    refine A_iconst d_Law_law_411 rfl ?_
    refine A_iaddv (z := 1) d_Law_law_412 (by decide +kernel) ?_
    refine A_ialoadS d_Law_law_413 (by decide) (by omega) (by omega) ?_
    refine A_nmI (fun x77 ex77 => ?_)
    refine A_pc (pc' := 414) rfl ?_
    refine A_aload_nS 0 d_Law_law_414 rfl rfl ?_
    refine A_iload_n 3 d_Law_law_415 rfl rfl ?_
    refine A_iconst d_Law_law_416 rfl ?_
    refine A_iaddv (z := 2) d_Law_law_417 (by decide +kernel) ?_
    refine A_ialoadS d_Law_law_418 (by decide) (by omega) (by omega) ?_
    refine A_nmI (fun x78 ex78 => ?_)
    refine A_callV2 m_MD_beam T_ok d_Law_law_419 l_Law_57 k_MD_beam (sb_s (eqr_f hf (eqr_0 170 241)) q_s_170) rfl (by decide) (by decide) (Nat.le_of_ble_eq_true rfl) (t_m_beam h75 (eqr_f hf (eqr_0 _ _)) x77 x78) (fun r h79 hq => ?_)
    obtain ⟨v80, rfl, qv80⟩ := hq
    refine A_icmp_eq (tgt := 771) d_Law_law_422 (by decide) (fun _ => ?_) (fun c => False.elim (c (by omega)))
    refine A_iincv (z := 6) (L' := [some (av_S 0), some (av_R (some 0)), some (av_R (some 170)), some (av_I 6), none, none, none, none]) d_Law_law_771 rfl (by decide +kernel) rfl ?_
    refine A_goto (tgt := 18) d_Law_law_774 (by decide) ?_
    refine A_iload_n 3 d_Law_law_18 rfl rfl ?_
    refine A_aload_nS 0 d_Law_law_19 rfl rfl ?_
    refine A_alenS d_Law_law_20 (by decide) (by omega) ?_
    refine A_bipush d_Law_law_21 rfl ?_
    refine A_isubv (z := ((cx_rl G 0 : Int) - 6)) d_Law_law_23 (w32_id (by unfold i32; omega)) ?_
    refine A_icmp_gt (tgt := 777) d_Law_law_24 (by decide) (fun _ => ?_) (fun c => False.elim (by omega))
    refine A_iconst d_Law_law_777 rfl ?_
    exact A_zret d_Law_law_778 (by decide) rfl (Or.inr rfl) rfl
  · refine A_tabIn (tgt := 427) d_Law_law_33 (by omega) (by omega) (by rw [c7]; rfl) (by decide) ?_
    refine A_aload_n 1 d_Law_law_427 rfl rfl ?_
    refine A_aload_nS 0 d_Law_law_428 rfl rfl ?_
    refine A_iload_n 3 d_Law_law_429 rfl rfl ?_
    refine A_iconst d_Law_law_430 rfl ?_
    refine A_iaddv (z := 1) d_Law_law_431 (by decide +kernel) ?_
    refine A_ialoadS d_Law_law_432 (by decide) (by omega) (by omega) ?_
    refine A_nmI (fun x81 ex81 => ?_)
    refine A_pc (pc' := 433) rfl ?_
    refine A_callV1 m_PM_group T_ok d_Law_law_433 l_Law_58 k_PM_group q_s_0 rfl (by decide) (by decide) (Nat.le_of_ble_eq_true rfl) (t_x_group hp_0 (eqr_0 _ _) x81) (fun r h82 hq => ?_)
    obtain ⟨⟨v83, rfl, qv83⟩, hf⟩ := hq
    refine A_aload_n 2 d_Law_law_436 rfl rfl ?_
    refine A_aload_nS 0 d_Law_law_437 rfl rfl ?_
    refine A_iload_n 3 d_Law_law_438 rfl rfl ?_
    refine A_iconst d_Law_law_439 rfl ?_
    refine A_iaddv (z := 1) d_Law_law_440 (by decide +kernel) ?_
    refine A_ialoadS d_Law_law_441 (by decide) (by omega) (by omega) ?_
    refine A_nmI (fun x84 ex84 => ?_)
    refine A_pc (pc' := 442) rfl ?_
    refine A_callV1 m_MD_group T_ok d_Law_law_442 l_Law_61 k_MD_group (sb_s (eqr_f hf (eqr_0 170 241)) q_s_170) rfl (by decide) (by decide) (Nat.le_of_ble_eq_true rfl) (t_m_group h82 (eqr_f hf (eqr_0 _ _)) x84) (fun r h85 hq => ?_)
    obtain ⟨v86, rfl, qv86⟩ := hq
    refine A_icmp_eq (tgt := 771) d_Law_law_445 (by decide) (fun _ => ?_) (fun c => False.elim (c (by omega)))
    refine A_iincv (z := 6) (L' := [some (av_S 0), some (av_R (some 0)), some (av_R (some 170)), some (av_I 6), none, none, none, none]) d_Law_law_771 rfl (by decide +kernel) rfl ?_
    refine A_goto (tgt := 18) d_Law_law_774 (by decide) ?_
    refine A_iload_n 3 d_Law_law_18 rfl rfl ?_
    refine A_aload_nS 0 d_Law_law_19 rfl rfl ?_
    refine A_alenS d_Law_law_20 (by decide) (by omega) ?_
    refine A_bipush d_Law_law_21 rfl ?_
    refine A_isubv (z := ((cx_rl G 0 : Int) - 6)) d_Law_law_23 (w32_id (by unfold i32; omega)) ?_
    refine A_icmp_gt (tgt := 777) d_Law_law_24 (by decide) (fun _ => ?_) (fun c => False.elim (by omega))
    refine A_iconst d_Law_law_777 rfl ?_
    exact A_zret d_Law_law_778 (by decide) rfl (Or.inr rfl) rfl
  · refine A_tabIn (tgt := 450) d_Law_law_33 (by omega) (by omega) (by rw [c7]; rfl) (by decide) ?_
    refine A_aload_n 1 d_Law_law_450 rfl rfl ?_
    refine A_aload_nS 0 d_Law_law_451 rfl rfl ?_
    refine A_iload_n 3 d_Law_law_452 rfl rfl ?_
    refine A_iconst d_Law_law_453 rfl ?_
    refine A_iaddv (z := 1) d_Law_law_454 (by decide +kernel) ?_
    refine A_ialoadS d_Law_law_455 (by decide) (by omega) (by omega) ?_
    refine A_nmI (fun x87 ex87 => ?_)
    refine A_pc (pc' := 456) rfl ?_
    refine A_callV1 m_PM_breaks T_ok d_Law_law_456 l_Law_62 k_PM_breaks q_s_0 rfl (by decide) (by decide) (Nat.le_of_ble_eq_true rfl) (t_x_breaks hp_0 (eqr_0 _ _) x87) (fun r h88 hq => ?_)
    obtain ⟨⟨v89, rfl, qv89⟩, hf⟩ := hq
    refine A_aload_n 2 d_Law_law_459 rfl rfl ?_
    refine A_aload_nS 0 d_Law_law_460 rfl rfl ?_
    refine A_iload_n 3 d_Law_law_461 rfl rfl ?_
    refine A_iconst d_Law_law_462 rfl ?_
    refine A_iaddv (z := 1) d_Law_law_463 (by decide +kernel) ?_
    refine A_ialoadS d_Law_law_464 (by decide) (by omega) (by omega) ?_
    refine A_nmI (fun x90 ex90 => ?_)
    refine A_pc (pc' := 465) rfl ?_
    refine A_callV1 m_MD_breaks T_ok d_Law_law_465 l_Law_65 k_MD_breaks (sb_s (eqr_f hf (eqr_0 170 241)) q_s_170) rfl (by decide) (by decide) (Nat.le_of_ble_eq_true rfl) (t_m_breaks h88 (eqr_f hf (eqr_0 _ _)) x90) (fun r h91 hq => ?_)
    obtain ⟨v92, rfl, qv92⟩ := hq
    refine A_icmp_eq (tgt := 771) d_Law_law_468 (by decide) (fun _ => ?_) (fun c => False.elim (c (by omega)))
    refine A_iincv (z := 6) (L' := [some (av_S 0), some (av_R (some 0)), some (av_R (some 170)), some (av_I 6), none, none, none, none]) d_Law_law_771 rfl (by decide +kernel) rfl ?_
    refine A_goto (tgt := 18) d_Law_law_774 (by decide) ?_
    refine A_iload_n 3 d_Law_law_18 rfl rfl ?_
    refine A_aload_nS 0 d_Law_law_19 rfl rfl ?_
    refine A_alenS d_Law_law_20 (by decide) (by omega) ?_
    refine A_bipush d_Law_law_21 rfl ?_
    refine A_isubv (z := ((cx_rl G 0 : Int) - 6)) d_Law_law_23 (w32_id (by unfold i32; omega)) ?_
    refine A_icmp_gt (tgt := 777) d_Law_law_24 (by decide) (fun _ => ?_) (fun c => False.elim (by omega))
    refine A_iconst d_Law_law_777 rfl ?_
    exact A_zret d_Law_law_778 (by decide) rfl (Or.inr rfl) rfl
  · refine A_tabIn (tgt := 473) d_Law_law_33 (by omega) (by omega) (by rw [c7]; rfl) (by decide) ?_
    refine A_aload_n 1 d_Law_law_473 rfl rfl ?_
    refine A_aload_nS 0 d_Law_law_474 rfl rfl ?_
    refine A_iload_n 3 d_Law_law_475 rfl rfl ?_
    refine A_iconst d_Law_law_476 rfl ?_
    refine A_iaddv (z := 1) d_Law_law_477 (by decide +kernel) ?_
    refine A_ialoadS d_Law_law_478 (by decide) (by omega) (by omega) ?_
    refine A_nmI (fun x93 ex93 => ?_)
    refine A_pc (pc' := 479) rfl ?_
    refine A_callV1 m_PM_line T_ok d_Law_law_479 l_Law_66 k_PM_line q_s_0 rfl (by decide) (by decide) (Nat.le_of_ble_eq_true rfl) (t_x_line hp_0 (eqr_0 _ _) x93) (fun r h94 hq => ?_)
    obtain ⟨⟨v95, rfl, qv95⟩, hf⟩ := hq
    refine A_aload_n 2 d_Law_law_482 rfl rfl ?_
    refine A_aload_nS 0 d_Law_law_483 rfl rfl ?_
    refine A_iload_n 3 d_Law_law_484 rfl rfl ?_
    refine A_iconst d_Law_law_485 rfl ?_
    refine A_iaddv (z := 1) d_Law_law_486 (by decide +kernel) ?_
    refine A_ialoadS d_Law_law_487 (by decide) (by omega) (by omega) ?_
    refine A_nmI (fun x96 ex96 => ?_)
    refine A_pc (pc' := 488) rfl ?_
    refine A_callV1 m_MD_line T_ok d_Law_law_488 l_Law_69 k_MD_line (sb_s (eqr_f hf (eqr_0 170 241)) q_s_170) rfl (by decide) (by decide) (Nat.le_of_ble_eq_true rfl) (t_m_line h94 (eqr_f hf (eqr_0 _ _)) x96) (fun r h97 hq => ?_)
    obtain ⟨v98, rfl, qv98⟩ := hq
    refine A_icmp_eq (tgt := 771) d_Law_law_491 (by decide) (fun _ => ?_) (fun c => False.elim (c (by omega)))
    refine A_iincv (z := 6) (L' := [some (av_S 0), some (av_R (some 0)), some (av_R (some 170)), some (av_I 6), none, none, none, none]) d_Law_law_771 rfl (by decide +kernel) rfl ?_
    refine A_goto (tgt := 18) d_Law_law_774 (by decide) ?_
    refine A_iload_n 3 d_Law_law_18 rfl rfl ?_
    refine A_aload_nS 0 d_Law_law_19 rfl rfl ?_
    refine A_alenS d_Law_law_20 (by decide) (by omega) ?_
    refine A_bipush d_Law_law_21 rfl ?_
    refine A_isubv (z := ((cx_rl G 0 : Int) - 6)) d_Law_law_23 (w32_id (by unfold i32; omega)) ?_
    refine A_icmp_gt (tgt := 777) d_Law_law_24 (by decide) (fun _ => ?_) (fun c => False.elim (by omega))
    refine A_iconst d_Law_law_777 rfl ?_
    exact A_zret d_Law_law_778 (by decide) rfl (Or.inr rfl) rfl
  · refine A_tabIn (tgt := 496) d_Law_law_33 (by omega) (by omega) (by rw [c7]; rfl) (by decide) ?_
    refine A_aload_n 1 d_Law_law_496 rfl rfl ?_
    refine A_aload_nS 0 d_Law_law_497 rfl rfl ?_
    refine A_iload_n 3 d_Law_law_498 rfl rfl ?_
    refine A_iconst d_Law_law_499 rfl ?_
    refine A_iaddv (z := 1) d_Law_law_500 (by decide +kernel) ?_
    refine A_ialoadS d_Law_law_501 (by decide) (by omega) (by omega) ?_
    refine A_nmI (fun x99 ex99 => ?_)
    refine A_pc (pc' := 502) rfl ?_
    refine A_callV1 m_PM_width T_ok d_Law_law_502 l_Law_70 k_PM_width q_s_0 rfl (by decide) (by decide) (Nat.le_of_ble_eq_true rfl) (t_x_width hp_0 (eqr_0 _ _) x99) (fun r h100 hq => ?_)
    obtain ⟨⟨v101, rfl, qv101⟩, hf⟩ := hq
    refine A_aload_n 2 d_Law_law_505 rfl rfl ?_
    refine A_aload_nS 0 d_Law_law_506 rfl rfl ?_
    refine A_iload_n 3 d_Law_law_507 rfl rfl ?_
    refine A_iconst d_Law_law_508 rfl ?_
    refine A_iaddv (z := 1) d_Law_law_509 (by decide +kernel) ?_
    refine A_ialoadS d_Law_law_510 (by decide) (by omega) (by omega) ?_
    refine A_nmI (fun x102 ex102 => ?_)
    refine A_pc (pc' := 511) rfl ?_
    refine A_callV1 m_MD_width T_ok d_Law_law_511 l_Law_73 k_MD_width (sb_s (eqr_f hf (eqr_0 170 241)) q_s_170) rfl (by decide) (by decide) (Nat.le_of_ble_eq_true rfl) (t_m_width h100 (eqr_f hf (eqr_0 _ _)) x102) (fun r h103 hq => ?_)
    obtain ⟨v104, rfl, qv104⟩ := hq
    refine A_icmp_eq (tgt := 771) d_Law_law_514 (by decide) (fun _ => ?_) (fun c => False.elim (c (by omega)))
    refine A_iincv (z := 6) (L' := [some (av_S 0), some (av_R (some 0)), some (av_R (some 170)), some (av_I 6), none, none, none, none]) d_Law_law_771 rfl (by decide +kernel) rfl ?_
    refine A_goto (tgt := 18) d_Law_law_774 (by decide) ?_
    refine A_iload_n 3 d_Law_law_18 rfl rfl ?_
    refine A_aload_nS 0 d_Law_law_19 rfl rfl ?_
    refine A_alenS d_Law_law_20 (by decide) (by omega) ?_
    refine A_bipush d_Law_law_21 rfl ?_
    refine A_isubv (z := ((cx_rl G 0 : Int) - 6)) d_Law_law_23 (w32_id (by unfold i32; omega)) ?_
    refine A_icmp_gt (tgt := 777) d_Law_law_24 (by decide) (fun _ => ?_) (fun c => False.elim (by omega))
    refine A_iconst d_Law_law_777 rfl ?_
    exact A_zret d_Law_law_778 (by decide) rfl (Or.inr rfl) rfl
  · refine A_tabIn (tgt := 519) d_Law_law_33 (by omega) (by omega) (by rw [c7]; rfl) (by decide) ?_
    refine A_aload_n 1 d_Law_law_519 rfl rfl ?_
    refine A_aload_nS 0 d_Law_law_520 rfl rfl ?_
    refine A_iload_n 3 d_Law_law_521 rfl rfl ?_
    refine A_iconst d_Law_law_522 rfl ?_
    refine A_iaddv (z := 1) d_Law_law_523 (by decide +kernel) ?_
    refine A_ialoadS d_Law_law_524 (by decide) (by omega) (by omega) ?_
    refine A_nmI (fun x105 ex105 => ?_)
    refine A_pc (pc' := 525) rfl ?_
    refine A_aload_nS 0 d_Law_law_525 rfl rfl ?_
    refine A_iload_n 3 d_Law_law_526 rfl rfl ?_
    refine A_iconst d_Law_law_527 rfl ?_
    refine A_iaddv (z := 2) d_Law_law_528 (by decide +kernel) ?_
    refine A_ialoadS d_Law_law_529 (by decide) (by omega) (by omega) ?_
    refine A_nmI (fun x106 ex106 => ?_)
    refine A_aload_nS 0 d_Law_law_530 rfl rfl ?_
    refine A_iload_n 3 d_Law_law_531 rfl rfl ?_
    refine A_pc (pc' := 532) rfl ?_
    refine A_iconst d_Law_law_532 rfl ?_
    refine A_iaddv (z := 3) d_Law_law_533 (by decide +kernel) ?_
    refine A_ialoadS d_Law_law_534 (by decide) (by omega) (by omega) ?_
    refine A_nmI (fun x107 ex107 => ?_)
    refine A_callV3 m_PM_lines T_ok d_Law_law_535 l_Law_74 k_PM_lines q_s_0 rfl (by decide) (by decide) (Nat.le_of_ble_eq_true rfl) (t_x_lines hp_0 (eqr_0 _ _) x105 x106 x107) (fun r h108 hq => ?_)
    obtain ⟨⟨v109, rfl, qv109⟩, hf⟩ := hq
    refine A_aload_n 2 d_Law_law_538 rfl rfl ?_
    refine A_aload_nS 0 d_Law_law_539 rfl rfl ?_
    refine A_iload_n 3 d_Law_law_540 rfl rfl ?_
    refine A_iconst d_Law_law_541 rfl ?_
    refine A_iaddv (z := 1) d_Law_law_542 (by decide +kernel) ?_
    refine A_ialoadS d_Law_law_543 (by decide) (by omega) (by omega) ?_
    refine A_nmI (fun x110 ex110 => ?_)
    refine A_pc (pc' := 544) rfl ?_
    refine A_aload_nS 0 d_Law_law_544 rfl rfl ?_
    refine A_iload_n 3 d_Law_law_545 rfl rfl ?_
    refine A_iconst d_Law_law_546 rfl ?_
    refine A_iaddv (z := 2) d_Law_law_547 (by decide +kernel) ?_
    refine A_ialoadS d_Law_law_548 (by decide) (by omega) (by omega) ?_
    refine A_nmI (fun x111 ex111 => ?_)
    refine A_aload_nS 0 d_Law_law_549 rfl rfl ?_
    refine A_iload_n 3 d_Law_law_550 rfl rfl ?_
    refine A_pc (pc' := 551) rfl ?_
    refine A_iconst d_Law_law_551 rfl ?_
    refine A_iaddv (z := 3) d_Law_law_552 (by decide +kernel) ?_
    refine A_ialoadS d_Law_law_553 (by decide) (by omega) (by omega) ?_
    refine A_nmI (fun x112 ex112 => ?_)
    refine A_callV3 m_MD_lines T_ok d_Law_law_554 l_Law_78 k_MD_lines (sb_s (eqr_f hf (eqr_0 170 241)) q_s_170) rfl (by decide) (by decide) (Nat.le_of_ble_eq_true rfl) (t_m_lines h108 (eqr_f hf (eqr_0 _ _)) x110 x111 x112) (fun r h113 hq => ?_)
    obtain ⟨v114, rfl, qv114⟩ := hq
    refine A_icmp_eq (tgt := 771) d_Law_law_557 (by decide) (fun _ => ?_) (fun c => False.elim (c (by omega)))
    refine A_iincv (z := 6) (L' := [some (av_S 0), some (av_R (some 0)), some (av_R (some 170)), some (av_I 6), none, none, none, none]) d_Law_law_771 rfl (by decide +kernel) rfl ?_
    refine A_goto (tgt := 18) d_Law_law_774 (by decide) ?_
    refine A_iload_n 3 d_Law_law_18 rfl rfl ?_
    refine A_aload_nS 0 d_Law_law_19 rfl rfl ?_
    refine A_alenS d_Law_law_20 (by decide) (by omega) ?_
    refine A_bipush d_Law_law_21 rfl ?_
    refine A_isubv (z := ((cx_rl G 0 : Int) - 6)) d_Law_law_23 (w32_id (by unfold i32; omega)) ?_
    refine A_icmp_gt (tgt := 777) d_Law_law_24 (by decide) (fun _ => ?_) (fun c => False.elim (by omega))
    refine A_iconst d_Law_law_777 rfl ?_
    exact A_zret d_Law_law_778 (by decide) rfl (Or.inr rfl) rfl
  · refine A_tabIn (tgt := 562) d_Law_law_33 (by omega) (by omega) (by rw [c7]; rfl) (by decide) ?_
    refine A_aload_n 1 d_Law_law_562 rfl rfl ?_
    refine A_aload_nS 0 d_Law_law_563 rfl rfl ?_
    refine A_iload_n 3 d_Law_law_564 rfl rfl ?_
    refine A_iconst d_Law_law_565 rfl ?_
    refine A_iaddv (z := 1) d_Law_law_566 (by decide +kernel) ?_
    refine A_ialoadS d_Law_law_567 (by decide) (by omega) (by omega) ?_
    refine A_nmI (fun x115 ex115 => ?_)
    refine A_pc (pc' := 568) rfl ?_
    refine A_aload_nS 0 d_Law_law_568 rfl rfl ?_
    refine A_iload_n 3 d_Law_law_569 rfl rfl ?_
    refine A_iconst d_Law_law_570 rfl ?_
    refine A_iaddv (z := 2) d_Law_law_571 (by decide +kernel) ?_
    refine A_ialoadS d_Law_law_572 (by decide) (by omega) (by omega) ?_
    refine A_nmI (fun x116 ex116 => ?_)
    refine A_callV2 m_PM_second T_ok d_Law_law_573 l_Law_79 k_PM_second q_s_0 rfl (by decide) (by decide) (Nat.le_of_ble_eq_true rfl) (t_x_second hp_0 (eqr_0 _ _) x115 x116) (fun r h117 hq => ?_)
    obtain ⟨⟨v118, rfl, qv118⟩, hf⟩ := hq
    refine A_aload_n 2 d_Law_law_576 rfl rfl ?_
    refine A_aload_nS 0 d_Law_law_577 rfl rfl ?_
    refine A_iload_n 3 d_Law_law_578 rfl rfl ?_
    refine A_iconst d_Law_law_579 rfl ?_
    refine A_iaddv (z := 1) d_Law_law_580 (by decide +kernel) ?_
    refine A_ialoadS d_Law_law_581 (by decide) (by omega) (by omega) ?_
    refine A_nmI (fun x119 ex119 => ?_)
    refine A_pc (pc' := 582) rfl ?_
    refine A_aload_nS 0 d_Law_law_582 rfl rfl ?_
    refine A_iload_n 3 d_Law_law_583 rfl rfl ?_
    refine A_iconst d_Law_law_584 rfl ?_
    refine A_iaddv (z := 2) d_Law_law_585 (by decide +kernel) ?_
    refine A_ialoadS d_Law_law_586 (by decide) (by omega) (by omega) ?_
    refine A_nmI (fun x120 ex120 => ?_)
    refine A_callV2 m_MD_second T_ok d_Law_law_587 l_Law_82 k_MD_second (sb_s (eqr_f hf (eqr_0 170 241)) q_s_170) rfl (by decide) (by decide) (Nat.le_of_ble_eq_true rfl) (t_m_second h117 (eqr_f hf (eqr_0 _ _)) x119 x120) (fun r h121 hq => ?_)
    obtain ⟨v122, rfl, qv122⟩ := hq
    refine A_icmp_eq (tgt := 771) d_Law_law_590 (by decide) (fun _ => ?_) (fun c => False.elim (c (by omega)))
    refine A_iincv (z := 6) (L' := [some (av_S 0), some (av_R (some 0)), some (av_R (some 170)), some (av_I 6), none, none, none, none]) d_Law_law_771 rfl (by decide +kernel) rfl ?_
    refine A_goto (tgt := 18) d_Law_law_774 (by decide) ?_
    refine A_iload_n 3 d_Law_law_18 rfl rfl ?_
    refine A_aload_nS 0 d_Law_law_19 rfl rfl ?_
    refine A_alenS d_Law_law_20 (by decide) (by omega) ?_
    refine A_bipush d_Law_law_21 rfl ?_
    refine A_isubv (z := ((cx_rl G 0 : Int) - 6)) d_Law_law_23 (w32_id (by unfold i32; omega)) ?_
    refine A_icmp_gt (tgt := 777) d_Law_law_24 (by decide) (fun _ => ?_) (fun c => False.elim (by omega))
    refine A_iconst d_Law_law_777 rfl ?_
    exact A_zret d_Law_law_778 (by decide) rfl (Or.inr rfl) rfl
  · refine A_tabIn (tgt := 595) d_Law_law_33 (by omega) (by omega) (by rw [c7]; rfl) (by decide) ?_
    refine A_aload_n 1 d_Law_law_595 rfl rfl ?_
    refine A_callV0 m_PM_readings T_ok d_Law_law_596 l_Law_83 k_PM_readings q_s_0 rfl (by decide) (by decide) (Nat.le_of_ble_eq_true rfl) (t_x_readings hp_0 (eqr_0 _ _) ) (fun r h123 hq => ?_)
    obtain ⟨⟨v124, rfl, qv124⟩, hf⟩ := hq
    refine A_aload_n 2 d_Law_law_599 rfl rfl ?_
    refine A_callV0 m_MD_readings T_ok d_Law_law_600 l_Law_86 k_MD_readings (sb_s (eqr_f hf (eqr_0 170 241)) q_s_170) rfl (by decide) (by decide) (Nat.le_of_ble_eq_true rfl) (t_m_readings h123 (eqr_f hf (eqr_0 _ _)) ) (fun r h125 hq => ?_)
    obtain ⟨v126, rfl, qv126⟩ := hq
    refine A_icmp_eq (tgt := 771) d_Law_law_603 (by decide) (fun _ => ?_) (fun c => False.elim (c (by omega)))
    refine A_iincv (z := 6) (L' := [some (av_S 0), some (av_R (some 0)), some (av_R (some 170)), some (av_I 6), none, none, none, none]) d_Law_law_771 rfl (by decide +kernel) rfl ?_
    refine A_goto (tgt := 18) d_Law_law_774 (by decide) ?_
    refine A_iload_n 3 d_Law_law_18 rfl rfl ?_
    refine A_aload_nS 0 d_Law_law_19 rfl rfl ?_
    refine A_alenS d_Law_law_20 (by decide) (by omega) ?_
    refine A_bipush d_Law_law_21 rfl ?_
    refine A_isubv (z := ((cx_rl G 0 : Int) - 6)) d_Law_law_23 (w32_id (by unfold i32; omega)) ?_
    refine A_icmp_gt (tgt := 777) d_Law_law_24 (by decide) (fun _ => ?_) (fun c => False.elim (by omega))
    refine A_iconst d_Law_law_777 rfl ?_
    exact A_zret d_Law_law_778 (by decide) rfl (Or.inr rfl) rfl
  · refine A_tabIn (tgt := 608) d_Law_law_33 (by omega) (by omega) (by rw [c7]; rfl) (by decide) ?_
    refine A_aload_n 1 d_Law_law_608 rfl rfl ?_
    refine A_aload_nS 0 d_Law_law_609 rfl rfl ?_
    refine A_iload_n 3 d_Law_law_610 rfl rfl ?_
    refine A_iconst d_Law_law_611 rfl ?_
    refine A_iaddv (z := 1) d_Law_law_612 (by decide +kernel) ?_
    refine A_ialoadS d_Law_law_613 (by decide) (by omega) (by omega) ?_
    refine A_nmI (fun x127 ex127 => ?_)
    refine A_pc (pc' := 614) rfl ?_
    refine A_aload_nS 0 d_Law_law_614 rfl rfl ?_
    refine A_iload_n 3 d_Law_law_615 rfl rfl ?_
    refine A_iconst d_Law_law_616 rfl ?_
    refine A_iaddv (z := 2) d_Law_law_617 (by decide +kernel) ?_
    refine A_ialoadS d_Law_law_618 (by decide) (by omega) (by omega) ?_
    refine A_nmI (fun x128 ex128 => ?_)
    refine A_callV2 m_PM_tree T_ok d_Law_law_619 l_Law_87 k_PM_tree q_s_0 rfl (by decide) (by decide) (Nat.le_of_ble_eq_true rfl) (t_x_tree hp_0 (eqr_0 _ _) x127 x128) (fun r h129 hq => ?_)
    obtain ⟨⟨v130, rfl, qv130⟩, hf⟩ := hq
    refine A_aload_n 2 d_Law_law_622 rfl rfl ?_
    refine A_aload_nS 0 d_Law_law_623 rfl rfl ?_
    refine A_iload_n 3 d_Law_law_624 rfl rfl ?_
    refine A_iconst d_Law_law_625 rfl ?_
    refine A_iaddv (z := 1) d_Law_law_626 (by decide +kernel) ?_
    refine A_ialoadS d_Law_law_627 (by decide) (by omega) (by omega) ?_
    refine A_nmI (fun x131 ex131 => ?_)
    refine A_pc (pc' := 628) rfl ?_
    refine A_aload_nS 0 d_Law_law_628 rfl rfl ?_
    refine A_iload_n 3 d_Law_law_629 rfl rfl ?_
    refine A_iconst d_Law_law_630 rfl ?_
    refine A_iaddv (z := 2) d_Law_law_631 (by decide +kernel) ?_
    refine A_ialoadS d_Law_law_632 (by decide) (by omega) (by omega) ?_
    refine A_nmI (fun x132 ex132 => ?_)
    refine A_callV2 m_MD_tree T_ok d_Law_law_633 l_Law_90 k_MD_tree (sb_s (eqr_f hf (eqr_0 170 241)) q_s_170) rfl (by decide) (by decide) (Nat.le_of_ble_eq_true rfl) (t_m_tree h129 (eqr_f hf (eqr_0 _ _)) x131 x132) (fun r h133 hq => ?_)
    obtain ⟨v134, rfl, qv134⟩ := hq
    refine A_icmp_eq (tgt := 771) d_Law_law_636 (by decide) (fun _ => ?_) (fun c => False.elim (c (by omega)))
    refine A_iincv (z := 6) (L' := [some (av_S 0), some (av_R (some 0)), some (av_R (some 170)), some (av_I 6), none, none, none, none]) d_Law_law_771 rfl (by decide +kernel) rfl ?_
    refine A_goto (tgt := 18) d_Law_law_774 (by decide) ?_
    refine A_iload_n 3 d_Law_law_18 rfl rfl ?_
    refine A_aload_nS 0 d_Law_law_19 rfl rfl ?_
    refine A_alenS d_Law_law_20 (by decide) (by omega) ?_
    refine A_bipush d_Law_law_21 rfl ?_
    refine A_isubv (z := ((cx_rl G 0 : Int) - 6)) d_Law_law_23 (w32_id (by unfold i32; omega)) ?_
    refine A_icmp_gt (tgt := 777) d_Law_law_24 (by decide) (fun _ => ?_) (fun c => False.elim (by omega))
    refine A_iconst d_Law_law_777 rfl ?_
    exact A_zret d_Law_law_778 (by decide) rfl (Or.inr rfl) rfl
  · refine A_tabIn (tgt := 641) d_Law_law_33 (by omega) (by omega) (by rw [c7]; rfl) (by decide) ?_
    refine A_aload_n 1 d_Law_law_641 rfl rfl ?_
    refine A_aload_nS 0 d_Law_law_642 rfl rfl ?_
    refine A_iload_n 3 d_Law_law_643 rfl rfl ?_
    refine A_iconst d_Law_law_644 rfl ?_
    refine A_iaddv (z := 1) d_Law_law_645 (by decide +kernel) ?_
    refine A_ialoadS d_Law_law_646 (by decide) (by omega) (by omega) ?_
    refine A_nmI (fun x135 ex135 => ?_)
    refine A_pc (pc' := 647) rfl ?_
    refine A_aload_nS 0 d_Law_law_647 rfl rfl ?_
    refine A_iload_n 3 d_Law_law_648 rfl rfl ?_
    refine A_iconst d_Law_law_649 rfl ?_
    refine A_iaddv (z := 2) d_Law_law_650 (by decide +kernel) ?_
    refine A_ialoadS d_Law_law_651 (by decide) (by omega) (by omega) ?_
    refine A_nmI (fun x136 ex136 => ?_)
    refine A_callV2 m_PM_beside T_ok d_Law_law_652 l_Law_91 k_PM_beside q_s_0 rfl (by decide) (by decide) (Nat.le_of_ble_eq_true rfl) (t_x_beside hp_0 (eqr_0 _ _) x135 x136) (fun r h137 hq => ?_)
    obtain ⟨⟨v138, rfl, qv138⟩, hf⟩ := hq
    refine A_aload_n 2 d_Law_law_655 rfl rfl ?_
    refine A_aload_nS 0 d_Law_law_656 rfl rfl ?_
    refine A_iload_n 3 d_Law_law_657 rfl rfl ?_
    refine A_iconst d_Law_law_658 rfl ?_
    refine A_iaddv (z := 1) d_Law_law_659 (by decide +kernel) ?_
    refine A_ialoadS d_Law_law_660 (by decide) (by omega) (by omega) ?_
    refine A_nmI (fun x139 ex139 => ?_)
    refine A_pc (pc' := 661) rfl ?_
    refine A_aload_nS 0 d_Law_law_661 rfl rfl ?_
    refine A_iload_n 3 d_Law_law_662 rfl rfl ?_
    refine A_iconst d_Law_law_663 rfl ?_
    refine A_iaddv (z := 2) d_Law_law_664 (by decide +kernel) ?_
    refine A_ialoadS d_Law_law_665 (by decide) (by omega) (by omega) ?_
    refine A_nmI (fun x140 ex140 => ?_)
    refine A_callV2 m_MD_beside T_ok d_Law_law_666 l_Law_94 k_MD_beside (sb_s (eqr_f hf (eqr_0 170 241)) q_s_170) rfl (by decide) (by decide) (Nat.le_of_ble_eq_true rfl) (t_m_beside h137 (eqr_f hf (eqr_0 _ _)) x139 x140) (fun r h141 hq => ?_)
    obtain ⟨v142, rfl, qv142⟩ := hq
    refine A_icmp_eq (tgt := 771) d_Law_law_669 (by decide) (fun _ => ?_) (fun c => False.elim (c (by omega)))
    refine A_iincv (z := 6) (L' := [some (av_S 0), some (av_R (some 0)), some (av_R (some 170)), some (av_I 6), none, none, none, none]) d_Law_law_771 rfl (by decide +kernel) rfl ?_
    refine A_goto (tgt := 18) d_Law_law_774 (by decide) ?_
    refine A_iload_n 3 d_Law_law_18 rfl rfl ?_
    refine A_aload_nS 0 d_Law_law_19 rfl rfl ?_
    refine A_alenS d_Law_law_20 (by decide) (by omega) ?_
    refine A_bipush d_Law_law_21 rfl ?_
    refine A_isubv (z := ((cx_rl G 0 : Int) - 6)) d_Law_law_23 (w32_id (by unfold i32; omega)) ?_
    refine A_icmp_gt (tgt := 777) d_Law_law_24 (by decide) (fun _ => ?_) (fun c => False.elim (by omega))
    refine A_iconst d_Law_law_777 rfl ?_
    exact A_zret d_Law_law_778 (by decide) rfl (Or.inr rfl) rfl
  · refine A_tabIn (tgt := 674) d_Law_law_33 (by omega) (by omega) (by rw [c7]; rfl) (by decide) ?_
    refine A_aload_n 1 d_Law_law_674 rfl rfl ?_
    refine A_aload_nS 0 d_Law_law_675 rfl rfl ?_
    refine A_iload_n 3 d_Law_law_676 rfl rfl ?_
    refine A_iconst d_Law_law_677 rfl ?_
    refine A_iaddv (z := 1) d_Law_law_678 (by decide +kernel) ?_
    refine A_ialoadS d_Law_law_679 (by decide) (by omega) (by omega) ?_
    refine A_nmI (fun x143 ex143 => ?_)
    refine A_pc (pc' := 680) rfl ?_
    refine A_callV1 m_PM_partner T_ok d_Law_law_680 l_Law_95 k_PM_partner q_s_0 rfl (by decide) (by decide) (Nat.le_of_ble_eq_true rfl) (t_x_partner hp_0 (eqr_0 _ _) x143) (fun r h144 hq => ?_)
    obtain ⟨⟨v145, rfl, qv145⟩, hf⟩ := hq
    refine A_aload_n 2 d_Law_law_683 rfl rfl ?_
    refine A_aload_nS 0 d_Law_law_684 rfl rfl ?_
    refine A_iload_n 3 d_Law_law_685 rfl rfl ?_
    refine A_iconst d_Law_law_686 rfl ?_
    refine A_iaddv (z := 1) d_Law_law_687 (by decide +kernel) ?_
    refine A_ialoadS d_Law_law_688 (by decide) (by omega) (by omega) ?_
    refine A_nmI (fun x146 ex146 => ?_)
    refine A_pc (pc' := 689) rfl ?_
    refine A_callV1 m_MD_partner T_ok d_Law_law_689 l_Law_98 k_MD_partner (sb_s (eqr_f hf (eqr_0 170 241)) q_s_170) rfl (by decide) (by decide) (Nat.le_of_ble_eq_true rfl) (t_m_partner h144 (eqr_f hf (eqr_0 _ _)) x146) (fun r h147 hq => ?_)
    obtain ⟨v148, rfl, qv148⟩ := hq
    refine A_icmp_eq (tgt := 771) d_Law_law_692 (by decide) (fun _ => ?_) (fun c => False.elim (c (by omega)))
    refine A_iincv (z := 6) (L' := [some (av_S 0), some (av_R (some 0)), some (av_R (some 170)), some (av_I 6), none, none, none, none]) d_Law_law_771 rfl (by decide +kernel) rfl ?_
    refine A_goto (tgt := 18) d_Law_law_774 (by decide) ?_
    refine A_iload_n 3 d_Law_law_18 rfl rfl ?_
    refine A_aload_nS 0 d_Law_law_19 rfl rfl ?_
    refine A_alenS d_Law_law_20 (by decide) (by omega) ?_
    refine A_bipush d_Law_law_21 rfl ?_
    refine A_isubv (z := ((cx_rl G 0 : Int) - 6)) d_Law_law_23 (w32_id (by unfold i32; omega)) ?_
    refine A_icmp_gt (tgt := 777) d_Law_law_24 (by decide) (fun _ => ?_) (fun c => False.elim (by omega))
    refine A_iconst d_Law_law_777 rfl ?_
    exact A_zret d_Law_law_778 (by decide) rfl (Or.inr rfl) rfl
  · refine A_tabIn (tgt := 697) d_Law_law_33 (by omega) (by omega) (by rw [c7]; rfl) (by decide) ?_
    refine A_aload_n 1 d_Law_law_697 rfl rfl ?_
    refine A_callV0 m_PM_ways T_ok d_Law_law_698 l_Law_99 k_PM_ways q_s_0 rfl (by decide) (by decide) (Nat.le_of_ble_eq_true rfl) (t_x_ways hp_0 (eqr_0 _ _) ) (fun r h149 hq => ?_)
    obtain ⟨⟨v150, rfl, qv150⟩, hf⟩ := hq
    refine A_aload_n 2 d_Law_law_701 rfl rfl ?_
    refine A_callV0 m_MD_ways T_ok d_Law_law_702 l_Law_102 k_MD_ways (sb_s (eqr_f hf (eqr_0 170 241)) q_s_170) rfl (by decide) (by decide) (Nat.le_of_ble_eq_true rfl) (t_m_ways h149 (eqr_f hf (eqr_0 _ _)) ) (fun r h151 hq => ?_)
    obtain ⟨v152, rfl, qv152⟩ := hq
    refine A_icmp_eq (tgt := 771) d_Law_law_705 (by decide) (fun _ => ?_) (fun c => False.elim (c (by omega)))
    refine A_iincv (z := 6) (L' := [some (av_S 0), some (av_R (some 0)), some (av_R (some 170)), some (av_I 6), none, none, none, none]) d_Law_law_771 rfl (by decide +kernel) rfl ?_
    refine A_goto (tgt := 18) d_Law_law_774 (by decide) ?_
    refine A_iload_n 3 d_Law_law_18 rfl rfl ?_
    refine A_aload_nS 0 d_Law_law_19 rfl rfl ?_
    refine A_alenS d_Law_law_20 (by decide) (by omega) ?_
    refine A_bipush d_Law_law_21 rfl ?_
    refine A_isubv (z := ((cx_rl G 0 : Int) - 6)) d_Law_law_23 (w32_id (by unfold i32; omega)) ?_
    refine A_icmp_gt (tgt := 777) d_Law_law_24 (by decide) (fun _ => ?_) (fun c => False.elim (by omega))
    refine A_iconst d_Law_law_777 rfl ?_
    exact A_zret d_Law_law_778 (by decide) rfl (Or.inr rfl) rfl
  · refine A_tabIn (tgt := 710) d_Law_law_33 (by omega) (by omega) (by rw [c7]; rfl) (by decide) ?_
    refine A_aload_n 1 d_Law_law_710 rfl rfl ?_
    refine A_aload_nS 0 d_Law_law_711 rfl rfl ?_
    refine A_iload_n 3 d_Law_law_712 rfl rfl ?_
    refine A_iconst d_Law_law_713 rfl ?_
    refine A_iaddv (z := 1) d_Law_law_714 (by decide +kernel) ?_
    refine A_ialoadS d_Law_law_715 (by decide) (by omega) (by omega) ?_
    refine A_nmI (fun x153 ex153 => ?_)
    refine A_pc (pc' := 716) rfl ?_
    refine A_aload_nS 0 d_Law_law_716 rfl rfl ?_
    refine A_iload_n 3 d_Law_law_717 rfl rfl ?_
    refine A_iconst d_Law_law_718 rfl ?_
    refine A_iaddv (z := 2) d_Law_law_719 (by decide +kernel) ?_
    refine A_ialoadS d_Law_law_720 (by decide) (by omega) (by omega) ?_
    refine A_nmI (fun x154 ex154 => ?_)
    refine A_callV2 m_PM_sample T_ok d_Law_law_721 l_Law_103 k_PM_sample q_s_0 rfl (by decide) (by decide) (Nat.le_of_ble_eq_true rfl) (t_x_sample hp_0 (eqr_0 _ _) x153 x154) (fun r h155 hq => ?_)
    obtain ⟨rfl, hf⟩ := hq
    refine A_dstore (L' := [some (av_S 0), some (av_R (some 0)), some (av_R (some 170)), some (av_I 0), some (av_D FP.dconst0), none, none, none]) d_Law_law_724 (Nat.le_of_ble_eq_true rfl) rfl ?_
    refine A_aload_n 2 d_Law_law_726 rfl rfl ?_
    refine A_aload_nS 0 d_Law_law_727 rfl rfl ?_
    refine A_iload_n 3 d_Law_law_728 rfl rfl ?_
    refine A_iconst d_Law_law_729 rfl ?_
    refine A_pc (pc' := 730) rfl ?_
    refine A_iaddv (z := 1) d_Law_law_730 (by decide +kernel) ?_
    refine A_ialoadS d_Law_law_731 (by decide) (by omega) (by omega) ?_
    refine A_nmI (fun x157 ex157 => ?_)
    refine A_aload_nS 0 d_Law_law_732 rfl rfl ?_
    refine A_iload_n 3 d_Law_law_733 rfl rfl ?_
    refine A_iconst d_Law_law_734 rfl ?_
    refine A_iaddv (z := 2) d_Law_law_735 (by decide +kernel) ?_
    refine A_ialoadS d_Law_law_736 (by decide) (by omega) (by omega) ?_
    refine A_nmI (fun x158 ex158 => ?_)
    refine A_callV2 m_MD_sample T_ok d_Law_law_737 l_Law_107 k_MD_sample (sb_s (eqr_f hf (eqr_0 170 241)) q_s_170) rfl (by decide) (by decide) (Nat.le_of_ble_eq_true rfl) (t_m_sample h155 (eqr_f hf (eqr_0 _ _)) x157 x158) (fun r h159 hq => ?_)
    obtain rfl := hq
    refine A_dstore (L' := [some (av_S 0), some (av_R (some 0)), some (av_R (some 170)), some (av_I 0), some (av_D FP.dconst0), none, some (av_D FP.dconst0), none]) d_Law_law_740 (Nat.le_of_ble_eq_true rfl) rfl ?_
    refine A_dload d_Law_law_742 rfl ?_
    refine A_dload d_Law_law_744 rfl ?_
    refine A_dcmpv (z := 0) d_Law_law_746 (by decide +kernel) ?_
    refine A_if_eq (tgt := 768) d_Law_law_747 (by decide) (fun c161 => ?_) (fun c161 => absurd c161 (by decide))
    refine A_goto (tgt := 771) d_Law_law_768 (by decide) ?_
    refine A_iincv (z := 6) (L' := [some (av_S 0), some (av_R (some 0)), some (av_R (some 170)), some (av_I 6), some (av_D FP.dconst0), none, some (av_D FP.dconst0), none]) d_Law_law_771 rfl (by decide +kernel) rfl ?_
    refine A_goto (tgt := 18) d_Law_law_774 (by decide) ?_
    refine A_iload_n 3 d_Law_law_18 rfl rfl ?_
    refine A_aload_nS 0 d_Law_law_19 rfl rfl ?_
    refine A_alenS d_Law_law_20 (by decide) (by omega) ?_
    refine A_bipush d_Law_law_21 rfl ?_
    refine A_isubv (z := ((cx_rl G 0 : Int) - 6)) d_Law_law_23 (w32_id (by unfold i32; omega)) ?_
    refine A_icmp_gt (tgt := 777) d_Law_law_24 (by decide) (fun _ => ?_) (fun c => False.elim (by omega))
    refine A_iconst d_Law_law_777 rfl ?_
    exact A_zret d_Law_law_778 (by decide) rfl (Or.inr rfl) rfl
  · refine A_tabOut (tgt := 771) d_Law_law_33 (by omega) (by decide) ?_
    refine A_iincv (z := 6) (L' := [some (av_S 0), some (av_R (some 0)), some (av_R (some 170)), some (av_I 6), none, none, none, none]) d_Law_law_771 rfl (by decide +kernel) rfl ?_
    refine A_goto (tgt := 18) d_Law_law_774 (by decide) ?_
    refine A_iload_n 3 d_Law_law_18 rfl rfl ?_
    refine A_aload_nS 0 d_Law_law_19 rfl rfl ?_
    refine A_alenS d_Law_law_20 (by decide) (by omega) ?_
    refine A_bipush d_Law_law_21 rfl ?_
    refine A_isubv (z := ((cx_rl G 0 : Int) - 6)) d_Law_law_23 (w32_id (by unfold i32; omega)) ?_
    refine A_icmp_gt (tgt := 777) d_Law_law_24 (by decide) (fun _ => ?_) (fun c => False.elim (by omega))
    refine A_iconst d_Law_law_777 rfl ?_
    exact A_zret d_Law_law_778 (by decide) rfl (Or.inr rfl) rfl
