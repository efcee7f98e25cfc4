set_option maxRecDepth 100000 in
set_option maxHeartbeats 8000000 in
theorem law_aw {G : cx_T} (hN : cx_rl G 0 ≤ 3072) : aw G room_1 m_Law_law 0 0 0 [some (av_S 0), none, none, none, none, none, none, none] [] hp_e (fun r _ => r = some (av_I 1)) := by
  have hn : hp_e.1.length = 0 := rfl
  refine A_newv (c := 11) (q := 0) (N := 11) T_ok T_k d_Law_law_0 rfl rfl cl_Law_7 (by decide) (by decide) hn (fun h1 eh1 nh1 gh1 => ?_)
  have hs := sx_n eh1 hn
  replace hn := nh1
  refine A_dupR d_Law_law_3 ?_
  refine A_callI0 m_PM_init d_Law_law_4 l_Law_9 k_PM_init (by decide) (by decide) (Nat.le_of_ble_eq_true rfl) (c_PM_init h1 0 1 hn hs 4) (fun r h2 hq => ?_)
  obtain ⟨rfl, eh2⟩ := hq
  replace hn := i_PM_lenE eh2 hn
  refine A_astore_n 1 (L' := [some (av_S 0), some (av_R (some 0)), none, none, none, none, none, none]) d_Law_law_7 rfl (Nat.le_of_ble_eq_true rfl) rfl ?_
  refine A_newv (c := 12) (q := 170) (N := 111) T_ok T_k d_Law_law_8 rfl rfl cl_Law_10 (by decide) (by decide) hn (fun h3 eh3 nh3 gh3 => ?_)
  replace hs := sx_n eh3 hn
  replace hn := nh3
  refine A_pc (pc' := 11) rfl ?_
  refine A_dupR d_Law_law_11 ?_
  refine A_callI0 m_MD_init d_Law_law_12 l_Law_12 k_MD_init (by decide) (by decide) (Nat.le_of_ble_eq_true rfl) (c_MD_init h3 170 171 hn hs 1) (fun r h4 hq => ?_)
  obtain ⟨rfl, eh4⟩ := hq
  replace hn := i_MD_lenE eh4 hn
  have hh : h4 = hp_0 := by rw [eh4, eh3, eh2, eh1] <;> rfl
  subst hh
  clear eh4 eh3 eh2 eh1
  refine A_astore_n 2 (L' := [some (av_S 0), some (av_R (some 0)), some (av_R (some 170)), none, none, none, none, none]) d_Law_law_15 rfl (Nat.le_of_ble_eq_true rfl) rfl ?_
  refine A_iconst d_Law_law_16 rfl ?_
  refine A_istore_n 3 (L' := [some (av_S 0), some (av_R (some 0)), some (av_R (some 170)), some (av_I 0), none, none, none, none]) d_Law_law_17 rfl (Nat.le_of_ble_eq_true rfl) rfl ?_
  have lp18 : ∀ (n : Nat) (i : Int) (s : Nat) (h : ah_T), 0 ≤ i → i ≤ 3072 → xi s h → mi h → PX h → EX s h → FIt h → (3082 - i).toNat < n → aw G room_1 m_Law_law 241 200683 18 [some (av_S 0), some (av_R (some 0)), some (av_R (some 170)), some (av_I i), none, none, none, none] [] h (fun r _ => r = some (av_I 1)) := by
    intro n
    induction n with
    | zero => intro i s h _ _ _ _ _ _ _ hme; omega
    | succ n ih =>
      intro i s h l0 l1 hx hm hp he hf hme
      refine A_iload_n 3 d_Law_law_18 rfl rfl ?_
      refine A_aload_nS 0 d_Law_law_19 rfl rfl ?_
      refine A_alenS d_Law_law_20 (by decide) (by omega) ?_
      refine A_bipush d_Law_law_21 rfl ?_
      refine A_isubv (z := ((cx_rl G 0 : Int) - 6)) d_Law_law_23 (w32_id (by unfold i32; omega)) ?_
      refine A_icmp_gt (tgt := 750) d_Law_law_24 (by decide) (fun _ => ?_) (fun cL => ?_)
      · refine A_iconst d_Law_law_750 rfl ?_
        exact A_zret d_Law_law_751 (by decide) rfl (Or.inr rfl) rfl
      refine A_aload_nS 0 d_Law_law_27 rfl rfl ?_
      refine A_iload_n 3 d_Law_law_28 rfl rfl ?_
      refine A_ialoadS d_Law_law_29 (by decide) (by omega) (by omega) ?_
      refine A_nmI (fun x0 ex0 => ?_)
      refine A_bipush d_Law_law_30 rfl ?_
      refine A_iand d_Law_law_32 ?_
      refine A_nmI (fun b0 eb0 => ?_)
      rcases (by omega : b0 < 0 ∨ b0 = 0 ∨ b0 = 1 ∨ b0 = 2 ∨ b0 = 3 ∨ b0 = 4 ∨ b0 = 5 ∨ b0 = 6 ∨ b0 = 7 ∨ b0 = 8 ∨ b0 = 9 ∨ b0 = 10 ∨ b0 = 11 ∨ b0 = 12 ∨ b0 = 13 ∨ b0 = 14 ∨ b0 = 15 ∨ b0 = 16 ∨ b0 = 17 ∨ b0 = 18 ∨ b0 = 19 ∨ b0 = 20 ∨ b0 = 21 ∨ 21 < b0) with c0 | c0 | c0 | c0 | c0 | c0 | c0 | c0 | c0 | c0 | c0 | c0 | c0 | c0 | c0 | c0 | c0 | c0 | c0 | c0 | c0 | c0 | c0 | c0
      · refine A_tabOut (tgt := 744) d_Law_law_33 (by omega) (by decide) ?_
        refine A_iincv (z := (i + 6)) (L' := [some (av_S 0), some (av_R (some 0)), some (av_R (some 170)), some (av_I (i + 6)), none, none, none, none]) d_Law_law_744 rfl (w32_id (by unfold i32; omega)) rfl ?_
        refine A_goto (tgt := 18) d_Law_law_747 (by decide) ?_
        exact ih (i + 6) s h (by omega) (by omega) hx hm hp he hf (by omega)
      · refine A_tabIn (tgt := 136) d_Law_law_33 (by omega) (by omega) (by rw [c0]; rfl) (by decide) ?_
        refine A_aload_n 1 d_Law_law_136 rfl rfl ?_
        refine A_aload_nS 0 d_Law_law_137 rfl rfl ?_
        refine A_iload_n 3 d_Law_law_138 rfl rfl ?_
        refine A_iconst d_Law_law_139 rfl ?_
        refine A_iaddv (z := (i + 1)) d_Law_law_140 (w32_id (by unfold i32; omega)) ?_
        refine A_pc (pc' := 141) rfl ?_
        refine A_ialoadS d_Law_law_141 (by decide) (by omega) (by omega) ?_
        refine A_nmI (fun x1 ex1 => ?_)
        refine A_aload_nS 0 d_Law_law_142 rfl rfl ?_
        refine A_iload_n 3 d_Law_law_143 rfl rfl ?_
        refine A_iconst d_Law_law_144 rfl ?_
        refine A_iaddv (z := (i + 2)) d_Law_law_145 (w32_id (by unfold i32; omega)) ?_
        refine A_ialoadS d_Law_law_146 (by decide) (by omega) (by omega) ?_
        refine A_nmI (fun x2 ex2 => ?_)
        refine A_pc (pc' := 147) rfl ?_
        refine A_aload_nS 0 d_Law_law_147 rfl rfl ?_
        refine A_iload_n 3 d_Law_law_148 rfl rfl ?_
        refine A_iconst d_Law_law_149 rfl ?_
        refine A_iaddv (z := (i + 3)) d_Law_law_150 (w32_id (by unfold i32; omega)) ?_
        refine A_ialoadS d_Law_law_151 (by decide) (by omega) (by omega) ?_
        refine A_nmI (fun x3 ex3 => ?_)
        refine A_aload_nS 0 d_Law_law_152 rfl rfl ?_
        refine A_pc (pc' := 153) rfl ?_
        refine A_iload_n 3 d_Law_law_153 rfl rfl ?_
        refine A_iconst d_Law_law_154 rfl ?_
        refine A_iaddv (z := (i + 4)) d_Law_law_155 (w32_id (by unfold i32; omega)) ?_
        refine A_ialoadS d_Law_law_156 (by decide) (by omega) (by omega) ?_
        refine A_nmI (fun x4 ex4 => ?_)
        refine A_aload_nS 0 d_Law_law_157 rfl rfl ?_
        refine A_iload_n 3 d_Law_law_158 rfl rfl ?_
        refine A_pc (pc' := 159) rfl ?_
        refine A_iconst d_Law_law_159 rfl ?_
        refine A_iaddv (z := (i + 5)) d_Law_law_160 (w32_id (by unfold i32; omega)) ?_
        refine A_ialoadS d_Law_law_161 (by decide) (by omega) (by omega) ?_
        refine A_nmI (fun x5 ex5 => ?_)
        refine A_callV5 m_PM_feed T_ok d_Law_law_162 l_Law_13 k_PM_feed (xi_s hx sf_0) rfl (by decide +kernel) (by decide) (Nat.le_of_ble_eq_true rfl) (f_PM_feed hx hm he) (fun r h6 hq => ?_)
        obtain ⟨v7, rfl, -, -, kz, hmid⟩ := hq
        have kc : kF FA s h h6 := kF_w kz (fun a q => by omega)
        have hf1 := FIt_c hf kz ⟨by decide, by decide⟩ (fun a q => by omega)
        have hx1 := kc.1
        obtain ⟨hm1, hp1, -⟩ := LM_x hm hp hx1 (fun a ha => kc.2 a (Or.inr ha))
        refine A_popI d_Law_law_165 ?_
        refine A_aload_n 2 d_Law_law_166 rfl rfl ?_
        refine A_aload_nS 0 d_Law_law_167 rfl rfl ?_
        refine A_iload_n 3 d_Law_law_168 rfl rfl ?_
        refine A_iconst d_Law_law_169 rfl ?_
        refine A_pc (pc' := 170) rfl ?_
        refine A_iaddv (z := (i + 1)) d_Law_law_170 (w32_id (by unfold i32; omega)) ?_
        refine A_ialoadS d_Law_law_171 (by decide) (by omega) (by omega) ?_
        refine A_nmI (fun x8 ex8 => ?_)
        refine A_aload_nS 0 d_Law_law_172 rfl rfl ?_
        refine A_iload_n 3 d_Law_law_173 rfl rfl ?_
        refine A_iconst d_Law_law_174 rfl ?_
        refine A_iaddv (z := (i + 2)) d_Law_law_175 (w32_id (by unfold i32; omega)) ?_
        refine A_pc (pc' := 176) rfl ?_
        refine A_ialoadS d_Law_law_176 (by decide) (by omega) (by omega) ?_
        refine A_nmI (fun x9 ex9 => ?_)
        refine A_aload_nS 0 d_Law_law_177 rfl rfl ?_
        refine A_iload_n 3 d_Law_law_178 rfl rfl ?_
        refine A_iconst d_Law_law_179 rfl ?_
        refine A_iaddv (z := (i + 3)) d_Law_law_180 (w32_id (by unfold i32; omega)) ?_
        refine A_ialoadS d_Law_law_181 (by decide) (by omega) (by omega) ?_
        refine A_nmI (fun x10 ex10 => ?_)
        refine A_pc (pc' := 182) rfl ?_
        refine A_aload_nS 0 d_Law_law_182 rfl rfl ?_
        refine A_iload_n 3 d_Law_law_183 rfl rfl ?_
        refine A_iconst d_Law_law_184 rfl ?_
        refine A_iaddv (z := (i + 4)) d_Law_law_185 (w32_id (by unfold i32; omega)) ?_
        refine A_ialoadS d_Law_law_186 (by decide) (by omega) (by omega) ?_
        refine A_nmI (fun x11 ex11 => ?_)
        refine A_aload_nS 0 d_Law_law_187 rfl rfl ?_
        refine A_pc (pc' := 188) rfl ?_
        refine A_iload_n 3 d_Law_law_188 rfl rfl ?_
        refine A_iconst d_Law_law_189 rfl ?_
        refine A_iaddv (z := (i + 5)) d_Law_law_190 (w32_id (by unfold i32; omega)) ?_
        refine A_ialoadS d_Law_law_191 (by decide) (by omega) (by omega) ?_
        refine A_nmI (fun x12 ex12 => ?_)
        refine A_callV5 m_MD_feed T_ok d_Law_law_192 l_Law_17 k_MD_feed (mi_s hm1 sf_170) rfl (by decide +kernel) (by decide) (Nat.le_of_ble_eq_true rfl) (e_MD_feed hx1 hm1 (by rw [ex8.trans ex1.symm]; rw [ex9.trans ex2.symm]; rw [ex10.trans ex3.symm]; rw [ex11.trans ex4.symm]; rw [ex12.trans ex5.symm]; exact hmid)) (fun r h13 hq => ?_)
        obtain ⟨v14, rfl, _, xw, kn, he2⟩ := hq
        have hx2 := LX_m hx1 kn
        have hm2 := kn.1
        have hp2 := PX_k hp1 hm1 kn (fun _ => ⟨⟨rfl, rfl, rfl, rfl, rfl, rfl⟩, rfl, rfl, rfl⟩) (by intro a ha j; simp only [List.mem_cons, List.not_mem_nil, or_false] at ha; rcases ha with rfl | rfl | rfl | rfl | rfl | rfl | rfl <;> rfl) (fun _ => rfl) rfl rfl
        have hf2 := FIt_m hf1 kn rfl (fun _ => ⟨rfl, rfl, rfl, rfl, rfl, rfl, rfl⟩)
        refine A_popI d_Law_law_195 ?_
        refine A_goto (tgt := 744) d_Law_law_196 (by decide) ?_
        refine A_iincv (z := (i + 6)) (L' := [some (av_S 0), some (av_R (some 0)), some (av_R (some 170)), some (av_I (i + 6)), none, none, none, none]) d_Law_law_744 rfl (w32_id (by unfold i32; omega)) rfl ?_
        refine A_goto (tgt := 18) d_Law_law_747 (by decide) ?_
        exact ih (i + 6) s h13 (by omega) (by omega) hx2 hm2 hp2 he2 hf2 (by omega)
      · refine A_tabIn (tgt := 199) d_Law_law_33 (by omega) (by omega) (by rw [c0]; rfl) (by decide) ?_
        refine A_aload_n 1 d_Law_law_199 rfl rfl ?_
        refine A_aload_nS 0 d_Law_law_200 rfl rfl ?_
        refine A_iload_n 3 d_Law_law_201 rfl rfl ?_
        refine A_iconst d_Law_law_202 rfl ?_
        refine A_iaddv (z := (i + 1)) d_Law_law_203 (w32_id (by unfold i32; omega)) ?_
        refine A_pc (pc' := 204) rfl ?_
        refine A_ialoadS d_Law_law_204 (by decide) (by omega) (by omega) ?_
        refine A_nmI (fun x15 ex15 => ?_)
        refine A_callV1 m_PM_cut T_ok d_Law_law_205 l_Law_18 k_PM_cut (xi_s hx sf_0) rfl (by decide +kernel) (by decide) (Nat.le_of_ble_eq_true rfl) (f_PM_cut hx hm he) (fun r h16 hq => ?_)
        obtain ⟨v17, rfl, -, -, kz, hmid⟩ := hq
        have kc : kF FA s h h16 := kF_w kz (fun a q => by omega)
        have hf1 := FIt_c hf kz ⟨by decide, by decide⟩ (fun a q => by omega)
        have hx1 := kc.1
        obtain ⟨hm1, hp1, -⟩ := LM_x hm hp hx1 (fun a ha => kc.2 a (Or.inr ha))
        refine A_popI d_Law_law_208 ?_
        refine A_aload_n 2 d_Law_law_209 rfl rfl ?_
        refine A_aload_nS 0 d_Law_law_210 rfl rfl ?_
        refine A_iload_n 3 d_Law_law_211 rfl rfl ?_
        refine A_iconst d_Law_law_212 rfl ?_
        refine A_pc (pc' := 213) rfl ?_
        refine A_iaddv (z := (i + 1)) d_Law_law_213 (w32_id (by unfold i32; omega)) ?_
        refine A_ialoadS d_Law_law_214 (by decide) (by omega) (by omega) ?_
        refine A_nmI (fun x18 ex18 => ?_)
        refine A_callV1 m_MD_cut T_ok d_Law_law_215 l_Law_22 k_MD_cut (mi_s hm1 sf_170) rfl (by decide +kernel) (by decide) (Nat.le_of_ble_eq_true rfl) (e_MD_cut hx1 hm1 (by rw [ex18.trans ex15.symm]; exact hmid)) (fun r h19 hq => ?_)
        obtain ⟨v20, rfl, _, xw, kn, he2⟩ := hq
        have hx2 := LX_m hx1 kn
        have hm2 := kn.1
        have hp2 := PX_k hp1 hm1 kn (fun _ => ⟨⟨rfl, rfl, rfl, rfl, rfl, rfl⟩, rfl, rfl, rfl⟩) (by intro a ha j; simp only [List.mem_cons, List.not_mem_nil, or_false] at ha; rcases ha with rfl | rfl | rfl | rfl | rfl | rfl | rfl <;> rfl) (fun _ => rfl) rfl rfl
        have hf2 := FIt_m hf1 kn rfl (fun _ => ⟨rfl, rfl, rfl, rfl, rfl, rfl, rfl⟩)
        refine A_popI d_Law_law_218 ?_
        refine A_goto (tgt := 744) d_Law_law_219 (by decide) ?_
        refine A_iincv (z := (i + 6)) (L' := [some (av_S 0), some (av_R (some 0)), some (av_R (some 170)), some (av_I (i + 6)), none, none, none, none]) d_Law_law_744 rfl (w32_id (by unfold i32; omega)) rfl ?_
        refine A_goto (tgt := 18) d_Law_law_747 (by decide) ?_
        exact ih (i + 6) s h19 (by omega) (by omega) hx2 hm2 hp2 he2 hf2 (by omega)
      · refine A_tabIn (tgt := 222) d_Law_law_33 (by omega) (by omega) (by rw [c0]; rfl) (by decide) ?_
        refine A_aload_n 1 d_Law_law_222 rfl rfl ?_
        refine A_callV0 m_PM_score T_ok d_Law_law_223 l_Law_23 k_PM_score (xi_s hx sf_0) rfl (by decide +kernel) (by decide) (Nat.le_of_ble_eq_true rfl) (e_PM_score_f hx hm he) (fun r h21 hq => ?_)
        obtain ⟨v22, rfl, rv, s', hx1, e0, f1, hmid⟩ := hq
        obtain ⟨hm1, hp1, -⟩ := LM_x hm hp hx1 f1
        refine A_popI d_Law_law_226 ?_
        refine A_aload_n 2 d_Law_law_227 rfl rfl ?_
        refine A_callV0 m_MD_score T_ok d_Law_law_228 l_Law_27 k_MD_score (mi_s hm1 sf_170) rfl (by decide +kernel) (by decide) (Nat.le_of_ble_eq_true rfl) (e_MD_score_f hx1 hm1 hp1 rv hmid) (fun r h23 hq => ?_)
        obtain ⟨v24, rfl, _, xw, kn, ezw, he2, hZ⟩ := hq
        have hx2 := LX_m hx1 kn
        have hm2 := kn.1
        have hp2 := xw.2
        have hf2 := FIt_s hf f1 hZ kn (fun _ => rfl)
        refine A_popI d_Law_law_231 ?_
        refine A_goto (tgt := 744) d_Law_law_232 (by decide) ?_
        refine A_iincv (z := (i + 6)) (L' := [some (av_S 0), some (av_R (some 0)), some (av_R (some 170)), some (av_I (i + 6)), none, none, none, none]) d_Law_law_744 rfl (w32_id (by unfold i32; omega)) rfl ?_
        refine A_goto (tgt := 18) d_Law_law_747 (by decide) ?_
        exact ih (i + 6) s' h23 (by omega) (by omega) hx2 hm2 hp2 he2 hf2 (by omega)
      · refine A_tabIn (tgt := 235) d_Law_law_33 (by omega) (by omega) (by rw [c0]; rfl) (by decide) ?_
        refine A_aload_n 1 d_Law_law_235 rfl rfl ?_
        refine A_callV0 m_PM_place T_ok d_Law_law_236 l_Law_28 k_PM_place (xi_s hx sf_0) rfl (by decide +kernel) (by decide) (Nat.le_of_ble_eq_true rfl) (s_PM_place hx) (fun r h25 hq => ?_)
        obtain ⟨v26, rfl, _, rfl⟩ := hq
        have hf1 := hf
        have hx1 := hx
        have hm1 := hm
        have hp1 := hp
        have he1 := he
        refine A_popI d_Law_law_239 ?_
        refine A_aload_n 2 d_Law_law_240 rfl rfl ?_
        refine A_callV0 m_MD_place T_ok d_Law_law_241 l_Law_31 k_MD_place (mi_s hm1 sf_170) rfl (by decide +kernel) (by decide) (Nat.le_of_ble_eq_true rfl) (s_MD_place hm1 ) (fun r h27 hq => ?_)
        obtain ⟨v28, rfl, _, rfl⟩ := hq
        have hf2 := hf1
        have hx2 := hx1
        have hm2 := hm1
        have hp2 := hp1
        have he2 := he1
        refine A_popI d_Law_law_244 ?_
        refine A_goto (tgt := 744) d_Law_law_245 (by decide) ?_
        refine A_iincv (z := (i + 6)) (L' := [some (av_S 0), some (av_R (some 0)), some (av_R (some 170)), some (av_I (i + 6)), none, none, none, none]) d_Law_law_744 rfl (w32_id (by unfold i32; omega)) rfl ?_
        refine A_goto (tgt := 18) d_Law_law_747 (by decide) ?_
        exact ih (i + 6) s h (by omega) (by omega) hx2 hm2 hp2 he2 hf2 (by omega)
      · refine A_tabIn (tgt := 248) d_Law_law_33 (by omega) (by omega) (by rw [c0]; rfl) (by decide) ?_
        refine A_aload_n 1 d_Law_law_248 rfl rfl ?_
        refine A_aload_nS 0 d_Law_law_249 rfl rfl ?_
        refine A_iload_n 3 d_Law_law_250 rfl rfl ?_
        refine A_iconst d_Law_law_251 rfl ?_
        refine A_iaddv (z := (i + 1)) d_Law_law_252 (w32_id (by unfold i32; omega)) ?_
        refine A_pc (pc' := 253) rfl ?_
        refine A_ialoadS d_Law_law_253 (by decide) (by omega) (by omega) ?_
        refine A_nmI (fun x29 ex29 => ?_)
        refine A_callV1 m_PM_told T_ok d_Law_law_254 l_Law_32 k_PM_told (xi_s hx sf_0) rfl (by decide +kernel) (by decide) (Nat.le_of_ble_eq_true rfl) (s_PM_told hx) (fun r h30 hq => ?_)
        obtain ⟨v31, rfl, _, rfl⟩ := hq
        have hf1 := hf
        have hx1 := hx
        have hm1 := hm
        have hp1 := hp
        have he1 := he
        refine A_popI d_Law_law_257 ?_
        refine A_aload_n 2 d_Law_law_258 rfl rfl ?_
        refine A_aload_nS 0 d_Law_law_259 rfl rfl ?_
        refine A_iload_n 3 d_Law_law_260 rfl rfl ?_
        refine A_iconst d_Law_law_261 rfl ?_
        refine A_pc (pc' := 262) rfl ?_
        refine A_iaddv (z := (i + 1)) d_Law_law_262 (w32_id (by unfold i32; omega)) ?_
        refine A_ialoadS d_Law_law_263 (by decide) (by omega) (by omega) ?_
        refine A_nmI (fun x32 ex32 => ?_)
        refine A_callV1 m_MD_told T_ok d_Law_law_264 l_Law_35 k_MD_told (mi_s hm1 sf_170) rfl (by decide +kernel) (by decide) (Nat.le_of_ble_eq_true rfl) (s_MD_told hm1 ) (fun r h33 hq => ?_)
        obtain ⟨v34, rfl, _, rfl⟩ := hq
        have hf2 := hf1
        have hx2 := hx1
        have hm2 := hm1
        have hp2 := hp1
        have he2 := he1
        refine A_popI d_Law_law_267 ?_
        refine A_goto (tgt := 744) d_Law_law_268 (by decide) ?_
        refine A_iincv (z := (i + 6)) (L' := [some (av_S 0), some (av_R (some 0)), some (av_R (some 170)), some (av_I (i + 6)), none, none, none, none]) d_Law_law_744 rfl (w32_id (by unfold i32; omega)) rfl ?_
        refine A_goto (tgt := 18) d_Law_law_747 (by decide) ?_
        exact ih (i + 6) s h (by omega) (by omega) hx2 hm2 hp2 he2 hf2 (by omega)
      · refine A_tabIn (tgt := 271) d_Law_law_33 (by omega) (by omega) (by rw [c0]; rfl) (by decide) ?_
        refine A_aload_n 1 d_Law_law_271 rfl rfl ?_
        refine A_aload_nS 0 d_Law_law_272 rfl rfl ?_
        refine A_iload_n 3 d_Law_law_273 rfl rfl ?_
        refine A_iconst d_Law_law_274 rfl ?_
        refine A_iaddv (z := (i + 1)) d_Law_law_275 (w32_id (by unfold i32; omega)) ?_
        refine A_pc (pc' := 276) rfl ?_
        refine A_ialoadS d_Law_law_276 (by decide) (by omega) (by omega) ?_
        refine A_nmI (fun x35 ex35 => ?_)
        refine A_aload_nS 0 d_Law_law_277 rfl rfl ?_
        refine A_iload_n 3 d_Law_law_278 rfl rfl ?_
        refine A_iconst d_Law_law_279 rfl ?_
        refine A_iaddv (z := (i + 2)) d_Law_law_280 (w32_id (by unfold i32; omega)) ?_
        refine A_ialoadS d_Law_law_281 (by decide) (by omega) (by omega) ?_
        refine A_nmI (fun x36 ex36 => ?_)
        refine A_callV2 m_PM_count T_ok d_Law_law_282 l_Law_36 k_PM_count (xi_s hx sf_0) rfl (by decide +kernel) (by decide) (Nat.le_of_ble_eq_true rfl) (s_PM_count hx) (fun r h37 hq => ?_)
        obtain ⟨v38, rfl, _, rfl⟩ := hq
        have hf1 := hf
        have hx1 := hx
        have hm1 := hm
        have hp1 := hp
        have he1 := he
        refine A_popI d_Law_law_285 ?_
        refine A_aload_n 2 d_Law_law_286 rfl rfl ?_
        refine A_aload_nS 0 d_Law_law_287 rfl rfl ?_
        refine A_iload_n 3 d_Law_law_288 rfl rfl ?_
        refine A_iconst d_Law_law_289 rfl ?_
        refine A_pc (pc' := 290) rfl ?_
        refine A_iaddv (z := (i + 1)) d_Law_law_290 (w32_id (by unfold i32; omega)) ?_
        refine A_ialoadS d_Law_law_291 (by decide) (by omega) (by omega) ?_
        refine A_nmI (fun x39 ex39 => ?_)
        refine A_aload_nS 0 d_Law_law_292 rfl rfl ?_
        refine A_iload_n 3 d_Law_law_293 rfl rfl ?_
        refine A_iconst d_Law_law_294 rfl ?_
        refine A_iaddv (z := (i + 2)) d_Law_law_295 (w32_id (by unfold i32; omega)) ?_
        refine A_pc (pc' := 296) rfl ?_
        refine A_ialoadS d_Law_law_296 (by decide) (by omega) (by omega) ?_
        refine A_nmI (fun x40 ex40 => ?_)
        refine A_callV2 m_MD_count T_ok d_Law_law_297 l_Law_40 k_MD_count (mi_s hm1 sf_170) rfl (by decide +kernel) (by decide) (Nat.le_of_ble_eq_true rfl) (s_MD_count hm1 ) (fun r h41 hq => ?_)
        obtain ⟨v42, rfl, _, rfl⟩ := hq
        have hf2 := hf1
        have hx2 := hx1
        have hm2 := hm1
        have hp2 := hp1
        have he2 := he1
        refine A_popI d_Law_law_300 ?_
        refine A_goto (tgt := 744) d_Law_law_301 (by decide) ?_
        refine A_iincv (z := (i + 6)) (L' := [some (av_S 0), some (av_R (some 0)), some (av_R (some 170)), some (av_I (i + 6)), none, none, none, none]) d_Law_law_744 rfl (w32_id (by unfold i32; omega)) rfl ?_
        refine A_goto (tgt := 18) d_Law_law_747 (by decide) ?_
        exact ih (i + 6) s h (by omega) (by omega) hx2 hm2 hp2 he2 hf2 (by omega)
      · refine A_tabIn (tgt := 304) d_Law_law_33 (by omega) (by omega) (by rw [c0]; rfl) (by decide) ?_
        refine A_aload_n 1 d_Law_law_304 rfl rfl ?_
        refine A_aload_nS 0 d_Law_law_305 rfl rfl ?_
        refine A_iload_n 3 d_Law_law_306 rfl rfl ?_
        refine A_iconst d_Law_law_307 rfl ?_
        refine A_iaddv (z := (i + 1)) d_Law_law_308 (w32_id (by unfold i32; omega)) ?_
        refine A_pc (pc' := 309) rfl ?_
        refine A_ialoadS d_Law_law_309 (by decide) (by omega) (by omega) ?_
        refine A_nmI (fun x43 ex43 => ?_)
        refine A_aload_nS 0 d_Law_law_310 rfl rfl ?_
        refine A_iload_n 3 d_Law_law_311 rfl rfl ?_
        refine A_iconst d_Law_law_312 rfl ?_
        refine A_iaddv (z := (i + 2)) d_Law_law_313 (w32_id (by unfold i32; omega)) ?_
        refine A_ialoadS d_Law_law_314 (by decide) (by omega) (by omega) ?_
        refine A_nmI (fun x44 ex44 => ?_)
        refine A_pc (pc' := 315) rfl ?_
        refine A_aload_nS 0 d_Law_law_315 rfl rfl ?_
        refine A_iload_n 3 d_Law_law_316 rfl rfl ?_
        refine A_iconst d_Law_law_317 rfl ?_
        refine A_iaddv (z := (i + 3)) d_Law_law_318 (w32_id (by unfold i32; omega)) ?_
        refine A_ialoadS d_Law_law_319 (by decide) (by omega) (by omega) ?_
        refine A_nmI (fun x45 ex45 => ?_)
        refine A_callV3 m_PM_event T_ok d_Law_law_320 l_Law_41 k_PM_event (xi_s hx sf_0) rfl (by decide +kernel) (by decide) (Nat.le_of_ble_eq_true rfl) (s_PM_event hx) (fun r h46 hq => ?_)
        obtain ⟨v47, rfl, _, rfl⟩ := hq
        have hf1 := hf
        have hx1 := hx
        have hm1 := hm
        have hp1 := hp
        have he1 := he
        refine A_pop2L d_Law_law_323 ?_
        refine A_aload_n 2 d_Law_law_324 rfl rfl ?_
        refine A_aload_nS 0 d_Law_law_325 rfl rfl ?_
        refine A_iload_n 3 d_Law_law_326 rfl rfl ?_
        refine A_iconst d_Law_law_327 rfl ?_
        refine A_pc (pc' := 328) rfl ?_
        refine A_iaddv (z := (i + 1)) d_Law_law_328 (w32_id (by unfold i32; omega)) ?_
        refine A_ialoadS d_Law_law_329 (by decide) (by omega) (by omega) ?_
        refine A_nmI (fun x48 ex48 => ?_)
        refine A_aload_nS 0 d_Law_law_330 rfl rfl ?_
        refine A_iload_n 3 d_Law_law_331 rfl rfl ?_
        refine A_iconst d_Law_law_332 rfl ?_
        refine A_iaddv (z := (i + 2)) d_Law_law_333 (w32_id (by unfold i32; omega)) ?_
        refine A_pc (pc' := 334) rfl ?_
        refine A_ialoadS d_Law_law_334 (by decide) (by omega) (by omega) ?_
        refine A_nmI (fun x49 ex49 => ?_)
        refine A_aload_nS 0 d_Law_law_335 rfl rfl ?_
        refine A_iload_n 3 d_Law_law_336 rfl rfl ?_
        refine A_iconst d_Law_law_337 rfl ?_
        refine A_iaddv (z := (i + 3)) d_Law_law_338 (w32_id (by unfold i32; omega)) ?_
        refine A_ialoadS d_Law_law_339 (by decide) (by omega) (by omega) ?_
        refine A_nmI (fun x50 ex50 => ?_)
        refine A_callV3 m_MD_event_IIIJ T_ok d_Law_law_340 l_Law_45 k_MD_event_IIIJ (mi_s hm1 sf_170) rfl (by decide +kernel) (by decide) (Nat.le_of_ble_eq_true rfl) (s_MD_event_IIIJ hm1 ) (fun r h51 hq => ?_)
        obtain ⟨v52, rfl, _, rfl⟩ := hq
        have hf2 := hf1
        have hx2 := hx1
        have hm2 := hm1
        have hp2 := hp1
        have he2 := he1
        refine A_pop2L d_Law_law_343 ?_
        refine A_goto (tgt := 744) d_Law_law_344 (by decide) ?_
        refine A_iincv (z := (i + 6)) (L' := [some (av_S 0), some (av_R (some 0)), some (av_R (some 170)), some (av_I (i + 6)), none, none, none, none]) d_Law_law_744 rfl (w32_id (by unfold i32; omega)) rfl ?_
        refine A_goto (tgt := 18) d_Law_law_747 (by decide) ?_
        exact ih (i + 6) s h (by omega) (by omega) hx2 hm2 hp2 he2 hf2 (by omega)
      · refine A_tabIn (tgt := 347) d_Law_law_33 (by omega) (by omega) (by rw [c0]; rfl) (by decide) ?_
        refine A_aload_n 1 d_Law_law_347 rfl rfl ?_
        refine A_callV0 m_PM_judge T_ok d_Law_law_348 l_Law_46 k_PM_judge (xi_s hx sf_0) rfl (by decide +kernel) (by decide) (Nat.le_of_ble_eq_true rfl) (z_PM_judge hx) (fun r h53 hq => ?_)
        obtain ⟨v54, rfl, _, kz⟩ := hq
        have kc : kF FC s h h53 := kF_w kz (fun a q => by omega)
        have hf1 := FIt_c hf kz ⟨by decide, by decide⟩ (fun a q => by omega)
        have hx1 := kc.1
        obtain ⟨hm1, hp1, -⟩ := LM_x hm hp hx1 (fun a ha => kc.2 a (Or.inr ha))
        have he1 := EX_c he kc
        refine A_popI d_Law_law_351 ?_
        refine A_aload_n 2 d_Law_law_352 rfl rfl ?_
        refine A_callV0 m_MD_judge T_ok d_Law_law_353 l_Law_49 k_MD_judge (mi_s hm1 sf_170) rfl (by decide +kernel) (by decide) (Nat.le_of_ble_eq_true rfl) (s_MD_judge hm1 hp1.1) (fun r h55 hq => ?_)
        obtain ⟨v56, rfl, _, xw, kn⟩ := hq
        have hx2 := LX_m hx1 kn
        have hm2 := kn.1
        have hp2 := PX_j hp1 hm1 kn (fun _ => ⟨⟨rfl, rfl, rfl, rfl, rfl, rfl⟩, rfl, rfl, rfl⟩) (by intro a ha j; simp only [List.mem_cons, List.not_mem_nil, or_false] at ha; rcases ha with rfl | rfl | rfl | rfl | rfl | rfl | rfl <;> rfl) (fun _ => rfl) rfl xw
        have hf2 := FIt_m hf1 kn rfl (fun _ => ⟨rfl, rfl, rfl, rfl, rfl, rfl, rfl⟩)
        have he2 := EX_m he1 hx1.2.1 kn rfl rfl rfl
        refine A_popI d_Law_law_356 ?_
        refine A_goto (tgt := 744) d_Law_law_357 (by decide) ?_
        refine A_iincv (z := (i + 6)) (L' := [some (av_S 0), some (av_R (some 0)), some (av_R (some 170)), some (av_I (i + 6)), none, none, none, none]) d_Law_law_744 rfl (w32_id (by unfold i32; omega)) rfl ?_
        refine A_goto (tgt := 18) d_Law_law_747 (by decide) ?_
        exact ih (i + 6) s h55 (by omega) (by omega) hx2 hm2 hp2 he2 hf2 (by omega)
      · refine A_tabIn (tgt := 360) d_Law_law_33 (by omega) (by omega) (by rw [c0]; rfl) (by decide) ?_
        refine A_aload_n 1 d_Law_law_360 rfl rfl ?_
        refine A_aload_nS 0 d_Law_law_361 rfl rfl ?_
        refine A_iload_n 3 d_Law_law_362 rfl rfl ?_
        refine A_iconst d_Law_law_363 rfl ?_
        refine A_iaddv (z := (i + 1)) d_Law_law_364 (w32_id (by unfold i32; omega)) ?_
        refine A_pc (pc' := 365) rfl ?_
        refine A_ialoadS d_Law_law_365 (by decide) (by omega) (by omega) ?_
        refine A_nmI (fun x57 ex57 => ?_)
        refine A_aload_nS 0 d_Law_law_366 rfl rfl ?_
        refine A_iload_n 3 d_Law_law_367 rfl rfl ?_
        refine A_iconst d_Law_law_368 rfl ?_
        refine A_iaddv (z := (i + 2)) d_Law_law_369 (w32_id (by unfold i32; omega)) ?_
        refine A_ialoadS d_Law_law_370 (by decide) (by omega) (by omega) ?_
        refine A_nmI (fun x58 ex58 => ?_)
        refine A_callV2 m_PM_fault T_ok d_Law_law_371 l_Law_50 k_PM_fault (xi_s hx sf_0) rfl (by decide +kernel) (by decide) (Nat.le_of_ble_eq_true rfl) (s_PM_fault hx) (fun r h59 hq => ?_)
        obtain ⟨v60, rfl, _, rfl⟩ := hq
        have hf1 := hf
        have hx1 := hx
        have hm1 := hm
        have hp1 := hp
        have he1 := he
        refine A_popI d_Law_law_374 ?_
        refine A_aload_n 2 d_Law_law_375 rfl rfl ?_
        refine A_aload_nS 0 d_Law_law_376 rfl rfl ?_
        refine A_iload_n 3 d_Law_law_377 rfl rfl ?_
        refine A_iconst d_Law_law_378 rfl ?_
        refine A_pc (pc' := 379) rfl ?_
        refine A_iaddv (z := (i + 1)) d_Law_law_379 (w32_id (by unfold i32; omega)) ?_
        refine A_ialoadS d_Law_law_380 (by decide) (by omega) (by omega) ?_
        refine A_nmI (fun x61 ex61 => ?_)
        refine A_aload_nS 0 d_Law_law_381 rfl rfl ?_
        refine A_iload_n 3 d_Law_law_382 rfl rfl ?_
        refine A_iconst d_Law_law_383 rfl ?_
        refine A_iaddv (z := (i + 2)) d_Law_law_384 (w32_id (by unfold i32; omega)) ?_
        refine A_pc (pc' := 385) rfl ?_
        refine A_ialoadS d_Law_law_385 (by decide) (by omega) (by omega) ?_
        refine A_nmI (fun x62 ex62 => ?_)
        refine A_callV2 m_MD_fault T_ok d_Law_law_386 l_Law_53 k_MD_fault (mi_s hm1 sf_170) rfl (by decide +kernel) (by decide) (Nat.le_of_ble_eq_true rfl) (s_MD_fault hm1 hp1.2.2.2.2) (fun r h63 hq => ?_)
        obtain ⟨v64, rfl, _, rfl⟩ := hq
        have hf2 := hf1
        have hx2 := hx1
        have hm2 := hm1
        have hp2 := hp1
        have he2 := he1
        refine A_popI d_Law_law_389 ?_
        refine A_goto (tgt := 744) d_Law_law_390 (by decide) ?_
        refine A_iincv (z := (i + 6)) (L' := [some (av_S 0), some (av_R (some 0)), some (av_R (some 170)), some (av_I (i + 6)), none, none, none, none]) d_Law_law_744 rfl (w32_id (by unfold i32; omega)) rfl ?_
        refine A_goto (tgt := 18) d_Law_law_747 (by decide) ?_
        exact ih (i + 6) s h (by omega) (by omega) hx2 hm2 hp2 he2 hf2 (by omega)
      · refine A_tabIn (tgt := 393) d_Law_law_33 (by omega) (by omega) (by rw [c0]; rfl) (by decide) ?_
        refine A_aload_n 1 d_Law_law_393 rfl rfl ?_
        refine A_aload_nS 0 d_Law_law_394 rfl rfl ?_
        refine A_iload_n 3 d_Law_law_395 rfl rfl ?_
        refine A_iconst d_Law_law_396 rfl ?_
        refine A_iaddv (z := (i + 1)) d_Law_law_397 (w32_id (by unfold i32; omega)) ?_
        refine A_pc (pc' := 398) rfl ?_
        refine A_ialoadS d_Law_law_398 (by decide) (by omega) (by omega) ?_
        refine A_nmI (fun x65 ex65 => ?_)
        refine A_aload_nS 0 d_Law_law_399 rfl rfl ?_
        refine A_iload_n 3 d_Law_law_400 rfl rfl ?_
        refine A_iconst d_Law_law_401 rfl ?_
        refine A_iaddv (z := (i + 2)) d_Law_law_402 (w32_id (by unfold i32; omega)) ?_
        refine A_ialoadS d_Law_law_403 (by decide) (by omega) (by omega) ?_
        refine A_nmI (fun x66 ex66 => ?_)
        refine A_callV2 m_PM_beam T_ok d_Law_law_404 l_Law_54 k_PM_beam (xi_s hx sf_0) rfl (by decide +kernel) (by decide) (Nat.le_of_ble_eq_true rfl) (z_PM_beam hx) (fun r h67 hq => ?_)
        obtain ⟨v68, rfl, _, kz⟩ := hq
        have kc : kF FC s h h67 := kF_w kz (fun a q => by omega)
        have hf1 := FIt_c hf kz ⟨by decide, by decide⟩ (fun a q => by omega)
        have hx1 := kc.1
        obtain ⟨hm1, hp1, -⟩ := LM_x hm hp hx1 (fun a ha => kc.2 a (Or.inr ha))
        have he1 := EX_c he kc
        refine A_popI d_Law_law_407 ?_
        refine A_aload_n 2 d_Law_law_408 rfl rfl ?_
        refine A_aload_nS 0 d_Law_law_409 rfl rfl ?_
        refine A_iload_n 3 d_Law_law_410 rfl rfl ?_
        refine A_iconst d_Law_law_411 rfl ?_
        refine A_pc (pc' := 412) rfl ?_
        refine A_iaddv (z := (i + 1)) d_Law_law_412 (w32_id (by unfold i32; omega)) ?_
        refine A_ialoadS d_Law_law_413 (by decide) (by omega) (by omega) ?_
        refine A_nmI (fun x69 ex69 => ?_)
        refine A_aload_nS 0 d_Law_law_414 rfl rfl ?_
        refine A_iload_n 3 d_Law_law_415 rfl rfl ?_
        refine A_iconst d_Law_law_416 rfl ?_
        refine A_iaddv (z := (i + 2)) d_Law_law_417 (w32_id (by unfold i32; omega)) ?_
        refine A_pc (pc' := 418) rfl ?_
        refine A_ialoadS d_Law_law_418 (by decide) (by omega) (by omega) ?_
        refine A_nmI (fun x70 ex70 => ?_)
        refine A_callV2 m_MD_beam T_ok d_Law_law_419 l_Law_57 k_MD_beam (mi_s hm1 sf_170) rfl (by decide +kernel) (by decide) (Nat.le_of_ble_eq_true rfl) (s_MD_beam hm1 hp1.1) (fun r h71 hq => ?_)
        obtain ⟨v72, rfl, _, kn⟩ := hq
        have hx2 := LX_m hx1 kn
        have hm2 := kn.1
        have hp2 := PX_k hp1 hm1 kn (fun _ => ⟨⟨rfl, rfl, rfl, rfl, rfl, rfl⟩, rfl, rfl, rfl⟩) (by intro a ha j; simp only [List.mem_cons, List.not_mem_nil, or_false] at ha; rcases ha with rfl | rfl | rfl | rfl | rfl | rfl | rfl <;> rfl) (fun _ => rfl) rfl rfl
        have hf2 := FIt_m hf1 kn rfl (fun _ => ⟨rfl, rfl, rfl, rfl, rfl, rfl, rfl⟩)
        have he2 := EX_m he1 hx1.2.1 kn rfl rfl rfl
        refine A_popI d_Law_law_422 ?_
        refine A_goto (tgt := 744) d_Law_law_423 (by decide) ?_
        refine A_iincv (z := (i + 6)) (L' := [some (av_S 0), some (av_R (some 0)), some (av_R (some 170)), some (av_I (i + 6)), none, none, none, none]) d_Law_law_744 rfl (w32_id (by unfold i32; omega)) rfl ?_
        refine A_goto (tgt := 18) d_Law_law_747 (by decide) ?_
        exact ih (i + 6) s h71 (by omega) (by omega) hx2 hm2 hp2 he2 hf2 (by omega)
      · refine A_tabIn (tgt := 426) d_Law_law_33 (by omega) (by omega) (by rw [c0]; rfl) (by decide) ?_
        refine A_aload_n 1 d_Law_law_426 rfl rfl ?_
        refine A_aload_nS 0 d_Law_law_427 rfl rfl ?_
        refine A_iload_n 3 d_Law_law_428 rfl rfl ?_
        refine A_iconst d_Law_law_429 rfl ?_
        refine A_iaddv (z := (i + 1)) d_Law_law_430 (w32_id (by unfold i32; omega)) ?_
        refine A_pc (pc' := 431) rfl ?_
        refine A_ialoadS d_Law_law_431 (by decide) (by omega) (by omega) ?_
        refine A_nmI (fun x73 ex73 => ?_)
        refine A_callV1 m_PM_group T_ok d_Law_law_432 l_Law_58 k_PM_group (xi_s hx sf_0) rfl (by decide +kernel) (by decide) (Nat.le_of_ble_eq_true rfl) (s_PM_group hx) (fun r h74 hq => ?_)
        obtain ⟨v75, rfl, _, rfl⟩ := hq
        have hf1 := hf
        have hx1 := hx
        have hm1 := hm
        have hp1 := hp
        have he1 := he
        refine A_popI d_Law_law_435 ?_
        refine A_aload_n 2 d_Law_law_436 rfl rfl ?_
        refine A_aload_nS 0 d_Law_law_437 rfl rfl ?_
        refine A_iload_n 3 d_Law_law_438 rfl rfl ?_
        refine A_iconst d_Law_law_439 rfl ?_
        refine A_pc (pc' := 440) rfl ?_
        refine A_iaddv (z := (i + 1)) d_Law_law_440 (w32_id (by unfold i32; omega)) ?_
        refine A_ialoadS d_Law_law_441 (by decide) (by omega) (by omega) ?_
        refine A_nmI (fun x76 ex76 => ?_)
        refine A_callV1 m_MD_group T_ok d_Law_law_442 l_Law_61 k_MD_group (mi_s hm1 sf_170) rfl (by decide +kernel) (by decide) (Nat.le_of_ble_eq_true rfl) (s_MD_group hm1 ) (fun r h77 hq => ?_)
        obtain ⟨v78, rfl, _, rfl⟩ := hq
        have hf2 := hf1
        have hx2 := hx1
        have hm2 := hm1
        have hp2 := hp1
        have he2 := he1
        refine A_popI d_Law_law_445 ?_
        refine A_goto (tgt := 744) d_Law_law_446 (by decide) ?_
        refine A_iincv (z := (i + 6)) (L' := [some (av_S 0), some (av_R (some 0)), some (av_R (some 170)), some (av_I (i + 6)), none, none, none, none]) d_Law_law_744 rfl (w32_id (by unfold i32; omega)) rfl ?_
        refine A_goto (tgt := 18) d_Law_law_747 (by decide) ?_
        exact ih (i + 6) s h (by omega) (by omega) hx2 hm2 hp2 he2 hf2 (by omega)
      · refine A_tabIn (tgt := 449) d_Law_law_33 (by omega) (by omega) (by rw [c0]; rfl) (by decide) ?_
        refine A_aload_n 1 d_Law_law_449 rfl rfl ?_
        refine A_aload_nS 0 d_Law_law_450 rfl rfl ?_
        refine A_iload_n 3 d_Law_law_451 rfl rfl ?_
        refine A_iconst d_Law_law_452 rfl ?_
        refine A_iaddv (z := (i + 1)) d_Law_law_453 (w32_id (by unfold i32; omega)) ?_
        refine A_pc (pc' := 454) rfl ?_
        refine A_ialoadS d_Law_law_454 (by decide) (by omega) (by omega) ?_
        refine A_nmI (fun x79 ex79 => ?_)
        refine A_callV1 m_PM_breaks T_ok d_Law_law_455 l_Law_62 k_PM_breaks (xi_s hx sf_0) rfl (by decide +kernel) (by decide) (Nat.le_of_ble_eq_true rfl) (z_PM_breaks hx) (fun r h80 hq => ?_)
        obtain ⟨v81, rfl, _, kz⟩ := hq
        have kc : kF FC s h h80 := kF_w kz (fun a q => by omega)
        have hf1 := FIt_c hf kz ⟨by decide, by decide⟩ (fun a q => by omega)
        have hx1 := kc.1
        obtain ⟨hm1, hp1, -⟩ := LM_x hm hp hx1 (fun a ha => kc.2 a (Or.inr ha))
        have he1 := EX_c he kc
        refine A_popI d_Law_law_458 ?_
        refine A_aload_n 2 d_Law_law_459 rfl rfl ?_
        refine A_aload_nS 0 d_Law_law_460 rfl rfl ?_
        refine A_iload_n 3 d_Law_law_461 rfl rfl ?_
        refine A_iconst d_Law_law_462 rfl ?_
        refine A_pc (pc' := 463) rfl ?_
        refine A_iaddv (z := (i + 1)) d_Law_law_463 (w32_id (by unfold i32; omega)) ?_
        refine A_ialoadS d_Law_law_464 (by decide) (by omega) (by omega) ?_
        refine A_nmI (fun x82 ex82 => ?_)
        refine A_callV1 m_MD_breaks T_ok d_Law_law_465 l_Law_65 k_MD_breaks (mi_s hm1 sf_170) rfl (by decide +kernel) (by decide) (Nat.le_of_ble_eq_true rfl) (s_MD_breaks hm1 hp1.1 hp1.2.1) (fun r h83 hq => ?_)
        obtain ⟨v84, rfl, _, kn⟩ := hq
        have hx2 := LX_m hx1 kn
        have hm2 := kn.1
        have hp2 := PX_k hp1 hm1 kn (fun _ => ⟨⟨rfl, rfl, rfl, rfl, rfl, rfl⟩, rfl, rfl, rfl⟩) (by intro a ha j; simp only [List.mem_cons, List.not_mem_nil, or_false] at ha; rcases ha with rfl | rfl | rfl | rfl | rfl | rfl | rfl <;> rfl) (fun _ => rfl) rfl rfl
        have hf2 := FIt_m hf1 kn rfl (fun _ => ⟨rfl, rfl, rfl, rfl, rfl, rfl, rfl⟩)
        have he2 := EX_m he1 hx1.2.1 kn rfl rfl rfl
        refine A_popI d_Law_law_468 ?_
        refine A_goto (tgt := 744) d_Law_law_469 (by decide) ?_
        refine A_iincv (z := (i + 6)) (L' := [some (av_S 0), some (av_R (some 0)), some (av_R (some 170)), some (av_I (i + 6)), none, none, none, none]) d_Law_law_744 rfl (w32_id (by unfold i32; omega)) rfl ?_
        refine A_goto (tgt := 18) d_Law_law_747 (by decide) ?_
        exact ih (i + 6) s h83 (by omega) (by omega) hx2 hm2 hp2 he2 hf2 (by omega)
      · refine A_tabIn (tgt := 472) d_Law_law_33 (by omega) (by omega) (by rw [c0]; rfl) (by decide) ?_
        refine A_aload_n 1 d_Law_law_472 rfl rfl ?_
        refine A_aload_nS 0 d_Law_law_473 rfl rfl ?_
        refine A_iload_n 3 d_Law_law_474 rfl rfl ?_
        refine A_iconst d_Law_law_475 rfl ?_
        refine A_iaddv (z := (i + 1)) d_Law_law_476 (w32_id (by unfold i32; omega)) ?_
        refine A_pc (pc' := 477) rfl ?_
        refine A_ialoadS d_Law_law_477 (by decide) (by omega) (by omega) ?_
        refine A_nmI (fun x85 ex85 => ?_)
        refine A_callV1 m_PM_line T_ok d_Law_law_478 l_Law_66 k_PM_line (xi_s hx sf_0) rfl (by decide +kernel) (by decide) (Nat.le_of_ble_eq_true rfl) (s_PM_line hx) (fun r h86 hq => ?_)
        obtain ⟨v87, rfl, _, rfl⟩ := hq
        have hf1 := hf
        have hx1 := hx
        have hm1 := hm
        have hp1 := hp
        have he1 := he
        refine A_popI d_Law_law_481 ?_
        refine A_aload_n 2 d_Law_law_482 rfl rfl ?_
        refine A_aload_nS 0 d_Law_law_483 rfl rfl ?_
        refine A_iload_n 3 d_Law_law_484 rfl rfl ?_
        refine A_iconst d_Law_law_485 rfl ?_
        refine A_pc (pc' := 486) rfl ?_
        refine A_iaddv (z := (i + 1)) d_Law_law_486 (w32_id (by unfold i32; omega)) ?_
        refine A_ialoadS d_Law_law_487 (by decide) (by omega) (by omega) ?_
        refine A_nmI (fun x88 ex88 => ?_)
        refine A_callV1 m_MD_line T_ok d_Law_law_488 l_Law_69 k_MD_line (mi_s hm1 sf_170) rfl (by decide +kernel) (by decide) (Nat.le_of_ble_eq_true rfl) (s_MD_line hm1 ) (fun r h89 hq => ?_)
        obtain ⟨v90, rfl, _, rfl⟩ := hq
        have hf2 := hf1
        have hx2 := hx1
        have hm2 := hm1
        have hp2 := hp1
        have he2 := he1
        refine A_popI d_Law_law_491 ?_
        refine A_goto (tgt := 744) d_Law_law_492 (by decide) ?_
        refine A_iincv (z := (i + 6)) (L' := [some (av_S 0), some (av_R (some 0)), some (av_R (some 170)), some (av_I (i + 6)), none, none, none, none]) d_Law_law_744 rfl (w32_id (by unfold i32; omega)) rfl ?_
        refine A_goto (tgt := 18) d_Law_law_747 (by decide) ?_
        exact ih (i + 6) s h (by omega) (by omega) hx2 hm2 hp2 he2 hf2 (by omega)
      · refine A_tabIn (tgt := 495) d_Law_law_33 (by omega) (by omega) (by rw [c0]; rfl) (by decide) ?_
        refine A_aload_n 1 d_Law_law_495 rfl rfl ?_
        refine A_aload_nS 0 d_Law_law_496 rfl rfl ?_
        refine A_iload_n 3 d_Law_law_497 rfl rfl ?_
        refine A_iconst d_Law_law_498 rfl ?_
        refine A_iaddv (z := (i + 1)) d_Law_law_499 (w32_id (by unfold i32; omega)) ?_
        refine A_pc (pc' := 500) rfl ?_
        refine A_ialoadS d_Law_law_500 (by decide) (by omega) (by omega) ?_
        refine A_nmI (fun x91 ex91 => ?_)
        refine A_callV1 m_PM_width T_ok d_Law_law_501 l_Law_70 k_PM_width (xi_s hx sf_0) rfl (by decide +kernel) (by decide) (Nat.le_of_ble_eq_true rfl) (z_PM_width hx) (fun r h92 hq => ?_)
        obtain ⟨v93, rfl, _, kz⟩ := hq
        have kc : kF FC s h h92 := kF_w kz (fun a q => by omega)
        have hf1 := FIt_c hf kz ⟨by decide, by decide⟩ (fun a q => by omega)
        have hx1 := kc.1
        obtain ⟨hm1, hp1, -⟩ := LM_x hm hp hx1 (fun a ha => kc.2 a (Or.inr ha))
        have he1 := EX_c he kc
        refine A_popI d_Law_law_504 ?_
        refine A_aload_n 2 d_Law_law_505 rfl rfl ?_
        refine A_aload_nS 0 d_Law_law_506 rfl rfl ?_
        refine A_iload_n 3 d_Law_law_507 rfl rfl ?_
        refine A_iconst d_Law_law_508 rfl ?_
        refine A_pc (pc' := 509) rfl ?_
        refine A_iaddv (z := (i + 1)) d_Law_law_509 (w32_id (by unfold i32; omega)) ?_
        refine A_ialoadS d_Law_law_510 (by decide) (by omega) (by omega) ?_
        refine A_nmI (fun x94 ex94 => ?_)
        refine A_callV1 m_MD_width T_ok d_Law_law_511 l_Law_73 k_MD_width (mi_s hm1 sf_170) rfl (by decide +kernel) (by decide) (Nat.le_of_ble_eq_true rfl) (s_MD_width hm1 hp1.1 hp1.2.1) (fun r h95 hq => ?_)
        obtain ⟨v96, rfl, _, kn⟩ := hq
        have hx2 := LX_m hx1 kn
        have hm2 := kn.1
        have hp2 := PX_k hp1 hm1 kn (fun _ => ⟨⟨rfl, rfl, rfl, rfl, rfl, rfl⟩, rfl, rfl, rfl⟩) (by intro a ha j; simp only [List.mem_cons, List.not_mem_nil, or_false] at ha; rcases ha with rfl | rfl | rfl | rfl | rfl | rfl | rfl <;> rfl) (fun _ => rfl) rfl rfl
        have hf2 := FIt_m hf1 kn rfl (fun _ => ⟨rfl, rfl, rfl, rfl, rfl, rfl, rfl⟩)
        have he2 := EX_m he1 hx1.2.1 kn rfl rfl rfl
        refine A_popI d_Law_law_514 ?_
        refine A_goto (tgt := 744) d_Law_law_515 (by decide) ?_
        refine A_iincv (z := (i + 6)) (L' := [some (av_S 0), some (av_R (some 0)), some (av_R (some 170)), some (av_I (i + 6)), none, none, none, none]) d_Law_law_744 rfl (w32_id (by unfold i32; omega)) rfl ?_
        refine A_goto (tgt := 18) d_Law_law_747 (by decide) ?_
        exact ih (i + 6) s h95 (by omega) (by omega) hx2 hm2 hp2 he2 hf2 (by omega)
      · refine A_tabIn (tgt := 518) d_Law_law_33 (by omega) (by omega) (by rw [c0]; rfl) (by decide) ?_
        refine A_aload_n 1 d_Law_law_518 rfl rfl ?_
        refine A_aload_nS 0 d_Law_law_519 rfl rfl ?_
        refine A_iload_n 3 d_Law_law_520 rfl rfl ?_
        refine A_iconst d_Law_law_521 rfl ?_
        refine A_iaddv (z := (i + 1)) d_Law_law_522 (w32_id (by unfold i32; omega)) ?_
        refine A_pc (pc' := 523) rfl ?_
        refine A_ialoadS d_Law_law_523 (by decide) (by omega) (by omega) ?_
        refine A_nmI (fun x97 ex97 => ?_)
        refine A_aload_nS 0 d_Law_law_524 rfl rfl ?_
        refine A_iload_n 3 d_Law_law_525 rfl rfl ?_
        refine A_iconst d_Law_law_526 rfl ?_
        refine A_iaddv (z := (i + 2)) d_Law_law_527 (w32_id (by unfold i32; omega)) ?_
        refine A_ialoadS d_Law_law_528 (by decide) (by omega) (by omega) ?_
        refine A_nmI (fun x98 ex98 => ?_)
        refine A_pc (pc' := 529) rfl ?_
        refine A_aload_nS 0 d_Law_law_529 rfl rfl ?_
        refine A_iload_n 3 d_Law_law_530 rfl rfl ?_
        refine A_iconst d_Law_law_531 rfl ?_
        refine A_iaddv (z := (i + 3)) d_Law_law_532 (w32_id (by unfold i32; omega)) ?_
        refine A_ialoadS d_Law_law_533 (by decide) (by omega) (by omega) ?_
        refine A_nmI (fun x99 ex99 => ?_)
        refine A_callV3 m_PM_lines T_ok d_Law_law_534 l_Law_74 k_PM_lines (xi_s hx sf_0) rfl (by decide +kernel) (by decide) (Nat.le_of_ble_eq_true rfl) (z_PM_lines hx) (fun r h100 hq => ?_)
        obtain ⟨v101, rfl, _, kz⟩ := hq
        have kc : kF FC s h h100 := kF_w kz (fun a q => by omega)
        have hf1 := FIt_c hf kz ⟨by decide, by decide⟩ (fun a q => by omega)
        have hx1 := kc.1
        obtain ⟨hm1, hp1, -⟩ := LM_x hm hp hx1 (fun a ha => kc.2 a (Or.inr ha))
        have he1 := EX_c he kc
        refine A_popI d_Law_law_537 ?_
        refine A_aload_n 2 d_Law_law_538 rfl rfl ?_
        refine A_aload_nS 0 d_Law_law_539 rfl rfl ?_
        refine A_iload_n 3 d_Law_law_540 rfl rfl ?_
        refine A_iconst d_Law_law_541 rfl ?_
        refine A_pc (pc' := 542) rfl ?_
        refine A_iaddv (z := (i + 1)) d_Law_law_542 (w32_id (by unfold i32; omega)) ?_
        refine A_ialoadS d_Law_law_543 (by decide) (by omega) (by omega) ?_
        refine A_nmI (fun x102 ex102 => ?_)
        refine A_aload_nS 0 d_Law_law_544 rfl rfl ?_
        refine A_iload_n 3 d_Law_law_545 rfl rfl ?_
        refine A_iconst d_Law_law_546 rfl ?_
        refine A_iaddv (z := (i + 2)) d_Law_law_547 (w32_id (by unfold i32; omega)) ?_
        refine A_pc (pc' := 548) rfl ?_
        refine A_ialoadS d_Law_law_548 (by decide) (by omega) (by omega) ?_
        refine A_nmI (fun x103 ex103 => ?_)
        refine A_aload_nS 0 d_Law_law_549 rfl rfl ?_
        refine A_iload_n 3 d_Law_law_550 rfl rfl ?_
        refine A_iconst d_Law_law_551 rfl ?_
        refine A_iaddv (z := (i + 3)) d_Law_law_552 (w32_id (by unfold i32; omega)) ?_
        refine A_ialoadS d_Law_law_553 (by decide) (by omega) (by omega) ?_
        refine A_nmI (fun x104 ex104 => ?_)
        refine A_callV3 m_MD_lines T_ok d_Law_law_554 l_Law_78 k_MD_lines (mi_s hm1 sf_170) rfl (by decide +kernel) (by decide) (Nat.le_of_ble_eq_true rfl) (s_MD_lines hm1 ) (fun r h105 hq => ?_)
        obtain ⟨v106, rfl, _, kn⟩ := hq
        have hx2 := LX_m hx1 kn
        have hm2 := kn.1
        have hp2 := PX_k hp1 hm1 kn (fun _ => ⟨⟨rfl, rfl, rfl, rfl, rfl, rfl⟩, rfl, rfl, rfl⟩) (by intro a ha j; simp only [List.mem_cons, List.not_mem_nil, or_false] at ha; rcases ha with rfl | rfl | rfl | rfl | rfl | rfl | rfl <;> rfl) (fun _ => rfl) rfl rfl
        have hf2 := FIt_m hf1 kn rfl (fun _ => ⟨rfl, rfl, rfl, rfl, rfl, rfl, rfl⟩)
        have he2 := EX_m he1 hx1.2.1 kn rfl rfl rfl
        refine A_popI d_Law_law_557 ?_
        refine A_goto (tgt := 744) d_Law_law_558 (by decide) ?_
        refine A_iincv (z := (i + 6)) (L' := [some (av_S 0), some (av_R (some 0)), some (av_R (some 170)), some (av_I (i + 6)), none, none, none, none]) d_Law_law_744 rfl (w32_id (by unfold i32; omega)) rfl ?_
        refine A_goto (tgt := 18) d_Law_law_747 (by decide) ?_
        exact ih (i + 6) s h105 (by omega) (by omega) hx2 hm2 hp2 he2 hf2 (by omega)
      · refine A_tabIn (tgt := 561) d_Law_law_33 (by omega) (by omega) (by rw [c0]; rfl) (by decide) ?_
        refine A_aload_n 1 d_Law_law_561 rfl rfl ?_
        refine A_aload_nS 0 d_Law_law_562 rfl rfl ?_
        refine A_iload_n 3 d_Law_law_563 rfl rfl ?_
        refine A_iconst d_Law_law_564 rfl ?_
        refine A_iaddv (z := (i + 1)) d_Law_law_565 (w32_id (by unfold i32; omega)) ?_
        refine A_pc (pc' := 566) rfl ?_
        refine A_ialoadS d_Law_law_566 (by decide) (by omega) (by omega) ?_
        refine A_nmI (fun x107 ex107 => ?_)
        refine A_aload_nS 0 d_Law_law_567 rfl rfl ?_
        refine A_iload_n 3 d_Law_law_568 rfl rfl ?_
        refine A_iconst d_Law_law_569 rfl ?_
        refine A_iaddv (z := (i + 2)) d_Law_law_570 (w32_id (by unfold i32; omega)) ?_
        refine A_ialoadS d_Law_law_571 (by decide) (by omega) (by omega) ?_
        refine A_nmI (fun x108 ex108 => ?_)
        refine A_callV2 m_PM_second T_ok d_Law_law_572 l_Law_79 k_PM_second (xi_s hx sf_0) rfl (by decide +kernel) (by decide) (Nat.le_of_ble_eq_true rfl) (s_PM_second hx) (fun r h109 hq => ?_)
        obtain ⟨v110, rfl, _, rfl⟩ := hq
        have hf1 := hf
        have hx1 := hx
        have hm1 := hm
        have hp1 := hp
        have he1 := he
        refine A_popI d_Law_law_575 ?_
        refine A_aload_n 2 d_Law_law_576 rfl rfl ?_
        refine A_aload_nS 0 d_Law_law_577 rfl rfl ?_
        refine A_iload_n 3 d_Law_law_578 rfl rfl ?_
        refine A_iconst d_Law_law_579 rfl ?_
        refine A_pc (pc' := 580) rfl ?_
        refine A_iaddv (z := (i + 1)) d_Law_law_580 (w32_id (by unfold i32; omega)) ?_
        refine A_ialoadS d_Law_law_581 (by decide) (by omega) (by omega) ?_
        refine A_nmI (fun x111 ex111 => ?_)
        refine A_aload_nS 0 d_Law_law_582 rfl rfl ?_
        refine A_iload_n 3 d_Law_law_583 rfl rfl ?_
        refine A_iconst d_Law_law_584 rfl ?_
        refine A_iaddv (z := (i + 2)) d_Law_law_585 (w32_id (by unfold i32; omega)) ?_
        refine A_pc (pc' := 586) rfl ?_
        refine A_ialoadS d_Law_law_586 (by decide) (by omega) (by omega) ?_
        refine A_nmI (fun x112 ex112 => ?_)
        refine A_callV2 m_MD_second T_ok d_Law_law_587 l_Law_82 k_MD_second (mi_s hm1 sf_170) rfl (by decide +kernel) (by decide) (Nat.le_of_ble_eq_true rfl) (s_MD_second hm1 ) (fun r h113 hq => ?_)
        obtain ⟨v114, rfl, _, kn⟩ := hq
        have hx2 := LX_m hx1 kn
        have hm2 := kn.1
        have hp2 := PX_k hp1 hm1 kn (fun _ => ⟨⟨rfl, rfl, rfl, rfl, rfl, rfl⟩, rfl, rfl, rfl⟩) (by intro a ha j; simp only [List.mem_cons, List.not_mem_nil, or_false] at ha; rcases ha with rfl | rfl | rfl | rfl | rfl | rfl | rfl <;> rfl) (fun _ => rfl) rfl rfl
        have hf2 := FIt_m hf1 kn rfl (fun _ => ⟨rfl, rfl, rfl, rfl, rfl, rfl, rfl⟩)
        have he2 := EX_m he1 hx1.2.1 kn rfl rfl rfl
        refine A_popI d_Law_law_590 ?_
        refine A_goto (tgt := 744) d_Law_law_591 (by decide) ?_
        refine A_iincv (z := (i + 6)) (L' := [some (av_S 0), some (av_R (some 0)), some (av_R (some 170)), some (av_I (i + 6)), none, none, none, none]) d_Law_law_744 rfl (w32_id (by unfold i32; omega)) rfl ?_
        refine A_goto (tgt := 18) d_Law_law_747 (by decide) ?_
        exact ih (i + 6) s h113 (by omega) (by omega) hx2 hm2 hp2 he2 hf2 (by omega)
      · refine A_tabIn (tgt := 594) d_Law_law_33 (by omega) (by omega) (by rw [c0]; rfl) (by decide) ?_
        refine A_aload_n 1 d_Law_law_594 rfl rfl ?_
        obtain ⟨μ, hCK, hSR⟩ := (he).2.2
        refine A_callV0 m_PM_readings T_ok d_Law_law_595 l_Law_83 k_PM_readings (xi_s hx sf_0) rfl (by decide +kernel) (by decide) (Nat.le_of_ble_eq_true rfl) (f_PM_readings hx hm hCK hSR hp.2.2.1 hf) (fun r h115 hq => ?_)
        obtain ⟨v116, rfl, -, kc, hSR1, hFD⟩ := hq
        have hx1 := kc.1
        obtain ⟨hm1, hp1, -⟩ := LM_x hm hp hx1 (fun a ha => kc.2 a (Or.inr ha))
        have he1 := EX_c he kc
        refine A_popI d_Law_law_598 ?_
        refine A_aload_n 2 d_Law_law_599 rfl rfl ?_
        refine A_callV0 m_MD_readings T_ok d_Law_law_600 l_Law_86 k_MD_readings (mi_s hm1 sf_170) rfl (by decide +kernel) (by decide) (Nat.le_of_ble_eq_true rfl) (f_MD_readings hx1 hm1 hp1.2.2.1 hp1.2.2.2.1 (GM_of hCK hSR) hSR1 (by exact hFD)) (fun r h117 hq => ?_)
        obtain ⟨v118, rfl, _, xw, kn, hf2⟩ := hq
        have hx2 := LX_m hx1 kn
        have hm2 := kn.1
        have hp2 := PX_r hp1 hm1 kn (fun _ => ⟨⟨rfl, rfl, rfl, rfl, rfl, rfl⟩, rfl, rfl, rfl⟩) (by intro a ha j; simp only [List.mem_cons, List.not_mem_nil, or_false] at ha; rcases ha with rfl | rfl | rfl | rfl | rfl | rfl | rfl <;> rfl) rfl xw
        have he2 := EX_m he1 hx1.2.1 kn rfl rfl rfl
        refine A_popI d_Law_law_603 ?_
        refine A_goto (tgt := 744) d_Law_law_604 (by decide) ?_
        refine A_iincv (z := (i + 6)) (L' := [some (av_S 0), some (av_R (some 0)), some (av_R (some 170)), some (av_I (i + 6)), none, none, none, none]) d_Law_law_744 rfl (w32_id (by unfold i32; omega)) rfl ?_
        refine A_goto (tgt := 18) d_Law_law_747 (by decide) ?_
        exact ih (i + 6) s h117 (by omega) (by omega) hx2 hm2 hp2 he2 hf2 (by omega)
      · refine A_tabIn (tgt := 607) d_Law_law_33 (by omega) (by omega) (by rw [c0]; rfl) (by decide) ?_
        refine A_aload_n 1 d_Law_law_607 rfl rfl ?_
        refine A_aload_nS 0 d_Law_law_608 rfl rfl ?_
        refine A_iload_n 3 d_Law_law_609 rfl rfl ?_
        refine A_iconst d_Law_law_610 rfl ?_
        refine A_iaddv (z := (i + 1)) d_Law_law_611 (w32_id (by unfold i32; omega)) ?_
        refine A_pc (pc' := 612) rfl ?_
        refine A_ialoadS d_Law_law_612 (by decide) (by omega) (by omega) ?_
        refine A_nmI (fun x119 ex119 => ?_)
        refine A_aload_nS 0 d_Law_law_613 rfl rfl ?_
        refine A_iload_n 3 d_Law_law_614 rfl rfl ?_
        refine A_iconst d_Law_law_615 rfl ?_
        refine A_iaddv (z := (i + 2)) d_Law_law_616 (w32_id (by unfold i32; omega)) ?_
        refine A_ialoadS d_Law_law_617 (by decide) (by omega) (by omega) ?_
        refine A_nmI (fun x120 ex120 => ?_)
        obtain ⟨μ, hCK, hSR⟩ := (he).2.2
        have hfK := hf
        obtain ⟨gF, hfT⟩ := hfK
        refine A_callV2 m_PM_tree T_ok d_Law_law_618 l_Law_87 k_PM_tree (xi_s hx sf_0) rfl (by decide +kernel) (by decide) (Nat.le_of_ble_eq_true rfl) (e_PM_tree hx hm hCK hSR hp.2.2.1 hfT) (fun r h121 hq => ?_)
        obtain ⟨v122, rfl, -, kc, hfS, ev⟩ := hq
        have hf1 : FIt h121 := ⟨_, hfS⟩
        have hx1 := kc.1
        obtain ⟨hm1, hp1, -⟩ := LM_x hm hp hx1 (fun a ha => kc.2 a (Or.inr ha))
        have he1 := EX_c he kc
        refine A_aload_n 2 d_Law_law_621 rfl rfl ?_
        refine A_aload_nS 0 d_Law_law_622 rfl rfl ?_
        refine A_iload_n 3 d_Law_law_623 rfl rfl ?_
        refine A_iconst d_Law_law_624 rfl ?_
        refine A_iaddv (z := (i + 1)) d_Law_law_625 (w32_id (by unfold i32; omega)) ?_
        refine A_pc (pc' := 626) rfl ?_
        refine A_ialoadS d_Law_law_626 (by decide) (by omega) (by omega) ?_
        refine A_nmI (fun x123 ex123 => ?_)
        refine A_aload_nS 0 d_Law_law_627 rfl rfl ?_
        refine A_iload_n 3 d_Law_law_628 rfl rfl ?_
        refine A_iconst d_Law_law_629 rfl ?_
        refine A_iaddv (z := (i + 2)) d_Law_law_630 (w32_id (by unfold i32; omega)) ?_
        refine A_ialoadS d_Law_law_631 (by decide) (by omega) (by omega) ?_
        refine A_nmI (fun x124 ex124 => ?_)
        refine A_callV2 m_MD_tree T_ok d_Law_law_632 l_Law_90 k_MD_tree (mi_s hm1 sf_170) rfl (by decide +kernel) (by decide) (Nat.le_of_ble_eq_true rfl) (e_MD_tree hx1 hm1 hp1.2.2.1 hp1.2.2.2.1 hfS) (fun r h125 hq => ?_)
        obtain ⟨v126, rfl, _, kn, ew⟩ := hq
        have hx2 := LX_m hx1 kn
        have hm2 := kn.1
        have ezw : v122 = v126 := by rw [ev, ew, ex123.trans ex119.symm, ex124.trans ex120.symm]
        have hp2 := PX_k hp1 hm1 kn (fun _ => ⟨⟨rfl, rfl, rfl, rfl, rfl, rfl⟩, rfl, rfl, rfl⟩) (by intro a ha j; simp only [List.mem_cons, List.not_mem_nil, or_false] at ha; rcases ha with rfl | rfl | rfl | rfl | rfl | rfl | rfl <;> rfl) (fun _ => rfl) rfl rfl
        have hf2 := FIt_m hf1 kn rfl (fun _ => ⟨rfl, rfl, rfl, rfl, rfl, rfl, rfl⟩)
        have he2 := EX_m he1 hx1.2.1 kn rfl rfl rfl
        refine A_icmp_eq (tgt := 744) d_Law_law_635 (by decide) (fun _ => ?_) (fun c => False.elim (c (by omega)))
        refine A_iincv (z := (i + 6)) (L' := [some (av_S 0), some (av_R (some 0)), some (av_R (some 170)), some (av_I (i + 6)), none, none, none, none]) d_Law_law_744 rfl (w32_id (by unfold i32; omega)) rfl ?_
        refine A_goto (tgt := 18) d_Law_law_747 (by decide) ?_
        exact ih (i + 6) s h125 (by omega) (by omega) hx2 hm2 hp2 he2 hf2 (by omega)
      · refine A_tabIn (tgt := 640) d_Law_law_33 (by omega) (by omega) (by rw [c0]; rfl) (by decide) ?_
        refine A_aload_n 1 d_Law_law_640 rfl rfl ?_
        refine A_aload_nS 0 d_Law_law_641 rfl rfl ?_
        refine A_iload_n 3 d_Law_law_642 rfl rfl ?_
        refine A_iconst d_Law_law_643 rfl ?_
        refine A_iaddv (z := (i + 1)) d_Law_law_644 (w32_id (by unfold i32; omega)) ?_
        refine A_pc (pc' := 645) rfl ?_
        refine A_ialoadS d_Law_law_645 (by decide) (by omega) (by omega) ?_
        refine A_nmI (fun x127 ex127 => ?_)
        refine A_aload_nS 0 d_Law_law_646 rfl rfl ?_
        refine A_iload_n 3 d_Law_law_647 rfl rfl ?_
        refine A_iconst d_Law_law_648 rfl ?_
        refine A_iaddv (z := (i + 2)) d_Law_law_649 (w32_id (by unfold i32; omega)) ?_
        refine A_ialoadS d_Law_law_650 (by decide) (by omega) (by omega) ?_
        refine A_nmI (fun x128 ex128 => ?_)
        refine A_callV2 m_PM_beside T_ok d_Law_law_651 l_Law_91 k_PM_beside (xi_s hx sf_0) rfl (by decide +kernel) (by decide) (Nat.le_of_ble_eq_true rfl) (z_PM_beside hx) (fun r h129 hq => ?_)
        obtain ⟨v130, rfl, _, kz⟩ := hq
        have kc : kF FC s h h129 := kF_w kz (fun a q => by omega)
        have hf1 := FIt_c hf kz ⟨by decide, by decide⟩ (fun a q => by omega)
        have hx1 := kc.1
        obtain ⟨hm1, hp1, -⟩ := LM_x hm hp hx1 (fun a ha => kc.2 a (Or.inr ha))
        have he1 := EX_c he kc
        refine A_popI d_Law_law_654 ?_
        refine A_aload_n 2 d_Law_law_655 rfl rfl ?_
        refine A_aload_nS 0 d_Law_law_656 rfl rfl ?_
        refine A_iload_n 3 d_Law_law_657 rfl rfl ?_
        refine A_iconst d_Law_law_658 rfl ?_
        refine A_pc (pc' := 659) rfl ?_
        refine A_iaddv (z := (i + 1)) d_Law_law_659 (w32_id (by unfold i32; omega)) ?_
        refine A_ialoadS d_Law_law_660 (by decide) (by omega) (by omega) ?_
        refine A_nmI (fun x131 ex131 => ?_)
        refine A_aload_nS 0 d_Law_law_661 rfl rfl ?_
        refine A_iload_n 3 d_Law_law_662 rfl rfl ?_
        refine A_iconst d_Law_law_663 rfl ?_
        refine A_iaddv (z := (i + 2)) d_Law_law_664 (w32_id (by unfold i32; omega)) ?_
        refine A_pc (pc' := 665) rfl ?_
        refine A_ialoadS d_Law_law_665 (by decide) (by omega) (by omega) ?_
        refine A_nmI (fun x132 ex132 => ?_)
        refine A_callV2 m_MD_beside T_ok d_Law_law_666 l_Law_94 k_MD_beside (mi_s hm1 sf_170) rfl (by decide +kernel) (by decide) (Nat.le_of_ble_eq_true rfl) (s_MD_beside hm1 ) (fun r h133 hq => ?_)
        obtain ⟨v134, rfl, _, kn⟩ := hq
        have hx2 := LX_m hx1 kn
        have hm2 := kn.1
        have hp2 := PX_k hp1 hm1 kn (fun _ => ⟨⟨rfl, rfl, rfl, rfl, rfl, rfl⟩, rfl, rfl, rfl⟩) (by intro a ha j; simp only [List.mem_cons, List.not_mem_nil, or_false] at ha; rcases ha with rfl | rfl | rfl | rfl | rfl | rfl | rfl <;> rfl) (fun _ => rfl) rfl rfl
        have hf2 := FIt_m hf1 kn rfl (fun _ => ⟨rfl, rfl, rfl, rfl, rfl, rfl, rfl⟩)
        have he2 := EX_m he1 hx1.2.1 kn rfl rfl rfl
        refine A_popI d_Law_law_669 ?_
        refine A_goto (tgt := 744) d_Law_law_670 (by decide) ?_
        refine A_iincv (z := (i + 6)) (L' := [some (av_S 0), some (av_R (some 0)), some (av_R (some 170)), some (av_I (i + 6)), none, none, none, none]) d_Law_law_744 rfl (w32_id (by unfold i32; omega)) rfl ?_
        refine A_goto (tgt := 18) d_Law_law_747 (by decide) ?_
        exact ih (i + 6) s h133 (by omega) (by omega) hx2 hm2 hp2 he2 hf2 (by omega)
      · refine A_tabIn (tgt := 673) d_Law_law_33 (by omega) (by omega) (by rw [c0]; rfl) (by decide) ?_
        refine A_aload_n 1 d_Law_law_673 rfl rfl ?_
        refine A_aload_nS 0 d_Law_law_674 rfl rfl ?_
        refine A_iload_n 3 d_Law_law_675 rfl rfl ?_
        refine A_iconst d_Law_law_676 rfl ?_
        refine A_iaddv (z := (i + 1)) d_Law_law_677 (w32_id (by unfold i32; omega)) ?_
        refine A_pc (pc' := 678) rfl ?_
        refine A_ialoadS d_Law_law_678 (by decide) (by omega) (by omega) ?_
        refine A_nmI (fun x135 ex135 => ?_)
        refine A_callV1 m_PM_partner T_ok d_Law_law_679 l_Law_95 k_PM_partner (xi_s hx sf_0) rfl (by decide +kernel) (by decide) (Nat.le_of_ble_eq_true rfl) (s_PM_partner hx) (fun r h136 hq => ?_)
        obtain ⟨v137, rfl, _, rfl⟩ := hq
        have hf1 := hf
        have hx1 := hx
        have hm1 := hm
        have hp1 := hp
        have he1 := he
        refine A_popI d_Law_law_682 ?_
        refine A_aload_n 2 d_Law_law_683 rfl rfl ?_
        refine A_aload_nS 0 d_Law_law_684 rfl rfl ?_
        refine A_iload_n 3 d_Law_law_685 rfl rfl ?_
        refine A_iconst d_Law_law_686 rfl ?_
        refine A_pc (pc' := 687) rfl ?_
        refine A_iaddv (z := (i + 1)) d_Law_law_687 (w32_id (by unfold i32; omega)) ?_
        refine A_ialoadS d_Law_law_688 (by decide) (by omega) (by omega) ?_
        refine A_nmI (fun x138 ex138 => ?_)
        refine A_callV1 m_MD_partner T_ok d_Law_law_689 l_Law_98 k_MD_partner (mi_s hm1 sf_170) rfl (by decide +kernel) (by decide) (Nat.le_of_ble_eq_true rfl) (s_MD_partner hm1 ) (fun r h139 hq => ?_)
        obtain ⟨v140, rfl, _, rfl⟩ := hq
        have hf2 := hf1
        have hx2 := hx1
        have hm2 := hm1
        have hp2 := hp1
        have he2 := he1
        refine A_popI d_Law_law_692 ?_
        refine A_goto (tgt := 744) d_Law_law_693 (by decide) ?_
        refine A_iincv (z := (i + 6)) (L' := [some (av_S 0), some (av_R (some 0)), some (av_R (some 170)), some (av_I (i + 6)), none, none, none, none]) d_Law_law_744 rfl (w32_id (by unfold i32; omega)) rfl ?_
        refine A_goto (tgt := 18) d_Law_law_747 (by decide) ?_
        exact ih (i + 6) s h (by omega) (by omega) hx2 hm2 hp2 he2 hf2 (by omega)
      · refine A_tabIn (tgt := 696) d_Law_law_33 (by omega) (by omega) (by rw [c0]; rfl) (by decide) ?_
        refine A_aload_n 1 d_Law_law_696 rfl rfl ?_
        refine A_callV0 m_PM_ways T_ok d_Law_law_697 l_Law_99 k_PM_ways (xi_s hx sf_0) rfl (by decide +kernel) (by decide) (Nat.le_of_ble_eq_true rfl) (s_PM_ways hx) (fun r h141 hq => ?_)
        obtain ⟨v142, rfl, _, rfl⟩ := hq
        have hf1 := hf
        have hx1 := hx
        have hm1 := hm
        have hp1 := hp
        have he1 := he
        refine A_popI d_Law_law_700 ?_
        refine A_aload_n 2 d_Law_law_701 rfl rfl ?_
        refine A_callV0 m_MD_ways T_ok d_Law_law_702 l_Law_102 k_MD_ways (mi_s hm1 sf_170) rfl (by decide +kernel) (by decide) (Nat.le_of_ble_eq_true rfl) (s_MD_ways hm1 ) (fun r h143 hq => ?_)
        obtain ⟨v144, rfl, _, rfl⟩ := hq
        have hf2 := hf1
        have hx2 := hx1
        have hm2 := hm1
        have hp2 := hp1
        have he2 := he1
        refine A_popI d_Law_law_705 ?_
        refine A_goto (tgt := 744) d_Law_law_706 (by decide) ?_
        refine A_iincv (z := (i + 6)) (L' := [some (av_S 0), some (av_R (some 0)), some (av_R (some 170)), some (av_I (i + 6)), none, none, none, none]) d_Law_law_744 rfl (w32_id (by unfold i32; omega)) rfl ?_
        refine A_goto (tgt := 18) d_Law_law_747 (by decide) ?_
        exact ih (i + 6) s h (by omega) (by omega) hx2 hm2 hp2 he2 hf2 (by omega)
      · refine A_tabIn (tgt := 709) d_Law_law_33 (by omega) (by omega) (by rw [c0]; rfl) (by decide) ?_
        refine A_aload_n 1 d_Law_law_709 rfl rfl ?_
        refine A_aload_nS 0 d_Law_law_710 rfl rfl ?_
        refine A_iload_n 3 d_Law_law_711 rfl rfl ?_
        refine A_iconst d_Law_law_712 rfl ?_
        refine A_iaddv (z := (i + 1)) d_Law_law_713 (w32_id (by unfold i32; omega)) ?_
        refine A_pc (pc' := 714) rfl ?_
        refine A_ialoadS d_Law_law_714 (by decide) (by omega) (by omega) ?_
        refine A_nmI (fun x145 ex145 => ?_)
        refine A_aload_nS 0 d_Law_law_715 rfl rfl ?_
        refine A_iload_n 3 d_Law_law_716 rfl rfl ?_
        refine A_iconst d_Law_law_717 rfl ?_
        refine A_iaddv (z := (i + 2)) d_Law_law_718 (w32_id (by unfold i32; omega)) ?_
        refine A_ialoadS d_Law_law_719 (by decide) (by omega) (by omega) ?_
        refine A_nmI (fun x146 ex146 => ?_)
        refine A_callV2 m_PM_sample T_ok d_Law_law_720 l_Law_103 k_PM_sample (xi_s hx sf_0) rfl (by decide +kernel) (by decide) (Nat.le_of_ble_eq_true rfl) (s_PM_sample hx) (fun r h147 hq => ?_)
        obtain ⟨v148, rfl, rfl⟩ := hq
        have hf1 := hf
        have hx1 := hx
        have hm1 := hm
        have hp1 := hp
        have he1 := he
        refine A_dstore (L' := [some (av_S 0), some (av_R (some 0)), some (av_R (some 170)), some (av_I i), some (av_D v148), none, none, none]) d_Law_law_723 (Nat.le_of_ble_eq_true rfl) rfl ?_
        refine A_aload_n 2 d_Law_law_725 rfl rfl ?_
        refine A_aload_nS 0 d_Law_law_726 rfl rfl ?_
        refine A_iload_n 3 d_Law_law_727 rfl rfl ?_
        refine A_iconst d_Law_law_728 rfl ?_
        refine A_pc (pc' := 729) rfl ?_
        refine A_iaddv (z := (i + 1)) d_Law_law_729 (w32_id (by unfold i32; omega)) ?_
        refine A_ialoadS d_Law_law_730 (by decide) (by omega) (by omega) ?_
        refine A_nmI (fun x149 ex149 => ?_)
        refine A_aload_nS 0 d_Law_law_731 rfl rfl ?_
        refine A_iload_n 3 d_Law_law_732 rfl rfl ?_
        refine A_iconst d_Law_law_733 rfl ?_
        refine A_iaddv (z := (i + 2)) d_Law_law_734 (w32_id (by unfold i32; omega)) ?_
        refine A_pc (pc' := 735) rfl ?_
        refine A_ialoadS d_Law_law_735 (by decide) (by omega) (by omega) ?_
        refine A_nmI (fun x150 ex150 => ?_)
        refine A_callV2 m_MD_sample T_ok d_Law_law_736 l_Law_107 k_MD_sample (mi_s hm1 sf_170) rfl (by decide +kernel) (by decide) (Nat.le_of_ble_eq_true rfl) (s_MD_sample hm1 hp1.1) (fun r h151 hq => ?_)
        obtain ⟨v152, rfl, kn⟩ := hq
        have hx2 := LX_m hx1 kn
        have hm2 := kn.1
        have hp2 := PX_k hp1 hm1 kn (fun _ => ⟨⟨rfl, rfl, rfl, rfl, rfl, rfl⟩, rfl, rfl, rfl⟩) (by intro a ha j; simp only [List.mem_cons, List.not_mem_nil, or_false] at ha; rcases ha with rfl | rfl | rfl | rfl | rfl | rfl | rfl <;> rfl) (fun _ => rfl) rfl rfl
        have hf2 := FIt_m hf1 kn rfl (fun _ => ⟨rfl, rfl, rfl, rfl, rfl, rfl, rfl⟩)
        have he2 := EX_m he1 hx1.2.1 kn rfl rfl rfl
        refine A_dstore (L' := [some (av_S 0), some (av_R (some 0)), some (av_R (some 170)), some (av_I i), some (av_D v148), none, some (av_D v152), none]) d_Law_law_739 (Nat.le_of_ble_eq_true rfl) rfl ?_
        refine A_goto (tgt := 744) d_Law_law_741 (by decide) ?_
        refine A_iincv (z := (i + 6)) (L' := [some (av_S 0), some (av_R (some 0)), some (av_R (some 170)), some (av_I (i + 6)), some (av_D v148), none, some (av_D v152), none]) d_Law_law_744 rfl (w32_id (by unfold i32; omega)) rfl ?_
        refine A_goto (tgt := 18) d_Law_law_747 (by decide) ?_
        refine A_free (L' := [some (av_S 0), some (av_R (some 0)), some (av_R (some 170)), some (av_I (i + 6)), none, none, none, none]) (And.intro rfl (And.intro rfl (And.intro rfl (And.intro rfl trivial)))) ?_
        exact ih (i + 6) s h151 (by omega) (by omega) hx2 hm2 hp2 he2 hf2 (by omega)
      · refine A_tabOut (tgt := 744) d_Law_law_33 (by omega) (by decide) ?_
        refine A_iincv (z := (i + 6)) (L' := [some (av_S 0), some (av_R (some 0)), some (av_R (some 170)), some (av_I (i + 6)), none, none, none, none]) d_Law_law_744 rfl (w32_id (by unfold i32; omega)) rfl ?_
        refine A_goto (tgt := 18) d_Law_law_747 (by decide) ?_
        exact ih (i + 6) s h (by omega) (by omega) hx hm hp he hf (by omega)
  refine A_pc (pc' := 18) rfl ?_
  exact lp18 _ 0 17 hp_0 (by decide) (by decide) xi_0 mi_0 PX_0 EX_0 FIt_0 (Nat.lt_succ_self _)
