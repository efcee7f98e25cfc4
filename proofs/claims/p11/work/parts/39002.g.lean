/-! ===== verification conditions, 501 ===== -/
theorem d_JStringLatin1_indexOf_27 : decode prog_20_method_22_code 27 = .ok (.iconst (-1), 1) := by decide +kernel
theorem d_JStringLatin1_indexOf_28 : decode prog_20_method_22_code 28 = .ok (.ireturn, 1) := by decide +kernel
theorem d_JStringLatin1_indexOf_7 : decode prog_20_method_22_code 7 = .ok (.iconst (-1), 1) := by decide +kernel
theorem d_JStringLatin1_indexOf_8 : decode prog_20_method_22_code 8 = .ok (.ireturn, 1) := by decide +kernel
theorem d_JString_indexOf_III_23 : decode prog_19_method_80_code 23 = .ok (.aload_n 0, 1) := by decide +kernel
theorem d_JString_indexOf_III_24 : decode prog_19_method_80_code 24 = .ok (.getfield 9, 3) := by decide +kernel
theorem d_JString_indexOf_III_27 : decode prog_19_method_80_code 27 = .ok (.iload_n 1, 1) := by decide +kernel
theorem d_JString_indexOf_III_28 : decode prog_19_method_80_code 28 = .ok (.iload_n 2, 1) := by decide +kernel
theorem d_JString_indexOf_III_29 : decode prog_19_method_80_code 29 = .ok (.aload_n 0, 1) := by decide +kernel
theorem d_JString_indexOf_III_30 : decode prog_19_method_80_code 30 = .ok (.invokevirtual 505, 3) := by decide +kernel
theorem d_JString_indexOf_III_33 : decode prog_19_method_80_code 33 = .ok (.invokestatic 640, 3) := by decide +kernel
def m_JStringUTF16_indexOf : mr_T := (⟨"java/lang/StringUTF16", "indexOf", "([BIII)I"⟩, prog_21_method_40_code, 4, some .int)
theorem k_JStringUTF16_indexOf : mt_OK m_JStringUTF16_indexOf 4 0 := ⟨gwi_779, gwi_151, ⟨by decide +kernel, by decide +kernel, by decide +kernel⟩, fun _ => gwi_778, fun h => absurd h (by decide), fun h => absurd h (by decide)⟩
theorem l_JString_640 : ml_OK "java/lang/String" 640 ⟨"java/lang/StringUTF16", "indexOf", "([BIII)I"⟩ := Or.inl gwi_777
def B_JStringLatin1_indexOfChar_7 (G : cx_T) (s : Nat) (a1 : Int) (a2 : Int) (a3 : Int) (v4 : Int) (v5 : Int) (h : ah_T) (Q : Option av_T → ah_T → Prop) (X7 : Int → Int → ah_T → Prop) : Prop :=
 ((a3 ≤ v5 → Q (some (av_I (-1))) h) ∧ (¬ a3 ≤ v5 → (0 ≤ v5 ∧ v5 < 13) ∧ ∀ x1 : Int, x1 = ((sk_byt.getD 6 []).getD (v5).toNat 0).toInt → ((x1 = v4 → Q (some (av_I v5)) h) ∧ (¬ x1 = v4 → ((-2147483648) ≤ (v5 + 1) ∧ (v5 + 1) ≤ 2147483647) ∧ X7 (v4) ((v5 + 1)) h))))
theorem b_JStringLatin1_indexOfChar_7 {G : cx_T} {s : Nat} {a1 : Int} {a2 : Int} {a3 : Int} {v4 : Int} {v5 : Int} {h : ah_T} {Q : Option av_T → ah_T → Prop} {X7 : Int → Int → ah_T → Prop} (hX7 : ∀ (v4 : Int) (v5 : Int) (h : ah_T), hb s h → X7 v4 v5 h → aw G (rm_R 0 0 0) m_JStringLatin1_indexOfChar 0 0 7 [some (av_S 26), none, none, some (av_I a3), some (av_I v4), some (av_I v5)] [] h Q) (hb0 : hb s h) (H : B_JStringLatin1_indexOfChar_7 G s a1 a2 a3 v4 v5 h Q X7) : aw G (rm_R 0 0 0) m_JStringLatin1_indexOfChar 0 0 7 [some (av_S 26), none, none, some (av_I a3), some (av_I v4), some (av_I v5)] [] h Q := by
  unfold B_JStringLatin1_indexOfChar_7 at H
  have hS : isS s := hb0.2.1
  refine A_iload d_JStringLatin1_indexOfChar_7 rfl ?_
  refine A_iload_n 3 d_JStringLatin1_indexOfChar_9 rfl rfl ?_
  refine A_icmp_ge (tgt := 31) d_JStringLatin1_indexOfChar_10 (by decide) (fun c => ?_) (fun c => ?_)
  · replace H := H.1 c
    refine A_iconst d_JStringLatin1_indexOfChar_31 rfl ?_
    exact A_iret d_JStringLatin1_indexOfChar_32 (by decide) rfl H
  · replace H := H.2 c
    refine A_aload_nS 0 d_JStringLatin1_indexOfChar_13 rfl rfl ?_
    refine A_iload d_JStringLatin1_indexOfChar_14 rfl ?_
    have H0 := H.1
    replace H := H.2
    refine A_sbyt (i := 6) (by decide) H0.1 H0.2 d_JStringLatin1_indexOfChar_16 ?_
    refine A_nrI (fun x1 ex1 lx1 ux1 => ?_)
    replace H := H x1 ex1
    refine A_iload d_JStringLatin1_indexOfChar_17 rfl ?_
    refine A_icmp_ne (tgt := 25) d_JStringLatin1_indexOfChar_19 (by decide) (fun c => ?_) (fun c => ?_)
    · replace H := H.2 c
      have g2 := H.1
      replace H := H.2
      refine A_iincv (z := (v5 + 1)) (L' := [some (av_S 26), none, none, some (av_I a3), some (av_I v4), some (av_I (v5 + 1))]) d_JStringLatin1_indexOfChar_25 rfl (w32_to (by omega) (by unfold i32; omega)) rfl ?_
      refine A_goto (tgt := 7) d_JStringLatin1_indexOfChar_28 (by decide) ?_
      refine A_pc (pc' := 7) rfl ?_
      exact hX7 (v4) ((v5 + 1)) h  hb0 H
    · replace H := H.1 c
      refine A_iload d_JStringLatin1_indexOfChar_22 rfl ?_
      exact A_iret d_JStringLatin1_indexOfChar_24 (by decide) rfl H
theorem lp_JStringLatin1_indexOfChar_7 {G : cx_T} {s : Nat} {a1 : Int} {a2 : Int} {a3 : Int} {Q : Option av_T → ah_T → Prop} (I : Int → Int → ah_T → Prop) (μ : Int → Int → ah_T → Nat) (hI : ∀ (v4 : Int) (v5 : Int) (h : ah_T), hb s h → I v4 v5 h → B_JStringLatin1_indexOfChar_7 G s a1 a2 a3 v4 v5 h Q (fun v4' v5' h' => I v4' v5' h' ∧ μ v4' v5' h' < μ v4 v5 h)) : ∀ (v4 : Int) (v5 : Int) (h : ah_T), hb s h → I v4 v5 h → aw G (rm_R 0 0 0) m_JStringLatin1_indexOfChar 0 0 7 [some (av_S 26), none, none, some (av_I a3), some (av_I v4), some (av_I v5)] [] h Q := by
  have key : ∀ (n : Nat) (v4 : Int) (v5 : Int) (h : ah_T), hb s h → I v4 v5 h → μ v4 v5 h < n → aw G (rm_R 0 0 0) m_JStringLatin1_indexOfChar 0 0 7 [some (av_S 26), none, none, some (av_I a3), some (av_I v4), some (av_I v5)] [] h Q := by
    intro n
    induction n with
    | zero => intro v4 v5 h  hb0 hi hm; omega
    | succ n ih => intro v4 v5 h  hb0 hi hm; exact b_JStringLatin1_indexOfChar_7  (fun v4' v5' h'  hb' hx => ih v4' v5' h'  hb' hx.1 (by have := hx.2; omega))  hb0 (hI v4 v5 h  hb0 hi)
  exact fun v4 v5 h  hb0 hi => key _ v4 v5 h  hb0 hi (Nat.lt_succ_self _)
def B_JStringLatin1_indexOfChar_0 (G : cx_T) (s : Nat) (a1 : Int) (a2 : Int) (a3 : Int) (h : ah_T) (Q : Option av_T → ah_T → Prop) (X7 : Int → Int → ah_T → Prop) : Prop :=
 ∀ x1 : Int, x1 = ((Int32.ofInt a1).toInt8.toInt32).toInt → (-2147483648) ≤ x1 → x1 ≤ 2147483647 → X7 (x1) (a2) h
theorem b_JStringLatin1_indexOfChar_0 {G : cx_T} {s : Nat} {a1 : Int} {a2 : Int} {a3 : Int} {h : ah_T} {Q : Option av_T → ah_T → Prop} {X7 : Int → Int → ah_T → Prop} (hX7 : ∀ (v4 : Int) (v5 : Int) (h : ah_T), hb s h → X7 v4 v5 h → aw G (rm_R 0 0 0) m_JStringLatin1_indexOfChar 0 0 7 [some (av_S 26), none, none, some (av_I a3), some (av_I v4), some (av_I v5)] [] h Q) (hb0 : hb s h) (H : B_JStringLatin1_indexOfChar_0 G s a1 a2 a3 h Q X7) : aw G (rm_R 0 0 0) m_JStringLatin1_indexOfChar 0 0 0 [some (av_S 26), some (av_I a1), some (av_I a2), some (av_I a3), none, none] [] h Q := by
  unfold B_JStringLatin1_indexOfChar_0 at H
  have hS : isS s := hb0.2.1
  refine A_iload_n 1 d_JStringLatin1_indexOfChar_0 rfl rfl ?_
  refine A_i2b d_JStringLatin1_indexOfChar_1 ?_
  refine A_nrI (fun x1 ex1 lx1 ux1 => ?_)
  replace H := H x1 ex1 lx1 ux1
  refine A_istore (L' := [some (av_S 26), some (av_I a1), some (av_I a2), some (av_I a3), some (av_I x1), none]) d_JStringLatin1_indexOfChar_2 (Nat.le_of_ble_eq_true rfl) rfl ?_
  refine A_iload_n 2 d_JStringLatin1_indexOfChar_4 rfl rfl ?_
  refine A_istore (L' := [some (av_S 26), some (av_I a1), some (av_I a2), some (av_I a3), some (av_I x1), some (av_I a2)]) d_JStringLatin1_indexOfChar_5 (Nat.le_of_ble_eq_true rfl) rfl ?_
  refine A_pc (pc' := 7) rfl ?_
  refine A_free (L' := [some (av_S 26), none, none, some (av_I a3), some (av_I x1), some (av_I a2)]) (And.intro rfl (And.intro rfl (And.intro rfl (And.intro rfl trivial)))) ?_
  exact hX7 (x1) (a2) h  hb0 H
theorem c_JStringLatin1_indexOfChar {G : cx_T} {s : Nat} {a1 : Int} {a2 : Int} {a3 : Int} {h : ah_T} {Q : Option av_T → ah_T → Prop} {X7 : Int → Int → ah_T → Prop} (hX7 : ∀ (v4 : Int) (v5 : Int) (h : ah_T), hb s h → X7 v4 v5 h → aw G (rm_R 0 0 0) m_JStringLatin1_indexOfChar 0 0 7 [some (av_S 26), none, none, some (av_I a3), some (av_I v4), some (av_I v5)] [] h Q) (hb0 : hb s h) (H : i32 a1 → i32 a2 → i32 a3 → B_JStringLatin1_indexOfChar_0 G s a1 a2 a3 h Q X7) : con G 0 0 0 m_JStringLatin1_indexOfChar [av_S 26, av_I a1, av_I a2, av_I a3] h Q := by
  have hS : isS s := hb0.2.1
  refine con_of (L := [some (av_S 26), some (av_I a1), some (av_I a2), some (av_I a3), none, none]) (by decide +kernel) (Nat.le_of_ble_eq_true rfl) rfl ?_
  refine A_locI 1 rfl (fun ra1 => ?_)
  refine A_locI 2 rfl (fun ra2 => ?_)
  refine A_locI 3 rfl (fun ra3 => ?_)
  exact b_JStringLatin1_indexOfChar_0  hX7 hb0 (H ra1 ra2 ra3)
def B_JStringLatin1_indexOf_0 (G : cx_T) (s : Nat) (a1 : Int) (a2 : Int) (a3 : Int) (h : ah_T) (Q : Option av_T → ah_T → Prop) : Prop :=
 con G 0 0 0 m_JStringLatin1_canEncode [av_I a1] h (fun r h1 => ∃ z3 : Int, r = some (av_I z3) ∧ hb s h1 ∧ ((z3 = 0 → Q (some (av_I (-1))) h1) ∧ (¬ z3 = 0 → ∀ x4 : Int, x4 = (if a2 < 0 then 0 else a2) → -2147483648 ≤ x4 → x4 ≤ 2147483647 → ∀ x5 : Int, x5 = (if 13 < a3 then 13 else a3) → -2147483648 ≤ x5 → x5 ≤ 2147483647 → ((x4 < x5 → con G 0 0 0 m_JStringLatin1_indexOfChar [av_S 26, av_I a1, av_I x4, av_I x5] h1 (fun r h6 => ∃ z8 : Int, r = some (av_I z8) ∧ hb s h6 ∧ Q (some (av_I z8)) h6)) ∧ (¬ x4 < x5 → Q (some (av_I (-1))) h1)))))
theorem b_JStringLatin1_indexOf_0 {G : cx_T} {s : Nat} {a1 : Int} {a2 : Int} {a3 : Int} {h : ah_T} {Q : Option av_T → ah_T → Prop} (hb0 : hb s h) (H : B_JStringLatin1_indexOf_0 G s a1 a2 a3 h Q ) : aw G (rm_R 1 0 0) m_JStringLatin1_indexOf 0 0 0 [some (av_S 26), some (av_I a1), some (av_I a2), some (av_I a3)] [] h Q := by
  unfold B_JStringLatin1_indexOf_0 at H
  have hS : isS s := hb0.2.1
  refine A_iload_n 1 d_JStringLatin1_indexOf_0 rfl rfl ?_
  refine A_callS1 m_JStringLatin1_canEncode d_JStringLatin1_indexOf_1 l_JStringLatin1_88 k_JStringLatin1_canEncode (by decide +kernel) (by decide) (Nat.le_of_ble_eq_true rfl) H (fun r h1 hq => ?_)
  clear H
  obtain ⟨z3, rfl, hb2, H⟩ := hq
  refine A_if_ne (tgt := 9) d_JStringLatin1_indexOf_4 (by decide) (fun c => ?_) (fun c => ?_)
  · replace H := H.2 c
    refine A_iload_n 2 d_JStringLatin1_indexOf_9 rfl rfl ?_
    refine A_iconst d_JStringLatin1_indexOf_10 rfl ?_
    refine A_mmax (z := (if a2 < 0 then 0 else a2)) d_JStringLatin1_indexOf_11 lm_JStringLatin1_92 ma_max (by decide) (by decide) (Nat.le_of_ble_eq_true rfl) rfl ?_
    refine A_nrI (fun x4 ex4 lx4 ux4 => ?_)
    replace H := H x4 ex4 lx4 ux4
    refine A_istore_n 2 (L' := [some (av_S 26), some (av_I a1), some (av_I x4), some (av_I a3)]) d_JStringLatin1_indexOf_14 rfl (Nat.le_of_ble_eq_true rfl) rfl ?_
    refine A_iload_n 3 d_JStringLatin1_indexOf_15 rfl rfl ?_
    refine A_pc (pc' := 16) rfl ?_
    refine A_aload_nS 0 d_JStringLatin1_indexOf_16 rfl rfl ?_
    refine A_slen (i := 6) (z := 13) (by decide) rfl d_JStringLatin1_indexOf_17 ?_
    refine A_mmin (z := (if 13 < a3 then 13 else a3)) d_JStringLatin1_indexOf_18 lm_JStringLatin1_38 ma_min (by decide) (by decide) (Nat.le_of_ble_eq_true rfl) rfl ?_
    refine A_nrI (fun x5 ex5 lx5 ux5 => ?_)
    replace H := H x5 ex5 lx5 ux5
    refine A_istore_n 3 (L' := [some (av_S 26), some (av_I a1), some (av_I x4), some (av_I x5)]) d_JStringLatin1_indexOf_21 rfl (Nat.le_of_ble_eq_true rfl) rfl ?_
    refine A_iload_n 2 d_JStringLatin1_indexOf_22 rfl rfl ?_
    refine A_iload_n 3 d_JStringLatin1_indexOf_23 rfl rfl ?_
    refine A_pc (pc' := 24) rfl ?_
    refine A_icmp_lt (tgt := 29) d_JStringLatin1_indexOf_24 (by decide) (fun c => ?_) (fun c => ?_)
    · replace H := H.1 c
      refine A_aload_nS 0 d_JStringLatin1_indexOf_29 rfl rfl ?_
      refine A_iload_n 1 d_JStringLatin1_indexOf_30 rfl rfl ?_
      refine A_iload_n 2 d_JStringLatin1_indexOf_31 rfl rfl ?_
      refine A_iload_n 3 d_JStringLatin1_indexOf_32 rfl rfl ?_
      refine A_callS4 m_JStringLatin1_indexOfChar d_JStringLatin1_indexOf_33 l_JStringLatin1_95 k_JStringLatin1_indexOfChar (by decide +kernel) (by decide) (Nat.le_of_ble_eq_true rfl) H (fun r h6 hq => ?_)
      clear H
      obtain ⟨z8, rfl, hb7, H⟩ := hq
      exact A_iret d_JStringLatin1_indexOf_36 (by decide) rfl H
    · replace H := H.2 c
      refine A_iconst d_JStringLatin1_indexOf_27 rfl ?_
      exact A_iret d_JStringLatin1_indexOf_28 (by decide) rfl H
  · replace H := H.1 c
    refine A_iconst d_JStringLatin1_indexOf_7 rfl ?_
    exact A_iret d_JStringLatin1_indexOf_8 (by decide) rfl H
theorem c_JStringLatin1_indexOf {G : cx_T} {s : Nat} {a1 : Int} {a2 : Int} {a3 : Int} {h : ah_T} {Q : Option av_T → ah_T → Prop} (hb0 : hb s h) (H : i32 a1 → i32 a2 → i32 a3 → B_JStringLatin1_indexOf_0 G s a1 a2 a3 h Q ) : con G 1 0 0 m_JStringLatin1_indexOf [av_S 26, av_I a1, av_I a2, av_I a3] h Q := by
  have hS : isS s := hb0.2.1
  refine con_of (L := [some (av_S 26), some (av_I a1), some (av_I a2), some (av_I a3)]) (by decide +kernel) (Nat.le_of_ble_eq_true rfl) rfl ?_
  refine A_locI 1 rfl (fun ra1 => ?_)
  refine A_locI 2 rfl (fun ra2 => ?_)
  refine A_locI 3 rfl (fun ra3 => ?_)
  exact b_JStringLatin1_indexOf_0   hb0 (H ra1 ra2 ra3)
def B_JString_indexOf_III_36 (G : cx_T) (s : Nat) (a1 : Int) (a2 : Int) (t0 : Int) (h : ah_T) (Q : Option av_T → ah_T → Prop) : Prop :=
 Q (some (av_I t0)) h
theorem b_JString_indexOf_III_36 {G : cx_T} {s : Nat} {a1 : Int} {a2 : Int} {t0 : Int} {h : ah_T} {Q : Option av_T → ah_T → Prop} (hb0 : hb s h) (H : B_JString_indexOf_III_36 G s a1 a2 t0 h Q ) : aw G (rm_R 5 0 0) m_JString_indexOf_III 0 0 36 [none, none, none] [av_I t0] h Q := by
  unfold B_JString_indexOf_III_36 at H
  have hS : isS s := hb0.2.1
  exact A_iret d_JString_indexOf_III_36 (by decide) rfl H
def B_JString_indexOf_III_0 (G : cx_T) (s : Nat) (a1 : Int) (a2 : Int) (h : ah_T) (Q : Option av_T → ah_T → Prop) : Prop :=
 con G 0 0 0 m_JString_isLatin1 [av_S 16] h (fun r h1 => ∃ z3 : Int, r = some (av_I z3) ∧ hb s h1 ∧ ((z3 = 0 → con G 1 0 0 m_JString_length [av_S 16] h1 (fun r h4 => ∃ z6 : Int, r = some (av_I z6) ∧ hb s h4 ∧ con G 4 0 0 m_JStringUTF16_indexOf [av_S 26, av_I a1, av_I a2, av_I z6] h4 (fun r h7 => ∃ z9 : Int, r = some (av_I z9) ∧ hb s h7 ∧ B_JString_indexOf_III_36 G s a1 a2 (z9) h7 Q ))) ∧ (¬ z3 = 0 → con G 1 0 0 m_JString_length [av_S 16] h1 (fun r h10 => ∃ z12 : Int, r = some (av_I z12) ∧ hb s h10 ∧ con G 1 0 0 m_JStringLatin1_indexOf [av_S 26, av_I a1, av_I a2, av_I z12] h10 (fun r h13 => ∃ z15 : Int, r = some (av_I z15) ∧ hb s h13 ∧ B_JString_indexOf_III_36 G s a1 a2 (z15) h13 Q )))))
theorem b_JString_indexOf_III_0 {G : cx_T} {s : Nat} {a1 : Int} {a2 : Int} {h : ah_T} {Q : Option av_T → ah_T → Prop} (hb0 : hb s h) (H : B_JString_indexOf_III_0 G s a1 a2 h Q ) : aw G (rm_R 5 0 0) m_JString_indexOf_III 0 0 0 [some (av_S 16), some (av_I a1), some (av_I a2)] [] h Q := by
  unfold B_JString_indexOf_III_0 at H
  have hS : isS s := hb0.2.1
  refine A_aload_nS 0 d_JString_indexOf_III_0 rfl rfl ?_
  refine A_pc (pc' := 1) rfl ?_
  refine A_callT0 (i := 6) (N := m_JString_isLatin1) (by decide) rfl d_JString_indexOf_III_1 ll_JString_492 k_JString_isLatin1 (by decide +kernel) (by decide) (Nat.le_of_ble_eq_true rfl) H (fun r h1 hq => ?_)
  clear H
  obtain ⟨z3, rfl, hb2, H⟩ := hq
  refine A_if_eq (tgt := 23) d_JString_indexOf_III_4 (by decide) (fun c => ?_) (fun c => ?_)
  · replace H := H.1 c
    refine A_aload_nS 0 d_JString_indexOf_III_23 rfl rfl ?_
    refine A_sval (i := 6) (by decide) gs_JString_9 d_JString_indexOf_III_24 ?_
    refine A_iload_n 1 d_JString_indexOf_III_27 rfl rfl ?_
    refine A_iload_n 2 d_JString_indexOf_III_28 rfl rfl ?_
    refine A_aload_nS 0 d_JString_indexOf_III_29 rfl rfl ?_
    refine A_pc (pc' := 30) rfl ?_
    refine A_pc (pc' := 30) rfl ?_
    refine A_callT0 (i := 6) (N := m_JString_length) (by decide) rfl d_JString_indexOf_III_30 ll_JString_505 k_JString_length (by decide +kernel) (by decide) (Nat.le_of_ble_eq_true rfl) H (fun r h4 hq => ?_)
    clear H
    obtain ⟨z6, rfl, hb5, H⟩ := hq
    refine A_callS4 m_JStringUTF16_indexOf d_JString_indexOf_III_33 l_JString_640 k_JStringUTF16_indexOf (by decide +kernel) (by decide) (Nat.le_of_ble_eq_true rfl) H (fun r h7 hq => ?_)
    clear H
    obtain ⟨z9, rfl, hb8, H⟩ := hq
    refine A_pc (pc' := 36) rfl ?_
    refine A_free (L' := [none, none, none]) trivial ?_
    exact b_JString_indexOf_III_36    hb8 H
  · replace H := H.2 c
    refine A_aload_nS 0 d_JString_indexOf_III_7 rfl rfl ?_
    refine A_sval (i := 6) (by decide) gs_JString_9 d_JString_indexOf_III_8 ?_
    refine A_iload_n 1 d_JString_indexOf_III_11 rfl rfl ?_
    refine A_iload_n 2 d_JString_indexOf_III_12 rfl rfl ?_
    refine A_aload_nS 0 d_JString_indexOf_III_13 rfl rfl ?_
    refine A_pc (pc' := 14) rfl ?_
    refine A_pc (pc' := 14) rfl ?_
    refine A_callT0 (i := 6) (N := m_JString_length) (by decide) rfl d_JString_indexOf_III_14 ll_JString_505 k_JString_length (by decide +kernel) (by decide) (Nat.le_of_ble_eq_true rfl) H (fun r h10 hq => ?_)
    clear H
    obtain ⟨z12, rfl, hb11, H⟩ := hq
    refine A_callS4 m_JStringLatin1_indexOf d_JString_indexOf_III_17 l_JString_637 k_JStringLatin1_indexOf (by decide +kernel) (by decide) (Nat.le_of_ble_eq_true rfl) H (fun r h13 hq => ?_)
    clear H
    obtain ⟨z15, rfl, hb14, H⟩ := hq
    refine A_goto (tgt := 36) d_JString_indexOf_III_20 (by decide) ?_
    refine A_pc (pc' := 36) rfl ?_
    refine A_free (L' := [none, none, none]) trivial ?_
    exact b_JString_indexOf_III_36    hb14 H
theorem c_JString_indexOf_III {G : cx_T} {s : Nat} {a1 : Int} {a2 : Int} {h : ah_T} {Q : Option av_T → ah_T → Prop} (hb0 : hb s h) (H : i32 a1 → i32 a2 → B_JString_indexOf_III_0 G s a1 a2 h Q ) : con G 5 0 0 m_JString_indexOf_III [av_S 16, av_I a1, av_I a2] h Q := by
  have hS : isS s := hb0.2.1
  refine con_of (L := [some (av_S 16), some (av_I a1), some (av_I a2)]) (by decide +kernel) (Nat.le_of_ble_eq_true rfl) rfl ?_
  refine A_locI 1 rfl (fun ra1 => ?_)
  refine A_locI 2 rfl (fun ra2 => ?_)
  exact b_JString_indexOf_III_0   hb0 (H ra1 ra2)
def B_JString_indexOf_II_0 (G : cx_T) (s : Nat) (a1 : Int) (h : ah_T) (Q : Option av_T → ah_T → Prop) : Prop :=
 con G 5 0 0 m_JString_indexOf_III [av_S 16, av_I a1, av_I 0] h (fun r h1 => ∃ z3 : Int, r = some (av_I z3) ∧ hb s h1 ∧ Q (some (av_I z3)) h1)
theorem b_JString_indexOf_II_0 {G : cx_T} {s : Nat} {a1 : Int} {h : ah_T} {Q : Option av_T → ah_T → Prop} (hb0 : hb s h) (H : B_JString_indexOf_II_0 G s a1 h Q ) : aw G (rm_R 6 0 0) m_JString_indexOf_II 0 0 0 [some (av_S 16), some (av_I a1)] [] h Q := by
  unfold B_JString_indexOf_II_0 at H
  have hS : isS s := hb0.2.1
  refine A_aload_nS 0 d_JString_indexOf_II_0 rfl rfl ?_
  refine A_iload_n 1 d_JString_indexOf_II_1 rfl rfl ?_
  refine A_iconst d_JString_indexOf_II_2 rfl ?_
  refine A_pc (pc' := 3) rfl ?_
  refine A_callT2 (i := 6) (N := m_JString_indexOf_III) (by decide) rfl d_JString_indexOf_II_3 ll_JString_633 k_JString_indexOf_III (by decide +kernel) (by decide) (Nat.le_of_ble_eq_true rfl) H (fun r h1 hq => ?_)
  clear H
  obtain ⟨z3, rfl, hb2, H⟩ := hq
  exact A_iret d_JString_indexOf_II_6 (by decide) rfl H
theorem c_JString_indexOf_II {G : cx_T} {s : Nat} {a1 : Int} {h : ah_T} {Q : Option av_T → ah_T → Prop} (hb0 : hb s h) (H : i32 a1 → B_JString_indexOf_II_0 G s a1 h Q ) : con G 6 0 0 m_JString_indexOf_II [av_S 16, av_I a1] h Q := by
  have hS : isS s := hb0.2.1
  refine con_of (L := [some (av_S 16), some (av_I a1)]) (by decide +kernel) (Nat.le_of_ble_eq_true rfl) rfl ?_
  refine A_locI 1 rfl (fun ra1 => ?_)
  exact b_JString_indexOf_II_0   hb0 (H ra1)
def B_JInteger_bitCount_0 (G : cx_T) (s : Nat) (a0 : Int) (h : ah_T) (Q : Option av_T → ah_T → Prop) : Prop :=
 ∀ x1 : Int, x1 = ((Int32.ofInt a0).toUInt32 >>> ((Int32.ofInt 1).toUInt32 &&& Int32.toUInt32 31)).toInt32.toInt → (-2147483648) ≤ x1 → x1 ≤ 2147483647 → ∀ x2 : Int, x2 = ((Int32.ofInt x1) &&& (Int32.ofInt 1431655765)).toInt → (-2147483648) ≤ x2 → x2 ≤ 2147483647 → ∀ x3 : Int, x3 = w32 (a0 - x2) → (-2147483648) ≤ x3 → x3 ≤ 2147483647 → ∀ x4 : Int, x4 = ((Int32.ofInt x3) &&& (Int32.ofInt 858993459)).toInt → (-2147483648) ≤ x4 → x4 ≤ 2147483647 → ∀ x5 : Int, x5 = ((Int32.ofInt x3).toUInt32 >>> ((Int32.ofInt 2).toUInt32 &&& Int32.toUInt32 31)).toInt32.toInt → (-2147483648) ≤ x5 → x5 ≤ 2147483647 → ∀ x6 : Int, x6 = ((Int32.ofInt x5) &&& (Int32.ofInt 858993459)).toInt → (-2147483648) ≤ x6 → x6 ≤ 2147483647 → ∀ x7 : Int, x7 = w32 (x4 + x6) → (-2147483648) ≤ x7 → x7 ≤ 2147483647 → ∀ x8 : Int, x8 = ((Int32.ofInt x7).toUInt32 >>> ((Int32.ofInt 4).toUInt32 &&& Int32.toUInt32 31)).toInt32.toInt → (-2147483648) ≤ x8 → x8 ≤ 2147483647 → ∀ x9 : Int, x9 = w32 (x7 + x8) → (-2147483648) ≤ x9 → x9 ≤ 2147483647 → ∀ x10 : Int, x10 = ((Int32.ofInt x9) &&& (Int32.ofInt 252645135)).toInt → (-2147483648) ≤ x10 → x10 ≤ 2147483647 → ∀ x11 : Int, x11 = ((Int32.ofInt x10).toUInt32 >>> ((Int32.ofInt 8).toUInt32 &&& Int32.toUInt32 31)).toInt32.toInt → (-2147483648) ≤ x11 → x11 ≤ 2147483647 → ∀ x12 : Int, x12 = w32 (x10 + x11) → (-2147483648) ≤ x12 → x12 ≤ 2147483647 → ∀ x13 : Int, x13 = ((Int32.ofInt x12).toUInt32 >>> ((Int32.ofInt 16).toUInt32 &&& Int32.toUInt32 31)).toInt32.toInt → (-2147483648) ≤ x13 → x13 ≤ 2147483647 → ∀ x14 : Int, x14 = w32 (x12 + x13) → (-2147483648) ≤ x14 → x14 ≤ 2147483647 → ∀ x15 : Int, x15 = ((Int32.ofInt x14) &&& (Int32.ofInt 63)).toInt → (-2147483648) ≤ x15 → x15 ≤ 2147483647 → Q (some (av_I x15)) h
theorem b_JInteger_bitCount_0 {G : cx_T} {s : Nat} {a0 : Int} {h : ah_T} {Q : Option av_T → ah_T → Prop} (hb0 : hb s h) (H : B_JInteger_bitCount_0 G s a0 h Q ) : aw G (rm_R 0 0 0) m_JInteger_bitCount 0 0 0 [some (av_I a0)] [] h Q := by
  unfold B_JInteger_bitCount_0 at H
  have hS : isS s := hb0.2.1
  refine A_iload_n 0 d_JInteger_bitCount_0 rfl rfl ?_
  refine A_iload_n 0 d_JInteger_bitCount_1 rfl rfl ?_
  refine A_iconst d_JInteger_bitCount_2 rfl ?_
  refine A_iushr d_JInteger_bitCount_3 ?_
  refine A_nrI (fun x1 ex1 lx1 ux1 => ?_)
  replace H := H x1 ex1 lx1 ux1
  refine A_ldcw (z := 1431655765) d_JInteger_bitCount_4 cst_JInteger_265 rfl ?_
  refine A_pc (pc' := 7) rfl ?_
  refine A_iand d_JInteger_bitCount_7 ?_
  refine A_nrI (fun x2 ex2 lx2 ux2 => ?_)
  replace H := H x2 ex2 lx2 ux2
  refine A_isubw d_JInteger_bitCount_8 (fun x3 ex3 lx3 ux3 => ?_)
  replace H := H x3 (ex3.trans (by first | rfl | (congr 1; omega))) lx3 ux3
  refine A_istore_n 0 (L' := [some (av_I x3)]) d_JInteger_bitCount_9 rfl (Nat.le_of_ble_eq_true rfl) rfl ?_
  refine A_iload_n 0 d_JInteger_bitCount_10 rfl rfl ?_
  refine A_ldcw (z := 858993459) d_JInteger_bitCount_11 cst_JInteger_266 rfl ?_
  refine A_iand d_JInteger_bitCount_14 ?_
  refine A_nrI (fun x4 ex4 lx4 ux4 => ?_)
  replace H := H x4 ex4 lx4 ux4
  refine A_pc (pc' := 15) rfl ?_
  refine A_iload_n 0 d_JInteger_bitCount_15 rfl rfl ?_
  refine A_iconst d_JInteger_bitCount_16 rfl ?_
  refine A_iushr d_JInteger_bitCount_17 ?_
  refine A_nrI (fun x5 ex5 lx5 ux5 => ?_)
  replace H := H x5 ex5 lx5 ux5
  refine A_ldcw (z := 858993459) d_JInteger_bitCount_18 cst_JInteger_266 rfl ?_
  refine A_iand d_JInteger_bitCount_21 ?_
  refine A_nrI (fun x6 ex6 lx6 ux6 => ?_)
  replace H := H x6 ex6 lx6 ux6
  refine A_iaddw d_JInteger_bitCount_22 (fun x7 ex7 lx7 ux7 => ?_)
  replace H := H x7 (ex7.trans (by first | rfl | (congr 1; omega))) lx7 ux7
  refine A_pc (pc' := 23) rfl ?_
  refine A_istore_n 0 (L' := [some (av_I x7)]) d_JInteger_bitCount_23 rfl (Nat.le_of_ble_eq_true rfl) rfl ?_
  refine A_iload_n 0 d_JInteger_bitCount_24 rfl rfl ?_
  refine A_iload_n 0 d_JInteger_bitCount_25 rfl rfl ?_
  refine A_iconst d_JInteger_bitCount_26 rfl ?_
  refine A_iushr d_JInteger_bitCount_27 ?_
  refine A_nrI (fun x8 ex8 lx8 ux8 => ?_)
  replace H := H x8 ex8 lx8 ux8
  refine A_iaddw d_JInteger_bitCount_28 (fun x9 ex9 lx9 ux9 => ?_)
  replace H := H x9 (ex9.trans (by first | rfl | (congr 1; omega))) lx9 ux9
  refine A_pc (pc' := 29) rfl ?_
  refine A_ldcw (z := 252645135) d_JInteger_bitCount_29 cst_JInteger_267 rfl ?_
  refine A_iand d_JInteger_bitCount_32 ?_
  refine A_nrI (fun x10 ex10 lx10 ux10 => ?_)
  replace H := H x10 ex10 lx10 ux10
  refine A_istore_n 0 (L' := [some (av_I x10)]) d_JInteger_bitCount_33 rfl (Nat.le_of_ble_eq_true rfl) rfl ?_
  refine A_iload_n 0 d_JInteger_bitCount_34 rfl rfl ?_
  refine A_iload_n 0 d_JInteger_bitCount_35 rfl rfl ?_
  refine A_bipush d_JInteger_bitCount_36 rfl ?_
  refine A_pc (pc' := 38) rfl ?_
  refine A_iushr d_JInteger_bitCount_38 ?_
  refine A_nrI (fun x11 ex11 lx11 ux11 => ?_)
  replace H := H x11 ex11 lx11 ux11
  refine A_iaddw d_JInteger_bitCount_39 (fun x12 ex12 lx12 ux12 => ?_)
  replace H := H x12 (ex12.trans (by first | rfl | (congr 1; omega))) lx12 ux12
  refine A_istore_n 0 (L' := [some (av_I x12)]) d_JInteger_bitCount_40 rfl (Nat.le_of_ble_eq_true rfl) rfl ?_
  refine A_iload_n 0 d_JInteger_bitCount_41 rfl rfl ?_
  refine A_iload_n 0 d_JInteger_bitCount_42 rfl rfl ?_
  refine A_bipush d_JInteger_bitCount_43 rfl ?_
  refine A_pc (pc' := 45) rfl ?_
  refine A_iushr d_JInteger_bitCount_45 ?_
  refine A_nrI (fun x13 ex13 lx13 ux13 => ?_)
  replace H := H x13 ex13 lx13 ux13
  refine A_iaddw d_JInteger_bitCount_46 (fun x14 ex14 lx14 ux14 => ?_)
  replace H := H x14 (ex14.trans (by first | rfl | (congr 1; omega))) lx14 ux14
  refine A_istore_n 0 (L' := [some (av_I x14)]) d_JInteger_bitCount_47 rfl (Nat.le_of_ble_eq_true rfl) rfl ?_
  refine A_iload_n 0 d_JInteger_bitCount_48 rfl rfl ?_
  refine A_bipush d_JInteger_bitCount_49 rfl ?_
  refine A_iand d_JInteger_bitCount_51 ?_
  refine A_nrI (fun x15 ex15 lx15 ux15 => ?_)
  replace H := H x15 ex15 lx15 ux15
  refine A_pc (pc' := 52) rfl ?_
  exact A_iret d_JInteger_bitCount_52 (by decide) rfl H
theorem c_JInteger_bitCount {G : cx_T} {s : Nat} {a0 : Int} {h : ah_T} {Q : Option av_T → ah_T → Prop} (hb0 : hb s h) (H : i32 a0 → B_JInteger_bitCount_0 G s a0 h Q ) : con G 0 0 0 m_JInteger_bitCount [av_I a0] h Q := by
  have hS : isS s := hb0.2.1
  refine con_of (L := [some (av_I a0)]) (by decide +kernel) (Nat.le_of_ble_eq_true rfl) rfl ?_
  refine A_locI 0 rfl (fun ra0 => ?_)
  exact b_JInteger_bitCount_0   hb0 (H ra0)
