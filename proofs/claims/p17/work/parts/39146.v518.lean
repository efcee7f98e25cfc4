/-! ===== verification conditions, 518 ===== -/
def B_MD_isRule_14 (G : cx_T) (s : Nat) (a1 : Int) (t0 : Int) (h : ah_T) (Q : Option av_T → ah_T → Prop) : Prop :=
 (t0 = 0 ∨ t0 = 1) ∧ Q (some (av_I t0)) h
theorem b_MD_isRule_14 {G : cx_T} {s : Nat} {a1 : Int} {t0 : Int} {h : ah_T} {Q : Option av_T → ah_T → Prop} (hb0 : hb s h) (H : B_MD_isRule_14 G s a1 t0 h Q ) : aw G (rm_R 0 0 0) m_MD_isRule 0 0 14 [none, none] [av_I t0] h Q := by
  unfold B_MD_isRule_14 at H
  have hS : isS s := hb0.2.1
  exact A_zret d_MD_isRule_14 (by decide) rfl H.1 H.2
def B_MD_isRule_0 (G : cx_T) (s : Nat) (a1 : Int) (h : ah_T) (Q : Option av_T → ah_T → Prop) : Prop :=
 ∀ x1 : Int, x1 = h.2.1 170 96 → -2147483648 ≤ x1 → x1 ≤ 2147483647 → ∀ x2 : Int, x2 = ((Int32.ofInt x1) &&& (Int32.ofInt a1)).toInt → (-2147483648) ≤ x2 → x2 ≤ 2147483647 → ((x2 = 0 → B_MD_isRule_14 G s a1 (0) h Q ) ∧ (¬ x2 = 0 → B_MD_isRule_14 G s a1 (1) h Q ))
theorem b_MD_isRule_0 {G : cx_T} {s : Nat} {a1 : Int} {h : ah_T} {Q : Option av_T → ah_T → Prop} (hb0 : hb s h) (H : B_MD_isRule_0 G s a1 h Q ) : aw G (rm_R 0 0 0) m_MD_isRule 0 0 0 [some (av_R (some 170)), some (av_I a1)] [] h Q := by
  unfold B_MD_isRule_0 at H
  have hS : isS s := hb0.2.1
  refine A_aload_n 0 d_MD_isRule_0 rfl rfl ?_
  refine A_getIf T_ok d_MD_isRule_1 f_MD_555 (hb_s hb0 sf_170) (fun x1 ex1 lx1 ux1 => ?_)
  replace H := H x1 ex1 lx1 ux1
  refine A_iload_n 1 d_MD_isRule_4 rfl rfl ?_
  refine A_iand d_MD_isRule_5 ?_
  refine A_nrI (fun x2 ex2 lx2 ux2 => ?_)
  replace H := H x2 ex2 lx2 ux2
  refine A_if_eq (tgt := 13) d_MD_isRule_6 (by decide) (fun c => ?_) (fun c => ?_)
  · replace H := H.1 c
    refine A_iconst d_MD_isRule_13 rfl ?_
    refine A_pc (pc' := 14) rfl ?_
    refine A_free (L' := [none, none]) trivial ?_
    exact b_MD_isRule_14    hb0 H
  · replace H := H.2 c
    refine A_iconst d_MD_isRule_9 rfl ?_
    refine A_goto (tgt := 14) d_MD_isRule_10 (by decide) ?_
    refine A_pc (pc' := 14) rfl ?_
    refine A_free (L' := [none, none]) trivial ?_
    exact b_MD_isRule_14    hb0 H
theorem c_MD_isRule {G : cx_T} {s : Nat} {a1 : Int} {h : ah_T} {Q : Option av_T → ah_T → Prop} (hb0 : hb s h) (H : i32 a1 → B_MD_isRule_0 G s a1 h Q ) : con G 0 0 0 m_MD_isRule [av_R (some 170), av_I a1] h Q := by
  have hS : isS s := hb0.2.1
  refine con_of (L := [some (av_R (some 170)), some (av_I a1)]) (by decide +kernel) (Nat.le_of_ble_eq_true rfl) rfl ?_
  refine A_locI 1 rfl (fun ra1 => ?_)
  exact b_MD_isRule_0   hb0 (H ra1)
def B_MD_isWhite_42 (G : cx_T) (s : Nat) (a1 : Int) (t0 : Int) (h : ah_T) (Q : Option av_T → ah_T → Prop) : Prop :=
 (t0 = 0 ∨ t0 = 1) ∧ Q (some (av_I t0)) h
theorem b_MD_isWhite_42 {G : cx_T} {s : Nat} {a1 : Int} {t0 : Int} {h : ah_T} {Q : Option av_T → ah_T → Prop} (hb0 : hb s h) (H : B_MD_isWhite_42 G s a1 t0 h Q ) : aw G (rm_R 0 0 0) m_MD_isWhite 0 0 42 [none, none] [av_I t0] h Q := by
  unfold B_MD_isWhite_42 at H
  have hS : isS s := hb0.2.1
  exact A_zret d_MD_isWhite_42 (by decide) rfl H.1 H.2
def B_MD_isWhite_37 (G : cx_T) (s : Nat) (a1 : Int) (h : ah_T) (Q : Option av_T → ah_T → Prop) : Prop :=
 B_MD_isWhite_42 G s a1 (1) h Q 
theorem b_MD_isWhite_37 {G : cx_T} {s : Nat} {a1 : Int} {h : ah_T} {Q : Option av_T → ah_T → Prop} (hb0 : hb s h) (H : B_MD_isWhite_37 G s a1 h Q ) : aw G (rm_R 0 0 0) m_MD_isWhite 0 0 37 [none, none] [] h Q := by
  unfold B_MD_isWhite_37 at H
  have hS : isS s := hb0.2.1
  refine A_iconst d_MD_isWhite_37 rfl ?_
  refine A_goto (tgt := 42) d_MD_isWhite_38 (by decide) ?_
  refine A_pc (pc' := 42) rfl ?_
  exact b_MD_isWhite_42    hb0 H
def B_MD_isWhite_0 (G : cx_T) (s : Nat) (a1 : Int) (h : ah_T) (Q : Option av_T → ah_T → Prop) : Prop :=
 ((a1 = 0 → B_MD_isWhite_37 G s a1 h Q ) ∧ (¬ a1 = 0 → ((a1 = 2 → B_MD_isWhite_37 G s a1 h Q ) ∧ (¬ a1 = 2 → ((a1 = 4 → B_MD_isWhite_37 G s a1 h Q ) ∧ (¬ a1 = 4 → ((a1 = 5 → B_MD_isWhite_37 G s a1 h Q ) ∧ (¬ a1 = 5 → ((a1 = 7 → B_MD_isWhite_37 G s a1 h Q ) ∧ (¬ a1 = 7 → ((a1 = 9 → B_MD_isWhite_37 G s a1 h Q ) ∧ (¬ a1 = 9 → ((a1 = 11 → B_MD_isWhite_37 G s a1 h Q ) ∧ (¬ a1 = 11 → B_MD_isWhite_42 G s a1 (0) h Q ))))))))))))))
theorem b_MD_isWhite_0 {G : cx_T} {s : Nat} {a1 : Int} {h : ah_T} {Q : Option av_T → ah_T → Prop} (hb0 : hb s h) (H : B_MD_isWhite_0 G s a1 h Q ) : aw G (rm_R 0 0 0) m_MD_isWhite 0 0 0 [some (av_R (some 170)), some (av_I a1)] [] h Q := by
  unfold B_MD_isWhite_0 at H
  have hS : isS s := hb0.2.1
  refine A_iload_n 1 d_MD_isWhite_0 rfl rfl ?_
  refine A_if_eq (tgt := 37) d_MD_isWhite_1 (by decide) (fun c => ?_) (fun c => ?_)
  · replace H := H.1 c
    refine A_pc (pc' := 37) rfl ?_
    refine A_free (L' := [none, none]) trivial ?_
    exact b_MD_isWhite_37    hb0 H
  · replace H := H.2 c
    refine A_iload_n 1 d_MD_isWhite_4 rfl rfl ?_
    refine A_iconst d_MD_isWhite_5 rfl ?_
    refine A_icmp_eq (tgt := 37) d_MD_isWhite_6 (by decide) (fun c => ?_) (fun c => ?_)
    · replace H := H.1 c
      refine A_pc (pc' := 37) rfl ?_
      refine A_free (L' := [none, none]) trivial ?_
      exact b_MD_isWhite_37    hb0 H
    · replace H := H.2 c
      refine A_iload_n 1 d_MD_isWhite_9 rfl rfl ?_
      refine A_iconst d_MD_isWhite_10 rfl ?_
      refine A_icmp_eq (tgt := 37) d_MD_isWhite_11 (by decide) (fun c => ?_) (fun c => ?_)
      · replace H := H.1 c
        refine A_pc (pc' := 37) rfl ?_
        refine A_free (L' := [none, none]) trivial ?_
        exact b_MD_isWhite_37    hb0 H
      · replace H := H.2 c
        refine A_iload_n 1 d_MD_isWhite_14 rfl rfl ?_
        refine A_iconst d_MD_isWhite_15 rfl ?_
        refine A_icmp_eq (tgt := 37) d_MD_isWhite_16 (by decide) (fun c => ?_) (fun c => ?_)
        · replace H := H.1 c
          refine A_pc (pc' := 37) rfl ?_
          refine A_free (L' := [none, none]) trivial ?_
          exact b_MD_isWhite_37    hb0 H
        · replace H := H.2 c
          refine A_iload_n 1 d_MD_isWhite_19 rfl rfl ?_
          refine A_bipush d_MD_isWhite_20 rfl ?_
          refine A_icmp_eq (tgt := 37) d_MD_isWhite_22 (by decide) (fun c => ?_) (fun c => ?_)
          · replace H := H.1 c
            refine A_pc (pc' := 37) rfl ?_
            refine A_free (L' := [none, none]) trivial ?_
            exact b_MD_isWhite_37    hb0 H
          · replace H := H.2 c
            refine A_iload_n 1 d_MD_isWhite_25 rfl rfl ?_
            refine A_bipush d_MD_isWhite_26 rfl ?_
            refine A_icmp_eq (tgt := 37) d_MD_isWhite_28 (by decide) (fun c => ?_) (fun c => ?_)
            · replace H := H.1 c
              refine A_pc (pc' := 37) rfl ?_
              refine A_free (L' := [none, none]) trivial ?_
              exact b_MD_isWhite_37    hb0 H
            · replace H := H.2 c
              refine A_iload_n 1 d_MD_isWhite_31 rfl rfl ?_
              refine A_bipush d_MD_isWhite_32 rfl ?_
              refine A_icmp_ne (tgt := 41) d_MD_isWhite_34 (by decide) (fun c => ?_) (fun c => ?_)
              · replace H := H.2 c
                refine A_iconst d_MD_isWhite_41 rfl ?_
                refine A_pc (pc' := 42) rfl ?_
                refine A_free (L' := [none, none]) trivial ?_
                exact b_MD_isWhite_42    hb0 H
              · replace H := H.1 c
                refine A_pc (pc' := 37) rfl ?_
                refine A_free (L' := [none, none]) trivial ?_
                exact b_MD_isWhite_37    hb0 H
theorem c_MD_isWhite {G : cx_T} {s : Nat} {a1 : Int} {h : ah_T} {Q : Option av_T → ah_T → Prop} (hb0 : hb s h) (H : i32 a1 → B_MD_isWhite_0 G s a1 h Q ) : con G 0 0 0 m_MD_isWhite [av_R (some 170), av_I a1] h Q := by
  have hS : isS s := hb0.2.1
  refine con_of (L := [some (av_R (some 170)), some (av_I a1)]) (by decide +kernel) (Nat.le_of_ble_eq_true rfl) rfl ?_
  refine A_locI 1 rfl (fun ra1 => ?_)
  exact b_MD_isWhite_0   hb0 (H ra1)
def B_MD_goes_418 (G : cx_T) (s : Nat) (a1 : Int) (t0 : Int) (h : ah_T) (Q : Option av_T → ah_T → Prop) : Prop :=
 (t0 = 0 ∨ t0 = 1) ∧ Q (some (av_I t0)) h
theorem b_MD_goes_418 {G : cx_T} {s : Nat} {a1 : Int} {t0 : Int} {h : ah_T} {Q : Option av_T → ah_T → Prop} (hb0 : hb s h) (H : B_MD_goes_418 G s a1 t0 h Q ) : aw G (rm_R 1 0 0) m_MD_goes 0 0 418 [none, none, none, none, none, none, none, none, none] [av_I t0] h Q := by
  unfold B_MD_goes_418 at H
  have hS : isS s := hb0.2.1
  exact A_zret d_MD_goes_418 (by decide) rfl H.1 H.2
def B_MD_goes_413 (G : cx_T) (s : Nat) (a1 : Int) (h : ah_T) (Q : Option av_T → ah_T → Prop) : Prop :=
 B_MD_goes_418 G s a1 (1) h Q 
theorem b_MD_goes_413 {G : cx_T} {s : Nat} {a1 : Int} {h : ah_T} {Q : Option av_T → ah_T → Prop} (hb0 : hb s h) (H : B_MD_goes_413 G s a1 h Q ) : aw G (rm_R 1 0 0) m_MD_goes 0 0 413 [none, none, none, none, none, none, none, none, none] [] h Q := by
  unfold B_MD_goes_413 at H
  have hS : isS s := hb0.2.1
  refine A_iconst d_MD_goes_413 rfl ?_
  refine A_goto (tgt := 418) d_MD_goes_414 (by decide) ?_
  refine A_pc (pc' := 418) rfl ?_
  exact b_MD_goes_418    hb0 H
def B_MD_goes_393 (G : cx_T) (s : Nat) (a1 : Int) (t0 : Int) (h : ah_T) (Q : Option av_T → ah_T → Prop) : Prop :=
 (t0 = 0 ∨ t0 = 1) ∧ Q (some (av_I t0)) h
theorem b_MD_goes_393 {G : cx_T} {s : Nat} {a1 : Int} {t0 : Int} {h : ah_T} {Q : Option av_T → ah_T → Prop} (hb0 : hb s h) (H : B_MD_goes_393 G s a1 t0 h Q ) : aw G (rm_R 1 0 0) m_MD_goes 0 0 393 [none, none, none, none, none, none, none, none, none] [av_I t0] h Q := by
  unfold B_MD_goes_393 at H
  have hS : isS s := hb0.2.1
  exact A_zret d_MD_goes_393 (by decide) rfl H.1 H.2
def B_MD_goes_388 (G : cx_T) (s : Nat) (a1 : Int) (h : ah_T) (Q : Option av_T → ah_T → Prop) : Prop :=
 B_MD_goes_393 G s a1 (1) h Q 
theorem b_MD_goes_388 {G : cx_T} {s : Nat} {a1 : Int} {h : ah_T} {Q : Option av_T → ah_T → Prop} (hb0 : hb s h) (H : B_MD_goes_388 G s a1 h Q ) : aw G (rm_R 1 0 0) m_MD_goes 0 0 388 [none, none, none, none, none, none, none, none, none] [] h Q := by
  unfold B_MD_goes_388 at H
  have hS : isS s := hb0.2.1
  refine A_iconst d_MD_goes_388 rfl ?_
  refine A_goto (tgt := 393) d_MD_goes_389 (by decide) ?_
  refine A_pc (pc' := 393) rfl ?_
  exact b_MD_goes_393    hb0 H
def B_MD_goes_348 (G : cx_T) (s : Nat) (a1 : Int) (h : ah_T) (Q : Option av_T → ah_T → Prop) : Prop :=
 Q (some (av_I 1)) h
theorem b_MD_goes_348 {G : cx_T} {s : Nat} {a1 : Int} {h : ah_T} {Q : Option av_T → ah_T → Prop} (hb0 : hb s h) (H : B_MD_goes_348 G s a1 h Q ) : aw G (rm_R 1 0 0) m_MD_goes 0 0 348 [none, none, none, none, none, none, none, none, none] [] h Q := by
  unfold B_MD_goes_348 at H
  have hS : isS s := hb0.2.1
  refine A_iconst d_MD_goes_348 rfl ?_
  exact A_zret d_MD_goes_349 (by decide) rfl (by decide) H
def B_MD_goes_334 (G : cx_T) (s : Nat) (a1 : Int) (v5 : Int) (h : ah_T) (Q : Option av_T → ah_T → Prop) : Prop :=
 ((a1 = 1 → B_MD_goes_348 G s a1 h Q ) ∧ (¬ a1 = 1 → con G 0 0 0 m_MD_isRule [av_R (some 170), av_I 64] h (fun r h1 => ∃ z3 : Int, r = some (av_I z3) ∧ hb s h1 ∧ ((z3 = 0 → B_MD_goes_348 G s a1 h1 Q ) ∧ (¬ z3 = 0 → ((-2147483648) ≤ (a1 - 1) ∧ (a1 - 1) ≤ 2147483647) ∧ (0 ≤ (a1 - 1) ∧ (a1 - 1) < 8) ∧ ∀ x6 : Int, x6 = h1.2.1 230 ((a1 - 1)).toNat → -2147483648 ≤ x6 → x6 ≤ 2147483647 → ((-2147483648) ≤ (a1 - 2) ∧ (a1 - 2) ≤ 2147483647) ∧ (0 ≤ (a1 - 2) ∧ (a1 - 2) < 8) ∧ ∀ x10 : Int, x10 = h1.2.1 230 ((a1 - 2)).toNat → -2147483648 ≤ x10 → x10 ≤ 2147483647 → ((-2147483648) ≤ (x6 - x10) ∧ (x6 - x10) ≤ 2147483647) ∧ (((x6 - x10) ≤ 4 → (((-4) ≤ (x6 - x10) → B_MD_goes_413 G s a1 h1 Q ) ∧ (¬ (-4) ≤ (x6 - x10) → ((v5 = 1 → B_MD_goes_413 G s a1 h1 Q ) ∧ (¬ v5 = 1 → ((v5 = 2 → B_MD_goes_413 G s a1 h1 Q ) ∧ (¬ v5 = 2 → B_MD_goes_418 G s a1 (0) h1 Q ))))))) ∧ (¬ (x6 - x10) ≤ 4 → ((v5 = (-1) → B_MD_goes_388 G s a1 h1 Q ) ∧ (¬ v5 = (-1) → ((v5 = (-2) → B_MD_goes_388 G s a1 h1 Q ) ∧ (¬ v5 = (-2) → B_MD_goes_393 G s a1 (0) h1 Q )))))))))))
theorem b_MD_goes_334 {G : cx_T} {s : Nat} {a1 : Int} {v5 : Int} {h : ah_T} {Q : Option av_T → ah_T → Prop} (hb0 : hb s h) (H : B_MD_goes_334 G s a1 v5 h Q ) : aw G (rm_R 1 0 0) m_MD_goes 0 0 334 [some (av_R (some 170)), some (av_I a1), none, none, none, some (av_I v5), none, none, none] [] h Q := by
  unfold B_MD_goes_334 at H
  have hS : isS s := hb0.2.1
  refine A_iload_n 1 d_MD_goes_334 rfl rfl ?_
  refine A_iconst d_MD_goes_335 rfl ?_
  refine A_icmp_eq (tgt := 348) d_MD_goes_336 (by decide) (fun c => ?_) (fun c => ?_)
  · replace H := H.1 c
    refine A_pc (pc' := 348) rfl ?_
    refine A_free (L' := [none, none, none, none, none, none, none, none, none]) trivial ?_
    exact b_MD_goes_348    hb0 H
  · replace H := H.2 c
    refine A_aload_n 0 d_MD_goes_339 rfl rfl ?_
    refine A_bipush d_MD_goes_340 rfl ?_
    refine A_callV1 m_MD_isRule T_ok d_MD_goes_342 l_MD_558 k_MD_isRule (hb_s hb0 sf_170) rfl (by decide +kernel) (by decide) (Nat.le_of_ble_eq_true rfl) H (fun r h1 hq => ?_)
    clear H
    obtain ⟨z3, rfl, hb2, H⟩ := hq
    refine A_if_ne (tgt := 350) d_MD_goes_345 (by decide) (fun c => ?_) (fun c => ?_)
    · replace H := H.2 c
      refine A_aload_n 0 d_MD_goes_350 rfl rfl ?_
      refine A_getAv (z := some 230) T_ok d_MD_goes_351 f_MD_193 (hb_s hb2 sf_170) (hb_m hb2 rfm_97) ?_
      refine A_iload_n 1 d_MD_goes_354 rfl rfl ?_
      refine A_iconst d_MD_goes_355 rfl ?_
      have g5 := H.1
      replace H := H.2
      refine A_isubv (z := (a1 - 1)) d_MD_goes_356 (w32_to (by omega) (by unfold i32; omega)) ?_
      refine A_pc (pc' := 357) rfl ?_
      have g7 := H.1
      replace H := H.2
      refine A_ialoadf d_MD_goes_357 (hb_s hb2 sf_230) g7.1 g7.2 (fun x6 ex6 lx6 ux6 => ?_)
      replace H := H x6 ex6 lx6 ux6
      refine A_aload_n 0 d_MD_goes_358 rfl rfl ?_
      refine A_getAv (z := some 230) T_ok d_MD_goes_359 f_MD_193 (hb_s hb2 sf_170) (hb_m hb2 rfm_97) ?_
      refine A_iload_n 1 d_MD_goes_362 rfl rfl ?_
      refine A_iconst d_MD_goes_363 rfl ?_
      have g9 := H.1
      replace H := H.2
      refine A_isubv (z := (a1 - 2)) d_MD_goes_364 (w32_to (by omega) (by unfold i32; omega)) ?_
      refine A_pc (pc' := 365) rfl ?_
      have g11 := H.1
      replace H := H.2
      refine A_ialoadf d_MD_goes_365 (hb_s hb2 sf_230) g11.1 g11.2 (fun x10 ex10 lx10 ux10 => ?_)
      replace H := H x10 ex10 lx10 ux10
      have g12 := H.1
      replace H := H.2
      refine A_isubv (z := (x6 - x10)) d_MD_goes_366 (w32_to (by omega) (by unfold i32; omega)) ?_
      refine A_istore (L' := [some (av_R (some 170)), some (av_I a1), none, none, none, some (av_I v5), none, none, some (av_I (x6 - x10))]) d_MD_goes_367 (Nat.le_of_ble_eq_true rfl) rfl ?_
      refine A_iload d_MD_goes_369 rfl ?_
      refine A_iconst d_MD_goes_371 rfl ?_
      refine A_icmp_le (tgt := 394) d_MD_goes_372 (by decide) (fun c => ?_) (fun c => ?_)
      · replace H := H.1 c
        refine A_iload d_MD_goes_394 rfl ?_
        refine A_bipush d_MD_goes_396 rfl ?_
        refine A_icmp_ge (tgt := 413) d_MD_goes_398 (by decide) (fun c => ?_) (fun c => ?_)
        · replace H := H.1 c
          refine A_pc (pc' := 413) rfl ?_
          refine A_free (L' := [none, none, none, none, none, none, none, none, none]) trivial ?_
          exact b_MD_goes_413    hb2 H
        · replace H := H.2 c
          refine A_iload d_MD_goes_401 rfl ?_
          refine A_iconst d_MD_goes_403 rfl ?_
          refine A_icmp_eq (tgt := 413) d_MD_goes_404 (by decide) (fun c => ?_) (fun c => ?_)
          · replace H := H.1 c
            refine A_pc (pc' := 413) rfl ?_
            refine A_free (L' := [none, none, none, none, none, none, none, none, none]) trivial ?_
            exact b_MD_goes_413    hb2 H
          · replace H := H.2 c
            refine A_iload d_MD_goes_407 rfl ?_
            refine A_iconst d_MD_goes_409 rfl ?_
            refine A_icmp_ne (tgt := 417) d_MD_goes_410 (by decide) (fun c => ?_) (fun c => ?_)
            · replace H := H.2 c
              refine A_iconst d_MD_goes_417 rfl ?_
              refine A_pc (pc' := 418) rfl ?_
              refine A_free (L' := [none, none, none, none, none, none, none, none, none]) trivial ?_
              exact b_MD_goes_418    hb2 H
            · replace H := H.1 c
              refine A_pc (pc' := 413) rfl ?_
              refine A_free (L' := [none, none, none, none, none, none, none, none, none]) trivial ?_
              exact b_MD_goes_413    hb2 H
      · replace H := H.2 c
        refine A_iload d_MD_goes_375 rfl ?_
        refine A_iconst d_MD_goes_377 rfl ?_
        refine A_icmp_eq (tgt := 388) d_MD_goes_378 (by decide) (fun c => ?_) (fun c => ?_)
        · replace H := H.1 c
          refine A_pc (pc' := 388) rfl ?_
          refine A_free (L' := [none, none, none, none, none, none, none, none, none]) trivial ?_
          exact b_MD_goes_388    hb2 H
        · replace H := H.2 c
          refine A_iload d_MD_goes_381 rfl ?_
          refine A_bipush d_MD_goes_383 rfl ?_
          refine A_icmp_ne (tgt := 392) d_MD_goes_385 (by decide) (fun c => ?_) (fun c => ?_)
          · replace H := H.2 c
            refine A_iconst d_MD_goes_392 rfl ?_
            refine A_pc (pc' := 393) rfl ?_
            refine A_free (L' := [none, none, none, none, none, none, none, none, none]) trivial ?_
            exact b_MD_goes_393    hb2 H
          · replace H := H.1 c
            refine A_pc (pc' := 388) rfl ?_
            refine A_free (L' := [none, none, none, none, none, none, none, none, none]) trivial ?_
            exact b_MD_goes_388    hb2 H
    · replace H := H.1 c
      refine A_pc (pc' := 348) rfl ?_
      refine A_free (L' := [none, none, none, none, none, none, none, none, none]) trivial ?_
      exact b_MD_goes_348    hb2 H
def B_MD_goes_318 (G : cx_T) (s : Nat) (a1 : Int) (v5 : Int) (h : ah_T) (Q : Option av_T → ah_T → Prop) : Prop :=
 con G 0 0 0 m_MD_isRule [av_R (some 170), av_I 32] h (fun r h1 => ∃ z3 : Int, r = some (av_I z3) ∧ hb s h1 ∧ ((z3 = 0 → B_MD_goes_334 G s a1 (v5) h1 Q ) ∧ (¬ z3 = 0 → ((v5 = 0 → Q (some (av_I 0)) h1) ∧ (¬ v5 = 0 → B_MD_goes_334 G s a1 (v5) h1 Q )))))
theorem b_MD_goes_318 {G : cx_T} {s : Nat} {a1 : Int} {v5 : Int} {h : ah_T} {Q : Option av_T → ah_T → Prop} (hb0 : hb s h) (H : B_MD_goes_318 G s a1 v5 h Q ) : aw G (rm_R 1 0 0) m_MD_goes 0 0 318 [some (av_R (some 170)), some (av_I a1), none, none, none, some (av_I v5), none, none, none] [] h Q := by
  unfold B_MD_goes_318 at H
  have hS : isS s := hb0.2.1
  refine A_aload_n 0 d_MD_goes_318 rfl rfl ?_
  refine A_bipush d_MD_goes_319 rfl ?_
  refine A_callV1 m_MD_isRule T_ok d_MD_goes_321 l_MD_558 k_MD_isRule (hb_s hb0 sf_170) rfl (by decide +kernel) (by decide) (Nat.le_of_ble_eq_true rfl) H (fun r h1 hq => ?_)
  clear H
  obtain ⟨z3, rfl, hb2, H⟩ := hq
  refine A_if_eq (tgt := 334) d_MD_goes_324 (by decide) (fun c => ?_) (fun c => ?_)
  · replace H := H.1 c
    refine A_pc (pc' := 334) rfl ?_
    exact b_MD_goes_334    hb2 H
  · replace H := H.2 c
    refine A_iload d_MD_goes_327 rfl ?_
    refine A_if_ne (tgt := 334) d_MD_goes_329 (by decide) (fun c => ?_) (fun c => ?_)
    · replace H := H.2 c
      refine A_pc (pc' := 334) rfl ?_
      exact b_MD_goes_334    hb2 H
    · replace H := H.1 c
      refine A_iconst d_MD_goes_332 rfl ?_
      exact A_zret d_MD_goes_333 (by decide) rfl (by decide) H
def B_MD_goes_291 (G : cx_T) (s : Nat) (a1 : Int) (v5 : Int) (t0 : Int) (h : ah_T) (Q : Option av_T → ah_T → Prop) : Prop :=
 con G 0 0 0 m_MD_isRule [av_R (some 170), av_I 16] h (fun r h1 => ∃ z3 : Int, r = some (av_I z3) ∧ hb s h1 ∧ ((z3 = 0 → B_MD_goes_318 G s a1 (v5) h1 Q ) ∧ (¬ z3 = 0 → ((t0 ≤ 7 → B_MD_goes_318 G s a1 (v5) h1 Q ) ∧ (¬ t0 ≤ 7 → ((t0 = 12 → B_MD_goes_318 G s a1 (v5) h1 Q ) ∧ (¬ t0 = 12 → Q (some (av_I 0)) h1)))))))
theorem b_MD_goes_291 {G : cx_T} {s : Nat} {a1 : Int} {v5 : Int} {t0 : Int} {h : ah_T} {Q : Option av_T → ah_T → Prop} (hb0 : hb s h) (H : B_MD_goes_291 G s a1 v5 t0 h Q ) : aw G (rm_R 1 0 0) m_MD_goes 0 0 291 [some (av_R (some 170)), some (av_I a1), none, none, none, some (av_I v5), none, none, none] [av_I t0] h Q := by
  unfold B_MD_goes_291 at H
  have hS : isS s := hb0.2.1
  refine A_istore (L' := [some (av_R (some 170)), some (av_I a1), none, none, none, some (av_I v5), none, some (av_I t0), none]) d_MD_goes_291 (Nat.le_of_ble_eq_true rfl) rfl ?_
  refine A_aload_n 0 d_MD_goes_293 rfl rfl ?_
  refine A_bipush d_MD_goes_294 rfl ?_
  refine A_callV1 m_MD_isRule T_ok d_MD_goes_296 l_MD_558 k_MD_isRule (hb_s hb0 sf_170) rfl (by decide +kernel) (by decide) (Nat.le_of_ble_eq_true rfl) H (fun r h1 hq => ?_)
  clear H
  obtain ⟨z3, rfl, hb2, H⟩ := hq
  refine A_if_eq (tgt := 318) d_MD_goes_299 (by decide) (fun c => ?_) (fun c => ?_)
  · replace H := H.1 c
    refine A_pc (pc' := 318) rfl ?_
    refine A_free (L' := [some (av_R (some 170)), some (av_I a1), none, none, none, some (av_I v5), none, none, none]) (And.intro rfl (And.intro rfl (And.intro rfl trivial))) ?_
    exact b_MD_goes_318    hb2 H
  · replace H := H.2 c
    refine A_iload d_MD_goes_302 rfl ?_
    refine A_bipush d_MD_goes_304 rfl ?_
    refine A_icmp_le (tgt := 318) d_MD_goes_306 (by decide) (fun c => ?_) (fun c => ?_)
    · replace H := H.1 c
      refine A_pc (pc' := 318) rfl ?_
      refine A_free (L' := [some (av_R (some 170)), some (av_I a1), none, none, none, some (av_I v5), none, none, none]) (And.intro rfl (And.intro rfl (And.intro rfl trivial))) ?_
      exact b_MD_goes_318    hb2 H
    · replace H := H.2 c
      refine A_iload d_MD_goes_309 rfl ?_
      refine A_bipush d_MD_goes_311 rfl ?_
      refine A_icmp_eq (tgt := 318) d_MD_goes_313 (by decide) (fun c => ?_) (fun c => ?_)
      · replace H := H.1 c
        refine A_pc (pc' := 318) rfl ?_
        refine A_free (L' := [some (av_R (some 170)), some (av_I a1), none, none, none, some (av_I v5), none, none, none]) (And.intro rfl (And.intro rfl (And.intro rfl trivial))) ?_
        exact b_MD_goes_318    hb2 H
      · replace H := H.2 c
        refine A_iconst d_MD_goes_316 rfl ?_
        exact A_zret d_MD_goes_317 (by decide) rfl (by decide) H
def B_MD_goes_278 (G : cx_T) (s : Nat) (a1 : Int) (v5 : Int) (h : ah_T) (Q : Option av_T → ah_T → Prop) : Prop :=
 ((0 ≤ v5 → B_MD_goes_291 G s a1 (v5) (v5) h Q ) ∧ (¬ 0 ≤ v5 → ((-2147483648) ≤ (-v5) ∧ (-v5) ≤ 2147483647) ∧ B_MD_goes_291 G s a1 (v5) ((-v5)) h Q ))
theorem b_MD_goes_278 {G : cx_T} {s : Nat} {a1 : Int} {v5 : Int} {h : ah_T} {Q : Option av_T → ah_T → Prop} (hb0 : hb s h) (H : B_MD_goes_278 G s a1 v5 h Q ) : aw G (rm_R 1 0 0) m_MD_goes 0 0 278 [some (av_R (some 170)), some (av_I a1), none, none, none, some (av_I v5), none, none, none] [] h Q := by
  unfold B_MD_goes_278 at H
  have hS : isS s := hb0.2.1
  refine A_iload d_MD_goes_278 rfl ?_
  refine A_if_ge (tgt := 289) d_MD_goes_280 (by decide) (fun c => ?_) (fun c => ?_)
  · replace H := H.1 c
    refine A_iload d_MD_goes_289 rfl ?_
    refine A_pc (pc' := 291) rfl ?_
    exact b_MD_goes_291    hb0 H
  · replace H := H.2 c
    refine A_iload d_MD_goes_283 rfl ?_
    have g1 := H.1
    replace H := H.2
    refine A_inegv (z := (-v5)) d_MD_goes_285 (w32_to (by omega) (by unfold i32; omega)) ?_
    refine A_goto (tgt := 291) d_MD_goes_286 (by decide) ?_
    refine A_pc (pc' := 291) rfl ?_
    exact b_MD_goes_291    hb0 H
def B_MD_goes_276 (G : cx_T) (s : Nat) (a1 : Int) (h : ah_T) (Q : Option av_T → ah_T → Prop) : Prop :=
 Q (some (av_I 0)) h
theorem b_MD_goes_276 {G : cx_T} {s : Nat} {a1 : Int} {h : ah_T} {Q : Option av_T → ah_T → Prop} (hb0 : hb s h) (H : B_MD_goes_276 G s a1 h Q ) : aw G (rm_R 1 0 0) m_MD_goes 0 0 276 [none, none, none, none, none, none, none, none, none] [] h Q := by
  unfold B_MD_goes_276 at H
  have hS : isS s := hb0.2.1
  refine A_iconst d_MD_goes_276 rfl ?_
  exact A_zret d_MD_goes_277 (by decide) rfl (by decide) H
def B_MD_goes_266 (G : cx_T) (s : Nat) (a1 : Int) (v5 : Int) (v6 : Int) (h : ah_T) (Q : Option av_T → ah_T → Prop) : Prop :=
 ((0 ≤ v5 → B_MD_goes_278 G s a1 (v5) h Q ) ∧ (¬ 0 ≤ v5 → ((0 ≤ v6 → B_MD_goes_278 G s a1 (v5) h Q ) ∧ (¬ 0 ≤ v6 → B_MD_goes_276 G s a1 h Q ))))
theorem b_MD_goes_266 {G : cx_T} {s : Nat} {a1 : Int} {v5 : Int} {v6 : Int} {h : ah_T} {Q : Option av_T → ah_T → Prop} (hb0 : hb s h) (H : B_MD_goes_266 G s a1 v5 v6 h Q ) : aw G (rm_R 1 0 0) m_MD_goes 0 0 266 [some (av_R (some 170)), some (av_I a1), none, none, none, some (av_I v5), some (av_I v6), none, none] [] h Q := by
  unfold B_MD_goes_266 at H
  have hS : isS s := hb0.2.1
  refine A_iload d_MD_goes_266 rfl ?_
  refine A_if_ge (tgt := 278) d_MD_goes_268 (by decide) (fun c => ?_) (fun c => ?_)
  · replace H := H.1 c
    refine A_pc (pc' := 278) rfl ?_
    refine A_free (L' := [some (av_R (some 170)), some (av_I a1), none, none, none, some (av_I v5), none, none, none]) (And.intro rfl (And.intro rfl (And.intro rfl trivial))) ?_
    exact b_MD_goes_278    hb0 H
  · replace H := H.2 c
    refine A_iload d_MD_goes_271 rfl ?_
    refine A_if_ge (tgt := 278) d_MD_goes_273 (by decide) (fun c => ?_) (fun c => ?_)
    · replace H := H.1 c
      refine A_pc (pc' := 278) rfl ?_
      refine A_free (L' := [some (av_R (some 170)), some (av_I a1), none, none, none, some (av_I v5), none, none, none]) (And.intro rfl (And.intro rfl (And.intro rfl trivial))) ?_
      exact b_MD_goes_278    hb0 H
    · replace H := H.2 c
      refine A_pc (pc' := 276) rfl ?_
      refine A_free (L' := [none, none, none, none, none, none, none, none, none]) trivial ?_
      exact b_MD_goes_276    hb0 H
def B_MD_goes_242 (G : cx_T) (s : Nat) (a1 : Int) (v4 : Int) (v5 : Int) (v6 : Int) (h : ah_T) (Q : Option av_T → ah_T → Prop) : Prop :=
 con G 0 0 0 m_MD_isRule [av_R (some 170), av_I 8] h (fun r h1 => ∃ z3 : Int, r = some (av_I z3) ∧ hb s h1 ∧ ((z3 = 0 → B_MD_goes_278 G s a1 (v5) h1 Q ) ∧ (¬ z3 = 0 → ((v4 = 0 → B_MD_goes_278 G s a1 (v5) h1 Q ) ∧ (¬ v4 = 0 → ((v5 ≤ 0 → B_MD_goes_266 G s a1 (v5) (v6) h1 Q ) ∧ (¬ v5 ≤ 0 → ((0 < v6 → B_MD_goes_276 G s a1 h1 Q ) ∧ (¬ 0 < v6 → B_MD_goes_266 G s a1 (v5) (v6) h1 Q )))))))))
theorem b_MD_goes_242 {G : cx_T} {s : Nat} {a1 : Int} {v4 : Int} {v5 : Int} {v6 : Int} {h : ah_T} {Q : Option av_T → ah_T → Prop} (hb0 : hb s h) (H : B_MD_goes_242 G s a1 v4 v5 v6 h Q ) : aw G (rm_R 1 0 0) m_MD_goes 0 0 242 [some (av_R (some 170)), some (av_I a1), none, none, some (av_I v4), some (av_I v5), some (av_I v6), none, none] [] h Q := by
  unfold B_MD_goes_242 at H
  have hS : isS s := hb0.2.1
  refine A_aload_n 0 d_MD_goes_242 rfl rfl ?_
  refine A_bipush d_MD_goes_243 rfl ?_
  refine A_callV1 m_MD_isRule T_ok d_MD_goes_245 l_MD_558 k_MD_isRule (hb_s hb0 sf_170) rfl (by decide +kernel) (by decide) (Nat.le_of_ble_eq_true rfl) H (fun r h1 hq => ?_)
  clear H
  obtain ⟨z3, rfl, hb2, H⟩ := hq
  refine A_if_eq (tgt := 278) d_MD_goes_248 (by decide) (fun c => ?_) (fun c => ?_)
  · replace H := H.1 c
    refine A_pc (pc' := 278) rfl ?_
    refine A_free (L' := [some (av_R (some 170)), some (av_I a1), none, none, none, some (av_I v5), none, none, none]) (And.intro rfl (And.intro rfl (And.intro rfl trivial))) ?_
    exact b_MD_goes_278    hb2 H
  · replace H := H.2 c
    refine A_iload d_MD_goes_251 rfl ?_
    refine A_if_eq (tgt := 278) d_MD_goes_253 (by decide) (fun c => ?_) (fun c => ?_)
    · replace H := H.1 c
      refine A_pc (pc' := 278) rfl ?_
      refine A_free (L' := [some (av_R (some 170)), some (av_I a1), none, none, none, some (av_I v5), none, none, none]) (And.intro rfl (And.intro rfl (And.intro rfl trivial))) ?_
      exact b_MD_goes_278    hb2 H
    · replace H := H.2 c
      refine A_iload d_MD_goes_256 rfl ?_
      refine A_if_le (tgt := 266) d_MD_goes_258 (by decide) (fun c => ?_) (fun c => ?_)
      · replace H := H.1 c
        refine A_pc (pc' := 266) rfl ?_
        refine A_free (L' := [some (av_R (some 170)), some (av_I a1), none, none, none, some (av_I v5), some (av_I v6), none, none]) (And.intro rfl (And.intro rfl (And.intro rfl (And.intro rfl trivial)))) ?_
        exact b_MD_goes_266    hb2 H
      · replace H := H.2 c
        refine A_iload d_MD_goes_261 rfl ?_
        refine A_if_gt (tgt := 276) d_MD_goes_263 (by decide) (fun c => ?_) (fun c => ?_)
        · replace H := H.1 c
          refine A_pc (pc' := 276) rfl ?_
          refine A_free (L' := [none, none, none, none, none, none, none, none, none]) trivial ?_
          exact b_MD_goes_276    hb2 H
        · replace H := H.2 c
          refine A_pc (pc' := 266) rfl ?_
          refine A_free (L' := [some (av_R (some 170)), some (av_I a1), none, none, none, some (av_I v5), some (av_I v6), none, none]) (And.intro rfl (And.intro rfl (And.intro rfl (And.intro rfl trivial)))) ?_
          exact b_MD_goes_266    hb2 H
def B_MD_goes_157 (G : cx_T) (s : Nat) (a1 : Int) (v3 : Int) (v4 : Int) (h : ah_T) (Q : Option av_T → ah_T → Prop) : Prop :=
 ((a1 = 0 → Q (some (av_I 1)) h) ∧ (¬ a1 = 0 → (0 ≤ a1 ∧ a1 < 8) ∧ ∀ x2 : Int, x2 = h.2.1 230 (a1).toNat → -2147483648 ≤ x2 → x2 ≤ 2147483647 → ((-2147483648) ≤ (a1 - 1) ∧ (a1 - 1) ≤ 2147483647) ∧ (0 ≤ (a1 - 1) ∧ (a1 - 1) < 8) ∧ ∀ x6 : Int, x6 = h.2.1 230 ((a1 - 1)).toNat → -2147483648 ≤ x6 → x6 ≤ 2147483647 → ((-2147483648) ≤ (x2 - x6) ∧ (x2 - x6) ≤ 2147483647) ∧ ∀ x10 : Int, x10 = h.2.1 229 (a1).toNat → -2147483648 ≤ x10 → x10 ≤ 2147483647 → ∀ x12 : Int, x12 = h.2.1 229 ((a1 - 1)).toNat → -2147483648 ≤ x12 → x12 ≤ 2147483647 → ((-2147483648) ≤ (x10 - x12) ∧ (x10 - x12) ≤ 2147483647) ∧ con G 0 0 0 m_MD_isRule [av_R (some 170), av_I 4] h (fun r h14 => ∃ z16 : Int, r = some (av_I z16) ∧ hb s h14 ∧ ((z16 = 0 → B_MD_goes_242 G s a1 (v4) ((x2 - x6)) ((x10 - x12)) h14 Q ) ∧ (¬ z16 = 0 → ((v4 = 0 → B_MD_goes_242 G s a1 (v4) ((x2 - x6)) ((x10 - x12)) h14 Q ) ∧ (¬ v4 = 0 → (((x2 - x6) = 0 → B_MD_goes_242 G s a1 (v4) ((x2 - x6)) ((x10 - x12)) h14 Q ) ∧ (¬ (x2 - x6) = 0 → ∀ x18 : Int, x18 = h14.2.1 230 ((a1 - 1)).toNat → -2147483648 ≤ x18 → x18 ≤ 2147483647 → ∀ x20 : Int, x20 = h14.2.1 229 ((a1 - 1)).toNat → -2147483648 ≤ x20 → x20 ≤ 2147483647 → ((-2147483648) ≤ (x18 - x20) ∧ (x18 - x20) ≤ 2147483647) ∧ con G 0 0 0 m_MD_modulo [av_R (some 170), av_I (x18 - x20)] h14 (fun r h22 => ∃ z24 : Int, r = some (av_I z24) ∧ hb s h22 ∧ ((z24 = v3 → Q (some (av_I 0)) h22) ∧ (¬ z24 = v3 → B_MD_goes_242 G s a1 (v4) ((x2 - x6)) ((x10 - x12)) h22 Q ))))))))))))
theorem b_MD_goes_157 {G : cx_T} {s : Nat} {a1 : Int} {v3 : Int} {v4 : Int} {h : ah_T} {Q : Option av_T → ah_T → Prop} (hb0 : hb s h) (H : B_MD_goes_157 G s a1 v3 v4 h Q ) : aw G (rm_R 1 0 0) m_MD_goes 0 0 157 [some (av_R (some 170)), some (av_I a1), none, some (av_I v3), some (av_I v4), none, none, none, none] [] h Q := by
  unfold B_MD_goes_157 at H
  have hS : isS s := hb0.2.1
  refine A_iload_n 1 d_MD_goes_157 rfl rfl ?_
  refine A_if_ne (tgt := 163) d_MD_goes_158 (by decide) (fun c => ?_) (fun c => ?_)
  · replace H := H.2 c
    refine A_aload_n 0 d_MD_goes_163 rfl rfl ?_
    refine A_getAv (z := some 230) T_ok d_MD_goes_164 f_MD_193 (hb_s hb0 sf_170) (hb_m hb0 rfm_97) ?_
    refine A_iload_n 1 d_MD_goes_167 rfl rfl ?_
    have g3 := H.1
    replace H := H.2
    refine A_ialoadf d_MD_goes_168 (hb_s hb0 sf_230) g3.1 g3.2 (fun x2 ex2 lx2 ux2 => ?_)
    replace H := H x2 ex2 lx2 ux2
    refine A_aload_n 0 d_MD_goes_169 rfl rfl ?_
    refine A_pc (pc' := 170) rfl ?_
    refine A_getAv (z := some 230) T_ok d_MD_goes_170 f_MD_193 (hb_s hb0 sf_170) (hb_m hb0 rfm_97) ?_
    refine A_iload_n 1 d_MD_goes_173 rfl rfl ?_
    refine A_iconst d_MD_goes_174 rfl ?_
    have g5 := H.1
    replace H := H.2
    refine A_isubv (z := (a1 - 1)) d_MD_goes_175 (w32_to (by omega) (by unfold i32; omega)) ?_
    have g7 := H.1
    replace H := H.2
    refine A_ialoadf d_MD_goes_176 (hb_s hb0 sf_230) g7.1 g7.2 (fun x6 ex6 lx6 ux6 => ?_)
    replace H := H x6 ex6 lx6 ux6
    have g8 := H.1
    replace H := H.2
    refine A_isubv (z := (x2 - x6)) d_MD_goes_177 (w32_to (by omega) (by unfold i32; omega)) ?_
    refine A_pc (pc' := 178) rfl ?_
    refine A_istore (L' := [some (av_R (some 170)), some (av_I a1), none, some (av_I v3), some (av_I v4), some (av_I (x2 - x6)), none, none, none]) d_MD_goes_178 (Nat.le_of_ble_eq_true rfl) rfl ?_
    refine A_aload_n 0 d_MD_goes_180 rfl rfl ?_
    refine A_getAv (z := some 229) T_ok d_MD_goes_181 f_MD_190 (hb_s hb0 sf_170) (hb_m hb0 rfm_92) ?_
    refine A_iload_n 1 d_MD_goes_184 rfl rfl ?_
    refine A_ialoadf d_MD_goes_185 (hb_s hb0 sf_229) g3.1 g3.2 (fun x10 ex10 lx10 ux10 => ?_)
    replace H := H x10 ex10 lx10 ux10
    refine A_aload_n 0 d_MD_goes_186 rfl rfl ?_
    refine A_pc (pc' := 187) rfl ?_
    refine A_getAv (z := some 229) T_ok d_MD_goes_187 f_MD_190 (hb_s hb0 sf_170) (hb_m hb0 rfm_92) ?_
    refine A_iload_n 1 d_MD_goes_190 rfl rfl ?_
    refine A_iconst d_MD_goes_191 rfl ?_
    refine A_isubv (z := (a1 - 1)) d_MD_goes_192 (w32_to (by omega) (by unfold i32; omega)) ?_
    refine A_ialoadf d_MD_goes_193 (hb_s hb0 sf_229) g7.1 g7.2 (fun x12 ex12 lx12 ux12 => ?_)
    replace H := H x12 ex12 lx12 ux12
    have g13 := H.1
    replace H := H.2
    refine A_isubv (z := (x10 - x12)) d_MD_goes_194 (w32_to (by omega) (by unfold i32; omega)) ?_
    refine A_pc (pc' := 195) rfl ?_
    refine A_istore (L' := [some (av_R (some 170)), some (av_I a1), none, some (av_I v3), some (av_I v4), some (av_I (x2 - x6)), some (av_I (x10 - x12)), none, none]) d_MD_goes_195 (Nat.le_of_ble_eq_true rfl) rfl ?_
    refine A_aload_n 0 d_MD_goes_197 rfl rfl ?_
    refine A_iconst d_MD_goes_198 rfl ?_
    refine A_callV1 m_MD_isRule T_ok d_MD_goes_199 l_MD_558 k_MD_isRule (hb_s hb0 sf_170) rfl (by decide +kernel) (by decide) (Nat.le_of_ble_eq_true rfl) H (fun r h14 hq => ?_)
    clear H
    obtain ⟨z16, rfl, hb15, H⟩ := hq
    refine A_if_eq (tgt := 242) d_MD_goes_202 (by decide) (fun c => ?_) (fun c => ?_)
    · replace H := H.1 c
      refine A_pc (pc' := 242) rfl ?_
      refine A_free (L' := [some (av_R (some 170)), some (av_I a1), none, none, some (av_I v4), some (av_I (x2 - x6)), some (av_I (x10 - x12)), none, none]) (And.intro rfl (And.intro rfl (And.intro rfl (And.intro rfl (And.intro rfl trivial))))) ?_
      exact b_MD_goes_242    hb15 H
    · replace H := H.2 c
      refine A_iload d_MD_goes_205 rfl ?_
      refine A_if_eq (tgt := 242) d_MD_goes_207 (by decide) (fun c => ?_) (fun c => ?_)
      · replace H := H.1 c
        refine A_pc (pc' := 242) rfl ?_
        refine A_free (L' := [some (av_R (some 170)), some (av_I a1), none, none, some (av_I v4), some (av_I (x2 - x6)), some (av_I (x10 - x12)), none, none]) (And.intro rfl (And.intro rfl (And.intro rfl (And.intro rfl (And.intro rfl trivial))))) ?_
        exact b_MD_goes_242    hb15 H
      · replace H := H.2 c
        refine A_iload d_MD_goes_210 rfl ?_
        refine A_if_eq (tgt := 242) d_MD_goes_212 (by decide) (fun c => ?_) (fun c => ?_)
        · replace H := H.1 c
          refine A_pc (pc' := 242) rfl ?_
          refine A_free (L' := [some (av_R (some 170)), some (av_I a1), none, none, some (av_I v4), some (av_I (x2 - x6)), some (av_I (x10 - x12)), none, none]) (And.intro rfl (And.intro rfl (And.intro rfl (And.intro rfl (And.intro rfl trivial))))) ?_
          exact b_MD_goes_242    hb15 H
        · replace H := H.2 c
          refine A_aload_n 0 d_MD_goes_215 rfl rfl ?_
          refine A_aload_n 0 d_MD_goes_216 rfl rfl ?_
          refine A_getAv (z := some 230) T_ok d_MD_goes_217 f_MD_193 (hb_s hb15 sf_170) (hb_m hb15 rfm_97) ?_
          refine A_iload_n 1 d_MD_goes_220 rfl rfl ?_
          refine A_iconst d_MD_goes_221 rfl ?_
          refine A_pc (pc' := 222) rfl ?_
          refine A_isubv (z := (a1 - 1)) d_MD_goes_222 (w32_to (by omega) (by unfold i32; omega)) ?_
          refine A_ialoadf d_MD_goes_223 (hb_s hb15 sf_230) g7.1 g7.2 (fun x18 ex18 lx18 ux18 => ?_)
          replace H := H x18 ex18 lx18 ux18
          refine A_aload_n 0 d_MD_goes_224 rfl rfl ?_
          refine A_getAv (z := some 229) T_ok d_MD_goes_225 f_MD_190 (hb_s hb15 sf_170) (hb_m hb15 rfm_92) ?_
          refine A_iload_n 1 d_MD_goes_228 rfl rfl ?_
          refine A_iconst d_MD_goes_229 rfl ?_
          refine A_pc (pc' := 230) rfl ?_
          refine A_isubv (z := (a1 - 1)) d_MD_goes_230 (w32_to (by omega) (by unfold i32; omega)) ?_
          refine A_ialoadf d_MD_goes_231 (hb_s hb15 sf_229) g7.1 g7.2 (fun x20 ex20 lx20 ux20 => ?_)
          replace H := H x20 ex20 lx20 ux20
          have g21 := H.1
          replace H := H.2
          refine A_isubv (z := (x18 - x20)) d_MD_goes_232 (w32_to (by omega) (by unfold i32; omega)) ?_
          refine A_callV1 m_MD_modulo T_ok d_MD_goes_233 l_MD_535 k_MD_modulo (hb_s hb15 sf_170) rfl (by decide +kernel) (by decide) (Nat.le_of_ble_eq_true rfl) H (fun r h22 hq => ?_)
          clear H
          obtain ⟨z24, rfl, hb23, H⟩ := hq
          refine A_iload_n 3 d_MD_goes_236 rfl rfl ?_
          refine A_icmp_ne (tgt := 242) d_MD_goes_237 (by decide) (fun c => ?_) (fun c => ?_)
          · replace H := H.2 c
            refine A_pc (pc' := 242) rfl ?_
            refine A_free (L' := [some (av_R (some 170)), some (av_I a1), none, none, some (av_I v4), some (av_I (x2 - x6)), some (av_I (x10 - x12)), none, none]) (And.intro rfl (And.intro rfl (And.intro rfl (And.intro rfl (And.intro rfl trivial))))) ?_
            exact b_MD_goes_242    hb23 H
          · replace H := H.1 c
            refine A_iconst d_MD_goes_240 rfl ?_
            exact A_zret d_MD_goes_241 (by decide) rfl (by decide) H
  · replace H := H.1 c
    refine A_iconst d_MD_goes_161 rfl ?_
    exact A_zret d_MD_goes_162 (by decide) rfl (by decide) H
def B_MD_goes_141 (G : cx_T) (s : Nat) (a1 : Int) (v2 : Int) (v3 : Int) (v4 : Int) (h : ah_T) (Q : Option av_T → ah_T → Prop) : Prop :=
 con G 0 0 0 m_MD_isRule [av_R (some 170), av_I 256] h (fun r h1 => ∃ z3 : Int, r = some (av_I z3) ∧ hb s h1 ∧ ((z3 = 0 → B_MD_goes_157 G s a1 (v3) (v4) h1 Q ) ∧ (¬ z3 = 0 → ((0 ≤ v2 → B_MD_goes_157 G s a1 (v3) (v4) h1 Q ) ∧ (¬ 0 ≤ v2 → Q (some (av_I 0)) h1)))))
theorem b_MD_goes_141 {G : cx_T} {s : Nat} {a1 : Int} {v2 : Int} {v3 : Int} {v4 : Int} {h : ah_T} {Q : Option av_T → ah_T → Prop} (hb0 : hb s h) (H : B_MD_goes_141 G s a1 v2 v3 v4 h Q ) : aw G (rm_R 1 0 0) m_MD_goes 0 0 141 [some (av_R (some 170)), some (av_I a1), some (av_I v2), some (av_I v3), some (av_I v4), none, none, none, none] [] h Q := by
  unfold B_MD_goes_141 at H
  have hS : isS s := hb0.2.1
  refine A_aload_n 0 d_MD_goes_141 rfl rfl ?_
  refine A_sipush d_MD_goes_142 rfl ?_
  refine A_callV1 m_MD_isRule T_ok d_MD_goes_145 l_MD_558 k_MD_isRule (hb_s hb0 sf_170) rfl (by decide +kernel) (by decide) (Nat.le_of_ble_eq_true rfl) H (fun r h1 hq => ?_)
  clear H
  obtain ⟨z3, rfl, hb2, H⟩ := hq
  refine A_if_eq (tgt := 157) d_MD_goes_148 (by decide) (fun c => ?_) (fun c => ?_)
  · replace H := H.1 c
    refine A_pc (pc' := 157) rfl ?_
    refine A_free (L' := [some (av_R (some 170)), some (av_I a1), none, some (av_I v3), some (av_I v4), none, none, none, none]) (And.intro rfl (And.intro rfl (And.intro rfl (And.intro rfl trivial)))) ?_
    exact b_MD_goes_157    hb2 H
  · replace H := H.2 c
    refine A_iload_n 2 d_MD_goes_151 rfl rfl ?_
    refine A_if_ge (tgt := 157) d_MD_goes_152 (by decide) (fun c => ?_) (fun c => ?_)
    · replace H := H.1 c
      refine A_pc (pc' := 157) rfl ?_
      refine A_free (L' := [some (av_R (some 170)), some (av_I a1), none, some (av_I v3), some (av_I v4), none, none, none, none]) (And.intro rfl (And.intro rfl (And.intro rfl (And.intro rfl trivial)))) ?_
      exact b_MD_goes_157    hb2 H
    · replace H := H.2 c
      refine A_iconst d_MD_goes_155 rfl ?_
      exact A_zret d_MD_goes_156 (by decide) rfl (by decide) H
def B_MD_goes_112 (G : cx_T) (s : Nat) (a1 : Int) (v2 : Int) (v3 : Int) (v4 : Int) (h : ah_T) (Q : Option av_T → ah_T → Prop) : Prop :=
 con G 0 0 0 m_MD_isRule [av_R (some 170), av_I 128] h (fun r h1 => ∃ z3 : Int, r = some (av_I z3) ∧ hb s h1 ∧ ((z3 = 0 → B_MD_goes_141 G s a1 (v2) (v3) (v4) h1 Q ) ∧ (¬ z3 = 0 → (0 ≤ a1 ∧ a1 < 8) ∧ ∀ x5 : Int, x5 = h1.2.1 230 (a1).toNat → -2147483648 ≤ x5 → x5 ≤ 2147483647 → con G 0 0 0 m_MD_modulo [av_R (some 170), av_I x5] h1 (fun r h7 => ∃ z9 : Int, r = some (av_I z9) ∧ hb s h7 ∧ con G 0 0 0 m_MD_isWhite [av_R (some 170), av_I z9] h7 (fun r h10 => ∃ z12 : Int, r = some (av_I z12) ∧ hb s h10 ∧ ((z12 = 0 → Q (some (av_I 0)) h10) ∧ (¬ z12 = 0 → B_MD_goes_141 G s a1 (v2) (v3) (v4) h10 Q )))))))
theorem b_MD_goes_112 {G : cx_T} {s : Nat} {a1 : Int} {v2 : Int} {v3 : Int} {v4 : Int} {h : ah_T} {Q : Option av_T → ah_T → Prop} (hb0 : hb s h) (H : B_MD_goes_112 G s a1 v2 v3 v4 h Q ) : aw G (rm_R 1 0 0) m_MD_goes 0 0 112 [some (av_R (some 170)), some (av_I a1), some (av_I v2), some (av_I v3), some (av_I v4), none, none, none, none] [] h Q := by
  unfold B_MD_goes_112 at H
  have hS : isS s := hb0.2.1
  refine A_aload_n 0 d_MD_goes_112 rfl rfl ?_
  refine A_sipush d_MD_goes_113 rfl ?_
  refine A_callV1 m_MD_isRule T_ok d_MD_goes_116 l_MD_558 k_MD_isRule (hb_s hb0 sf_170) rfl (by decide +kernel) (by decide) (Nat.le_of_ble_eq_true rfl) H (fun r h1 hq => ?_)
  clear H
  obtain ⟨z3, rfl, hb2, H⟩ := hq
  refine A_if_eq (tgt := 141) d_MD_goes_119 (by decide) (fun c => ?_) (fun c => ?_)
  · replace H := H.1 c
    refine A_pc (pc' := 141) rfl ?_
    exact b_MD_goes_141    hb2 H
  · replace H := H.2 c
    refine A_aload_n 0 d_MD_goes_122 rfl rfl ?_
    refine A_aload_n 0 d_MD_goes_123 rfl rfl ?_
    refine A_aload_n 0 d_MD_goes_124 rfl rfl ?_
    refine A_getAv (z := some 230) T_ok d_MD_goes_125 f_MD_193 (hb_s hb2 sf_170) (hb_m hb2 rfm_97) ?_
    refine A_iload_n 1 d_MD_goes_128 rfl rfl ?_
    refine A_pc (pc' := 129) rfl ?_
    have g6 := H.1
    replace H := H.2
    refine A_ialoadf d_MD_goes_129 (hb_s hb2 sf_230) g6.1 g6.2 (fun x5 ex5 lx5 ux5 => ?_)
    replace H := H x5 ex5 lx5 ux5
    refine A_callV1 m_MD_modulo T_ok d_MD_goes_130 l_MD_535 k_MD_modulo (hb_s hb2 sf_170) rfl (by decide +kernel) (by decide) (Nat.le_of_ble_eq_true rfl) H (fun r h7 hq => ?_)
    clear H
    obtain ⟨z9, rfl, hb8, H⟩ := hq
    refine A_callV1 m_MD_isWhite T_ok d_MD_goes_133 l_MD_564 k_MD_isWhite (hb_s hb8 sf_170) rfl (by decide +kernel) (by decide) (Nat.le_of_ble_eq_true rfl) H (fun r h10 hq => ?_)
    clear H
    obtain ⟨z12, rfl, hb11, H⟩ := hq
    refine A_if_ne (tgt := 141) d_MD_goes_136 (by decide) (fun c => ?_) (fun c => ?_)
    · replace H := H.2 c
      refine A_pc (pc' := 141) rfl ?_
      exact b_MD_goes_141    hb11 H
    · replace H := H.1 c
      refine A_iconst d_MD_goes_139 rfl ?_
      exact A_zret d_MD_goes_140 (by decide) rfl (by decide) H
def B_MD_goes_110 (G : cx_T) (s : Nat) (a1 : Int) (h : ah_T) (Q : Option av_T → ah_T → Prop) : Prop :=
 Q (some (av_I 0)) h
theorem b_MD_goes_110 {G : cx_T} {s : Nat} {a1 : Int} {h : ah_T} {Q : Option av_T → ah_T → Prop} (hb0 : hb s h) (H : B_MD_goes_110 G s a1 h Q ) : aw G (rm_R 1 0 0) m_MD_goes 0 0 110 [none, none, none, none, none, none, none, none, none] [] h Q := by
  unfold B_MD_goes_110 at H
  have hS : isS s := hb0.2.1
  refine A_iconst d_MD_goes_110 rfl ?_
  exact A_zret d_MD_goes_111 (by decide) rfl (by decide) H
def B_MD_goes_96 (G : cx_T) (s : Nat) (a1 : Int) (v2 : Int) (v3 : Int) (v4 : Int) (h : ah_T) (Q : Option av_T → ah_T → Prop) : Prop :=
 ∀ x1 : Int, x1 = h.2.1 170 93 → -2147483648 ≤ x1 → x1 ≤ 2147483647 → ((-2147483648) ≤ (x1 - 1) ∧ (x1 - 1) ≤ 2147483647) ∧ ((a1 = (x1 - 1) → ((v3 = 0 → B_MD_goes_112 G s a1 (v2) (v3) (v4) h Q ) ∧ (¬ v3 = 0 → B_MD_goes_110 G s a1 h Q ))) ∧ (¬ a1 = (x1 - 1) → B_MD_goes_112 G s a1 (v2) (v3) (v4) h Q ))
theorem b_MD_goes_96 {G : cx_T} {s : Nat} {a1 : Int} {v2 : Int} {v3 : Int} {v4 : Int} {h : ah_T} {Q : Option av_T → ah_T → Prop} (hb0 : hb s h) (H : B_MD_goes_96 G s a1 v2 v3 v4 h Q ) : aw G (rm_R 1 0 0) m_MD_goes 0 0 96 [some (av_R (some 170)), some (av_I a1), some (av_I v2), some (av_I v3), some (av_I v4), none, none, none, none] [] h Q := by
  unfold B_MD_goes_96 at H
  have hS : isS s := hb0.2.1
  refine A_iload_n 1 d_MD_goes_96 rfl rfl ?_
  refine A_aload_n 0 d_MD_goes_97 rfl rfl ?_
  refine A_getIf T_ok d_MD_goes_98 f_MD_561 (hb_s hb0 sf_170) (fun x1 ex1 lx1 ux1 => ?_)
  replace H := H x1 ex1 lx1 ux1
  refine A_iconst d_MD_goes_101 rfl ?_
  have g2 := H.1
  replace H := H.2
  refine A_isubv (z := (x1 - 1)) d_MD_goes_102 (w32_to (by omega) (by unfold i32; omega)) ?_
  refine A_pc (pc' := 103) rfl ?_
  refine A_icmp_ne (tgt := 112) d_MD_goes_103 (by decide) (fun c => ?_) (fun c => ?_)
  · replace H := H.2 c
    refine A_pc (pc' := 112) rfl ?_
    exact b_MD_goes_112    hb0 H
  · replace H := H.1 c
    refine A_iload_n 3 d_MD_goes_106 rfl rfl ?_
    refine A_if_eq (tgt := 112) d_MD_goes_107 (by decide) (fun c => ?_) (fun c => ?_)
    · replace H := H.1 c
      refine A_pc (pc' := 112) rfl ?_
      exact b_MD_goes_112    hb0 H
    · replace H := H.2 c
      refine A_pc (pc' := 110) rfl ?_
      refine A_free (L' := [none, none, none, none, none, none, none, none, none]) trivial ?_
      exact b_MD_goes_110    hb0 H
def B_MD_goes_79 (G : cx_T) (s : Nat) (a1 : Int) (v2 : Int) (v3 : Int) (v4 : Int) (h : ah_T) (Q : Option av_T → ah_T → Prop) : Prop :=
 con G 0 0 0 m_MD_isRule [av_R (some 170), av_I 2] h (fun r h1 => ∃ z3 : Int, r = some (av_I z3) ∧ hb s h1 ∧ ((z3 = 0 → B_MD_goes_112 G s a1 (v2) (v3) (v4) h1 Q ) ∧ (¬ z3 = 0 → ((a1 = 0 → ((v4 = 0 → B_MD_goes_110 G s a1 h1 Q ) ∧ (¬ v4 = 0 → B_MD_goes_96 G s a1 (v2) (v3) (v4) h1 Q ))) ∧ (¬ a1 = 0 → B_MD_goes_96 G s a1 (v2) (v3) (v4) h1 Q )))))
theorem b_MD_goes_79 {G : cx_T} {s : Nat} {a1 : Int} {v2 : Int} {v3 : Int} {v4 : Int} {h : ah_T} {Q : Option av_T → ah_T → Prop} (hb0 : hb s h) (H : B_MD_goes_79 G s a1 v2 v3 v4 h Q ) : aw G (rm_R 1 0 0) m_MD_goes 0 0 79 [some (av_R (some 170)), some (av_I a1), some (av_I v2), some (av_I v3), some (av_I v4), none, none, none, none] [] h Q := by
  unfold B_MD_goes_79 at H
  have hS : isS s := hb0.2.1
  refine A_aload_n 0 d_MD_goes_79 rfl rfl ?_
  refine A_iconst d_MD_goes_80 rfl ?_
  refine A_callV1 m_MD_isRule T_ok d_MD_goes_81 l_MD_558 k_MD_isRule (hb_s hb0 sf_170) rfl (by decide +kernel) (by decide) (Nat.le_of_ble_eq_true rfl) H (fun r h1 hq => ?_)
  clear H
  obtain ⟨z3, rfl, hb2, H⟩ := hq
  refine A_if_eq (tgt := 112) d_MD_goes_84 (by decide) (fun c => ?_) (fun c => ?_)
  · replace H := H.1 c
    refine A_pc (pc' := 112) rfl ?_
    exact b_MD_goes_112    hb2 H
  · replace H := H.2 c
    refine A_iload_n 1 d_MD_goes_87 rfl rfl ?_
    refine A_if_ne (tgt := 96) d_MD_goes_88 (by decide) (fun c => ?_) (fun c => ?_)
    · replace H := H.2 c
      refine A_pc (pc' := 96) rfl ?_
      exact b_MD_goes_96    hb2 H
    · replace H := H.1 c
      refine A_iload d_MD_goes_91 rfl ?_
      refine A_if_eq (tgt := 110) d_MD_goes_93 (by decide) (fun c => ?_) (fun c => ?_)
      · replace H := H.1 c
        refine A_pc (pc' := 110) rfl ?_
        refine A_free (L' := [none, none, none, none, none, none, none, none, none]) trivial ?_
        exact b_MD_goes_110    hb2 H
      · replace H := H.2 c
        refine A_pc (pc' := 96) rfl ?_
        exact b_MD_goes_96    hb2 H
def B_MD_goes_35 (G : cx_T) (s : Nat) (a1 : Int) (v2 : Int) (v3 : Int) (t0 : Int) (h : ah_T) (Q : Option av_T → ah_T → Prop) : Prop :=
 con G 0 0 0 m_MD_isRule [av_R (some 170), av_I 1] h (fun r h1 => ∃ z3 : Int, r = some (av_I z3) ∧ hb s h1 ∧ ((z3 = 0 → B_MD_goes_79 G s a1 (v2) (v3) (t0) h1 Q ) ∧ (¬ z3 = 0 → ((v3 = 0 → B_MD_goes_79 G s a1 (v2) (v3) (t0) h1 Q ) ∧ (¬ v3 = 0 → ((v3 = 3 → B_MD_goes_79 G s a1 (v2) (v3) (t0) h1 Q ) ∧ (¬ v3 = 3 → ((v3 = 4 → B_MD_goes_79 G s a1 (v2) (v3) (t0) h1 Q ) ∧ (¬ v3 = 4 → ((v3 = 7 → B_MD_goes_79 G s a1 (v2) (v3) (t0) h1 Q ) ∧ (¬ v3 = 7 → ((v3 = 8 → B_MD_goes_79 G s a1 (v2) (v3) (t0) h1 Q ) ∧ (¬ v3 = 8 → ((v3 = 9 → B_MD_goes_79 G s a1 (v2) (v3) (t0) h1 Q ) ∧ (¬ v3 = 9 → Q (some (av_I 0)) h1)))))))))))))))
theorem b_MD_goes_35 {G : cx_T} {s : Nat} {a1 : Int} {v2 : Int} {v3 : Int} {t0 : Int} {h : ah_T} {Q : Option av_T → ah_T → Prop} (hb0 : hb s h) (H : B_MD_goes_35 G s a1 v2 v3 t0 h Q ) : aw G (rm_R 1 0 0) m_MD_goes 0 0 35 [some (av_R (some 170)), some (av_I a1), some (av_I v2), some (av_I v3), none, none, none, none, none] [av_I t0] h Q := by
  unfold B_MD_goes_35 at H
  have hS : isS s := hb0.2.1
  refine A_istore (L' := [some (av_R (some 170)), some (av_I a1), some (av_I v2), some (av_I v3), some (av_I t0), none, none, none, none]) d_MD_goes_35 (Nat.le_of_ble_eq_true rfl) rfl ?_
  refine A_aload_n 0 d_MD_goes_37 rfl rfl ?_
  refine A_iconst d_MD_goes_38 rfl ?_
  refine A_callV1 m_MD_isRule T_ok d_MD_goes_39 l_MD_558 k_MD_isRule (hb_s hb0 sf_170) rfl (by decide +kernel) (by decide) (Nat.le_of_ble_eq_true rfl) H (fun r h1 hq => ?_)
  clear H
  obtain ⟨z3, rfl, hb2, H⟩ := hq
  refine A_if_eq (tgt := 79) d_MD_goes_42 (by decide) (fun c => ?_) (fun c => ?_)
  · replace H := H.1 c
    refine A_pc (pc' := 79) rfl ?_
    exact b_MD_goes_79    hb2 H
  · replace H := H.2 c
    refine A_iload_n 3 d_MD_goes_45 rfl rfl ?_
    refine A_if_eq (tgt := 79) d_MD_goes_46 (by decide) (fun c => ?_) (fun c => ?_)
    · replace H := H.1 c
      refine A_pc (pc' := 79) rfl ?_
      exact b_MD_goes_79    hb2 H
    · replace H := H.2 c
      refine A_iload_n 3 d_MD_goes_49 rfl rfl ?_
      refine A_iconst d_MD_goes_50 rfl ?_
      refine A_icmp_eq (tgt := 79) d_MD_goes_51 (by decide) (fun c => ?_) (fun c => ?_)
      · replace H := H.1 c
        refine A_pc (pc' := 79) rfl ?_
        exact b_MD_goes_79    hb2 H
      · replace H := H.2 c
        refine A_iload_n 3 d_MD_goes_54 rfl rfl ?_
        refine A_iconst d_MD_goes_55 rfl ?_
        refine A_icmp_eq (tgt := 79) d_MD_goes_56 (by decide) (fun c => ?_) (fun c => ?_)
        · replace H := H.1 c
          refine A_pc (pc' := 79) rfl ?_
          exact b_MD_goes_79    hb2 H
        · replace H := H.2 c
          refine A_iload_n 3 d_MD_goes_59 rfl rfl ?_
          refine A_bipush d_MD_goes_60 rfl ?_
          refine A_icmp_eq (tgt := 79) d_MD_goes_62 (by decide) (fun c => ?_) (fun c => ?_)
          · replace H := H.1 c
            refine A_pc (pc' := 79) rfl ?_
            exact b_MD_goes_79    hb2 H
          · replace H := H.2 c
            refine A_iload_n 3 d_MD_goes_65 rfl rfl ?_
            refine A_bipush d_MD_goes_66 rfl ?_
            refine A_icmp_eq (tgt := 79) d_MD_goes_68 (by decide) (fun c => ?_) (fun c => ?_)
            · replace H := H.1 c
              refine A_pc (pc' := 79) rfl ?_
              exact b_MD_goes_79    hb2 H
            · replace H := H.2 c
              refine A_iload_n 3 d_MD_goes_71 rfl rfl ?_
              refine A_bipush d_MD_goes_72 rfl ?_
              refine A_icmp_eq (tgt := 79) d_MD_goes_74 (by decide) (fun c => ?_) (fun c => ?_)
              · replace H := H.1 c
                refine A_pc (pc' := 79) rfl ?_
                exact b_MD_goes_79    hb2 H
              · replace H := H.2 c
                refine A_iconst d_MD_goes_77 rfl ?_
                exact A_zret d_MD_goes_78 (by decide) rfl (by decide) H
def B_MD_goes_30 (G : cx_T) (s : Nat) (a1 : Int) (v2 : Int) (v3 : Int) (h : ah_T) (Q : Option av_T → ah_T → Prop) : Prop :=
 B_MD_goes_35 G s a1 (v2) (v3) (1) h Q 
theorem b_MD_goes_30 {G : cx_T} {s : Nat} {a1 : Int} {v2 : Int} {v3 : Int} {h : ah_T} {Q : Option av_T → ah_T → Prop} (hb0 : hb s h) (H : B_MD_goes_30 G s a1 v2 v3 h Q ) : aw G (rm_R 1 0 0) m_MD_goes 0 0 30 [some (av_R (some 170)), some (av_I a1), some (av_I v2), some (av_I v3), none, none, none, none, none] [] h Q := by
  unfold B_MD_goes_30 at H
  have hS : isS s := hb0.2.1
  refine A_iconst d_MD_goes_30 rfl ?_
  refine A_goto (tgt := 35) d_MD_goes_31 (by decide) ?_
  refine A_pc (pc' := 35) rfl ?_
  exact b_MD_goes_35    hb0 H
def B_MD_goes_0 (G : cx_T) (s : Nat) (a1 : Int) (h : ah_T) (Q : Option av_T → ah_T → Prop) : Prop :=
 (0 ≤ a1 ∧ a1 < 8) ∧ ∀ x2 : Int, x2 = h.2.1 230 (a1).toNat → -2147483648 ≤ x2 → x2 ≤ 2147483647 → ∀ x5 : Int, x5 = h.2.1 229 (a1).toNat → -2147483648 ≤ x5 → x5 ≤ 2147483647 → ((-2147483648) ≤ (x2 - x5) ∧ (x2 - x5) ≤ 2147483647) ∧ con G 0 0 0 m_MD_modulo [av_R (some 170), av_I (x2 - x5)] h (fun r h7 => ∃ z9 : Int, r = some (av_I z9) ∧ hb s h7 ∧ ((z9 = 0 → B_MD_goes_30 G s a1 ((x2 - x5)) (z9) h7 Q ) ∧ (¬ z9 = 0 → ((z9 = 7 → B_MD_goes_30 G s a1 ((x2 - x5)) (z9) h7 Q ) ∧ (¬ z9 = 7 → B_MD_goes_35 G s a1 ((x2 - x5)) (z9) (0) h7 Q )))))
theorem b_MD_goes_0 {G : cx_T} {s : Nat} {a1 : Int} {h : ah_T} {Q : Option av_T → ah_T → Prop} (hb0 : hb s h) (H : B_MD_goes_0 G s a1 h Q ) : aw G (rm_R 1 0 0) m_MD_goes 0 0 0 [some (av_R (some 170)), some (av_I a1), none, none, none, none, none, none, none] [] h Q := by
  unfold B_MD_goes_0 at H
  have hS : isS s := hb0.2.1
  refine A_aload_n 0 d_MD_goes_0 rfl rfl ?_
  refine A_getAv (z := some 230) T_ok d_MD_goes_1 f_MD_193 (hb_s hb0 sf_170) (hb_m hb0 rfm_97) ?_
  refine A_iload_n 1 d_MD_goes_4 rfl rfl ?_
  have g3 := H.1
  replace H := H.2
  refine A_ialoadf d_MD_goes_5 (hb_s hb0 sf_230) g3.1 g3.2 (fun x2 ex2 lx2 ux2 => ?_)
  replace H := H x2 ex2 lx2 ux2
  refine A_aload_n 0 d_MD_goes_6 rfl rfl ?_
  refine A_pc (pc' := 7) rfl ?_
  refine A_getAv (z := some 229) T_ok d_MD_goes_7 f_MD_190 (hb_s hb0 sf_170) (hb_m hb0 rfm_92) ?_
  refine A_iload_n 1 d_MD_goes_10 rfl rfl ?_
  refine A_ialoadf d_MD_goes_11 (hb_s hb0 sf_229) g3.1 g3.2 (fun x5 ex5 lx5 ux5 => ?_)
  replace H := H x5 ex5 lx5 ux5
  have g6 := H.1
  replace H := H.2
  refine A_isubv (z := (x2 - x5)) d_MD_goes_12 (w32_to (by omega) (by unfold i32; omega)) ?_
  refine A_istore_n 2 (L' := [some (av_R (some 170)), some (av_I a1), some (av_I (x2 - x5)), none, none, none, none, none, none]) d_MD_goes_13 rfl (Nat.le_of_ble_eq_true rfl) rfl ?_
  refine A_aload_n 0 d_MD_goes_14 rfl rfl ?_
  refine A_pc (pc' := 15) rfl ?_
  refine A_iload_n 2 d_MD_goes_15 rfl rfl ?_
  refine A_callV1 m_MD_modulo T_ok d_MD_goes_16 l_MD_535 k_MD_modulo (hb_s hb0 sf_170) rfl (by decide +kernel) (by decide) (Nat.le_of_ble_eq_true rfl) H (fun r h7 hq => ?_)
  clear H
  obtain ⟨z9, rfl, hb8, H⟩ := hq
  refine A_istore_n 3 (L' := [some (av_R (some 170)), some (av_I a1), some (av_I (x2 - x5)), some (av_I z9), none, none, none, none, none]) d_MD_goes_19 rfl (Nat.le_of_ble_eq_true rfl) rfl ?_
  refine A_iload_n 3 d_MD_goes_20 rfl rfl ?_
  refine A_if_eq (tgt := 30) d_MD_goes_21 (by decide) (fun c => ?_) (fun c => ?_)
  · replace H := H.1 c
    refine A_pc (pc' := 30) rfl ?_
    exact b_MD_goes_30    hb8 H
  · replace H := H.2 c
    refine A_iload_n 3 d_MD_goes_24 rfl rfl ?_
    refine A_bipush d_MD_goes_25 rfl ?_
    refine A_icmp_ne (tgt := 34) d_MD_goes_27 (by decide) (fun c => ?_) (fun c => ?_)
    · replace H := H.2 c
      refine A_iconst d_MD_goes_34 rfl ?_
      refine A_pc (pc' := 35) rfl ?_
      exact b_MD_goes_35    hb8 H
    · replace H := H.1 c
      refine A_pc (pc' := 30) rfl ?_
      exact b_MD_goes_30    hb8 H
theorem c_MD_goes {G : cx_T} {s : Nat} {a1 : Int} {h : ah_T} {Q : Option av_T → ah_T → Prop} (hb0 : hb s h) (H : i32 a1 → B_MD_goes_0 G s a1 h Q ) : con G 1 0 0 m_MD_goes [av_R (some 170), av_I a1] h Q := by
  have hS : isS s := hb0.2.1
  refine con_of (L := [some (av_R (some 170)), some (av_I a1), none, none, none, none, none, none, none]) (by decide +kernel) (Nat.le_of_ble_eq_true rfl) rfl ?_
  refine A_locI 1 rfl (fun ra1 => ?_)
  exact b_MD_goes_0   hb0 (H ra1)
def B_MD_through_16 (G : cx_T) (s : Nat) (a1 : Int) (v2 : Int) (v3 : Int) (h : ah_T) (Q : Option av_T → ah_T → Prop) (X16 : Int → Int → ah_T → Prop) : Prop :=
 ((v3 < 0 → Q (some (av_I v2)) h) ∧ (¬ v3 < 0 → (0 ≤ v3 ∧ v3 < 8) ∧ ∀ x2 : Int, x2 = h.2.1 230 (v3).toNat → -2147483648 ≤ x2 → x2 ≤ 2147483647 → ((-2147483648) ≤ (x2 + 1) ∧ (x2 + 1) ≤ 2147483647) ∧ ∀ h5 : ah_T, h5 = st_i h 230 (v3).toNat (x2 + 1) → ∀ x9 : Int, x9 = h5.2.1 170 95 → -2147483648 ≤ x9 → x9 ≤ 2147483647 → (((x2 + 1) ≤ x9 → con G 1 0 0 m_MD_goes [av_R (some 170), av_I v3] h5 (fun r h10 => ∃ z12 : Int, r = some (av_I z12) ∧ hb s h10 ∧ ((z12 = 0 → X16 (v2) (v3) h10) ∧ (¬ z12 = 0 → ∀ x13 : Int, x13 = h10.2.1 170 93 → -2147483648 ≤ x13 → x13 ≤ 2147483647 → ((-2147483648) ≤ (x13 - 1) ∧ (x13 - 1) ≤ 2147483647) ∧ ((v3 = (x13 - 1) → ((v2 = a1 → Q (some (av_I v2)) h10) ∧ (¬ v2 = a1 → ((-2147483648) ≤ (v2 + 1) ∧ (v2 + 1) ≤ 2147483647) ∧ X16 ((v2 + 1)) (v3) h10))) ∧ (¬ v3 = (x13 - 1) → ((-2147483648) ≤ (v3 + 1) ∧ (v3 + 1) ≤ 2147483647) ∧ ∀ x17 : Int, x17 = h10.2.1 170 94 → -2147483648 ≤ x17 → x17 ≤ 2147483647 → ((-2147483648) ≤ (x17 - 1) ∧ (x17 - 1) ≤ 2147483647) ∧ (0 ≤ (v3 + 1) ∧ (v3 + 1) < 8) ∧ ∀ h20 : ah_T, h20 = st_i h10 230 ((v3 + 1)).toNat (x17 - 1) → X16 (v2) ((v3 + 1)) h20)))))) ∧ (¬ (x2 + 1) ≤ x9 → ((-2147483648) ≤ (v3 - 1) ∧ (v3 - 1) ≤ 2147483647) ∧ X16 (v2) ((v3 - 1)) h5))))
theorem b_MD_through_16 {G : cx_T} {s : Nat} {a1 : Int} {v2 : Int} {v3 : Int} {h : ah_T} {Q : Option av_T → ah_T → Prop} {X16 : Int → Int → ah_T → Prop} (hX16 : ∀ (v2 : Int) (v3 : Int) (h : ah_T), hb s h → X16 v2 v3 h → aw G (rm_R 2 0 0) m_MD_through 0 0 16 [some (av_R (some 170)), some (av_I a1), some (av_I v2), some (av_I v3)] [] h Q) (hb0 : hb s h) (H : B_MD_through_16 G s a1 v2 v3 h Q X16) : aw G (rm_R 2 0 0) m_MD_through 0 0 16 [some (av_R (some 170)), some (av_I a1), some (av_I v2), some (av_I v3)] [] h Q := by
  unfold B_MD_through_16 at H
  have hS : isS s := hb0.2.1
  refine A_iload_n 3 d_MD_through_16 rfl rfl ?_
  refine A_if_lt (tgt := 98) d_MD_through_17 (by decide) (fun c => ?_) (fun c => ?_)
  · replace H := H.1 c
    refine A_iload_n 2 d_MD_through_98 rfl rfl ?_
    exact A_iret d_MD_through_99 (by decide) rfl H
  · replace H := H.2 c
    refine A_aload_n 0 d_MD_through_20 rfl rfl ?_
    refine A_getAv (z := some 230) T_ok d_MD_through_21 f_MD_193 (hb_s hb0 sf_170) (hb_m hb0 rfm_97) ?_
    refine A_iload_n 3 d_MD_through_24 rfl rfl ?_
    refine A_dup2RI d_MD_through_25 ?_
    have g3 := H.1
    replace H := H.2
    refine A_ialoadf d_MD_through_26 (hb_s hb0 sf_230) g3.1 g3.2 (fun x2 ex2 lx2 ux2 => ?_)
    replace H := H x2 ex2 lx2 ux2
    refine A_pc (pc' := 27) rfl ?_
    refine A_iconst d_MD_through_27 rfl ?_
    have g4 := H.1
    replace H := H.2
    refine A_iaddv (z := (x2 + 1)) d_MD_through_28 (w32_to (by omega) (by unfold i32; omega)) ?_
    refine A_iastoreN d_MD_through_29 (hb_s hb0 sf_230) g3.1 g3.2 ?_
    refine A_hn (fun h5 eh5 => ?_)
    have hb6 := hb_i hb0 eh5
    replace H := H h5 eh5
    refine A_aload_n 0 d_MD_through_30 rfl rfl ?_
    refine A_getAv (z := some 230) T_ok d_MD_through_31 f_MD_193 (hb_s hb6 sf_170) (hb_m hb6 rfm_97) ?_
    refine A_iload_n 3 d_MD_through_34 rfl rfl ?_
    refine A_pc (pc' := 35) rfl ?_
    refine A_ialoadv (z := (x2 + 1)) d_MD_through_35 (hb_s hb6 sf_230) (by omega) (by omega) (mv_i eh5) ?_
    refine A_aload_n 0 d_MD_through_36 rfl rfl ?_
    refine A_getIf T_ok d_MD_through_37 f_MD_570 (hb_s hb6 sf_170) (fun x9 ex9 lx9 ux9 => ?_)
    replace H := H x9 ex9 lx9 ux9
    refine A_icmp_le (tgt := 49) d_MD_through_40 (by decide) (fun c => ?_) (fun c => ?_)
    · replace H := H.1 c
      refine A_aload_n 0 d_MD_through_49 rfl rfl ?_
      refine A_iload_n 3 d_MD_through_50 rfl rfl ?_
      refine A_callV1 m_MD_goes T_ok d_MD_through_51 l_MD_573 k_MD_goes (hb_s hb6 sf_170) rfl (by decide +kernel) (by decide) (Nat.le_of_ble_eq_true rfl) H (fun r h10 hq => ?_)
      clear H
      obtain ⟨z12, rfl, hb11, H⟩ := hq
      refine A_if_eq (tgt := 16) d_MD_through_54 (by decide) (fun c => ?_) (fun c => ?_)
      · replace H := H.1 c
        refine A_pc (pc' := 16) rfl ?_
        exact hX16 (v2) (v3) h10  hb11 H
      · replace H := H.2 c
        refine A_iload_n 3 d_MD_through_57 rfl rfl ?_
        refine A_aload_n 0 d_MD_through_58 rfl rfl ?_
        refine A_getIf T_ok d_MD_through_59 f_MD_561 (hb_s hb11 sf_170) (fun x13 ex13 lx13 ux13 => ?_)
        replace H := H x13 ex13 lx13 ux13
        refine A_iconst d_MD_through_62 rfl ?_
        have g14 := H.1
        replace H := H.2
        refine A_isubv (z := (x13 - 1)) d_MD_through_63 (w32_to (by omega) (by unfold i32; omega)) ?_
        refine A_pc (pc' := 64) rfl ?_
        refine A_icmp_ne (tgt := 80) d_MD_through_64 (by decide) (fun c => ?_) (fun c => ?_)
        · replace H := H.2 c
          have g15 := H.1
          replace H := H.2
          refine A_iincv (z := (v3 + 1)) (L' := [some (av_R (some 170)), some (av_I a1), some (av_I v2), some (av_I (v3 + 1))]) d_MD_through_80 rfl (w32_to (by omega) (by unfold i32; omega)) rfl ?_
          refine A_aload_n 0 d_MD_through_83 rfl rfl ?_
          refine A_getAv (z := some 230) T_ok d_MD_through_84 f_MD_193 (hb_s hb11 sf_170) (hb_m hb11 rfm_97) ?_
          refine A_iload_n 3 d_MD_through_87 rfl rfl ?_
          refine A_aload_n 0 d_MD_through_88 rfl rfl ?_
          refine A_pc (pc' := 89) rfl ?_
          refine A_getIf T_ok d_MD_through_89 f_MD_567 (hb_s hb11 sf_170) (fun x17 ex17 lx17 ux17 => ?_)
          replace H := H x17 ex17 lx17 ux17
          refine A_iconst d_MD_through_92 rfl ?_
          have g18 := H.1
          replace H := H.2
          refine A_isubv (z := (x17 - 1)) d_MD_through_93 (w32_to (by omega) (by unfold i32; omega)) ?_
          have g19 := H.1
          replace H := H.2
          refine A_iastoreN d_MD_through_94 (hb_s hb11 sf_230) g19.1 g19.2 ?_
          refine A_hn (fun h20 eh20 => ?_)
          have hb21 := hb_i hb11 eh20
          replace H := H h20 eh20
          refine A_goto (tgt := 16) d_MD_through_95 (by decide) ?_
          refine A_pc (pc' := 16) rfl ?_
          exact hX16 (v2) ((v3 + 1)) h20  hb21 H
        · replace H := H.1 c
          refine A_iload_n 2 d_MD_through_67 rfl rfl ?_
          refine A_iload_n 1 d_MD_through_68 rfl rfl ?_
          refine A_icmp_ne (tgt := 74) d_MD_through_69 (by decide) (fun c => ?_) (fun c => ?_)
          · replace H := H.2 c
            have g22 := H.1
            replace H := H.2
            refine A_iincv (z := (v2 + 1)) (L' := [some (av_R (some 170)), some (av_I a1), some (av_I (v2 + 1)), some (av_I v3)]) d_MD_through_74 rfl (w32_to (by omega) (by unfold i32; omega)) rfl ?_
            refine A_goto (tgt := 16) d_MD_through_77 (by decide) ?_
            refine A_pc (pc' := 16) rfl ?_
            exact hX16 ((v2 + 1)) (v3) h10  hb11 H
          · replace H := H.1 c
            refine A_iload_n 2 d_MD_through_72 rfl rfl ?_
            exact A_iret d_MD_through_73 (by decide) rfl H
    · replace H := H.2 c
      have g23 := H.1
      replace H := H.2
      refine A_iincv (z := (v3 - 1)) (L' := [some (av_R (some 170)), some (av_I a1), some (av_I v2), some (av_I (v3 - 1))]) d_MD_through_43 rfl (w32_to (by omega) (by unfold i32; omega)) rfl ?_
      refine A_goto (tgt := 16) d_MD_through_46 (by decide) ?_
      refine A_pc (pc' := 16) rfl ?_
      exact hX16 (v2) ((v3 - 1)) h5  hb6 H
theorem lp_MD_through_16 {G : cx_T} {s : Nat} {a1 : Int} {Q : Option av_T → ah_T → Prop} (I : Int → Int → ah_T → Prop) (μ : Int → Int → ah_T → Nat) (hI : ∀ (v2 : Int) (v3 : Int) (h : ah_T), hb s h → I v2 v3 h → B_MD_through_16 G s a1 v2 v3 h Q (fun v2' v3' h' => I v2' v3' h' ∧ μ v2' v3' h' < μ v2 v3 h)) : ∀ (v2 : Int) (v3 : Int) (h : ah_T), hb s h → I v2 v3 h → aw G (rm_R 2 0 0) m_MD_through 0 0 16 [some (av_R (some 170)), some (av_I a1), some (av_I v2), some (av_I v3)] [] h Q := by
  have key : ∀ (n : Nat) (v2 : Int) (v3 : Int) (h : ah_T), hb s h → I v2 v3 h → μ v2 v3 h < n → aw G (rm_R 2 0 0) m_MD_through 0 0 16 [some (av_R (some 170)), some (av_I a1), some (av_I v2), some (av_I v3)] [] h Q := by
    intro n
    induction n with
    | zero => intro v2 v3 h  hb0 hi hm; omega
    | succ n ih => intro v2 v3 h  hb0 hi hm; exact b_MD_through_16  (fun v2' v3' h'  hb' hx => ih v2' v3' h'  hb' hx.1 (by have := hx.2; omega))  hb0 (hI v2 v3 h  hb0 hi)
  exact fun v2 v3 h  hb0 hi => key _ v2 v3 h  hb0 hi (Nat.lt_succ_self _)
def B_MD_through_0 (G : cx_T) (s : Nat) (a1 : Int) (h : ah_T) (Q : Option av_T → ah_T → Prop) (X16 : Int → Int → ah_T → Prop) : Prop :=
 ∀ x2 : Int, x2 = h.2.1 170 94 → -2147483648 ≤ x2 → x2 ≤ 2147483647 → ((-2147483648) ≤ (x2 - 1) ∧ (x2 - 1) ≤ 2147483647) ∧ ∀ h4 : ah_T, h4 = st_i h 230 0 (x2 - 1) → X16 (0) (0) h4
theorem b_MD_through_0 {G : cx_T} {s : Nat} {a1 : Int} {h : ah_T} {Q : Option av_T → ah_T → Prop} {X16 : Int → Int → ah_T → Prop} (hX16 : ∀ (v2 : Int) (v3 : Int) (h : ah_T), hb s h → X16 v2 v3 h → aw G (rm_R 2 0 0) m_MD_through 0 0 16 [some (av_R (some 170)), some (av_I a1), some (av_I v2), some (av_I v3)] [] h Q) (hb0 : hb s h) (H : B_MD_through_0 G s a1 h Q X16) : aw G (rm_R 2 0 0) m_MD_through 0 0 0 [some (av_R (some 170)), some (av_I a1), none, none] [] h Q := by
  unfold B_MD_through_0 at H
  have hS : isS s := hb0.2.1
  refine A_iconst d_MD_through_0 rfl ?_
  refine A_istore_n 2 (L' := [some (av_R (some 170)), some (av_I a1), some (av_I 0), none]) d_MD_through_1 rfl (Nat.le_of_ble_eq_true rfl) rfl ?_
  refine A_iconst d_MD_through_2 rfl ?_
  refine A_istore_n 3 (L' := [some (av_R (some 170)), some (av_I a1), some (av_I 0), some (av_I 0)]) d_MD_through_3 rfl (Nat.le_of_ble_eq_true rfl) rfl ?_
  refine A_aload_n 0 d_MD_through_4 rfl rfl ?_
  refine A_pc (pc' := 5) rfl ?_
  refine A_getAv (z := some 230) T_ok d_MD_through_5 f_MD_193 (hb_s hb0 sf_170) (hb_m hb0 rfm_97) ?_
  refine A_iconst d_MD_through_8 rfl ?_
  refine A_aload_n 0 d_MD_through_9 rfl rfl ?_
  refine A_getIf T_ok d_MD_through_10 f_MD_567 (hb_s hb0 sf_170) (fun x2 ex2 lx2 ux2 => ?_)
  replace H := H x2 ex2 lx2 ux2
  refine A_iconst d_MD_through_13 rfl ?_
  have g3 := H.1
  replace H := H.2
  refine A_isubv (z := (x2 - 1)) d_MD_through_14 (w32_to (by omega) (by unfold i32; omega)) ?_
  refine A_pc (pc' := 15) rfl ?_
  refine A_iastoreN d_MD_through_15 (hb_s hb0 sf_230) (by decide) (by decide) ?_
  refine A_hn (fun h4 eh4 => ?_)
  have hb5 := hb_i hb0 eh4
  replace H := H h4 eh4
  refine A_pc (pc' := 16) rfl ?_
  exact hX16 (0) (0) h4  hb5 H
theorem c_MD_through {G : cx_T} {s : Nat} {a1 : Int} {h : ah_T} {Q : Option av_T → ah_T → Prop} {X16 : Int → Int → ah_T → Prop} (hX16 : ∀ (v2 : Int) (v3 : Int) (h : ah_T), hb s h → X16 v2 v3 h → aw G (rm_R 2 0 0) m_MD_through 0 0 16 [some (av_R (some 170)), some (av_I a1), some (av_I v2), some (av_I v3)] [] h Q) (hb0 : hb s h) (H : i32 a1 → B_MD_through_0 G s a1 h Q X16) : con G 2 0 0 m_MD_through [av_R (some 170), av_I a1] h Q := by
  have hS : isS s := hb0.2.1
  refine con_of (L := [some (av_R (some 170)), some (av_I a1), none, none]) (by decide +kernel) (Nat.le_of_ble_eq_true rfl) rfl ?_
  refine A_locI 1 rfl (fun ra1 => ?_)
  exact b_MD_through_0  hX16 hb0 (H ra1)
def B_MD_lines_114 (G : cx_T) (s : Nat) (a1 : Int) (a2 : Int) (a3 : Int) (v6 : Int) (h : ah_T) (Q : Option av_T → ah_T → Prop) (X114 : Int → ah_T → Prop) : Prop :=
 ((8 ≤ v6 → con G 2 0 0 m_MD_through [av_R (some 170), av_I (-2)] h (fun r h1 => ∃ z3 : Int, r = some (av_I z3) ∧ hb s h1 ∧ ∀ h4 : ah_T, h4 = st_i h1 170 91 z3 → Q (some (av_I z3)) h4)) ∧ (¬ 8 ≤ v6 → (0 ≤ v6 ∧ v6 < 16) ∧ ∀ x9 : Int, x9 = h.2.1 176 (v6).toNat → -2147483648 ≤ x9 → x9 ≤ 2147483647 → (0 ≤ v6 ∧ v6 < 8) ∧ ∀ h12 : ah_T, h12 = st_i h 229 (v6).toNat x9 → ((-2147483648) ≤ (v6 + 1) ∧ (v6 + 1) ≤ 2147483647) ∧ X114 ((v6 + 1)) h12))
theorem b_MD_lines_114 {G : cx_T} {s : Nat} {a1 : Int} {a2 : Int} {a3 : Int} {v6 : Int} {h : ah_T} {Q : Option av_T → ah_T → Prop} {X114 : Int → ah_T → Prop} (hX114 : ∀ (v6 : Int) (h : ah_T), hb s h → X114 v6 h → aw G (rm_R 3 0 0) m_MD_lines 0 0 114 [some (av_R (some 170)), none, none, none, none, none, some (av_I v6)] [] h Q) (hb0 : hb s h) (H : B_MD_lines_114 G s a1 a2 a3 v6 h Q X114) : aw G (rm_R 3 0 0) m_MD_lines 0 0 114 [some (av_R (some 170)), none, none, none, none, none, some (av_I v6)] [] h Q := by
  unfold B_MD_lines_114 at H
  have hS : isS s := hb0.2.1
  refine A_iload d_MD_lines_114 rfl ?_
  refine A_bipush d_MD_lines_116 rfl ?_
  refine A_icmp_ge (tgt := 141) d_MD_lines_118 (by decide) (fun c => ?_) (fun c => ?_)
  · replace H := H.1 c
    refine A_aload_n 0 d_MD_lines_141 rfl rfl ?_
    refine A_aload_n 0 d_MD_lines_142 rfl rfl ?_
    refine A_bipush d_MD_lines_143 rfl ?_
    refine A_callV1 m_MD_through T_ok d_MD_lines_145 l_MD_578 k_MD_through (hb_s hb0 sf_170) rfl (by decide +kernel) (by decide) (Nat.le_of_ble_eq_true rfl) H (fun r h1 hq => ?_)
    clear H
    obtain ⟨z3, rfl, hb2, H⟩ := hq
    refine A_putI T_ok d_MD_lines_148 f_MD_480 (hb_s hb2 sf_170) fin_f ?_
    refine A_hn (fun h4 eh4 => ?_)
    have hb5 := hb_i hb2 eh4
    replace H := H h4 eh4
    refine A_aload_n 0 d_MD_lines_151 rfl rfl ?_
    refine A_getIv (z := z3) T_ok d_MD_lines_152 f_MD_480 (hb_s hb5 sf_170) (mv_i eh4) ?_
    exact A_iret d_MD_lines_155 (by decide) rfl H
  · replace H := H.2 c
    refine A_aload_n 0 d_MD_lines_121 rfl rfl ?_
    refine A_getAv (z := some 229) T_ok d_MD_lines_122 f_MD_190 (hb_s hb0 sf_170) (hb_m hb0 rfm_92) ?_
    refine A_iload d_MD_lines_125 rfl ?_
    refine A_aload_n 0 d_MD_lines_127 rfl rfl ?_
    refine A_getAv (z := some 176) T_ok d_MD_lines_128 f_MD_29 (hb_s hb0 sf_170) (hb_m hb0 rfm_18) ?_
    refine A_pc (pc' := 131) rfl ?_
    refine A_iload d_MD_lines_131 rfl ?_
    have g10 := H.1
    replace H := H.2
    refine A_ialoadf d_MD_lines_133 (hb_s hb0 sf_176) g10.1 g10.2 (fun x9 ex9 lx9 ux9 => ?_)
    replace H := H x9 ex9 lx9 ux9
    have g11 := H.1
    replace H := H.2
    refine A_iastoreN d_MD_lines_134 (hb_s hb0 sf_229) g11.1 g11.2 ?_
    refine A_hn (fun h12 eh12 => ?_)
    have hb13 := hb_i hb0 eh12
    replace H := H h12 eh12
    have g14 := H.1
    replace H := H.2
    refine A_iincv (z := (v6 + 1)) (L' := [some (av_R (some 170)), none, none, none, none, none, some (av_I (v6 + 1))]) d_MD_lines_135 rfl (w32_to (by omega) (by unfold i32; omega)) rfl ?_
    refine A_goto (tgt := 114) d_MD_lines_138 (by decide) ?_
    refine A_pc (pc' := 114) rfl ?_
    exact hX114 ((v6 + 1)) h12  hb13 H
theorem lp_MD_lines_114 {G : cx_T} {s : Nat} {a1 : Int} {a2 : Int} {a3 : Int} {Q : Option av_T → ah_T → Prop} (I : Int → ah_T → Prop) (μ : Int → ah_T → Nat) (hI : ∀ (v6 : Int) (h : ah_T), hb s h → I v6 h → B_MD_lines_114 G s a1 a2 a3 v6 h Q (fun v6' h' => I v6' h' ∧ μ v6' h' < μ v6 h)) : ∀ (v6 : Int) (h : ah_T), hb s h → I v6 h → aw G (rm_R 3 0 0) m_MD_lines 0 0 114 [some (av_R (some 170)), none, none, none, none, none, some (av_I v6)] [] h Q := by
  have key : ∀ (n : Nat) (v6 : Int) (h : ah_T), hb s h → I v6 h → μ v6 h < n → aw G (rm_R 3 0 0) m_MD_lines 0 0 114 [some (av_R (some 170)), none, none, none, none, none, some (av_I v6)] [] h Q := by
    intro n
    induction n with
    | zero => intro v6 h  hb0 hi hm; omega
    | succ n ih => intro v6 h  hb0 hi hm; exact b_MD_lines_114  (fun v6' h'  hb' hx => ih v6' h'  hb' hx.1 (by have := hx.2; omega))  hb0 (hI v6 h  hb0 hi)
  exact fun v6 h  hb0 hi => key _ v6 h  hb0 hi (Nat.lt_succ_self _)
def B_MD_lines_46 (G : cx_T) (s : Nat) (a1 : Int) (a2 : Int) (a3 : Int) (v4 : Int) (v6 : Int) (h : ah_T) (Q : Option av_T → ah_T → Prop) (X46 : Int → Int → ah_T → Prop) (X114 : Int → ah_T → Prop) : Prop :=
 ∀ x2 : Int, x2 = h.2.1 175 0 → -2147483648 ≤ x2 → x2 ≤ 2147483647 → ((x2 ≤ v6 → ∀ h3 : ah_T, h3 = st_i h 170 94 a1 → ∀ h5 : ah_T, h5 = st_i h3 170 95 a2 → ∀ h7 : ah_T, h7 = st_i h5 170 96 a3 → ∀ h11 : ah_T, h11 = st_i h7 170 93 x2 → X114 (0) h11) ∧ (¬ x2 ≤ v6 → ((-2147483648) ≤ (a2 - a1) ∧ (a2 - a1) ≤ 2147483647) ∧ ((-2147483648) ≤ (a2 - a1 + 1) ∧ (a2 - a1 + 1) ≤ 2147483647) ∧ ∀ x15 : Int, x15 = v4 * (a2 - a1 + 1) → ((-9223372036854775808) ≤ x15 ∧ x15 ≤ 9223372036854775807) ∧ ((x15 ≤ 100000 → ((-2147483648) ≤ (v6 + 1) ∧ (v6 + 1) ≤ 2147483647) ∧ X46 (x15) ((v6 + 1)) h) ∧ (¬ x15 ≤ 100000 → Q (some (av_I (-4))) h))))
theorem b_MD_lines_46 {G : cx_T} {s : Nat} {a1 : Int} {a2 : Int} {a3 : Int} {v4 : Int} {v6 : Int} {h : ah_T} {Q : Option av_T → ah_T → Prop} {X46 : Int → Int → ah_T → Prop} {X114 : Int → ah_T → Prop} (hX46 : ∀ (v4 : Int) (v6 : Int) (h : ah_T), hb s h → X46 v4 v6 h → aw G (rm_R 3 0 0) m_MD_lines 0 0 46 [some (av_R (some 170)), some (av_I a1), some (av_I a2), some (av_I a3), some (av_L v4), none, some (av_I v6)] [] h Q) (hX114 : ∀ (v6 : Int) (h : ah_T), hb s h → X114 v6 h → aw G (rm_R 3 0 0) m_MD_lines 0 0 114 [some (av_R (some 170)), none, none, none, none, none, some (av_I v6)] [] h Q) (hb0 : hb s h) (H : B_MD_lines_46 G s a1 a2 a3 v4 v6 h Q X46 X114) : aw G (rm_R 3 0 0) m_MD_lines 0 0 46 [some (av_R (some 170)), some (av_I a1), some (av_I a2), some (av_I a3), some (av_L v4), none, some (av_I v6)] [] h Q := by
  unfold B_MD_lines_46 at H
  have hS : isS s := hb0.2.1
  refine A_iload d_MD_lines_46 rfl ?_
  refine A_aload_n 0 d_MD_lines_48 rfl rfl ?_
  refine A_getAv (z := some 175) T_ok d_MD_lines_49 f_MD_26 (hb_s hb0 sf_170) (hb_m hb0 rfm_17) ?_
  refine A_iconst d_MD_lines_52 rfl ?_
  refine A_ialoadf d_MD_lines_53 (hb_s hb0 sf_175) (by decide) (by decide) (fun x2 ex2 lx2 ux2 => ?_)
  replace H := H x2 ex2 lx2 ux2
  refine A_pc (pc' := 54) rfl ?_
  refine A_icmp_ge (tgt := 86) d_MD_lines_54 (by decide) (fun c => ?_) (fun c => ?_)
  · replace H := H.1 c
    refine A_aload_n 0 d_MD_lines_86 rfl rfl ?_
    refine A_iload_n 1 d_MD_lines_87 rfl rfl ?_
    refine A_putI T_ok d_MD_lines_88 f_MD_567 (hb_s hb0 sf_170) fin_f ?_
    refine A_hn (fun h3 eh3 => ?_)
    have hb4 := hb_i hb0 eh3
    replace H := H h3 eh3
    refine A_aload_n 0 d_MD_lines_91 rfl rfl ?_
    refine A_iload_n 2 d_MD_lines_92 rfl rfl ?_
    refine A_pc (pc' := 93) rfl ?_
    refine A_putI T_ok d_MD_lines_93 f_MD_570 (hb_s hb4 sf_170) fin_f ?_
    refine A_hn (fun h5 eh5 => ?_)
    have hb6 := hb_i hb4 eh5
    replace H := H h5 eh5
    refine A_aload_n 0 d_MD_lines_96 rfl rfl ?_
    refine A_iload_n 3 d_MD_lines_97 rfl rfl ?_
    refine A_putI T_ok d_MD_lines_98 f_MD_555 (hb_s hb6 sf_170) fin_f ?_
    refine A_hn (fun h7 eh7 => ?_)
    have hb8 := hb_i hb6 eh7
    replace H := H h7 eh7
    refine A_aload_n 0 d_MD_lines_101 rfl rfl ?_
    refine A_aload_n 0 d_MD_lines_102 rfl rfl ?_
    refine A_pc (pc' := 103) rfl ?_
    refine A_getAv (z := some 175) T_ok d_MD_lines_103 f_MD_26 (hb_s hb8 sf_170) (hb_m hb8 rfm_17) ?_
    refine A_iconst d_MD_lines_106 rfl ?_
    refine A_ialoadv (z := x2) d_MD_lines_107 (hb_s hb8 sf_175) (by decide) (by decide) ((mm_i eh7 (fun q => absurd q.1 (by decide))).trans ((mm_i eh5 (fun q => absurd q.1 (by decide))).trans ((mm_i eh3 (fun q => absurd q.1 (by decide))).trans ex2.symm))) ?_
    refine A_putI T_ok d_MD_lines_108 f_MD_561 (hb_s hb8 sf_170) fin_f ?_
    refine A_hn (fun h11 eh11 => ?_)
    have hb12 := hb_i hb8 eh11
    replace H := H h11 eh11
    refine A_iconst d_MD_lines_111 rfl ?_
    refine A_istore (L' := [some (av_R (some 170)), some (av_I a1), some (av_I a2), some (av_I a3), some (av_L v4), none, some (av_I 0)]) d_MD_lines_112 (Nat.le_of_ble_eq_true rfl) rfl ?_
    refine A_pc (pc' := 114) rfl ?_
    refine A_free (L' := [some (av_R (some 170)), none, none, none, none, none, some (av_I 0)]) (And.intro rfl (And.intro rfl trivial)) ?_
    exact hX114 (0) h11  hb12 H
  · replace H := H.2 c
    refine A_lload d_MD_lines_57 rfl ?_
    refine A_iload_n 2 d_MD_lines_59 rfl rfl ?_
    refine A_iload_n 1 d_MD_lines_60 rfl rfl ?_
    have g13 := H.1
    replace H := H.2
    refine A_isubv (z := (a2 - a1)) d_MD_lines_61 (w32_to (by omega) (by unfold i32; omega)) ?_
    refine A_iconst d_MD_lines_62 rfl ?_
    refine A_pc (pc' := 63) rfl ?_
    have g14 := H.1
    replace H := H.2
    refine A_iaddv (z := (a2 - a1 + 1)) d_MD_lines_63 (w32_to (by omega) (by unfold i32; omega)) ?_
    refine A_i2l d_MD_lines_64 ?_
    obtain ⟨x15, ex15⟩ : ∃ z : Int, z = v4 * (a2 - a1 + 1) := ⟨_, rfl⟩
    replace H := H x15 ex15
    have g16 := H.1
    replace H := H.2
    refine A_lmulv (z := x15) d_MD_lines_65 (w64_to ex15.symm (by unfold i64; omega)) ?_
    refine A_lstore (L' := [some (av_R (some 170)), some (av_I a1), some (av_I a2), some (av_I a3), some (av_L x15), none, some (av_I v6)]) d_MD_lines_66 (Nat.le_of_ble_eq_true rfl) rfl ?_
    refine A_lload d_MD_lines_68 rfl ?_
    refine A_ldc2 (z := 100000) d_MD_lines_70 cst_MD_576 rfl ?_
    refine A_pc (pc' := 73) rfl ?_
    refine A_lcmpn d_MD_lines_73 (fun x17 lx17 ex17 gx17 _ _ => ?_)
    refine A_if_le (tgt := 80) d_MD_lines_74 (by decide) (fun c => ?_) (fun c => ?_)
    · replace H := H.1 (by omega)
      have g18 := H.1
      replace H := H.2
      refine A_iincv (z := (v6 + 1)) (L' := [some (av_R (some 170)), some (av_I a1), some (av_I a2), some (av_I a3), some (av_L x15), none, some (av_I (v6 + 1))]) d_MD_lines_80 rfl (w32_to (by omega) (by unfold i32; omega)) rfl ?_
      refine A_goto (tgt := 46) d_MD_lines_83 (by decide) ?_
      refine A_pc (pc' := 46) rfl ?_
      exact hX46 (x15) ((v6 + 1)) h  hb0 H
    · replace H := H.2 (by omega)
      refine A_bipush d_MD_lines_77 rfl ?_
      exact A_iret d_MD_lines_79 (by decide) rfl H
theorem lp_MD_lines_46 {G : cx_T} {s : Nat} {a1 : Int} {a2 : Int} {a3 : Int} {Q : Option av_T → ah_T → Prop} {X114 : Int → ah_T → Prop} (hX114 : ∀ (v6 : Int) (h : ah_T), hb s h → X114 v6 h → aw G (rm_R 3 0 0) m_MD_lines 0 0 114 [some (av_R (some 170)), none, none, none, none, none, some (av_I v6)] [] h Q) (I : Int → Int → ah_T → Prop) (μ : Int → Int → ah_T → Nat) (hI : ∀ (v4 : Int) (v6 : Int) (h : ah_T), hb s h → I v4 v6 h → B_MD_lines_46 G s a1 a2 a3 v4 v6 h Q (fun v4' v6' h' => I v4' v6' h' ∧ μ v4' v6' h' < μ v4 v6 h) X114) : ∀ (v4 : Int) (v6 : Int) (h : ah_T), hb s h → I v4 v6 h → aw G (rm_R 3 0 0) m_MD_lines 0 0 46 [some (av_R (some 170)), some (av_I a1), some (av_I a2), some (av_I a3), some (av_L v4), none, some (av_I v6)] [] h Q := by
  have key : ∀ (n : Nat) (v4 : Int) (v6 : Int) (h : ah_T), hb s h → I v4 v6 h → μ v4 v6 h < n → aw G (rm_R 3 0 0) m_MD_lines 0 0 46 [some (av_R (some 170)), some (av_I a1), some (av_I a2), some (av_I a3), some (av_L v4), none, some (av_I v6)] [] h Q := by
    intro n
    induction n with
    | zero => intro v4 v6 h  hb0 hi hm; omega
    | succ n ih => intro v4 v6 h  hb0 hi hm; exact b_MD_lines_46  (fun v4' v6' h'  hb' hx => ih v4' v6' h'  hb' hx.1 (by have := hx.2; omega)) hX114  hb0 (hI v4 v6 h  hb0 hi)
  exact fun v4 v6 h  hb0 hi => key _ v4 v6 h  hb0 hi (Nat.lt_succ_self _)
def B_MD_lines_26 (G : cx_T) (s : Nat) (a1 : Int) (a2 : Int) (a3 : Int) (h : ah_T) (Q : Option av_T → ah_T → Prop) : Prop :=
 Q (some (av_I (-1))) h
theorem b_MD_lines_26 {G : cx_T} {s : Nat} {a1 : Int} {a2 : Int} {a3 : Int} {h : ah_T} {Q : Option av_T → ah_T → Prop} (hb0 : hb s h) (H : B_MD_lines_26 G s a1 a2 a3 h Q ) : aw G (rm_R 3 0 0) m_MD_lines 0 0 26 [none, none, none, none, none, none, none] [] h Q := by
  unfold B_MD_lines_26 at H
  have hS : isS s := hb0.2.1
  refine A_iconst d_MD_lines_26 rfl ?_
  exact A_iret d_MD_lines_27 (by decide) rfl H
def B_MD_lines_0 (G : cx_T) (s : Nat) (a1 : Int) (a2 : Int) (a3 : Int) (h : ah_T) (Q : Option av_T → ah_T → Prop) (X46 : Int → Int → ah_T → Prop) : Prop :=
 ((a1 < 0 → B_MD_lines_26 G s a1 a2 a3 h Q ) ∧ (¬ a1 < 0 → ((120 < a2 → B_MD_lines_26 G s a1 a2 a3 h Q ) ∧ (¬ 120 < a2 → ((a2 < a1 → B_MD_lines_26 G s a1 a2 a3 h Q ) ∧ (¬ a2 < a1 → ((a3 < 0 → B_MD_lines_26 G s a1 a2 a3 h Q ) ∧ (¬ a3 < 0 → ((a3 ≤ 511 → ∀ x2 : Int, x2 = h.2.1 175 0 → -2147483648 ≤ x2 → x2 ≤ 2147483647 → ((x2 = 0 → Q (some (av_I (-2))) h) ∧ (¬ x2 = 0 → X46 (1) (0) h))) ∧ (¬ a3 ≤ 511 → B_MD_lines_26 G s a1 a2 a3 h Q ))))))))))
theorem b_MD_lines_0 {G : cx_T} {s : Nat} {a1 : Int} {a2 : Int} {a3 : Int} {h : ah_T} {Q : Option av_T → ah_T → Prop} {X46 : Int → Int → ah_T → Prop} (hX46 : ∀ (v4 : Int) (v6 : Int) (h : ah_T), hb s h → X46 v4 v6 h → aw G (rm_R 3 0 0) m_MD_lines 0 0 46 [some (av_R (some 170)), some (av_I a1), some (av_I a2), some (av_I a3), some (av_L v4), none, some (av_I v6)] [] h Q) (hb0 : hb s h) (H : B_MD_lines_0 G s a1 a2 a3 h Q X46) : aw G (rm_R 3 0 0) m_MD_lines 0 0 0 [some (av_R (some 170)), some (av_I a1), some (av_I a2), some (av_I a3), none, none, none] [] h Q := by
  unfold B_MD_lines_0 at H
  have hS : isS s := hb0.2.1
  refine A_iload_n 1 d_MD_lines_0 rfl rfl ?_
  refine A_if_lt (tgt := 26) d_MD_lines_1 (by decide) (fun c => ?_) (fun c => ?_)
  · replace H := H.1 c
    refine A_pc (pc' := 26) rfl ?_
    refine A_free (L' := [none, none, none, none, none, none, none]) trivial ?_
    exact b_MD_lines_26    hb0 H
  · replace H := H.2 c
    refine A_iload_n 2 d_MD_lines_4 rfl rfl ?_
    refine A_bipush d_MD_lines_5 rfl ?_
    refine A_icmp_gt (tgt := 26) d_MD_lines_7 (by decide) (fun c => ?_) (fun c => ?_)
    · replace H := H.1 c
      refine A_pc (pc' := 26) rfl ?_
      refine A_free (L' := [none, none, none, none, none, none, none]) trivial ?_
      exact b_MD_lines_26    hb0 H
    · replace H := H.2 c
      refine A_iload_n 1 d_MD_lines_10 rfl rfl ?_
      refine A_iload_n 2 d_MD_lines_11 rfl rfl ?_
      refine A_icmp_gt (tgt := 26) d_MD_lines_12 (by decide) (fun c => ?_) (fun c => ?_)
      · replace H := H.1 c
        refine A_pc (pc' := 26) rfl ?_
        refine A_free (L' := [none, none, none, none, none, none, none]) trivial ?_
        exact b_MD_lines_26    hb0 H
      · replace H := H.2 c
        refine A_iload_n 3 d_MD_lines_15 rfl rfl ?_
        refine A_if_lt (tgt := 26) d_MD_lines_16 (by decide) (fun c => ?_) (fun c => ?_)
        · replace H := H.1 c
          refine A_pc (pc' := 26) rfl ?_
          refine A_free (L' := [none, none, none, none, none, none, none]) trivial ?_
          exact b_MD_lines_26    hb0 H
        · replace H := H.2 c
          refine A_iload_n 3 d_MD_lines_19 rfl rfl ?_
          refine A_sipush d_MD_lines_20 rfl ?_
          refine A_icmp_le (tgt := 28) d_MD_lines_23 (by decide) (fun c => ?_) (fun c => ?_)
          · replace H := H.1 c
            refine A_aload_n 0 d_MD_lines_28 rfl rfl ?_
            refine A_getAv (z := some 175) T_ok d_MD_lines_29 f_MD_26 (hb_s hb0 sf_170) (hb_m hb0 rfm_17) ?_
            refine A_iconst d_MD_lines_32 rfl ?_
            refine A_ialoadf d_MD_lines_33 (hb_s hb0 sf_175) (by decide) (by decide) (fun x2 ex2 lx2 ux2 => ?_)
            replace H := H x2 ex2 lx2 ux2
            refine A_if_ne (tgt := 40) d_MD_lines_34 (by decide) (fun c => ?_) (fun c => ?_)
            · replace H := H.2 c
              refine A_lconst_1 d_MD_lines_40 ?_
              refine A_lstore (L' := [some (av_R (some 170)), some (av_I a1), some (av_I a2), some (av_I a3), some (av_L 1), none, none]) d_MD_lines_41 (Nat.le_of_ble_eq_true rfl) rfl ?_
              refine A_iconst d_MD_lines_43 rfl ?_
              refine A_istore (L' := [some (av_R (some 170)), some (av_I a1), some (av_I a2), some (av_I a3), some (av_L 1), none, some (av_I 0)]) d_MD_lines_44 (Nat.le_of_ble_eq_true rfl) rfl ?_
              refine A_pc (pc' := 46) rfl ?_
              exact hX46 (1) (0) h  hb0 H
            · replace H := H.1 c
              refine A_bipush d_MD_lines_37 rfl ?_
              exact A_iret d_MD_lines_39 (by decide) rfl H
          · replace H := H.2 c
            refine A_pc (pc' := 26) rfl ?_
            refine A_free (L' := [none, none, none, none, none, none, none]) trivial ?_
            exact b_MD_lines_26    hb0 H
theorem c_MD_lines {G : cx_T} {s : Nat} {a1 : Int} {a2 : Int} {a3 : Int} {h : ah_T} {Q : Option av_T → ah_T → Prop} {X46 : Int → Int → ah_T → Prop} (hX46 : ∀ (v4 : Int) (v6 : Int) (h : ah_T), hb s h → X46 v4 v6 h → aw G (rm_R 3 0 0) m_MD_lines 0 0 46 [some (av_R (some 170)), some (av_I a1), some (av_I a2), some (av_I a3), some (av_L v4), none, some (av_I v6)] [] h Q) (hb0 : hb s h) (H : i32 a1 → i32 a2 → i32 a3 → B_MD_lines_0 G s a1 a2 a3 h Q X46) : con G 3 0 0 m_MD_lines [av_R (some 170), av_I a1, av_I a2, av_I a3] h Q := by
  have hS : isS s := hb0.2.1
  refine con_of (L := [some (av_R (some 170)), some (av_I a1), some (av_I a2), some (av_I a3), none, none, none]) (by decide +kernel) (Nat.le_of_ble_eq_true rfl) rfl ?_
  refine A_locI 1 rfl (fun ra1 => ?_)
  refine A_locI 2 rfl (fun ra2 => ?_)
  refine A_locI 3 rfl (fun ra3 => ?_)
  exact b_MD_lines_0  hX46 hb0 (H ra1 ra2 ra3)
def B_MD_second_24 (G : cx_T) (s : Nat) (a1 : Int) (a2 : Int) (h : ah_T) (Q : Option av_T → ah_T → Prop) : Prop :=
 Q (some (av_I (-1))) h
theorem b_MD_second_24 {G : cx_T} {s : Nat} {a1 : Int} {a2 : Int} {h : ah_T} {Q : Option av_T → ah_T → Prop} (hb0 : hb s h) (H : B_MD_second_24 G s a1 a2 h Q ) : aw G (rm_R 3 0 0) m_MD_second 0 0 24 [none, none, none, none] [] h Q := by
  unfold B_MD_second_24 at H
  have hS : isS s := hb0.2.1
  refine A_iconst d_MD_second_24 rfl ?_
  exact A_iret d_MD_second_25 (by decide) rfl H
def B_MD_second_0 (G : cx_T) (s : Nat) (a1 : Int) (a2 : Int) (h : ah_T) (Q : Option av_T → ah_T → Prop) : Prop :=
 ((a1 < 0 → B_MD_second_24 G s a1 a2 h Q ) ∧ (¬ a1 < 0 → ∀ x1 : Int, x1 = h.2.1 170 91 → -2147483648 ≤ x1 → x1 ≤ 2147483647 → ((x1 ≤ a1 → B_MD_second_24 G s a1 a2 h Q ) ∧ (¬ x1 ≤ a1 → ((a2 < 0 → B_MD_second_24 G s a1 a2 h Q ) ∧ (¬ a2 < 0 → ∀ x2 : Int, x2 = h.2.1 170 93 → -2147483648 ≤ x2 → x2 ≤ 2147483647 → ((a2 < x2 → con G 2 0 0 m_MD_through [av_R (some 170), av_I a1] h (fun r h3 => ∃ z5 : Int, r = some (av_I z5) ∧ hb s h3 ∧ (0 ≤ a2 ∧ a2 < 8) ∧ ∀ x7 : Int, x7 = h3.2.1 230 (a2).toNat → -2147483648 ≤ x7 → x7 ≤ 2147483647 → Q (some (av_I x7)) h3)) ∧ (¬ a2 < x2 → B_MD_second_24 G s a1 a2 h Q ))))))))
theorem b_MD_second_0 {G : cx_T} {s : Nat} {a1 : Int} {a2 : Int} {h : ah_T} {Q : Option av_T → ah_T → Prop} (hb0 : hb s h) (H : B_MD_second_0 G s a1 a2 h Q ) : aw G (rm_R 3 0 0) m_MD_second 0 0 0 [some (av_R (some 170)), some (av_I a1), some (av_I a2), none] [] h Q := by
  unfold B_MD_second_0 at H
  have hS : isS s := hb0.2.1
  refine A_iload_n 1 d_MD_second_0 rfl rfl ?_
  refine A_if_lt (tgt := 24) d_MD_second_1 (by decide) (fun c => ?_) (fun c => ?_)
  · replace H := H.1 c
    refine A_pc (pc' := 24) rfl ?_
    refine A_free (L' := [none, none, none, none]) trivial ?_
    exact b_MD_second_24    hb0 H
  · replace H := H.2 c
    refine A_iload_n 1 d_MD_second_4 rfl rfl ?_
    refine A_aload_n 0 d_MD_second_5 rfl rfl ?_
    refine A_getIf T_ok d_MD_second_6 f_MD_480 (hb_s hb0 sf_170) (fun x1 ex1 lx1 ux1 => ?_)
    replace H := H x1 ex1 lx1 ux1
    refine A_icmp_ge (tgt := 24) d_MD_second_9 (by decide) (fun c => ?_) (fun c => ?_)
    · replace H := H.1 c
      refine A_pc (pc' := 24) rfl ?_
      refine A_free (L' := [none, none, none, none]) trivial ?_
      exact b_MD_second_24    hb0 H
    · replace H := H.2 c
      refine A_iload_n 2 d_MD_second_12 rfl rfl ?_
      refine A_if_lt (tgt := 24) d_MD_second_13 (by decide) (fun c => ?_) (fun c => ?_)
      · replace H := H.1 c
        refine A_pc (pc' := 24) rfl ?_
        refine A_free (L' := [none, none, none, none]) trivial ?_
        exact b_MD_second_24    hb0 H
      · replace H := H.2 c
        refine A_iload_n 2 d_MD_second_16 rfl rfl ?_
        refine A_aload_n 0 d_MD_second_17 rfl rfl ?_
        refine A_getIf T_ok d_MD_second_18 f_MD_561 (hb_s hb0 sf_170) (fun x2 ex2 lx2 ux2 => ?_)
        replace H := H x2 ex2 lx2 ux2
        refine A_icmp_lt (tgt := 26) d_MD_second_21 (by decide) (fun c => ?_) (fun c => ?_)
        · replace H := H.1 c
          refine A_aload_n 0 d_MD_second_26 rfl rfl ?_
          refine A_iload_n 1 d_MD_second_27 rfl rfl ?_
          refine A_callV1 m_MD_through T_ok d_MD_second_28 l_MD_578 k_MD_through (hb_s hb0 sf_170) rfl (by decide +kernel) (by decide) (Nat.le_of_ble_eq_true rfl) H (fun r h3 hq => ?_)
          clear H
          obtain ⟨z5, rfl, hb4, H⟩ := hq
          refine A_istore_n 3 (L' := [some (av_R (some 170)), some (av_I a1), some (av_I a2), some (av_I z5)]) d_MD_second_31 rfl (Nat.le_of_ble_eq_true rfl) rfl ?_
          refine A_aload_n 0 d_MD_second_32 rfl rfl ?_
          refine A_getAv (z := some 230) T_ok d_MD_second_33 f_MD_193 (hb_s hb4 sf_170) (hb_m hb4 rfm_97) ?_
          refine A_iload_n 2 d_MD_second_36 rfl rfl ?_
          have g8 := H.1
          replace H := H.2
          refine A_ialoadf d_MD_second_37 (hb_s hb4 sf_230) g8.1 g8.2 (fun x7 ex7 lx7 ux7 => ?_)
          replace H := H x7 ex7 lx7 ux7
          refine A_pc (pc' := 38) rfl ?_
          exact A_iret d_MD_second_38 (by decide) rfl H
        · replace H := H.2 c
          refine A_pc (pc' := 24) rfl ?_
          refine A_free (L' := [none, none, none, none]) trivial ?_
          exact b_MD_second_24    hb0 H
theorem c_MD_second {G : cx_T} {s : Nat} {a1 : Int} {a2 : Int} {h : ah_T} {Q : Option av_T → ah_T → Prop} (hb0 : hb s h) (H : i32 a1 → i32 a2 → B_MD_second_0 G s a1 a2 h Q ) : con G 3 0 0 m_MD_second [av_R (some 170), av_I a1, av_I a2] h Q := by
  have hS : isS s := hb0.2.1
  refine con_of (L := [some (av_R (some 170)), some (av_I a1), some (av_I a2), none]) (by decide +kernel) (Nat.le_of_ble_eq_true rfl) rfl ?_
  refine A_locI 1 rfl (fun ra1 => ?_)
  refine A_locI 2 rfl (fun ra2 => ?_)
  exact b_MD_second_0   hb0 (H ra1 ra2)
