/-! ===== second voices, the class: going through all rows ===== -/
def tb64 (w : Int) (k : Nat) : Bool := (Int64.ofInt w).toBitVec.getLsbD k
set_option maxRecDepth 100000 in
theorem one_sh : ∀ k : Nat, k < 64 → ∀ i : Nat, i < 64 → ((Int64.ofInt 1) <<< ((Int32.ofInt (k : Int)).toInt64 &&& 63)).toBitVec.getLsbD i = decide (i = k) := by decide +kernel
theorem tb_or {x4 x7 x8 : Int} {k i : Nat} (hk : k < 64) (hi : i < 64) (e7 : x7 = ((Int64.ofInt 1) <<< ((Int32.ofInt (k : Int)).toInt64 &&& 63)).toInt) (e8 : x8 = ((Int64.ofInt x4) ||| (Int64.ofInt x7)).toInt) : tb64 x8 i = (tb64 x4 i || decide (i = k)) := by
  unfold tb64
  rw [e8, Int64.ofInt_toInt, Int64.toBitVec_or, BitVec.getLsbD_or, e7, Int64.ofInt_toInt, one_sh k hk i hi]
/-- the rows that were found: how many, and a bit for each -/
def BLs (l : List Nat) (h : ah_T) : Prop := h.2.1 158 1 = (l.length : Int) ∧ ∀ r, r < 100032 → (tb64 (h.2.2.1 159 (r / 64)) (r % 64) = true ↔ r ∈ l)
abbrev JWk : Nat → Nat → Prop := fun a k => a = 159 ∨ (a = 158 ∧ k = 1)
abbrev JWe : Nat → Nat → Prop := fun a k => a = 159 ∨ (a = 158 ∧ k = 1) ∨ a = 161
theorem fr_ke {h h' : ah_T} (f : fr JWk h h') : fr JWe h h' := fr_w f (fun a k w => by omega)
section
variable {G : cx_T} {s : Nat} {h : ah_T} {low : Int} {sp n : Nat} {R : Int} {ln : Nat → Int}
theorem PRc_f {W : Nat → Nat → Prop} {h' : ah_T} (H : PRc low sp n R ln h) (f : fr W h h') (hW : ∀ a k, W a k → a ≠ 160 ∧ ¬ (a = 158 ∧ 2 ≤ k)) : PRc low sp n R ln h' := by
  obtain ⟨⟨h1, h2, h3, h4⟩, h5⟩ := H
  have g : ∀ a k, a = 160 ∨ (a = 158 ∧ 2 ≤ k) → h'.2.1 a k = h.2.1 a k := fun a k q => fr_g f (fun w => by have := hW a k w; omega)
  exact ⟨⟨(g _ _ (by omega)).trans h1, (g _ _ (by omega)).trans h2, (g _ _ (by omega)).trans h3, (g _ _ (by omega)).trans h4⟩, fun j hj => (g _ _ (by omega)).trans (h5 j hj)⟩
theorem JWe_p : ∀ a k, JWe a k → a ≠ 160 ∧ ¬ (a = 158 ∧ 2 ≤ k) := by
  intro a k w
  rcases w with w | w | w <;> omega
theorem j_keep {row : Nat} {l : List Nat} (hb0 : hb s h) (B : BLs l h) (hr : row < 100032) (hl : l.length < 2000000000) : con G 0 0 0 m_Seconds_keep [av_R (some 158), av_I (row : Int)] h (fun r h' => r = none ∧ hb s h' ∧ fr JWk h h' ∧ BLs (l ++ [row]) h') := by
  refine c_Seconds_keep hb0 (fun _ => ?_)
  unfold B_Seconds_keep_0 B_Seconds_keep_43
  intro x1 e1 _ _
  have ex : x1 = ((row / 2 ^ 6 : Nat) : Int) := e1.trans (un_shr (by omega) (by decide +kernel))
  subst ex
  have e64 : row / 2 ^ 6 = row / 64 := rfl
  rw [e64, tn_c]
  refine ⟨fun q => by omega, fun q => ⟨fun q2 => by omega, fun q2 => ⟨by omega, fun x4 e4 _ _ x6 e6 _ _ x7 e7 _ _ x8 e8 _ _ h9 e9 x11 e11 _ _ => ?_⟩⟩⟩
  have ex : x6 = ((row % 2 ^ 6 : Nat) : Int) := e6.trans (un_and (m := 63) (by omega) (by decide +kernel) (by decide))
  subst ex
  have e65 : row % 2 ^ 6 = row % 64 := rfl
  rw [e65] at e7
  have ex : x11 = (l.length : Int) := by
    rw [e11, mm_lo e9]
    exact B.1
  subst ex
  refine ⟨⟨by omega, by omega⟩, fun h13 e13 => ⟨rfl, hb_i (hb_l hb0 e9) e13, fr_i (fr_l fr_0 e9 (by omega)) e13 (by omega), ?_, fun r hr2 => ?_⟩⟩
  · rw [mv_i e13, List.length_append]
    rfl
  · rw [List.mem_append, List.mem_singleton, mm_io e13]
    by_cases cq : r / 64 = row / 64
    · rw [cq, mv_l e9, tb_or (Nat.mod_lt _ (by decide)) (Nat.mod_lt _ (by decide)) e7 e8, Bool.or_eq_true, decide_eq_true_eq, e4, ← cq, B.2 r hr2]
      constructor
      · rintro (w | w)
        · exact Or.inl w
        · exact Or.inr (by omega)
      · rintro (w | w)
        · exact Or.inl w
        · exact Or.inr (by omega)
    · rw [mm_l e9 (by omega), B.2 r hr2]
      constructor
      · exact fun w => Or.inl w
      · rintro (w | w)
        · exact w
        · exact absurd (by rw [w]) cq
theorem rwF_l {P : Int → List Int → Prop} : ∀ (f : Nat) (p : List Int), (rwF low sp P f p).length ≤ sp ^ f
  | 0, p => by show 1 ≤ 1; decide
  | f + 1, p => by
    have key : ∀ k, (rws (catF (stp low sp P f p) k 0)).length ≤ k * sp ^ f := by
      intro k
      induction k with
      | zero => exact Nat.zero_le _
      | succ k ih =>
        rw [catF_s, rws_a, List.length_append, rws_stp, Nat.succ_mul]
        have := rwF_l (P := P) f ((low + ((0 + k : Nat) : Int)) :: p)
        by_cases c : P (low + ((0 + k : Nat) : Int)) p
        · rw [dif_t c]; omega
        · rw [dif_f c]; show _ + 0 ≤ _; omega
    show (rws (tvF low sp P f p)).length ≤ sp ^ (f + 1)
    rw [rws_tv, Nat.pow_succ, Nat.mul_comm]
    exact key sp
theorem j_ext0 {g : Nat} {p : List Int} {l : List Nat} (hg : PRg low sp n ln) (hN : sp ^ n ≤ 100000) (pn : p.length = n) (hb0 : hb s h) (H : PRc low sp n R ln h) (kr : KRg low sp p) (B : BLs l h) (hl : l.length + 1 ≤ 100000) : con G (g + 4) 0 0 m_Seconds_extend [av_R (some 158), av_I (p.length : Int), av_I (rowL low sp p : Int)] h (fun r h' => r = none ∧ hb s h' ∧ fr JWe h h' ∧ (∀ j, j < p.length → h'.2.1 161 j = h.2.1 161 j) ∧ BLs (l ++ rwF low sp (fP R ln n) 0 p) h') := by
  obtain ⟨⟨g1, g2⟩, g3, ⟨g4, g5⟩, g6⟩ := hg
  have rb := rowL_b g3 p kr
  rw [pn] at rb
  refine c_Seconds_extend (dd := g + 3) (by omega) (X25 := fun _ _ => False) (fun _ _ _ x => x.elim) hb0 (fun _ _ => ?_)
  unfold B_Seconds_extend_0 B_Seconds_extend_17
  intro x1 e1 _ _
  have ex := e1.trans H.1.2.2.1
  subst ex
  refine ⟨fun _ => ?_, fun q => by omega⟩
  refine con_mono (j_keep hb0 B (row := rowL low sp p) (by omega) (by omega)) ?_
  rintro r h2 ⟨rfl, hb2, f2, B2⟩
  exact ⟨rfl, hb2, rfl, hb2, fr_ke f2, fun j _ => fr_g f2 (by omega), B2⟩
theorem j_ext (hg : PRg low sp n ln) (hN : sp ^ n ≤ 100000) : ∀ (g f : Nat) {h : ah_T} {p : List Int} {l : List Nat}, p.length + g = 8 → p.length + f = n → hb s h → PRc low sp n R ln h → KLs 161 p h → KRg low sp p → BLs l h → l.length + sp ^ f ≤ 100000 → con G (g + 4) 0 0 m_Seconds_extend [av_R (some 158), av_I (p.length : Int), av_I (rowL low sp p : Int)] h (fun r h' => r = none ∧ hb s h' ∧ fr JWe h h' ∧ (∀ j, j < p.length → h'.2.1 161 j = h.2.1 161 j) ∧ BLs (l ++ rwF low sp (fP R ln n) f p) h') := by
  obtain ⟨⟨g1, g2⟩, g3, ⟨g4, g5⟩, g6⟩ := id hg
  intro g
  induction g with
  | zero =>
    intro f h p l hlen hp hb0 H K kr B hl
    cases f with
    | zero => exact j_ext0 hg hN (by omega) hb0 H kr B hl
    | succ f => omega
  | succ g ih0 =>
    intro f h p l hlen hp hb0 H K kr B hl
    cases f with
    | zero => exact j_ext0 hg hN (by omega) hb0 H kr B hl
    | succ f =>
    have ih := @ih0 f
    have rb := rowL_b g3 p kr
    have pw : sp ^ (p.length + 1) ≤ sp ^ n := Nat.pow_le_pow_right g3 (by omega)
    have rb2 : rowL low sp p * sp + sp ≤ 100000 := by
      have : (rowL low sp p + 1) * sp ≤ sp ^ p.length * sp := Nat.mul_le_mul_right _ rb
      have e : sp ^ (p.length + 1) = sp ^ p.length * sp := Nat.pow_succ ..
      rw [Nat.add_mul, Nat.one_mul, ← e] at this
      omega
    generalize eF : stp low sp (fP R ln n) f p = F
    have lF : ∀ k, k ≤ sp → (rws (catF F k 0)).length ≤ k * sp ^ f := by
      intro k
      induction k with
      | zero => intro _; exact Nat.zero_le _
      | succ k ih2 =>
        intro hk
        have i2 := ih2 (by omega)
        have w := rwF_l (low := low) (sp := sp) (P := fP R ln n) f ((low + ((0 + k : Nat) : Int)) :: p)
        rw [catF_s, rws_a, List.length_append, ← eF, rws_stp, Nat.succ_mul]
        rw [← eF] at i2
        by_cases c : fP R ln n (low + ((0 + k : Nat) : Int)) p
        · rw [dif_t c]; omega
        · rw [dif_f c]; show _ + 0 ≤ _; omega
    refine c_Seconds_extend (dd := g + 4) (by omega) (X25 := fun v3 hh => fr JWe h hh ∧ (∀ j, j < p.length → hh.2.1 161 j = h.2.1 161 j) ∧ ∃ d : Nat, v3 = (d : Int) ∧ d ≤ sp ∧ BLs (l ++ rws (catF F d 0)) hh) ?_ hb0 (fun _ _ => ?_)
    · refine lp_Seconds_extend_25 (by omega) _ (fun v3 _ => (200 - v3).toNat) ?_
      rintro v3 hh hb1 ⟨fw, k6, d, rfl, hd, B1⟩
      have H1 := PRc_f H fw JWe_p
      unfold B_Seconds_extend_25
      intro x1 e1 _ _
      have ex := e1.trans H1.1.2.1
      subst ex
      refine ⟨fun q => ⟨rfl, hb1, fw, k6, ?_⟩, fun q x3 e3 _ _ => ?_⟩
      · have : d = sp := by omega
        subst this
        show BLs (l ++ rws (tvF low d (fP R ln n) f p)) hh
        rw [rws_tv, eF]
        exact B1
      have ex := (e3.trans H1.1.1).symm
      subst ex
      refine ⟨⟨by omega, by omega⟩, by omega, fun h6 e6 => ?_⟩
      rw [tn_c] at e6
      have hb6 := hb_i hb1 e6
      have f6 : fr JWe h h6 := fr_i fw e6 (by omega)
      have H6 := PRc_f H f6 JWe_p
      have c6 : h6.2.1 161 p.length = low + (d : Int) := mv_i e6
      have k66 : ∀ j, j < p.length → h6.2.1 161 j = h.2.1 161 j := fun j hj => by rw [mm_i e6 (by omega)]; exact k6 j hj
      have K6 : KLs 161 ((low + (d : Int)) :: p) h6 := ⟨c6, KLs_e p K k66⟩
      have B6 : BLs (l ++ rws (catF F d 0)) h6 := by
        refine ⟨by rw [mm_i e6 (by omega)]; exact B1.1, fun r hr => ?_⟩
        rw [mm_io e6]
        exact B1.2 r hr
      have kr6 : KRg low sp ((low + (d : Int)) :: p) := KRg_c ⟨by omega, by omega⟩ kr
      have cs : catF F (d + 1) 0 = catF F d 0 ++ F d := by rw [catF_s, Nat.zero_add]
      -- behind the digit
      have t93 : ∀ {h7 : ah_T}, hb s h7 → fr JWe h h7 → (∀ j, j < p.length → h7.2.1 161 j = h.2.1 161 j) → BLs (l ++ rws (catF F (d + 1) 0)) h7 → B_Seconds_extend_93 G s (g + 4) (p.length : Int) (rowL low sp p : Int) (d : Int) h7 (fun r h' => r = none ∧ hb s h' ∧ fr JWe h h' ∧ (∀ j, j < p.length → h'.2.1 161 j = h.2.1 161 j) ∧ BLs (l ++ rwF low sp (fP R ln n) (f + 1) p) h') (fun v3' h' => (fr JWe h h' ∧ (∀ j, j < p.length → h'.2.1 161 j = h.2.1 161 j) ∧ ∃ d : Nat, v3' = (d : Int) ∧ d ≤ sp ∧ BLs (l ++ rws (catF F d 0)) h') ∧ (200 - v3').toNat < (200 - (d : Int)).toNat) := by
        intro h7 hb7 f7 k7 B7
        unfold B_Seconds_extend_93
        exact ⟨⟨by omega, by omega⟩, ⟨f7, k7, d + 1, by omega, by omega, B7⟩, by omega⟩
      have no : ¬ fP R ln n (low + (d : Int)) p → B_Seconds_extend_93 G s (g + 4) (p.length : Int) (rowL low sp p : Int) (d : Int) h6 (fun r h' => r = none ∧ hb s h' ∧ fr JWe h h' ∧ (∀ j, j < p.length → h'.2.1 161 j = h.2.1 161 j) ∧ BLs (l ++ rwF low sp (fP R ln n) (f + 1) p) h') (fun v3' h' => (fr JWe h h' ∧ (∀ j, j < p.length → h'.2.1 161 j = h.2.1 161 j) ∧ ∃ d : Nat, v3' = (d : Int) ∧ d ≤ sp ∧ BLs (l ++ rws (catF F d 0)) h') ∧ (200 - v3').toNat < (200 - (d : Int)).toNat) := by
        intro nf
        refine t93 hb6 f6 k66 ?_
        have e0 : rws (F d) = [] := by rw [← eF, rws_stp, dif_f nf]
        rw [cs, rws_a, e0, List.append_nil]
        exact B6
      have yes : fP R ln n (low + (d : Int)) p → B_Seconds_extend_78 G s (g + 4) (p.length : Int) (rowL low sp p : Int) (d : Int) h6 (fun r h' => r = none ∧ hb s h' ∧ fr JWe h h' ∧ (∀ j, j < p.length → h'.2.1 161 j = h.2.1 161 j) ∧ BLs (l ++ rwF low sp (fP R ln n) (f + 1) p) h') (fun v3' h' => (fr JWe h h' ∧ (∀ j, j < p.length → h'.2.1 161 j = h.2.1 161 j) ∧ ∃ d : Nat, v3' = (d : Int) ∧ d ≤ sp ∧ BLs (l ++ rws (catF F d 0)) h') ∧ (200 - v3').toNat < (200 - (d : Int)).toNat) := by
        intro yf
        have lk := lF d hd
        have e0 : rws (F d) = rwF low sp (fP R ln n) f ((low + (d : Int)) :: p) := by rw [← eF, rws_stp, dif_t yf]
        have er : rowL low sp ((low + (d : Int)) :: p) = rowL low sp p * sp + d := by
          show rowL low sp p * sp + (low + (d : Int) - low).toNat = _
          omega
        have i1 := ih (h := h6) (p := (low + (d : Int)) :: p) (l := l ++ rws (catF F d 0)) (by show p.length + 1 + g = 8; omega) (by show p.length + 1 + f = n; omega) hb6 H6 K6 kr6 B6 (by
          rw [List.length_append]
          have : (d + 1) * sp ^ f ≤ sp * sp ^ f := Nat.mul_le_mul_right _ (by omega)
          rw [Nat.pow_succ, Nat.mul_comm] at hl
          rw [Nat.succ_mul] at this
          omega)
        unfold B_Seconds_extend_78
        refine ⟨⟨by omega, by omega⟩, fun x2 e2 _ _ x3 e3 => ?_⟩
        have ex := e2.trans H6.1.2.1
        subst ex
        have ex : x3 = ((rowL low sp p * sp : Nat) : Int) := by rw [e3, Int.natCast_mul]
        subst ex
        refine ⟨⟨by omega, by omega⟩, ⟨by omega, by omega⟩, ?_⟩
        rw [er] at i1
        rw [show (p.length : Int) + 1 = (((low + (d : Int)) :: p).length : Int) from rfl, show ((rowL low sp p * sp : Nat) : Int) + (d : Int) = ((rowL low sp p * sp + d : Nat) : Int) by omega]
        refine con_mono i1 ?_
        rintro r h7 ⟨rfl, hb7, f7, k7, B7⟩
        refine ⟨rfl, hb7, t93 hb7 (fr_t f6 f7 (fun _ _ w => w)) (fun j hj => (k7 j (Nat.lt_succ_of_lt hj)).trans (k66 j hj)) ?_⟩
        rw [cs, rws_a, e0, ← List.append_assoc]
        exact B7
      refine con_mono (j_alone2 hb6 H6 hg (i := p.length) (by omega) c6 (KRg_h kr6)) ?_
      rintro r h8 ⟨z, rfl, hb8, rfl, zz⟩
      refine ⟨z, rfl, hb8, fun q0 => no (fun w => ?_), fun q0 => ?_⟩
      · have nA : ¬ fA R ln n (low + (d : Int)) p.length := by
          rcases zz with ⟨-, w2⟩ | ⟨w2, -⟩
          · exact w2
          · omega
        cases p with
        | nil => exact nA w
        | cons y p1 => cases p1 with
          | nil => exact nA w.1
          | cons y2 p2 => exact nA w.1
      have yA : fA R ln n (low + (d : Int)) p.length := by
        rcases zz with ⟨w2, -⟩ | ⟨-, w2⟩
        · exact absurd w2 q0
        · exact w2
      unfold B_Seconds_extend_65
      cases p with
      | nil =>
        refine ⟨fun _ => ⟨fun _ => yes yA, fun q1 => absurd (show (([] : List Int).length : Int) < 2 by decide) q1⟩, fun q1 => absurd (show (([] : List Int).length : Int) = 0 from rfl) q1⟩
      | cons y p1 =>
        have cy : h8.2.1 161 p1.length = y := K6.2.1
        have yr := KRg_h kr
        refine ⟨fun q1 => by have : ((p1.length + 1 : Nat) : Int) = 0 := q1; omega, fun _ => ?_⟩
        refine con_mono (j_behind hb8 H6 hg (i := p1.length) (by have : p1.length + 1 + (f + 1) = n := hp; omega) c6 cy (KRg_h kr6) yr) ?_
        rintro r h9 ⟨z2, rfl, hb9, rfl, zz2⟩
        refine ⟨z2, rfl, hb9, fun q2 => no (fun w => ?_), fun q2 => ?_⟩
        · have nB : ¬ fB R ln (low + (d : Int)) y p1.length := by
            rcases zz2 with ⟨-, w2⟩ | ⟨w2, -⟩
            · exact w2
            · omega
          cases p1 with
          | nil => exact nB w.2
          | cons y2 p2 => exact nB w.2.1
        have yB : fB R ln (low + (d : Int)) y p1.length := by
          rcases zz2 with ⟨w2, -⟩ | ⟨-, w2⟩
          · exact absurd w2 q2
          · exact w2
        cases p1 with
        | nil => exact ⟨fun _ => yes ⟨yA, yB⟩, fun q3 => absurd (show (((0 + 1 : Nat)) : Int) < 2 by decide) q3⟩
        | cons y2 p2 =>
          have cy2 : h9.2.1 161 p2.length = y2 := K6.2.2.1
          refine ⟨fun q3 => by have : ((p2.length + 2 : Nat) : Int) < 2 := q3; omega, fun _ => ?_⟩
          refine con_mono (j_leap hb9 H6 hg (i := p2.length) (by have : p2.length + 1 + 1 + (f + 1) = n := hp; omega) c6 cy cy2 (KRg_h kr6) yr (KRg_h (KRg_t kr))) ?_
          rintro r h10 ⟨z3, rfl, hb10, rfl, zz3⟩
          refine ⟨z3, rfl, hb10, fun q4 => no (fun w => ?_), fun q4 => yes ⟨yA, yB, ?_⟩⟩
          · rcases zz3 with ⟨-, w2⟩ | ⟨w2, -⟩
            · exact w2 w.2.2
            · omega
          · rcases zz3 with ⟨w2, -⟩ | ⟨-, w2⟩
            · exact absurd w2 q4
            · exact w2
    · unfold B_Seconds_extend_0
      intro x1 e1 _ _
      have ex := e1.trans H.1.2.2.1
      subst ex
      refine ⟨fun q => by omega, fun q => ⟨fun _ => ⟨fr_0, fun _ _ => rfl, 0, rfl, Nat.zero_le _, ?_⟩, fun q2 => by omega⟩⟩
      show BLs (l ++ []) h
      rw [List.append_nil]
      exact B
end
