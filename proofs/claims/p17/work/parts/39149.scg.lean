/-! ===== second voices, the class: whether a key fits behind others ===== -/
section
variable {G : cx_T} {s : Nat} {h : ah_T} {low : Int} {sp n : Nat} {R : Int} {ln : Nat → Int}
theorem abs_i {x z : Int} (hx : -1000 ≤ x ∧ x ≤ 1000) (e : z = (if 0 ≤ x then x else w32 (0 - x))) : (0 ≤ x ∧ z = x) ∨ (x < 0 ∧ z = -x) := by
  split at e
  · exact Or.inl ⟨by assumption, e⟩
  · rw [w32_id (by unfold i32; omega)] at e
    exact Or.inr ⟨by omega, by omega⟩
theorem j_behind {i : Nat} {x y : Int} (hb0 : hb s h) (H : PRc low sp n R ln h) (hg : PRg low sp n ln) (hi : i + 1 < n) (hx : h.2.1 161 (i + 1) = x) (hy : h.2.1 161 i = y) (xb : low ≤ x ∧ x < low + sp) (yb : low ≤ y ∧ y < low + sp) : con G 2 0 0 m_Seconds_fitsBehind [av_R (some 158), av_I ((i + 1 : Nat) : Int)] h (fun r h' => ∃ z : Int, r = some (av_I z) ∧ hb s h' ∧ h' = h ∧ Tld (fB R ln x y i) z) := by
  obtain ⟨⟨g1, g2⟩, g3, ⟨g4, g5⟩, g6⟩ := hg
  have lb := g6 i (by omega)
  have lb1 := g6 (i + 1) hi
  refine c_Seconds_fitsBehind hb0 (fun _ => ?_)
  have no : ¬ fB R ln x y i → ∃ z : Int, some (av_I 0) = some (av_I z) ∧ hb s h ∧ h = h ∧ Tld (fB R ln x y i) z := fun w => ⟨0, rfl, hb0, rfl, Or.inl ⟨rfl, w⟩⟩
  have t187 : fB R ln x y i → B_Seconds_fitsBehind_187 G s ((i + 1 : Nat) : Int) h (fun r h' => ∃ z : Int, r = some (av_I z) ∧ hb s h' ∧ h' = h ∧ Tld (fB R ln x y i) z) := fun w => by
    unfold B_Seconds_fitsBehind_187 B_Seconds_fitsBehind_192
    exact ⟨Or.inr rfl, 1, rfl, hb0, rfl, Or.inr ⟨rfl, w⟩⟩
  have t173 : (Ask R 4 → ¬ (PFc ((x - ln (i + 1)) % 12) ∧ x - y ≠ 0 ∧ (y - ln i) % 12 = (x - ln (i + 1)) % 12)) → (Ask R 8 → ¬ (PFc ((x - ln (i + 1)) % 12) ∧ ((0 < x - y ∧ 0 < ln (i + 1) - ln i) ∨ (x - y < 0 ∧ ln (i + 1) - ln i < 0)))) → (Ask R 16 → (-7 ≤ x - y ∧ x - y ≤ 7) ∨ x - y = 12 ∨ x - y = -12) → B_Seconds_fitsBehind_173 G s ((i + 1 : Nat) : Int) (x - y) h (fun r h' => ∃ z : Int, r = some (av_I z) ∧ hb s h' ∧ h' = h ∧ Tld (fB R ln x y i) z) := fun a1 a2 a3 => by
    unfold B_Seconds_fitsBehind_173
    refine con_mono (j_asks hb0 H) ?_
    rintro r h2 ⟨z, rfl, hb2, rfl, zz⟩
    refine ⟨z, rfl, hb2, fun q => t187 ⟨a1, a2, a3, fun w => ?_⟩, fun q => ⟨fun q2 => ?_, fun q2 => t187 ⟨a1, a2, a3, fun _ => q2⟩⟩⟩
    · rcases zz with ⟨-, w2⟩ | ⟨w2, -⟩
      · exact absurd w w2
      · omega
    · unfold B_Seconds_fitsBehind_192
      refine ⟨Or.inl rfl, no (fun w => ?_)⟩
      rcases zz with ⟨w2, -⟩ | ⟨-, w2⟩
      · exact q w2
      · exact w.2.2.2 w2 q2
  have t142 : (Ask R 4 → ¬ (PFc ((x - ln (i + 1)) % 12) ∧ x - y ≠ 0 ∧ (y - ln i) % 12 = (x - ln (i + 1)) % 12)) → (Ask R 8 → ¬ (PFc ((x - ln (i + 1)) % 12) ∧ ((0 < x - y ∧ 0 < ln (i + 1) - ln i) ∨ (x - y < 0 ∧ ln (i + 1) - ln i < 0)))) → B_Seconds_fitsBehind_142 G s ((i + 1 : Nat) : Int) (x - y) h (fun r h' => ∃ z : Int, r = some (av_I z) ∧ hb s h' ∧ h' = h ∧ Tld (fB R ln x y i) z) := fun a1 a2 => by
    unfold B_Seconds_fitsBehind_142
    refine con_mono (j_asks hb0 H) ?_
    rintro r h2 ⟨z, rfl, hb2, rfl, zz⟩
    refine ⟨z, rfl, hb2, fun q => t173 a1 a2 (fun w => ?_), fun q x4 e4 _ _ => ?_⟩
    · rcases zz with ⟨-, w2⟩ | ⟨w2, -⟩
      · exact absurd w w2
      · omega
    · have ak : Ask R 16 := by
        rcases zz with ⟨w2, -⟩ | ⟨-, w2⟩
        · exact absurd w2 q
        · exact w2
      have a4 := abs_i (by omega) e4
      refine ⟨fun q2 => t173 a1 a2 (fun _ => by omega), fun q2 x5 e5 _ _ => ?_⟩
      have a5 := abs_i (by omega) e5
      refine ⟨fun q3 => t173 a1 a2 (fun _ => by omega), fun q3 => no (fun w => ?_)⟩
      have := w.2.2.1 ak
      omega
  have t106 : ∀ v6 : Int, Tld (PFc ((x - ln (i + 1)) % 12)) v6 → (Ask R 4 → ¬ (PFc ((x - ln (i + 1)) % 12) ∧ x - y ≠ 0 ∧ (y - ln i) % 12 = (x - ln (i + 1)) % 12)) → B_Seconds_fitsBehind_106 G s ((i + 1 : Nat) : Int) (x - y) (ln (i + 1) - ln i) v6 h (fun r h' => ∃ z : Int, r = some (av_I z) ∧ hb s h' ∧ h' = h ∧ Tld (fB R ln x y i) z) := fun v6 tv a1 => by
    unfold B_Seconds_fitsBehind_106 B_Seconds_fitsBehind_130 B_Seconds_fitsBehind_140
    refine con_mono (j_asks hb0 H) ?_
    rintro r h2 ⟨z, rfl, hb2, rfl, zz⟩
    refine ⟨z, rfl, hb2, fun q => t142 a1 (fun w => ?_), fun q => ⟨fun q2 => t142 a1 (fun _ w => ?_), fun q2 => ?_⟩⟩
    · rcases zz with ⟨-, w2⟩ | ⟨w2, -⟩
      · exact absurd w w2
      · omega
    · rcases tv with ⟨-, w2⟩ | ⟨w2, -⟩
      · exact w2 w.1
      · omega
    have ak : Ask R 8 := by
      rcases zz with ⟨w2, -⟩ | ⟨-, w2⟩
      · exact absurd w2 q
      · exact w2
    have pf : PFc ((x - ln (i + 1)) % 12) := by
      rcases tv with ⟨w2, -⟩ | ⟨-, w2⟩
      · exact absurd w2 q2
      · exact w2
    refine ⟨fun q3 => ⟨fun q4 => t142 a1 (fun _ w => ?_), fun q4 => ⟨fun q5 => t142 a1 (fun _ w => ?_), fun q5 => no (fun w => w.2.1 ak ⟨pf, Or.inr ⟨by omega, by omega⟩⟩)⟩⟩, fun q3 => ⟨fun q4 => no (fun w => w.2.1 ak ⟨pf, Or.inl ⟨by omega, q4⟩⟩), fun q4 => ⟨fun q5 => t142 a1 (fun _ w => ?_), fun q5 => by omega⟩⟩⟩
    · have := w.2; omega
    · have := w.2; omega
    · have := w.2; omega
  unfold B_Seconds_fitsBehind_0
  rw [tn_c, show (((i + 1 : Nat) : Int) - 1).toNat = i by omega]
  refine ⟨by omega, fun x2 e2 _ _ x5 e5 _ _ => ?_⟩
  have ex := e2.trans hx
  subst ex
  have ex := e5.trans (H.2 (i + 1) hi)
  subst ex
  refine ⟨⟨by omega, by omega⟩, ⟨by omega, by omega⟩, by omega, fun x9 e9 _ _ x12 e12 _ _ => ?_⟩
  have ex := e9.trans hy
  subst ex
  have ex := e12.trans (H.2 i (by omega))
  subst ex
  refine ⟨⟨by omega, by omega⟩, ⟨by omega, by omega⟩, ⟨by omega, by omega⟩, ?_⟩
  refine con_mono (j_among hb0 (C := PFc) (fun m h0 h1 => inSet_129 h0 h1)) ?_
  rintro r h2 ⟨z, rfl, hb2, rfl, zz⟩
  refine ⟨z, rfl, hb2, ?_⟩
  refine con_mono (j_asks hb2 H) ?_
  rintro r h3 ⟨z2, rfl, hb3, rfl, zz2⟩
  refine ⟨z2, rfl, hb3, fun q => t106 z zz (fun w => ?_), fun q => ⟨fun q2 => t106 z zz (fun _ w => ?_), fun q2 => ⟨fun q3 => t106 z zz (fun _ w => w.2.1 q3), fun q3 => ⟨⟨by omega, by omega⟩, ?_⟩⟩⟩⟩
  · rcases zz2 with ⟨-, w2⟩ | ⟨w2, -⟩
    · exact absurd w w2
    · omega
  · rcases zz with ⟨-, w2⟩ | ⟨w2, -⟩
    · exact w2 w.1
    · omega
  have ak : Ask R 4 := by
    rcases zz2 with ⟨w2, -⟩ | ⟨-, w2⟩
    · exact absurd w2 q
    · exact w2
  have pf : PFc ((x2 - ln (i + 1)) % 12) := by
    rcases zz with ⟨w2, -⟩ | ⟨-, w2⟩
    · exact absurd w2 q2
    · exact w2
  refine con_mono (s_JMath_floorMod (by decide) (by decide)) ?_
  rintro r h4 ⟨z8, rfl, -, ⟨-, ez⟩, rfl⟩
  refine ⟨z8, rfl, hb3, fun q4 => no (fun w => w.1 ak ⟨pf, q3, by omega⟩), fun q4 => t106 z zz (fun _ w => by have := w.2.2; omega)⟩
theorem j_leap {i : Nat} {x y w : Int} (hb0 : hb s h) (H : PRc low sp n R ln h) (hg : PRg low sp n ln) (hi : i + 2 < n) (hx : h.2.1 161 (i + 2) = x) (hy : h.2.1 161 (i + 1) = y) (hw : h.2.1 161 i = w) (xb : low ≤ x ∧ x < low + sp) (yb : low ≤ y ∧ y < low + sp) (wb : low ≤ w ∧ w < low + sp) : con G 1 0 0 m_Seconds_fitsLeap [av_R (some 158), av_I ((i + 2 : Nat) : Int)] h (fun r h' => ∃ z : Int, r = some (av_I z) ∧ hb s h' ∧ h' = h ∧ Tld (fC R x y w) z) := by
  obtain ⟨⟨g1, g2⟩, g3, ⟨g4, g5⟩, g6⟩ := hg
  refine c_Seconds_fitsLeap hb0 (fun _ => ?_)
  unfold B_Seconds_fitsLeap_0 B_Seconds_fitsLeap_86 B_Seconds_fitsLeap_68 B_Seconds_fitsLeap_51 B_Seconds_fitsLeap_91
  rw [tn_c, show (((i + 2 : Nat) : Int) - 1).toNat = i + 1 by omega, show (((i + 2 : Nat) : Int) - 2).toNat = i by omega]
  refine ⟨⟨by omega, by omega⟩, by omega, fun x3 e3 _ _ => ⟨⟨by omega, by omega⟩, by omega, fun x7 e7 _ _ => ?_⟩⟩
  have ex := e3.trans hy
  subst ex
  have ex := e7.trans hw
  subst ex
  refine ⟨⟨by omega, by omega⟩, by omega, fun x11 e11 _ _ => ?_⟩
  have ex := e11.trans hx
  subst ex
  refine ⟨⟨by omega, by omega⟩, ?_⟩
  refine con_mono (j_asks hb0 H) ?_
  rintro r h2 ⟨z, rfl, hb2, rfl, zz⟩
  have yes : fC R x11 x3 x7 → ∃ z : Int, some (av_I 1) = some (av_I z) ∧ hb s h2 ∧ h2 = h2 ∧ Tld (fC R x11 x3 x7) z := fun w => ⟨1, rfl, hb2, rfl, Or.inr ⟨rfl, w⟩⟩
  have no : ¬ fC R x11 x3 x7 → ∃ z : Int, some (av_I 0) = some (av_I z) ∧ hb s h2 ∧ h2 = h2 ∧ Tld (fC R x11 x3 x7) z := fun w => ⟨0, rfl, hb2, rfl, Or.inl ⟨rfl, w⟩⟩
  refine ⟨z, rfl, hb2, fun q => yes (fun w => ?_), fun q x19 e19 _ _ => ?_⟩
  · rcases zz with ⟨-, w2⟩ | ⟨w2, -⟩
    · exact absurd w w2
    · omega
  have ak : Ask R 64 := by
    rcases zz with ⟨w2, -⟩ | ⟨-, w2⟩
    · exact absurd w2 q
    · exact w2
  have a4 := abs_i (by omega) e19
  refine ⟨fun q2 => ⟨fun q3 => ⟨fun q4 => ⟨Or.inr rfl, yes (fun _ => by omega)⟩, fun q4 => ⟨fun q5 => ⟨Or.inr rfl, yes (fun _ => by omega)⟩, fun q5 => ⟨Or.inl rfl, no (fun w => by have := w ak; omega)⟩⟩⟩, fun q3 => ⟨fun q4 => ⟨Or.inr rfl, yes (fun _ => by omega)⟩, fun q4 => ⟨fun q5 => ⟨Or.inr rfl, yes (fun _ => by omega)⟩, fun q5 => ⟨Or.inl rfl, no (fun w => by have := w ak; omega)⟩⟩⟩⟩, fun q2 => yes (fun _ => by omega)⟩
end
