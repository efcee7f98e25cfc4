/-! ===== second voices, the class: whether a key fits ===== -/
/-- the class's own of a search: the lowest key, how many, places, rules, the line -/
def PRc (low : Int) (sp n : Nat) (R : Int) (ln : Nat → Int) (h : ah_T) : Prop := (h.2.1 158 2 = low ∧ h.2.1 158 3 = (sp : Int) ∧ h.2.1 158 4 = (n : Int) ∧ h.2.1 158 5 = R) ∧ ∀ j, j < n → h.2.1 160 j = ln j
/-- ranges -/
def PRg (low : Int) (sp n : Nat) (ln : Nat → Int) : Prop := (0 ≤ low ∧ low + sp ≤ 121) ∧ 1 ≤ sp ∧ (1 ≤ n ∧ n ≤ 8) ∧ ∀ j, j < n → -2 ≤ ln j ∧ ln j ≤ 109
/-- the keys of a prefix, from the front on -/
def KLs (a : Nat) : List Int → ah_T → Prop
  | [], _ => True
  | x :: q, h => h.2.1 a q.length = x ∧ KLs a q h
def KRg (low : Int) (sp : Nat) (p : List Int) : Prop := ∀ x, x ∈ p → low ≤ x ∧ x < low + sp
theorem KRg_t {low : Int} {sp : Nat} {x : Int} {q : List Int} (H : KRg low sp (x :: q)) : KRg low sp q := fun y hy => H y (List.mem_cons_of_mem _ hy)
theorem KRg_h {low : Int} {sp : Nat} {x : Int} {q : List Int} (H : KRg low sp (x :: q)) : low ≤ x ∧ x < low + sp := H x List.mem_cons_self
theorem KRg_c {low : Int} {sp : Nat} {x : Int} {q : List Int} (h : low ≤ x ∧ x < low + sp) (H : KRg low sp q) : KRg low sp (x :: q) := fun y hy => by
  rcases List.mem_cons.mp hy with rfl | hy
  · exact h
  · exact H y hy
theorem KLs_e {a : Nat} : ∀ (p : List Int) {h h' : ah_T}, KLs a p h → (∀ j, j < p.length → h'.2.1 a j = h.2.1 a j) → KLs a p h'
  | [], _, _, _, _ => trivial
  | x :: q, h, h', H, e => ⟨(e q.length (Nat.lt_succ_self _)).trans H.1, KLs_e q H.2 (fun j hj => e j (Nat.lt_succ_of_lt hj))⟩
section
variable {G : cx_T} {s : Nat} {h : ah_T} {low : Int} {sp n : Nat} {R : Int} {ln : Nat → Int}
theorem j_asks {k : Int} (hb0 : hb s h) (H : PRc low sp n R ln h) : con G 0 0 0 m_Seconds_asks [av_R (some 158), av_I k] h (fun r h' => ∃ z : Int, r = some (av_I z) ∧ hb s h' ∧ h' = h ∧ ((z = 0 ∧ ¬ Ask R k) ∨ (z = 1 ∧ Ask R k))) := by
  refine c_Seconds_asks hb0 (fun _ => ?_)
  unfold B_Seconds_asks_0 B_Seconds_asks_14
  intro x1 e1 _ _ x2 e2 _ _
  obtain rfl := e1.trans H.1.2.2.2
  refine ⟨fun q => ⟨Or.inl rfl, 0, rfl, hb0, rfl, Or.inl ⟨rfl, fun w => w (e2.symm.trans q)⟩⟩, fun q => ⟨Or.inr rfl, 1, rfl, hb0, rfl, Or.inr ⟨rfl, fun w => q (e2.trans w)⟩⟩⟩
/-- which of 0 .. 11 a set holds -/
def inSet (S m : Int) : Prop := (Int32.ofInt ((Int32.ofInt S >>> (Int32.ofInt m &&& 31)).toInt) &&& Int32.ofInt 1).toInt ≠ 0
theorem m12 {m : Int} (h0 : 0 ≤ m) (h1 : m < 12) : m = 0 ∨ m = 1 ∨ m = 2 ∨ m = 3 ∨ m = 4 ∨ m = 5 ∨ m = 6 ∨ m = 7 ∨ m = 8 ∨ m = 9 ∨ m = 10 ∨ m = 11 := by omega
theorem inSet_921 {m : Int} (h0 : 0 ≤ m) (h1 : m < 12) : inSet 921 m ↔ CNs m := by
  rcases m12 h0 h1 with rfl | rfl | rfl | rfl | rfl | rfl | rfl | rfl | rfl | rfl | rfl | rfl <;> (unfold inSet CNs; decide +kernel)
theorem inSet_129 {m : Int} (h0 : 0 ≤ m) (h1 : m < 12) : inSet 129 m ↔ PFc m := by
  rcases m12 h0 h1 with rfl | rfl | rfl | rfl | rfl | rfl | rfl | rfl | rfl | rfl | rfl | rfl <;> (unfold inSet PFc; decide +kernel)
theorem inSet_2741 {m : Int} (h0 : 0 ≤ m) (h1 : m < 12) : inSet 2741 m ↔ WHt m := by
  rcases m12 h0 h1 with rfl | rfl | rfl | rfl | rfl | rfl | rfl | rfl | rfl | rfl | rfl | rfl <;> (unfold inSet WHt; decide +kernel)
theorem j_among {S k : Int} {C : Int → Prop} (hb0 : hb s h) (hC : ∀ m, 0 ≤ m → m < 12 → (inSet S m ↔ C m)) : con G 1 0 0 m_Seconds_isAmong [av_I S, av_I k] h (fun r h' => ∃ z : Int, r = some (av_I z) ∧ hb s h' ∧ h' = h ∧ ((z = 0 ∧ ¬ C (k % 12)) ∨ (z = 1 ∧ C (k % 12)))) := by
  refine c_Seconds_isAmong hb0 (fun _ _ => ?_)
  unfold B_Seconds_isAmong_0 B_Seconds_isAmong_18
  refine con_mono (s_JMath_floorMod (by decide) (by decide)) ?_
  rintro r h1 ⟨z, rfl, -, ⟨-, ez⟩, rfl⟩
  have hc := hC (k % 12) (by omega) (by omega)
  refine ⟨z, rfl, hb0, fun x4 e4 _ _ x5 e5 _ _ => ?_⟩
  have ex : x5 = (Int32.ofInt ((Int32.ofInt S >>> (Int32.ofInt (k % 12) &&& 31)).toInt) &&& Int32.ofInt 1).toInt := by rw [e5, e4, ez]
  refine ⟨fun q => ⟨Or.inl rfl, 0, rfl, hb0, rfl, Or.inl ⟨rfl, fun w => hc.mpr w (ex.symm.trans q)⟩⟩, fun q => ⟨Or.inr rfl, 1, rfl, hb0, rfl, Or.inr ⟨rfl, hc.mp (fun w => q (ex.trans w))⟩⟩⟩
/-- a truth value that is told -/
def Tld (p : Prop) (z : Int) : Prop := (z = 0 ∧ ¬ p) ∨ (z = 1 ∧ p)
theorem j_alone2 {i : Nat} {x : Int} (hb0 : hb s h) (H : PRc low sp n R ln h) (hg : PRg low sp n ln) (hi : i < n) (hx : h.2.1 161 i = x) (xb : low ≤ x ∧ x < low + sp) : con G 2 0 0 m_Seconds_fitsAlone [av_R (some 158), av_I (i : Int)] h (fun r h' => ∃ z : Int, r = some (av_I z) ∧ hb s h' ∧ h' = h ∧ Tld (fA R ln n x i) z) := by
  obtain ⟨⟨g1, g2⟩, g3, ⟨g4, g5⟩, g6⟩ := hg
  have lb := g6 i hi
  refine c_Seconds_fitsAlone hb0 (fun _ => ?_)
  have no : ¬ fA R ln n x i → ∃ z : Int, some (av_I 0) = some (av_I z) ∧ hb s h ∧ h = h ∧ Tld (fA R ln n x i) z := fun w => ⟨0, rfl, hb0, rfl, Or.inl ⟨rfl, w⟩⟩
  have t125 : fA R ln n x i → B_Seconds_fitsAlone_125 G s (i : Int) h (fun r h' => ∃ z : Int, r = some (av_I z) ∧ hb s h' ∧ h' = h ∧ Tld (fA R ln n x i) z) := fun w => by
    unfold B_Seconds_fitsAlone_125 B_Seconds_fitsAlone_130
    exact ⟨Or.inr rfl, 1, rfl, hb0, rfl, Or.inr ⟨rfl, w⟩⟩
  have t111 : (Ask R 1 → CNs ((x - ln i) % 12)) → (Ask R 2 → (i = 0 → PFc ((x - ln i) % 12)) ∧ (i + 1 = n → (x - ln i) % 12 = 0)) → (Ask R 128 → WHt (x % 12)) → B_Seconds_fitsAlone_111 G s (i : Int) (x - ln i) h (fun r h' => ∃ z : Int, r = some (av_I z) ∧ hb s h' ∧ h' = h ∧ Tld (fA R ln n x i) z) := fun a1 a2 a3 => by
    unfold B_Seconds_fitsAlone_111
    refine con_mono (j_asks hb0 H) ?_
    rintro r h2 ⟨z, rfl, hb2, rfl, zz⟩
    refine ⟨z, rfl, hb2, fun q => t125 ⟨a1, a2, a3, fun w => ?_⟩, fun q => ⟨fun q2 => ?_, fun q2 => t125 ⟨a1, a2, a3, fun _ => by omega⟩⟩⟩
    · rcases zz with ⟨-, w2⟩ | ⟨w2, -⟩
      · exact absurd w w2
      · omega
    · unfold B_Seconds_fitsAlone_130
      refine ⟨Or.inl rfl, no (fun w => ?_)⟩
      rcases zz with ⟨w2, -⟩ | ⟨-, w2⟩
      · exact q w2
      · have := w.2.2.2 w2; omega
  have t89 : (Ask R 1 → CNs ((x - ln i) % 12)) → (Ask R 2 → (i = 0 → PFc ((x - ln i) % 12)) ∧ (i + 1 = n → (x - ln i) % 12 = 0)) → B_Seconds_fitsAlone_89 G s (i : Int) x (x - ln i) h (fun r h' => ∃ z : Int, r = some (av_I z) ∧ hb s h' ∧ h' = h ∧ Tld (fA R ln n x i) z) := fun a1 a2 => by
    unfold B_Seconds_fitsAlone_89
    refine con_mono (j_asks hb0 H) ?_
    rintro r h2 ⟨z, rfl, hb2, rfl, zz⟩
    refine ⟨z, rfl, hb2, fun q => t111 a1 a2 (fun w => ?_), fun q => ?_⟩
    · rcases zz with ⟨-, w2⟩ | ⟨w2, -⟩
      · exact absurd w w2
      · omega
    · have ak : Ask R 128 := by
        rcases zz with ⟨w2, -⟩ | ⟨-, w2⟩
        · exact absurd w2 q
        · exact w2
      refine con_mono (j_among hb2 (C := WHt) (fun m h0 h1 => inSet_2741 h0 h1)) ?_
      rintro r h3 ⟨z6, rfl, hb3, rfl, zz6⟩
      refine ⟨z6, rfl, hb3, fun q2 => no (fun w => ?_), fun q2 => t111 a1 a2 (fun _ => ?_)⟩
      · rcases zz6 with ⟨-, w2⟩ | ⟨w2, -⟩
        · exact w2 (w.2.2.1 ak)
        · omega
      · rcases zz6 with ⟨w2, -⟩ | ⟨-, w2⟩
        · exact absurd w2 q2
        · exact w2
  have t60 : (Ask R 1 → CNs ((x - ln i) % 12)) → (Ask R 2 → i = 0 → PFc ((x - ln i) % 12)) → B_Seconds_fitsAlone_60 G s (i : Int) x (x - ln i) h (fun r h' => ∃ z : Int, r = some (av_I z) ∧ hb s h' ∧ h' = h ∧ Tld (fA R ln n x i) z) := fun a1 a2 => by
    unfold B_Seconds_fitsAlone_60
    refine con_mono (j_asks hb0 H) ?_
    rintro r h2 ⟨z, rfl, hb2, rfl, zz⟩
    refine ⟨z, rfl, hb2, fun q => t89 a1 (fun w => ?_), fun q x4 e4 _ _ => ?_⟩
    · rcases zz with ⟨-, w2⟩ | ⟨w2, -⟩
      · exact absurd w w2
      · omega
    · have ak : Ask R 2 := by
        rcases zz with ⟨w2, -⟩ | ⟨-, w2⟩
        · exact absurd w2 q
        · exact w2
      obtain rfl := e4.trans H.1.2.2.1
      refine ⟨⟨by omega, by omega⟩, fun q2 => ?_, fun q2 => t89 a1 (fun w => ⟨a2 w, fun w2 => by omega⟩)⟩
      refine con_mono (s_JMath_floorMod (by decide) (by decide)) ?_
      rintro r h3 ⟨z8, rfl, -, ⟨-, ez⟩, rfl⟩
      refine ⟨z8, rfl, hb2, fun q3 => t89 a1 (fun w => ⟨a2 w, fun _ => ez.symm.trans q3⟩), fun q3 => no (fun w => q3 (ez.trans ((w.2.1 ak).2 (by omega))))⟩
  have t36 : (Ask R 1 → CNs ((x - ln i) % 12)) → B_Seconds_fitsAlone_36 G s (i : Int) x (x - ln i) h (fun r h' => ∃ z : Int, r = some (av_I z) ∧ hb s h' ∧ h' = h ∧ Tld (fA R ln n x i) z) := fun a1 => by
    unfold B_Seconds_fitsAlone_36
    refine con_mono (j_asks hb0 H) ?_
    rintro r h2 ⟨z, rfl, hb2, rfl, zz⟩
    refine ⟨z, rfl, hb2, fun q => t60 a1 (fun w => ?_), fun q => ⟨fun q2 => ?_, fun q2 => t60 a1 (fun _ w => by omega)⟩⟩
    · rcases zz with ⟨-, w2⟩ | ⟨w2, -⟩
      · exact absurd w w2
      · omega
    · have ak : Ask R 2 := by
        rcases zz with ⟨w2, -⟩ | ⟨-, w2⟩
        · exact absurd w2 q
        · exact w2
      refine con_mono (j_among hb2 (C := PFc) (fun m h0 h1 => inSet_129 h0 h1)) ?_
      rintro r h3 ⟨z6, rfl, hb3, rfl, zz6⟩
      refine ⟨z6, rfl, hb3, fun q3 => no (fun w => ?_), fun q3 => t60 a1 (fun _ _ => ?_)⟩
      · rcases zz6 with ⟨-, w2⟩ | ⟨w2, -⟩
        · exact w2 ((w.2.1 ak).1 (by omega))
        · omega
      · rcases zz6 with ⟨w2, -⟩ | ⟨-, w2⟩
        · exact absurd w2 q3
        · exact w2
  unfold B_Seconds_fitsAlone_0
  rw [tn_c]
  refine ⟨by omega, fun x2 e2 _ _ x5 e5 _ _ => ?_⟩
  obtain rfl := e2.trans hx
  obtain rfl := e5.trans (H.2 i hi)
  refine ⟨⟨by omega, by omega⟩, ?_⟩
  refine con_mono (j_asks hb0 H) ?_
  rintro r h2 ⟨z, rfl, hb2, rfl, zz⟩
  refine ⟨z, rfl, hb2, fun q => t36 (fun w => ?_), fun q => ?_⟩
  · rcases zz with ⟨-, w2⟩ | ⟨w2, -⟩
    · exact absurd w w2
    · omega
  · have ak : Ask R 1 := by
      rcases zz with ⟨w2, -⟩ | ⟨-, w2⟩
      · exact absurd w2 q
      · exact w2
    refine con_mono (j_among hb2 (C := CNs) (fun m h0 h1 => inSet_921 h0 h1)) ?_
    rintro r h3 ⟨z6, rfl, hb3, rfl, zz6⟩
    refine ⟨z6, rfl, hb3, fun q3 => no (fun w => ?_), fun q3 => t36 (fun _ => ?_)⟩
    · rcases zz6 with ⟨-, w2⟩ | ⟨w2, -⟩
      · exact w2 (w.1 ak)
      · omega
    · rcases zz6 with ⟨w2, -⟩ | ⟨-, w2⟩
      · exact absurd w2 q3
      · exact w2
end
