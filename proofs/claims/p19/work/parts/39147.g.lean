/-! ===== second voices: a spec of our own =====
a row of keys is held as a list, the latest key first; low the lowest key, sp how many keys there are, n places, ln the line, R the rules -/
def Ask (R k : Int) : Prop := (Int32.ofInt R &&& Int32.ofInt k).toInt ≠ 0
def CNs (m : Int) : Prop := m = 0 ∨ m = 3 ∨ m = 4 ∨ m = 7 ∨ m = 8 ∨ m = 9
def PFc (m : Int) : Prop := m = 0 ∨ m = 7
def WHt (m : Int) : Prop := m = 0 ∨ m = 2 ∨ m = 4 ∨ m = 5 ∨ m = 7 ∨ m = 9 ∨ m = 11
def fA (R : Int) (ln : Nat → Int) (n : Nat) (x : Int) (i : Nat) : Prop :=
  (Ask R 1 → CNs ((x - ln i) % 12)) ∧ (Ask R 2 → (i = 0 → PFc ((x - ln i) % 12)) ∧ (i + 1 = n → (x - ln i) % 12 = 0)) ∧ (Ask R 128 → WHt (x % 12)) ∧ (Ask R 256 → 0 ≤ x - ln i)
/-- x behind y, at place i + 1 -/
def fB (R : Int) (ln : Nat → Int) (x y : Int) (i : Nat) : Prop :=
  (Ask R 4 → ¬ (PFc ((x - ln (i + 1)) % 12) ∧ x - y ≠ 0 ∧ (y - ln i) % 12 = (x - ln (i + 1)) % 12)) ∧
  (Ask R 8 → ¬ (PFc ((x - ln (i + 1)) % 12) ∧ ((0 < x - y ∧ 0 < ln (i + 1) - ln i) ∨ (x - y < 0 ∧ ln (i + 1) - ln i < 0)))) ∧
  (Ask R 16 → (-7 ≤ x - y ∧ x - y ≤ 7) ∨ x - y = 12 ∨ x - y = -12) ∧ (Ask R 32 → x - y ≠ 0)
/-- x behind y behind z -/
def fC (R : Int) (x y z : Int) : Prop := Ask R 64 → (-4 ≤ y - z ∧ y - z ≤ 4) ∨ (4 < y - z ∧ (x - y = -1 ∨ x - y = -2)) ∨ (y - z < -4 ∧ (x - y = 1 ∨ x - y = 2))
def fP (R : Int) (ln : Nat → Int) (n : Nat) (x : Int) : List Int → Prop
  | [] => fA R ln n x 0
  | [y] => fA R ln n x 1 ∧ fB R ln x y 0
  | y :: z :: q => fA R ln n x (q.length + 2) ∧ fB R ln x y (q.length + 1) ∧ fC R x y z
def rowL (low : Int) (sp : Nat) : List Int → Nat
  | [] => 0
  | x :: q => rowL low sp q * sp + (x - low).toNat
/-- what F gives from m on, k times -/
def catF {α : Type} (F : Nat → List α) : Nat → Nat → List α
  | 0, _ => []
  | k + 1, m => F m ++ catF F k (m + 1)
theorem catF_s {α : Type} {F : Nat → List α} : ∀ k m, catF F (k + 1) m = catF F k m ++ F (m + k)
  | 0, m => by show F m ++ [] = [] ++ F (m + 0); rw [List.append_nil]; rfl
  | k + 1, m => by
    show F m ++ catF F (k + 1) (m + 1) = (F m ++ catF F k (m + 1)) ++ F (m + (k + 1))
    rw [catF_s k (m + 1), List.append_assoc, show m + 1 + k = m + (k + 1) by omega]
theorem catF_a {α : Type} {F : Nat → List α} : ∀ k j m, catF F (k + j) m = catF F k m ++ catF F j (m + k)
  | 0, j, m => by rw [Nat.zero_add]; rfl
  | k + 1, j, m => by
    rw [show k + 1 + j = (k + j) + 1 by omega]
    show F m ++ catF F (k + j) (m + 1) = (F m ++ catF F k (m + 1)) ++ catF F j (m + (k + 1))
    rw [catF_a k j (m + 1), List.append_assoc, show m + 1 + k = m + (k + 1) by omega]
section
variable (low : Int) (sp : Nat) (P : Int → List Int → Prop)
/-- going through all rows, a step an entry, a row that is found with its number; f places are still to come behind this one -/
noncomputable def tvF : Nat → List Int → List (Option Nat)
  | 0, p => catF (fun d => dif (P (low + (d : Int)) p) [some (rowL low sp ((low + (d : Int)) :: p))] [none]) sp 0 ++ [none]
  | f + 1, p => catF (fun d => dif (P (low + (d : Int)) p) (none :: tvF f ((low + (d : Int)) :: p)) [none]) sp 0 ++ [none]
/-- one digit -/
noncomputable def stp (f : Nat) (p : List Int) (d : Nat) : List (Option Nat) := dif (P (low + (d : Int)) p) (match f with
  | 0 => [some (rowL low sp ((low + (d : Int)) :: p))]
  | f + 1 => none :: tvF low sp P f ((low + (d : Int)) :: p)) [none]
theorem tvF_e : ∀ (f : Nat) (p : List Int), tvF low sp P f p = catF (stp low sp P f p) sp 0 ++ [none]
  | 0, p => rfl
  | f + 1, p => rfl
/-- the rows of a way through -/
def rws (l : List (Option Nat)) : List Nat := l.filterMap id
theorem rws_a {l m : List (Option Nat)} : rws (l ++ m) = rws l ++ rws m := by unfold rws; rw [List.filterMap_append]
/-- the rows that go on from a prefix, f places still to come -/
noncomputable def rwF : Nat → List Int → List Nat
  | 0, p => [rowL low sp p]
  | f + 1, p => rws (tvF low sp P f p)
theorem rws_stp {f : Nat} {p : List Int} {d : Nat} : rws (stp low sp P f p d) = dif (P (low + (d : Int)) p) (rwF low sp P f ((low + (d : Int)) :: p)) [] := by
  unfold stp
  by_cases c : P (low + (d : Int)) p
  · rw [dif_t c, dif_t c]
    cases f with
    | zero => rfl
    | succ f => rfl
  · rw [dif_f c, dif_f c]; rfl
theorem rws_tv {f : Nat} {p : List Int} : rws (tvF low sp P f p) = rws (catF (stp low sp P f p) sp 0) := by
  rw [tvF_e, rws_a]
  show _ ++ [] = _
  rw [List.append_nil]
end
theorem rowL_b {low : Int} {sp : Nat} (hs : 1 ≤ sp) : ∀ p : List Int, (∀ x, x ∈ p → low ≤ x ∧ x < low + sp) → rowL low sp p < sp ^ p.length
  | [], _ => by show 0 < 1; decide
  | x :: q, h => by
    have ih := rowL_b hs q (fun y hy => h y (List.mem_cons_of_mem _ hy))
    have hx := h x (List.mem_cons_self)
    show rowL low sp q * sp + (x - low).toNat < sp ^ (q.length + 1)
    rw [Nat.pow_succ]
    have : (rowL low sp q + 1) * sp ≤ sp ^ q.length * sp := Nat.mul_le_mul_right _ ih
    rw [Nat.add_mul, Nat.one_mul] at this
    omega

/-! ===== second voices, the class: whether a key fits ===== -/
/-- the class's own of a search: the lowest key, how many, places, rules, the line -/
def PRc (low : Int) (sp n : Nat) (R : Int) (ln : Nat → Int) (h : ah_T) : Prop := (h.2.1 158 2 = low ∧ h.2.1 158 3 = (sp : Int) ∧ h.2.1 158 4 = (n : Int) ∧ h.2.1 158 5 = R) ∧ ∀ j, j < n → h.2.1 160 j = ln j
/-- ranges -/
def PRg (low : Int) (sp n : Nat) (ln : Nat → Int) : Prop := (0 ≤ low ∧ low + sp ≤ 121) ∧ 1 ≤ sp ∧ (1 ≤ n ∧ n ≤ 8) ∧ ∀ j, j < n → -2 ≤ ln j ∧ ln j ≤ 109
/-- the keys of a prefix, from the front on -/
def KLs (a : Nat) : List Int → ah_T → Prop
  | [], _ => True
  | x :: q, h => h.2.1 a q.length = x ∧ KLs a q h
def KRg (low : Int) (sp : Nat) (p : List Int) : Prop := ∀ x, x ∈ p → low ≤ x ∧ x < low + sp
theorem KRg_t {low : Int} {sp : Nat} {x : Int} {q : List Int} (H : KRg low sp (x :: q)) : KRg low sp q := fun y hy => H y (List.mem_cons_of_mem _ hy)
theorem KRg_h {low : Int} {sp : Nat} {x : Int} {q : List Int} (H : KRg low sp (x :: q)) : low ≤ x ∧ x < low + sp := H x List.mem_cons_self
theorem KRg_c {low : Int} {sp : Nat} {x : Int} {q : List Int} (h : low ≤ x ∧ x < low + sp) (H : KRg low sp q) : KRg low sp (x :: q) := fun y hy => by
  rcases List.mem_cons.mp hy with rfl | hy
  · exact h
  · exact H y hy
theorem KLs_e {a : Nat} : ∀ (p : List Int) {h h' : ah_T}, KLs a p h → (∀ j, j < p.length → h'.2.1 a j = h.2.1 a j) → KLs a p h'
  | [], _, _, _, _ => trivial
  | x :: q, h, h', H, e => ⟨(e q.length (Nat.lt_succ_self _)).trans H.1, KLs_e q H.2 (fun j hj => e j (Nat.lt_succ_of_lt hj))⟩
section
variable {G : cx_T} {s : Nat} {h : ah_T} {low : Int} {sp n : Nat} {R : Int} {ln : Nat → Int}
theorem j_asks {k : Int} (hb0 : hb s h) (H : PRc low sp n R ln h) : con G 0 0 0 m_Seconds_asks [av_R (some 158), av_I k] h (fun r h' => ∃ z : Int, r = some (av_I z) ∧ hb s h' ∧ h' = h ∧ ((z = 0 ∧ ¬ Ask R k) ∨ (z = 1 ∧ Ask R k))) := by
  refine c_Seconds_asks hb0 (fun _ => ?_)
  unfold B_Seconds_asks_0 B_Seconds_asks_14
  intro x1 e1 _ _ x2 e2 _ _
  obtain rfl := e1.trans H.1.2.2.2
  refine ⟨fun q => ⟨Or.inl rfl, 0, rfl, hb0, rfl, Or.inl ⟨rfl, fun w => w (e2.symm.trans q)⟩⟩, fun q => ⟨Or.inr rfl, 1, rfl, hb0, rfl, Or.inr ⟨rfl, fun w => q (e2.trans w)⟩⟩⟩
/-- which of 0 .. 11 a set holds -/
def inSet (S m : Int) : Prop := (Int32.ofInt ((Int32.ofInt S >>> (Int32.ofInt m &&& 31)).toInt) &&& Int32.ofInt 1).toInt ≠ 0
theorem m12 {m : Int} (h0 : 0 ≤ m) (h1 : m < 12) : m = 0 ∨ m = 1 ∨ m = 2 ∨ m = 3 ∨ m = 4 ∨ m = 5 ∨ m = 6 ∨ m = 7 ∨ m = 8 ∨ m = 9 ∨ m = 10 ∨ m = 11 := by omega
theorem inSet_921 {m : Int} (h0 : 0 ≤ m) (h1 : m < 12) : inSet 921 m ↔ CNs m := by
  rcases m12 h0 h1 with rfl | rfl | rfl | rfl | rfl | rfl | rfl | rfl | rfl | rfl | rfl | rfl <;> (unfold inSet CNs; decide +kernel)
theorem inSet_129 {m : Int} (h0 : 0 ≤ m) (h1 : m < 12) : inSet 129 m ↔ PFc m := by
  rcases m12 h0 h1 with rfl | rfl | rfl | rfl | rfl | rfl | rfl | rfl | rfl | rfl | rfl | rfl <;> (unfold inSet PFc; decide +kernel)
theorem inSet_2741 {m : Int} (h0 : 0 ≤ m) (h1 : m < 12) : inSet 2741 m ↔ WHt m := by
  rcases m12 h0 h1 with rfl | rfl | rfl | rfl | rfl | rfl | rfl | rfl | rfl | rfl | rfl | rfl <;> (unfold inSet WHt; decide +kernel)
theorem j_among {S k : Int} {C : Int → Prop} (hb0 : hb s h) (hC : ∀ m, 0 ≤ m → m < 12 → (inSet S m ↔ C m)) : con G 1 0 0 m_Seconds_isAmong [av_I S, av_I k] h (fun r h' => ∃ z : Int, r = some (av_I z) ∧ hb s h' ∧ h' = h ∧ ((z = 0 ∧ ¬ C (k % 12)) ∨ (z = 1 ∧ C (k % 12)))) := by
  refine c_Seconds_isAmong hb0 (fun _ _ => ?_)
  unfold B_Seconds_isAmong_0 B_Seconds_isAmong_18
  refine con_mono (s_JMath_floorMod (by decide) (by decide)) ?_
  rintro r h1 ⟨z, rfl, -, ⟨-, ez⟩, rfl⟩
  have hc := hC (k % 12) (by omega) (by omega)
  refine ⟨z, rfl, hb0, fun x4 e4 _ _ x5 e5 _ _ => ?_⟩
  have ex : x5 = (Int32.ofInt ((Int32.ofInt S >>> (Int32.ofInt (k % 12) &&& 31)).toInt) &&& Int32.ofInt 1).toInt := by rw [e5, e4, ez]
  refine ⟨fun q => ⟨Or.inl rfl, 0, rfl, hb0, rfl, Or.inl ⟨rfl, fun w => hc.mpr w (ex.symm.trans q)⟩⟩, fun q => ⟨Or.inr rfl, 1, rfl, hb0, rfl, Or.inr ⟨rfl, hc.mp (fun w => q (ex.trans w))⟩⟩⟩
/-- a truth value that is told -/
def Tld (p : Prop) (z : Int) : Prop := (z = 0 ∧ ¬ p) ∨ (z = 1 ∧ p)
theorem j_alone2 {i : Nat} {x : Int} (hb0 : hb s h) (H : PRc low sp n R ln h) (hg : PRg low sp n ln) (hi : i < n) (hx : h.2.1 161 i = x) (xb : low ≤ x ∧ x < low + sp) : con G 2 0 0 m_Seconds_fitsAlone [av_R (some 158), av_I (i : Int)] h (fun r h' => ∃ z : Int, r = some (av_I z) ∧ hb s h' ∧ h' = h ∧ Tld (fA R ln n x i) z) := by
  obtain ⟨⟨g1, g2⟩, g3, ⟨g4, g5⟩, g6⟩ := hg
  have lb := g6 i hi
  refine c_Seconds_fitsAlone hb0 (fun _ => ?_)
  have no : ¬ fA R ln n x i → ∃ z : Int, some (av_I 0) = some (av_I z) ∧ hb s h ∧ h = h ∧ Tld (fA R ln n x i) z := fun w => ⟨0, rfl, hb0, rfl, Or.inl ⟨rfl, w⟩⟩
  have t125 : fA R ln n x i → B_Seconds_fitsAlone_125 G s (i : Int) h (fun r h' => ∃ z : Int, r = some (av_I z) ∧ hb s h' ∧ h' = h ∧ Tld (fA R ln n x i) z) := fun w => by
    unfold B_Seconds_fitsAlone_125 B_Seconds_fitsAlone_130
    exact ⟨Or.inr rfl, 1, rfl, hb0, rfl, Or.inr ⟨rfl, w⟩⟩
  have t111 : (Ask R 1 → CNs ((x - ln i) % 12)) → (Ask R 2 → (i = 0 → PFc ((x - ln i) % 12)) ∧ (i + 1 = n → (x - ln i) % 12 = 0)) → (Ask R 128 → WHt (x % 12)) → B_Seconds_fitsAlone_111 G s (i : Int) (x - ln i) h (fun r h' => ∃ z : Int, r = some (av_I z) ∧ hb s h' ∧ h' = h ∧ Tld (fA R ln n x i) z) := fun a1 a2 a3 => by
    unfold B_Seconds_fitsAlone_111
    refine con_mono (j_asks hb0 H) ?_
    rintro r h2 ⟨z, rfl, hb2, rfl, zz⟩
    refine ⟨z, rfl, hb2, fun q => t125 ⟨a1, a2, a3, fun w => ?_⟩, fun q => ⟨fun q2 => ?_, fun q2 => t125 ⟨a1, a2, a3, fun _ => by omega⟩⟩⟩
    · rcases zz with ⟨-, w2⟩ | ⟨w2, -⟩
      · exact absurd w w2
      · omega
    · unfold B_Seconds_fitsAlone_130
      refine ⟨Or.inl rfl, no (fun w => ?_)⟩
      rcases zz with ⟨w2, -⟩ | ⟨-, w2⟩
      · exact q w2
      · have := w.2.2.2 w2; omega
  have t89 : (Ask R 1 → CNs ((x - ln i) % 12)) → (Ask R 2 → (i = 0 → PFc ((x - ln i) % 12)) ∧ (i + 1 = n → (x - ln i) % 12 = 0)) → B_Seconds_fitsAlone_89 G s (i : Int) x (x - ln i) h (fun r h' => ∃ z : Int, r = some (av_I z) ∧ hb s h' ∧ h' = h ∧ Tld (fA R ln n x i) z) := fun a1 a2 => by
    unfold B_Seconds_fitsAlone_89
    refine con_mono (j_asks hb0 H) ?_
    rintro r h2 ⟨z, rfl, hb2, rfl, zz⟩
    refine ⟨z, rfl, hb2, fun q => t111 a1 a2 (fun w => ?_), fun q => ?_⟩
    · rcases zz with ⟨-, w2⟩ | ⟨w2, -⟩
      · exact absurd w w2
      · omega
    · have ak : Ask R 128 := by
        rcases zz with ⟨w2, -⟩ | ⟨-, w2⟩
        · exact absurd w2 q
        · exact w2
      refine con_mono (j_among hb2 (C := WHt) (fun m h0 h1 => inSet_2741 h0 h1)) ?_
      rintro r h3 ⟨z6, rfl, hb3, rfl, zz6⟩
      refine ⟨z6, rfl, hb3, fun q2 => no (fun w => ?_), fun q2 => t111 a1 a2 (fun _ => ?_)⟩
      · rcases zz6 with ⟨-, w2⟩ | ⟨w2, -⟩
        · exact w2 (w.2.2.1 ak)
        · omega
      · rcases zz6 with ⟨w2, -⟩ | ⟨-, w2⟩
        · exact absurd w2 q2
        · exact w2
  have t60 : (Ask R 1 → CNs ((x - ln i) % 12)) → (Ask R 2 → i = 0 → PFc ((x - ln i) % 12)) → B_Seconds_fitsAlone_60 G s (i : Int) x (x - ln i) h (fun r h' => ∃ z : Int, r = some (av_I z) ∧ hb s h' ∧ h' = h ∧ Tld (fA R ln n x i) z) := fun a1 a2 => by
    unfold B_Seconds_fitsAlone_60
    refine con_mono (j_asks hb0 H) ?_
    rintro r h2 ⟨z, rfl, hb2, rfl, zz⟩
    refine ⟨z, rfl, hb2, fun q => t89 a1 (fun w => ?_), fun q x4 e4 _ _ => ?_⟩
    · rcases zz with ⟨-, w2⟩ | ⟨w2, -⟩
      · exact absurd w w2
      · omega
    · have ak : Ask R 2 := by
        rcases zz with ⟨w2, -⟩ | ⟨-, w2⟩
        · exact absurd w2 q
        · exact w2
      obtain rfl := e4.trans H.1.2.2.1
      refine ⟨⟨by omega, by omega⟩, fun q2 => ?_, fun q2 => t89 a1 (fun w => ⟨a2 w, fun w2 => by omega⟩)⟩
      refine con_mono (s_JMath_floorMod (by decide) (by decide)) ?_
      rintro r h3 ⟨z8, rfl, -, ⟨-, ez⟩, rfl⟩
      refine ⟨z8, rfl, hb2, fun q3 => t89 a1 (fun w => ⟨a2 w, fun _ => ez.symm.trans q3⟩), fun q3 => no (fun w => q3 (ez.trans ((w.2.1 ak).2 (by omega))))⟩
  have t36 : (Ask R 1 → CNs ((x - ln i) % 12)) → B_Seconds_fitsAlone_36 G s (i : Int) x (x - ln i) h (fun r h' => ∃ z : Int, r = some (av_I z) ∧ hb s h' ∧ h' = h ∧ Tld (fA R ln n x i) z) := fun a1 => by
    unfold B_Seconds_fitsAlone_36
    refine con_mono (j_asks hb0 H) ?_
    rintro r h2 ⟨z, rfl, hb2, rfl, zz⟩
    refine ⟨z, rfl, hb2, fun q => t60 a1 (fun w => ?_), fun q => ⟨fun q2 => ?_, fun q2 => t60 a1 (fun _ w => by omega)⟩⟩
    · rcases zz with ⟨-, w2⟩ | ⟨w2, -⟩
      · exact absurd w w2
      · omega
    · have ak : Ask R 2 := by
        rcases zz with ⟨w2, -⟩ | ⟨-, w2⟩
        · exact absurd w2 q
        · exact w2
      refine con_mono (j_among hb2 (C := PFc) (fun m h0 h1 => inSet_129 h0 h1)) ?_
      rintro r h3 ⟨z6, rfl, hb3, rfl, zz6⟩
      refine ⟨z6, rfl, hb3, fun q3 => no (fun w => ?_), fun q3 => t60 a1 (fun _ _ => ?_)⟩
      · rcases zz6 with ⟨-, w2⟩ | ⟨w2, -⟩
        · exact w2 ((w.2.1 ak).1 (by omega))
        · omega
      · rcases zz6 with ⟨w2, -⟩ | ⟨-, w2⟩
        · exact absurd w2 q3
        · exact w2
  unfold B_Seconds_fitsAlone_0
  rw [tn_c]
  refine ⟨by omega, fun x2 e2 _ _ x5 e5 _ _ => ?_⟩
  obtain rfl := e2.trans hx
  obtain rfl := e5.trans (H.2 i hi)
  refine ⟨⟨by omega, by omega⟩, ?_⟩
  refine con_mono (j_asks hb0 H) ?_
  rintro r h2 ⟨z, rfl, hb2, rfl, zz⟩
  refine ⟨z, rfl, hb2, fun q => t36 (fun w => ?_), fun q => ?_⟩
  · rcases zz with ⟨-, w2⟩ | ⟨w2, -⟩
    · exact absurd w w2
    · omega
  · have ak : Ask R 1 := by
      rcases zz with ⟨w2, -⟩ | ⟨-, w2⟩
      · exact absurd w2 q
      · exact w2
    refine con_mono (j_among hb2 (C := CNs) (fun m h0 h1 => inSet_921 h0 h1)) ?_
    rintro r h3 ⟨z6, rfl, hb3, rfl, zz6⟩
    refine ⟨z6, rfl, hb3, fun q3 => no (fun w => ?_), fun q3 => t36 (fun _ => ?_)⟩
    · rcases zz6 with ⟨-, w2⟩ | ⟨w2, -⟩
      · exact w2 (w.1 ak)
      · omega
    · rcases zz6 with ⟨w2, -⟩ | ⟨-, w2⟩
      · exact absurd w2 q3
      · exact w2
end

/-! ===== second voices, the class: whether a key fits behind others ===== -/
section
variable {G : cx_T} {s : Nat} {h : ah_T} {low : Int} {sp n : Nat} {R : Int} {ln : Nat → Int}
theorem abs_i {x z : Int} (hx : -1000 ≤ x ∧ x ≤ 1000) (e : z = (if 0 ≤ x then x else w32 (0 - x))) : (0 ≤ x ∧ z = x) ∨ (x < 0 ∧ z = -x) := by
  split at e
  · exact Or.inl ⟨by assumption, e⟩
  · rw [w32_id (by unfold i32; omega)] at e
    exact Or.inr ⟨by omega, by omega⟩
theorem j_behind {i : Nat} {x y : Int} (hb0 : hb s h) (H : PRc low sp n R ln h) (hg : PRg low sp n ln) (hi : i + 1 < n) (hx : h.2.1 161 (i + 1) = x) (hy : h.2.1 161 i = y) (xb : low ≤ x ∧ x < low + sp) (yb : low ≤ y ∧ y < low + sp) : con G 2 0 0 m_Seconds_fitsBehind [av_R (some 158), av_I ((i + 1 : Nat) : Int)] h (fun r h' => ∃ z : Int, r = some (av_I z) ∧ hb s h' ∧ h' = h ∧ Tld (fB R ln x y i) z) := by
  obtain ⟨⟨g1, g2⟩, g3, ⟨g4, g5⟩, g6⟩ := hg
  have lb := g6 i (by omega)
  have lb1 := g6 (i + 1) hi
  refine c_Seconds_fitsBehind hb0 (fun _ => ?_)
  have no : ¬ fB R ln x y i → ∃ z : Int, some (av_I 0) = some (av_I z) ∧ hb s h ∧ h = h ∧ Tld (fB R ln x y i) z := fun w => ⟨0, rfl, hb0, rfl, Or.inl ⟨rfl, w⟩⟩
  have t187 : fB R ln x y i → B_Seconds_fitsBehind_187 G s ((i + 1 : Nat) : Int) h (fun r h' => ∃ z : Int, r = some (av_I z) ∧ hb s h' ∧ h' = h ∧ Tld (fB R ln x y i) z) := fun w => by
    unfold B_Seconds_fitsBehind_187 B_Seconds_fitsBehind_192
    exact ⟨Or.inr rfl, 1, rfl, hb0, rfl, Or.inr ⟨rfl, w⟩⟩
  have t173 : (Ask R 4 → ¬ (PFc ((x - ln (i + 1)) % 12) ∧ x - y ≠ 0 ∧ (y - ln i) % 12 = (x - ln (i + 1)) % 12)) → (Ask R 8 → ¬ (PFc ((x - ln (i + 1)) % 12) ∧ ((0 < x - y ∧ 0 < ln (i + 1) - ln i) ∨ (x - y < 0 ∧ ln (i + 1) - ln i < 0)))) → (Ask R 16 → (-7 ≤ x - y ∧ x - y ≤ 7) ∨ x - y = 12 ∨ x - y = -12) → B_Seconds_fitsBehind_173 G s ((i + 1 : Nat) : Int) (x - y) h (fun r h' => ∃ z : Int, r = some (av_I z) ∧ hb s h' ∧ h' = h ∧ Tld (fB R ln x y i) z) := fun a1 a2 a3 => by
    unfold B_Seconds_fitsBehind_173
    refine con_mono (j_asks hb0 H) ?_
    rintro r h2 ⟨z, rfl, hb2, rfl, zz⟩
    refine ⟨z, rfl, hb2, fun q => t187 ⟨a1, a2, a3, fun w => ?_⟩, fun q => ⟨fun q2 => ?_, fun q2 => t187 ⟨a1, a2, a3, fun _ => q2⟩⟩⟩
    · rcases zz with ⟨-, w2⟩ | ⟨w2, -⟩
      · exact absurd w w2
      · omega
    · unfold B_Seconds_fitsBehind_192
      refine ⟨Or.inl rfl, no (fun w => ?_)⟩
      rcases zz with ⟨w2, -⟩ | ⟨-, w2⟩
      · exact q w2
      · exact w.2.2.2 w2 q2
  have t142 : (Ask R 4 → ¬ (PFc ((x - ln (i + 1)) % 12) ∧ x - y ≠ 0 ∧ (y - ln i) % 12 = (x - ln (i + 1)) % 12)) → (Ask R 8 → ¬ (PFc ((x - ln (i + 1)) % 12) ∧ ((0 < x - y ∧ 0 < ln (i + 1) - ln i) ∨ (x - y < 0 ∧ ln (i + 1) - ln i < 0)))) → B_Seconds_fitsBehind_142 G s ((i + 1 : Nat) : Int) (x - y) h (fun r h' => ∃ z : Int, r = some (av_I z) ∧ hb s h' ∧ h' = h ∧ Tld (fB R ln x y i) z) := fun a1 a2 => by
    unfold B_Seconds_fitsBehind_142
    refine con_mono (j_asks hb0 H) ?_
    rintro r h2 ⟨z, rfl, hb2, rfl, zz⟩
    refine ⟨z, rfl, hb2, fun q => t173 a1 a2 (fun w => ?_), fun q x4 e4 _ _ => ?_⟩
    · rcases zz with ⟨-, w2⟩ | ⟨w2, -⟩
      · exact absurd w w2
      · omega
    · have ak : Ask R 16 := by
        rcases zz with ⟨w2, -⟩ | ⟨-, w2⟩
        · exact absurd w2 q
        · exact w2
      have a4 := abs_i (by omega) e4
      refine ⟨fun q2 => t173 a1 a2 (fun _ => by omega), fun q2 x5 e5 _ _ => ?_⟩
      have a5 := abs_i (by omega) e5
      refine ⟨fun q3 => t173 a1 a2 (fun _ => by omega), fun q3 => no (fun w => ?_)⟩
      have := w.2.2.1 ak
      omega
  have t106 : ∀ v6 : Int, Tld (PFc ((x - ln (i + 1)) % 12)) v6 → (Ask R 4 → ¬ (PFc ((x - ln (i + 1)) % 12) ∧ x - y ≠ 0 ∧ (y - ln i) % 12 = (x - ln (i + 1)) % 12)) → B_Seconds_fitsBehind_106 G s ((i + 1 : Nat) : Int) (x - y) (ln (i + 1) - ln i) v6 h (fun r h' => ∃ z : Int, r = some (av_I z) ∧ hb s h' ∧ h' = h ∧ Tld (fB R ln x y i) z) := fun v6 tv a1 => by
    unfold B_Seconds_fitsBehind_106 B_Seconds_fitsBehind_130 B_Seconds_fitsBehind_140
    refine con_mono (j_asks hb0 H) ?_
    rintro r h2 ⟨z, rfl, hb2, rfl, zz⟩
    refine ⟨z, rfl, hb2, fun q => t142 a1 (fun w => ?_), fun q => ⟨fun q2 => t142 a1 (fun _ w => ?_), fun q2 => ?_⟩⟩
    · rcases zz with ⟨-, w2⟩ | ⟨w2, -⟩
      · exact absurd w w2
      · omega
    · rcases tv with ⟨-, w2⟩ | ⟨w2, -⟩
      · exact w2 w.1
      · omega
    have ak : Ask R 8 := by
      rcases zz with ⟨w2, -⟩ | ⟨-, w2⟩
      · exact absurd w2 q
      · exact w2
    have pf : PFc ((x - ln (i + 1)) % 12) := by
      rcases tv with ⟨w2, -⟩ | ⟨-, w2⟩
      · exact absurd w2 q2
      · exact w2
    refine ⟨fun q3 => ⟨fun q4 => t142 a1 (fun _ w => ?_), fun q4 => ⟨fun q5 => t142 a1 (fun _ w => ?_), fun q5 => no (fun w => w.2.1 ak ⟨pf, Or.inr ⟨by omega, by omega⟩⟩)⟩⟩, fun q3 => ⟨fun q4 => no (fun w => w.2.1 ak ⟨pf, Or.inl ⟨by omega, q4⟩⟩), fun q4 => ⟨fun q5 => t142 a1 (fun _ w => ?_), fun q5 => by omega⟩⟩⟩
    · have := w.2; omega
    · have := w.2; omega
    · have := w.2; omega
  unfold B_Seconds_fitsBehind_0
  rw [tn_c, show (((i + 1 : Nat) : Int) - 1).toNat = i by omega]
  refine ⟨by omega, fun x2 e2 _ _ x5 e5 _ _ => ?_⟩
  have ex := e2.trans hx
  subst ex
  have ex := e5.trans (H.2 (i + 1) hi)
  subst ex
  refine ⟨⟨by omega, by omega⟩, ⟨by omega, by omega⟩, by omega, fun x9 e9 _ _ x12 e12 _ _ => ?_⟩
  have ex := e9.trans hy
  subst ex
  have ex := e12.trans (H.2 i (by omega))
  subst ex
  refine ⟨⟨by omega, by omega⟩, ⟨by omega, by omega⟩, ⟨by omega, by omega⟩, ?_⟩
  refine con_mono (j_among hb0 (C := PFc) (fun m h0 h1 => inSet_129 h0 h1)) ?_
  rintro r h2 ⟨z, rfl, hb2, rfl, zz⟩
  refine ⟨z, rfl, hb2, ?_⟩
  refine con_mono (j_asks hb2 H) ?_
  rintro r h3 ⟨z2, rfl, hb3, rfl, zz2⟩
  refine ⟨z2, rfl, hb3, fun q => t106 z zz (fun w => ?_), fun q => ⟨fun q2 => t106 z zz (fun _ w => ?_), fun q2 => ⟨fun q3 => t106 z zz (fun _ w => w.2.1 q3), fun q3 => ⟨⟨by omega, by omega⟩, ?_⟩⟩⟩⟩
  · rcases zz2 with ⟨-, w2⟩ | ⟨w2, -⟩
    · exact absurd w w2
    · omega
  · rcases zz with ⟨-, w2⟩ | ⟨w2, -⟩
    · exact w2 w.1
    · omega
  have ak : Ask R 4 := by
    rcases zz2 with ⟨w2, -⟩ | ⟨-, w2⟩
    · exact absurd w2 q
    · exact w2
  have pf : PFc ((x2 - ln (i + 1)) % 12) := by
    rcases zz with ⟨w2, -⟩ | ⟨-, w2⟩
    · exact absurd w2 q2
    · exact w2
  refine con_mono (s_JMath_floorMod (by decide) (by decide)) ?_
  rintro r h4 ⟨z8, rfl, -, ⟨-, ez⟩, rfl⟩
  refine ⟨z8, rfl, hb3, fun q4 => no (fun w => w.1 ak ⟨pf, q3, by omega⟩), fun q4 => t106 z zz (fun _ w => by have := w.2.2; omega)⟩
theorem j_leap {i : Nat} {x y w : Int} (hb0 : hb s h) (H : PRc low sp n R ln h) (hg : PRg low sp n ln) (hi : i + 2 < n) (hx : h.2.1 161 (i + 2) = x) (hy : h.2.1 161 (i + 1) = y) (hw : h.2.1 161 i = w) (xb : low ≤ x ∧ x < low + sp) (yb : low ≤ y ∧ y < low + sp) (wb : low ≤ w ∧ w < low + sp) : con G 1 0 0 m_Seconds_fitsLeap [av_R (some 158), av_I ((i + 2 : Nat) : Int)] h (fun r h' => ∃ z : Int, r = some (av_I z) ∧ hb s h' ∧ h' = h ∧ Tld (fC R x y w) z) := by
  obtain ⟨⟨g1, g2⟩, g3, ⟨g4, g5⟩, g6⟩ := hg
  refine c_Seconds_fitsLeap hb0 (fun _ => ?_)
  unfold B_Seconds_fitsLeap_0 B_Seconds_fitsLeap_86 B_Seconds_fitsLeap_68 B_Seconds_fitsLeap_51 B_Seconds_fitsLeap_91
  rw [tn_c, show (((i + 2 : Nat) : Int) - 1).toNat = i + 1 by omega, show (((i + 2 : Nat) : Int) - 2).toNat = i by omega]
  refine ⟨⟨by omega, by omega⟩, by omega, fun x3 e3 _ _ => ⟨⟨by omega, by omega⟩, by omega, fun x7 e7 _ _ => ?_⟩⟩
  have ex := e3.trans hy
  subst ex
  have ex := e7.trans hw
  subst ex
  refine ⟨⟨by omega, by omega⟩, by omega, fun x11 e11 _ _ => ?_⟩
  have ex := e11.trans hx
  subst ex
  refine ⟨⟨by omega, by omega⟩, ?_⟩
  refine con_mono (j_asks hb0 H) ?_
  rintro r h2 ⟨z, rfl, hb2, rfl, zz⟩
  have yes : fC R x11 x3 x7 → ∃ z : Int, some (av_I 1) = some (av_I z) ∧ hb s h2 ∧ h2 = h2 ∧ Tld (fC R x11 x3 x7) z := fun w => ⟨1, rfl, hb2, rfl, Or.inr ⟨rfl, w⟩⟩
  have no : ¬ fC R x11 x3 x7 → ∃ z : Int, some (av_I 0) = some (av_I z) ∧ hb s h2 ∧ h2 = h2 ∧ Tld (fC R x11 x3 x7) z := fun w => ⟨0, rfl, hb2, rfl, Or.inl ⟨rfl, w⟩⟩
  refine ⟨z, rfl, hb2, fun q => yes (fun w => ?_), fun q x19 e19 _ _ => ?_⟩
  · rcases zz with ⟨-, w2⟩ | ⟨w2, -⟩
    · exact absurd w w2
    · omega
  have ak : Ask R 64 := by
    rcases zz with ⟨w2, -⟩ | ⟨-, w2⟩
    · exact absurd w2 q
    · exact w2
  have a4 := abs_i (by omega) e19
  refine ⟨fun q2 => ⟨fun q3 => ⟨fun q4 => ⟨Or.inr rfl, yes (fun _ => by omega)⟩, fun q4 => ⟨fun q5 => ⟨Or.inr rfl, yes (fun _ => by omega)⟩, fun q5 => ⟨Or.inl rfl, no (fun w => by have := w ak; omega)⟩⟩⟩, fun q3 => ⟨fun q4 => ⟨Or.inr rfl, yes (fun _ => by omega)⟩, fun q4 => ⟨fun q5 => ⟨Or.inr rfl, yes (fun _ => by omega)⟩, fun q5 => ⟨Or.inl rfl, no (fun w => by have := w ak; omega)⟩⟩⟩⟩, fun q2 => yes (fun _ => by omega)⟩
end

/-! ===== second voices, the class: going through all rows ===== -/
def tb64 (w : Int) (k : Nat) : Bool := (Int64.ofInt w).toBitVec.getLsbD k
set_option maxRecDepth 100000 in
theorem one_sh : ∀ k : Nat, k < 64 → ∀ i : Nat, i < 64 → ((Int64.ofInt 1) <<< ((Int32.ofInt (k : Int)).toInt64 &&& 63)).toBitVec.getLsbD i = decide (i = k) := by decide +kernel
theorem tb_or {x4 x7 x8 : Int} {k i : Nat} (hk : k < 64) (hi : i < 64) (e7 : x7 = ((Int64.ofInt 1) <<< ((Int32.ofInt (k : Int)).toInt64 &&& 63)).toInt) (e8 : x8 = ((Int64.ofInt x4) ||| (Int64.ofInt x7)).toInt) : tb64 x8 i = (tb64 x4 i || decide (i = k)) := by
  unfold tb64
  rw [e8, Int64.ofInt_toInt, Int64.toBitVec_or, BitVec.getLsbD_or, e7, Int64.ofInt_toInt, one_sh k hk i hi]
/-- the rows that were found: how many, and a bit for each -/
def BLs (l : List Nat) (h : ah_T) : Prop := h.2.1 158 1 = (l.length : Int) ∧ ∀ r, r < 100032 → (tb64 (h.2.2.1 159 (r / 64)) (r % 64) = true ↔ r ∈ l)
abbrev JWk : Nat → Nat → Prop := fun a k => a = 159 ∨ (a = 158 ∧ k = 1)
abbrev JWe : Nat → Nat → Prop := fun a k => a = 159 ∨ (a = 158 ∧ k = 1) ∨ a = 161
theorem fr_ke {h h' : ah_T} (f : fr JWk h h') : fr JWe h h' := fr_w f (fun a k w => by omega)
section
variable {G : cx_T} {s : Nat} {h : ah_T} {low : Int} {sp n : Nat} {R : Int} {ln : Nat → Int}
theorem PRc_f {W : Nat → Nat → Prop} {h' : ah_T} (H : PRc low sp n R ln h) (f : fr W h h') (hW : ∀ a k, W a k → a ≠ 160 ∧ ¬ (a = 158 ∧ 2 ≤ k)) : PRc low sp n R ln h' := by
  obtain ⟨⟨h1, h2, h3, h4⟩, h5⟩ := H
  have g : ∀ a k, a = 160 ∨ (a = 158 ∧ 2 ≤ k) → h'.2.1 a k = h.2.1 a k := fun a k q => fr_g f (fun w => by have := hW a k w; omega)
  exact ⟨⟨(g _ _ (by omega)).trans h1, (g _ _ (by omega)).trans h2, (g _ _ (by omega)).trans h3, (g _ _ (by omega)).trans h4⟩, fun j hj => (g _ _ (by omega)).trans (h5 j hj)⟩
theorem JWe_p : ∀ a k, JWe a k → a ≠ 160 ∧ ¬ (a = 158 ∧ 2 ≤ k) := by
  intro a k w
  rcases w with w | w | w <;> omega
theorem j_keep {row : Nat} {l : List Nat} (hb0 : hb s h) (B : BLs l h) (hr : row < 100032) (hl : l.length < 2000000000) : con G 0 0 0 m_Seconds_keep [av_R (some 158), av_I (row : Int)] h (fun r h' => r = none ∧ hb s h' ∧ fr JWk h h' ∧ BLs (l ++ [row]) h') := by
  refine c_Seconds_keep hb0 (fun _ => ?_)
  unfold B_Seconds_keep_0 B_Seconds_keep_43
  intro x1 e1 _ _
  have ex : x1 = ((row / 2 ^ 6 : Nat) : Int) := e1.trans (un_shr (by omega) (by decide +kernel))
  subst ex
  have e64 : row / 2 ^ 6 = row / 64 := rfl
  rw [e64, tn_c]
  refine ⟨fun q => by omega, fun q => ⟨fun q2 => by omega, fun q2 => ⟨by omega, fun x4 e4 _ _ x6 e6 _ _ x7 e7 _ _ x8 e8 _ _ h9 e9 x11 e11 _ _ => ?_⟩⟩⟩
  have ex : x6 = ((row % 2 ^ 6 : Nat) : Int) := e6.trans (un_and (m := 63) (by omega) (by decide +kernel) (by decide))
  subst ex
  have e65 : row % 2 ^ 6 = row % 64 := rfl
  rw [e65] at e7
  have ex : x11 = (l.length : Int) := by
    rw [e11, mm_lo e9]
    exact B.1
  subst ex
  refine ⟨⟨by omega, by omega⟩, fun h13 e13 => ⟨rfl, hb_i (hb_l hb0 e9) e13, fr_i (fr_l fr_0 e9 (by omega)) e13 (by omega), ?_, fun r hr2 => ?_⟩⟩
  · rw [mv_i e13, List.length_append]
    rfl
  · rw [List.mem_append, List.mem_singleton, mm_io e13]
    by_cases cq : r / 64 = row / 64
    · rw [cq, mv_l e9, tb_or (Nat.mod_lt _ (by decide)) (Nat.mod_lt _ (by decide)) e7 e8, Bool.or_eq_true, decide_eq_true_eq, e4, ← cq, B.2 r hr2]
      constructor
      · rintro (w | w)
        · exact Or.inl w
        · exact Or.inr (by omega)
      · rintro (w | w)
        · exact Or.inl w
        · exact Or.inr (by omega)
    · rw [mm_l e9 (by omega), B.2 r hr2]
      constructor
      · exact fun w => Or.inl w
      · rintro (w | w)
        · exact w
        · exact absurd (by rw [w]) cq
theorem rwF_l {P : Int → List Int → Prop} : ∀ (f : Nat) (p : List Int), (rwF low sp P f p).length ≤ sp ^ f
  | 0, p => by show 1 ≤ 1; decide
  | f + 1, p => by
    have key : ∀ k, (rws (catF (stp low sp P f p) k 0)).length ≤ k * sp ^ f := by
      intro k
      induction k with
      | zero => exact Nat.zero_le _
      | succ k ih =>
        rw [catF_s, rws_a, List.length_append, rws_stp, Nat.succ_mul]
        have := rwF_l (P := P) f ((low + ((0 + k : Nat) : Int)) :: p)
        by_cases c : P (low + ((0 + k : Nat) : Int)) p
        · rw [dif_t c]; omega
        · rw [dif_f c]; show _ + 0 ≤ _; omega
    show (rws (tvF low sp P f p)).length ≤ sp ^ (f + 1)
    rw [rws_tv, Nat.pow_succ, Nat.mul_comm]
    exact key sp
theorem j_ext0 {g : Nat} {p : List Int} {l : List Nat} (hg : PRg low sp n ln) (hN : sp ^ n ≤ 100000) (pn : p.length = n) (hb0 : hb s h) (H : PRc low sp n R ln h) (kr : KRg low sp p) (B : BLs l h) (hl : l.length + 1 ≤ 100000) : con G (g + 4) 0 0 m_Seconds_extend [av_R (some 158), av_I (p.length : Int), av_I (rowL low sp p : Int)] h (fun r h' => r = none ∧ hb s h' ∧ fr JWe h h' ∧ (∀ j, j < p.length → h'.2.1 161 j = h.2.1 161 j) ∧ BLs (l ++ rwF low sp (fP R ln n) 0 p) h') := by
  obtain ⟨⟨g1, g2⟩, g3, ⟨g4, g5⟩, g6⟩ := hg
  have rb := rowL_b g3 p kr
  rw [pn] at rb
  refine c_Seconds_extend (dd := g + 3) (by omega) (X25 := fun _ _ => False) (fun _ _ _ x => x.elim) hb0 (fun _ _ => ?_)
  unfold B_Seconds_extend_0 B_Seconds_extend_17
  intro x1 e1 _ _
  have ex := e1.trans H.1.2.2.1
  subst ex
  refine ⟨fun _ => ?_, fun q => by omega⟩
  refine con_mono (j_keep hb0 B (row := rowL low sp p) (by omega) (by omega)) ?_
  rintro r h2 ⟨rfl, hb2, f2, B2⟩
  exact ⟨rfl, hb2, rfl, hb2, fr_ke f2, fun j _ => fr_g f2 (by omega), B2⟩
theorem j_ext (hg : PRg low sp n ln) (hN : sp ^ n ≤ 100000) : ∀ (g f : Nat) {h : ah_T} {p : List Int} {l : List Nat}, p.length + g = 8 → p.length + f = n → hb s h → PRc low sp n R ln h → KLs 161 p h → KRg low sp p → BLs l h → l.length + sp ^ f ≤ 100000 → con G (g + 4) 0 0 m_Seconds_extend [av_R (some 158), av_I (p.length : Int), av_I (rowL low sp p : Int)] h (fun r h' => r = none ∧ hb s h' ∧ fr JWe h h' ∧ (∀ j, j < p.length → h'.2.1 161 j = h.2.1 161 j) ∧ BLs (l ++ rwF low sp (fP R ln n) f p) h') := by
  obtain ⟨⟨g1, g2⟩, g3, ⟨g4, g5⟩, g6⟩ := id hg
  intro g
  induction g with
  | zero =>
    intro f h p l hlen hp hb0 H K kr B hl
    cases f with
    | zero => exact j_ext0 hg hN (by omega) hb0 H kr B hl
    | succ f => omega
  | succ g ih0 =>
    intro f h p l hlen hp hb0 H K kr B hl
    cases f with
    | zero => exact j_ext0 hg hN (by omega) hb0 H kr B hl
    | succ f =>
    have ih := @ih0 f
    have rb := rowL_b g3 p kr
    have pw : sp ^ (p.length + 1) ≤ sp ^ n := Nat.pow_le_pow_right g3 (by omega)
    have rb2 : rowL low sp p * sp + sp ≤ 100000 := by
      have : (rowL low sp p + 1) * sp ≤ sp ^ p.length * sp := Nat.mul_le_mul_right _ rb
      have e : sp ^ (p.length + 1) = sp ^ p.length * sp := Nat.pow_succ ..
      rw [Nat.add_mul, Nat.one_mul, ← e] at this
      omega
    generalize eF : stp low sp (fP R ln n) f p = F
    have lF : ∀ k, k ≤ sp → (rws (catF F k 0)).length ≤ k * sp ^ f := by
      intro k
      induction k with
      | zero => intro _; exact Nat.zero_le _
      | succ k ih2 =>
        intro hk
        have i2 := ih2 (by omega)
        have w := rwF_l (low := low) (sp := sp) (P := fP R ln n) f ((low + ((0 + k : Nat) : Int)) :: p)
        rw [catF_s, rws_a, List.length_append, ← eF, rws_stp, Nat.succ_mul]
        rw [← eF] at i2
        by_cases c : fP R ln n (low + ((0 + k : Nat) : Int)) p
        · rw [dif_t c]; omega
        · rw [dif_f c]; show _ + 0 ≤ _; omega
    refine c_Seconds_extend (dd := g + 4) (by omega) (X25 := fun v3 hh => fr JWe h hh ∧ (∀ j, j < p.length → hh.2.1 161 j = h.2.1 161 j) ∧ ∃ d : Nat, v3 = (d : Int) ∧ d ≤ sp ∧ BLs (l ++ rws (catF F d 0)) hh) ?_ hb0 (fun _ _ => ?_)
    · refine lp_Seconds_extend_25 (by omega) _ (fun v3 _ => (200 - v3).toNat) ?_
      rintro v3 hh hb1 ⟨fw, k6, d, rfl, hd, B1⟩
      have H1 := PRc_f H fw JWe_p
      unfold B_Seconds_extend_25
      intro x1 e1 _ _
      have ex := e1.trans H1.1.2.1
      subst ex
      refine ⟨fun q => ⟨rfl, hb1, fw, k6, ?_⟩, fun q x3 e3 _ _ => ?_⟩
      · have : d = sp := by omega
        subst this
        show BLs (l ++ rws (tvF low d (fP R ln n) f p)) hh
        rw [rws_tv, eF]
        exact B1
      have ex := (e3.trans H1.1.1).symm
      subst ex
      refine ⟨⟨by omega, by omega⟩, by omega, fun h6 e6 => ?_⟩
      rw [tn_c] at e6
      have hb6 := hb_i hb1 e6
      have f6 : fr JWe h h6 := fr_i fw e6 (by omega)
      have H6 := PRc_f H f6 JWe_p
      have c6 : h6.2.1 161 p.length = low + (d : Int) := mv_i e6
      have k66 : ∀ j, j < p.length → h6.2.1 161 j = h.2.1 161 j := fun j hj => by rw [mm_i e6 (by omega)]; exact k6 j hj
      have K6 : KLs 161 ((low + (d : Int)) :: p) h6 := ⟨c6, KLs_e p K k66⟩
      have B6 : BLs (l ++ rws (catF F d 0)) h6 := by
        refine ⟨by rw [mm_i e6 (by omega)]; exact B1.1, fun r hr => ?_⟩
        rw [mm_io e6]
        exact B1.2 r hr
      have kr6 : KRg low sp ((low + (d : Int)) :: p) := KRg_c ⟨by omega, by omega⟩ kr
      have cs : catF F (d + 1) 0 = catF F d 0 ++ F d := by rw [catF_s, Nat.zero_add]
      -- behind the digit
      have t93 : ∀ {h7 : ah_T}, hb s h7 → fr JWe h h7 → (∀ j, j < p.length → h7.2.1 161 j = h.2.1 161 j) → BLs (l ++ rws (catF F (d + 1) 0)) h7 → B_Seconds_extend_93 G s (g + 4) (p.length : Int) (rowL low sp p : Int) (d : Int) h7 (fun r h' => r = none ∧ hb s h' ∧ fr JWe h h' ∧ (∀ j, j < p.length → h'.2.1 161 j = h.2.1 161 j) ∧ BLs (l ++ rwF low sp (fP R ln n) (f + 1) p) h') (fun v3' h' => (fr JWe h h' ∧ (∀ j, j < p.length → h'.2.1 161 j = h.2.1 161 j) ∧ ∃ d : Nat, v3' = (d : Int) ∧ d ≤ sp ∧ BLs (l ++ rws (catF F d 0)) h') ∧ (200 - v3').toNat < (200 - (d : Int)).toNat) := by
        intro h7 hb7 f7 k7 B7
        unfold B_Seconds_extend_93
        exact ⟨⟨by omega, by omega⟩, ⟨f7, k7, d + 1, by omega, by omega, B7⟩, by omega⟩
      have no : ¬ fP R ln n (low + (d : Int)) p → B_Seconds_extend_93 G s (g + 4) (p.length : Int) (rowL low sp p : Int) (d : Int) h6 (fun r h' => r = none ∧ hb s h' ∧ fr JWe h h' ∧ (∀ j, j < p.length → h'.2.1 161 j = h.2.1 161 j) ∧ BLs (l ++ rwF low sp (fP R ln n) (f + 1) p) h') (fun v3' h' => (fr JWe h h' ∧ (∀ j, j < p.length → h'.2.1 161 j = h.2.1 161 j) ∧ ∃ d : Nat, v3' = (d : Int) ∧ d ≤ sp ∧ BLs (l ++ rws (catF F d 0)) h') ∧ (200 - v3').toNat < (200 - (d : Int)).toNat) := by
        intro nf
        refine t93 hb6 f6 k66 ?_
        have e0 : rws (F d) = [] := by rw [← eF, rws_stp, dif_f nf]
        rw [cs, rws_a, e0, List.append_nil]
        exact B6
      have yes : fP R ln n (low + (d : Int)) p → B_Seconds_extend_78 G s (g + 4) (p.length : Int) (rowL low sp p : Int) (d : Int) h6 (fun r h' => r = none ∧ hb s h' ∧ fr JWe h h' ∧ (∀ j, j < p.length → h'.2.1 161 j = h.2.1 161 j) ∧ BLs (l ++ rwF low sp (fP R ln n) (f + 1) p) h') (fun v3' h' => (fr JWe h h' ∧ (∀ j, j < p.length → h'.2.1 161 j = h.2.1 161 j) ∧ ∃ d : Nat, v3' = (d : Int) ∧ d ≤ sp ∧ BLs (l ++ rws (catF F d 0)) h') ∧ (200 - v3').toNat < (200 - (d : Int)).toNat) := by
        intro yf
        have lk := lF d hd
        have e0 : rws (F d) = rwF low sp (fP R ln n) f ((low + (d : Int)) :: p) := by rw [← eF, rws_stp, dif_t yf]
        have er : rowL low sp ((low + (d : Int)) :: p) = rowL low sp p * sp + d := by
          show rowL low sp p * sp + (low + (d : Int) - low).toNat = _
          omega
        have i1 := ih (h := h6) (p := (low + (d : Int)) :: p) (l := l ++ rws (catF F d 0)) (by show p.length + 1 + g = 8; omega) (by show p.length + 1 + f = n; omega) hb6 H6 K6 kr6 B6 (by
          rw [List.length_append]
          have : (d + 1) * sp ^ f ≤ sp * sp ^ f := Nat.mul_le_mul_right _ (by omega)
          rw [Nat.pow_succ, Nat.mul_comm] at hl
          rw [Nat.succ_mul] at this
          omega)
        unfold B_Seconds_extend_78
        refine ⟨⟨by omega, by omega⟩, fun x2 e2 _ _ x3 e3 => ?_⟩
        have ex := e2.trans H6.1.2.1
        subst ex
        have ex : x3 = ((rowL low sp p * sp : Nat) : Int) := by rw [e3, Int.natCast_mul]
        subst ex
        refine ⟨⟨by omega, by omega⟩, ⟨by omega, by omega⟩, ?_⟩
        rw [er] at i1
        rw [show (p.length : Int) + 1 = (((low + (d : Int)) :: p).length : Int) from rfl, show ((rowL low sp p * sp : Nat) : Int) + (d : Int) = ((rowL low sp p * sp + d : Nat) : Int) by omega]
        refine con_mono i1 ?_
        rintro r h7 ⟨rfl, hb7, f7, k7, B7⟩
        refine ⟨rfl, hb7, t93 hb7 (fr_t f6 f7 (fun _ _ w => w)) (fun j hj => (k7 j (Nat.lt_succ_of_lt hj)).trans (k66 j hj)) ?_⟩
        rw [cs, rws_a, e0, ← List.append_assoc]
        exact B7
      refine con_mono (j_alone2 hb6 H6 hg (i := p.length) (by omega) c6 (KRg_h kr6)) ?_
      rintro r h8 ⟨z, rfl, hb8, rfl, zz⟩
      refine ⟨z, rfl, hb8, fun q0 => no (fun w => ?_), fun q0 => ?_⟩
      · have nA : ¬ fA R ln n (low + (d : Int)) p.length := by
          rcases zz with ⟨-, w2⟩ | ⟨w2, -⟩
          · exact w2
          · omega
        cases p with
        | nil => exact nA w
        | cons y p1 => cases p1 with
          | nil => exact nA w.1
          | cons y2 p2 => exact nA w.1
      have yA : fA R ln n (low + (d : Int)) p.length := by
        rcases zz with ⟨w2, -⟩ | ⟨-, w2⟩
        · exact absurd w2 q0
        · exact w2
      unfold B_Seconds_extend_65
      cases p with
      | nil =>
        refine ⟨fun _ => ⟨fun _ => yes yA, fun q1 => absurd (show (([] : List Int).length : Int) < 2 by decide) q1⟩, fun q1 => absurd (show (([] : List Int).length : Int) = 0 from rfl) q1⟩
      | cons y p1 =>
        have cy : h8.2.1 161 p1.length = y := K6.2.1
        have yr := KRg_h kr
        refine ⟨fun q1 => by have : ((p1.length + 1 : Nat) : Int) = 0 := q1; omega, fun _ => ?_⟩
        refine con_mono (j_behind hb8 H6 hg (i := p1.length) (by have : p1.length + 1 + (f + 1) = n := hp; omega) c6 cy (KRg_h kr6) yr) ?_
        rintro r h9 ⟨z2, rfl, hb9, rfl, zz2⟩
        refine ⟨z2, rfl, hb9, fun q2 => no (fun w => ?_), fun q2 => ?_⟩
        · have nB : ¬ fB R ln (low + (d : Int)) y p1.length := by
            rcases zz2 with ⟨-, w2⟩ | ⟨w2, -⟩
            · exact w2
            · omega
          cases p1 with
          | nil => exact nB w.2
          | cons y2 p2 => exact nB w.2.1
        have yB : fB R ln (low + (d : Int)) y p1.length := by
          rcases zz2 with ⟨w2, -⟩ | ⟨-, w2⟩
          · exact absurd w2 q2
          · exact w2
        cases p1 with
        | nil => exact ⟨fun _ => yes ⟨yA, yB⟩, fun q3 => absurd (show (((0 + 1 : Nat)) : Int) < 2 by decide) q3⟩
        | cons y2 p2 =>
          have cy2 : h9.2.1 161 p2.length = y2 := K6.2.2.1
          refine ⟨fun q3 => by have : ((p2.length + 2 : Nat) : Int) < 2 := q3; omega, fun _ => ?_⟩
          refine con_mono (j_leap hb9 H6 hg (i := p2.length) (by have : p2.length + 1 + 1 + (f + 1) = n := hp; omega) c6 cy cy2 (KRg_h kr6) yr (KRg_h (KRg_t kr))) ?_
          rintro r h10 ⟨z3, rfl, hb10, rfl, zz3⟩
          refine ⟨z3, rfl, hb10, fun q4 => no (fun w => ?_), fun q4 => yes ⟨yA, yB, ?_⟩⟩
          · rcases zz3 with ⟨-, w2⟩ | ⟨w2, -⟩
            · exact w2 w.2.2
            · omega
          · rcases zz3 with ⟨w2, -⟩ | ⟨-, w2⟩
            · exact absurd w2 q4
            · exact w2
    · unfold B_Seconds_extend_0
      intro x1 e1 _ _
      have ex := e1.trans H.1.2.2.1
      subst ex
      refine ⟨fun q => by omega, fun q => ⟨fun _ => ⟨fr_0, fun _ _ => rfl, 0, rfl, Nat.zero_le _, ?_⟩, fun q2 => by omega⟩⟩
      show BLs (l ++ []) h
      rw [List.append_nil]
      exact B
end

/-! ===== longs as words of bits; bitCount ===== -/
def uL (x : Int) : Nat := (Int64.ofInt x).toBitVec.toNat
theorem uL_e (x : Int) : ((uL x : Nat) : Int) = x % 18446744073709551616 := by
  unfold uL
  rw [Int64.toBitVec_ofInt, BitVec.toNat_ofInt]
  omega
theorem uL_lt (x : Int) : uL x < 18446744073709551616 := by
  have := uL_e x
  omega
theorem tb_u {w : Int} {k : Nat} : tb64 w k = (uL w).testBit k := rfl
theorem uL_and {x : Int} {m : Nat} (hm : m < 2 ^ 63) : uL ((Int64.ofInt x &&& Int64.ofInt (m : Int)).toInt) = uL x &&& m := by
  unfold uL
  rw [Int64.ofInt_toInt, Int64.toBitVec_and, BitVec.toNat_and, l64_nat hm]
set_option maxRecDepth 100000 in
theorem sh_k : ∀ k : Nat, k < 64 → ((Int32.ofInt (k : Int)).toInt64.toUInt64 &&& Int64.toUInt64 63).toNat % 64 = k := by decide +kernel
theorem uL_shr {x : Int} {k : Nat} (hk : k < 64) : uL ((((Int64.ofInt x).toUInt64 >>> ((Int32.ofInt (k : Int)).toInt64.toUInt64 &&& Int64.toUInt64 63)).toInt64).toInt) = uL x / 2 ^ k := by
  unfold uL
  rw [Int64.ofInt_toInt]
  show ((Int64.ofInt x).toUInt64 >>> ((Int32.ofInt (k : Int)).toInt64.toUInt64 &&& Int64.toUInt64 63)).toNat = _
  rw [UInt64.toNat_shiftRight, sh_k k hk, Nat.shiftRight_eq_div_pow]
  rfl
theorem uL_w (y : Int) : ((uL (w64 y) : Nat) : Int) = y % 18446744073709551616 := by
  rw [uL_e]
  unfold w64
  omega
/-! bytes of a word -/
def va : List Nat → Nat
  | [] => 0
  | b :: L => b + 256 * va L
def byl : Nat → Nat → List Nat
  | 0, _ => []
  | k + 1, x => x % 256 :: byl k (x / 256)
theorem va_byl : ∀ k x, x < 256 ^ k → va (byl k x) = x
  | 0, x, h => by
    rw [Nat.pow_zero] at h
    show 0 = x
    omega
  | k + 1, x, h => by
    rw [Nat.pow_succ] at h
    have ih := va_byl k (x / 256) (by omega)
    show x % 256 + 256 * va (byl k (x / 256)) = x
    omega
theorem byl_b : ∀ k x b, b ∈ byl k x → b < 256
  | 0, _, _, h => by cases h
  | k + 1, x, b, h => by
    rcases List.mem_cons.mp h with rfl | h
    · omega
    · exact byl_b k _ b h
theorem and_2 {b m X Y : Nat} (hb : b < 256) (hm : m < 256) : (b + 256 * X) &&& (m + 256 * Y) = (b &&& m) + 256 * (X &&& Y) := by
  have hbm : b &&& m < 2 ^ 8 := Nat.and_lt_two_pow b (n := 8) hm
  rw [show b + 256 * X = 2 ^ 8 * X + b by omega, show m + 256 * Y = 2 ^ 8 * Y + m by omega, show (b &&& m) + 256 * (X &&& Y) = 2 ^ 8 * (X &&& Y) + (b &&& m) by omega]
  apply Nat.eq_of_testBit_eq
  intro i
  rw [Nat.testBit_and, Nat.testBit_two_pow_mul_add X (i := 8) hb, Nat.testBit_two_pow_mul_add Y (i := 8) hm, Nat.testBit_two_pow_mul_add (X &&& Y) hbm]
  split
  · rw [Nat.testBit_and]
  · rw [Nat.testBit_and]
theorem k1_5 : ∀ b, b < 256 → ∀ t, t < 2 → (b / 2 + 128 * t) &&& 85 = (b / 2) &&& 85 := by decide +kernel
theorem k1_3 : ∀ b, b < 256 → ∀ t, t < 4 → (b / 4 + 64 * t) &&& 51 = (b / 4) &&& 51 := by decide +kernel
theorem st1 : ∀ L : List Nat, (∀ b, b ∈ L → b < 256) → (va L / 2) &&& va (L.map (fun _ => 85)) = va (L.map (fun b => (b / 2) &&& 85))
  | [], _ => by decide
  | b :: L, h => by
    have ih := st1 L (fun c hc => h c (List.mem_cons_of_mem _ hc))
    have hb := h b List.mem_cons_self
    show ((b + 256 * va L) / 2) &&& (85 + 256 * va (L.map (fun _ => 85))) = ((b / 2) &&& 85) + 256 * va (L.map (fun b => (b / 2) &&& 85))
    rw [← ih, show (b + 256 * va L) / 2 = (b / 2 + 128 * (va L % 2)) + 256 * (va L / 2) by omega, and_2 (by omega) (by decide), k1_5 b hb (va L % 2) (by omega)]
theorem st2 : ∀ L : List Nat, (∀ b, b ∈ L → b < 256) → (va L / 4) &&& va (L.map (fun _ => 51)) = va (L.map (fun b => (b / 4) &&& 51))
  | [], _ => by decide
  | b :: L, h => by
    have ih := st2 L (fun c hc => h c (List.mem_cons_of_mem _ hc))
    have hb := h b List.mem_cons_self
    show ((b + 256 * va L) / 4) &&& (51 + 256 * va (L.map (fun _ => 51))) = ((b / 4) &&& 51) + 256 * va (L.map (fun b => (b / 4) &&& 51))
    rw [← ih, show (b + 256 * va L) / 4 = (b / 4 + 64 * (va L % 4)) + 256 * (va L / 4) by omega, and_2 (by omega) (by decide), k1_3 b hb (va L % 4) (by omega)]
theorem st2a : ∀ L : List Nat, (∀ b, b ∈ L → b < 256) → va L &&& va (L.map (fun _ => 51)) = va (L.map (fun b => b &&& 51))
  | [], _ => by decide
  | b :: L, h => by
    have ih := st2a L (fun c hc => h c (List.mem_cons_of_mem _ hc))
    have hb := h b List.mem_cons_self
    show (b + 256 * va L) &&& (51 + 256 * va (L.map (fun _ => 51))) = (b &&& 51) + 256 * va (L.map (fun b => b &&& 51))
    rw [← ih, and_2 hb (by decide)]
/-- nibbles of 4 at most -/
def Nb (b : Nat) : Prop := b % 16 ≤ 4 ∧ b / 16 ≤ 4
theorem va_nb : ∀ L : List Nat, (∀ b, b ∈ L → Nb b) → va L % 16 ≤ 4
  | [], _ => by decide
  | b :: L, h => by
    have hb := (h b List.mem_cons_self).1
    show (b + 256 * va L) % 16 ≤ 4
    omega
theorem st3 : ∀ L : List Nat, (∀ b, b ∈ L → Nb b) → (va L + va L / 16) &&& va (L.map (fun _ => 15)) = va (L.map (fun b => (b + b / 16) % 16))
  | [], _ => by decide
  | b :: L, h => by
    have hL := fun c hc => h c (List.mem_cons_of_mem _ hc)
    have ih := st3 L hL
    have hb := h b List.mem_cons_self
    have hv := va_nb L hL
    unfold Nb at hb
    show ((b + 256 * va L) + (b + 256 * va L) / 16) &&& (15 + 256 * va (L.map (fun _ => 15))) = (b + b / 16) % 16 + 256 * va (L.map (fun b => (b + b / 16) % 16))
    rw [← ih, show (b + 256 * va L) + (b + 256 * va L) / 16 = (b + b / 16 + 16 * (va L % 16)) + 256 * (va L + va L / 16) by omega, and_2 (by omega) (by decide)]
    have e : (b + b / 16 + 16 * (va L % 16)) &&& 15 = (b + b / 16 + 16 * (va L % 16)) % 16 := Nat.and_two_pow_sub_one_eq_mod _ 4
    rw [e]
    omega
theorem va_sub {f : Nat → Nat} : ∀ L : List Nat, (∀ b, b ∈ L → f b ≤ b) → va L = va (L.map f) + va (L.map (fun b => b - f b))
  | [], _ => rfl
  | b :: L, h => by
    have ih := va_sub L (fun c hc => h c (List.mem_cons_of_mem _ hc))
    have hb := h b List.mem_cons_self
    show b + 256 * va L = (f b + 256 * va (L.map f)) + ((b - f b) + 256 * va (L.map (fun b => b - f b)))
    omega
theorem va_add {f g : Nat → Nat} : ∀ L : List Nat, va (L.map f) + va (L.map g) = va (L.map (fun b => f b + g b))
  | [] => rfl
  | b :: L => by
    have ih := va_add (f := f) (g := g) L
    show (f b + 256 * va (L.map f)) + (g b + 256 * va (L.map g)) = (f b + g b) + 256 * va (L.map (fun b => f b + g b))
    omega
def pc1 (b : Nat) : Nat := b - ((b / 2) &&& 85)
def pc2 (b : Nat) : Nat := (b &&& 51) + ((b / 4) &&& 51)
def pc3 (b : Nat) : Nat := (b + b / 16) % 16
/-- how many bits below k are set -/
def cb (U : Nat) : Nat → Nat
  | 0 => 0
  | k + 1 => cb U k + (if U.testBit k = true then 1 else 0)
theorem pc_ok : ∀ b, b < 256 → ((b / 2) &&& 85) ≤ b ∧ pc1 b < 256 ∧ (pc2 (pc1 b) % 16 ≤ 4 ∧ pc2 (pc1 b) / 16 ≤ 4) ∧ pc3 (pc2 (pc1 b)) = cb b 8 ∧ cb b 8 ≤ 8 := by decide +kernel
theorem cb_lo {b X : Nat} (hb : b < 256) : ∀ k, k ≤ 8 → cb (b + 256 * X) k = cb b k
  | 0, _ => rfl
  | k + 1, h => by
    have ih := cb_lo (X := X) hb k (by omega)
    show cb (b + 256 * X) k + (if (b + 256 * X).testBit k = true then 1 else 0) = cb b k + (if b.testBit k = true then 1 else 0)
    rw [ih, show b + 256 * X = 2 ^ 8 * X + b by omega, Nat.testBit_two_pow_mul_add X (i := 8) hb, if_pos (show k < 8 by omega)]
theorem cb_hi {b X : Nat} (hb : b < 256) : ∀ k, cb (b + 256 * X) (8 + k) = cb b 8 + cb X k
  | 0 => cb_lo hb 8 (Nat.le_refl _)
  | k + 1 => by
    have ih := cb_hi (X := X) hb k
    show cb (b + 256 * X) (8 + k) + (if (b + 256 * X).testBit (8 + k) = true then 1 else 0) = cb b 8 + (cb X k + (if X.testBit k = true then 1 else 0))
    rw [ih, show b + 256 * X = 2 ^ 8 * X + b by omega, Nat.testBit_two_pow_mul_add X (i := 8) hb, if_neg (show ¬ 8 + k < 8 by omega), show 8 + k - 8 = k by omega]
    omega
theorem va_c {c : Nat} : ∀ L : List Nat, va (L.map (fun _ => c)) = va (List.replicate L.length c)
  | [] => rfl
  | b :: L => by
    have ih := va_c (c := c) L
    show c + 256 * va (L.map (fun _ => c)) = c + 256 * va (List.replicate L.length c)
    rw [ih]
theorem va_lt : ∀ L : List Nat, (∀ b, b ∈ L → b < 256) → va L < 256 ^ L.length
  | [], _ => by show 0 < 1; decide
  | b :: L, h => by
    have ih := va_lt L (fun c hc => h c (List.mem_cons_of_mem _ hc))
    have hb := h b List.mem_cons_self
    show b + 256 * va L < 256 ^ (L.length + 1)
    rw [Nat.pow_succ]
    omega
theorem va_nl2 {A C D : Nat} (d : D ≤ 68 * 255) (m : A + 256 * 68 ≤ C) : D + A + 68 ≤ C := by omega
theorem va_nl1 {b V P : Nat} (hb : b ≤ 68) (ih : V * 255 + 68 ≤ 68 * P) : (b + 256 * V) * 255 + 68 ≤ 68 * (P * 256) := by
  have e : (b + 256 * V) * 255 = b * 255 + 256 * (V * 255) := by rw [Nat.add_mul, Nat.mul_assoc]
  have m : 256 * (V * 255 + 68) ≤ 256 * (68 * P) := Nat.mul_le_mul_left 256 ih
  rw [Nat.mul_add] at m
  have g : 68 * (P * 256) = 256 * (68 * P) := by rw [Nat.mul_comm 256 (68 * P), Nat.mul_assoc]
  have d : b * 255 ≤ 68 * 255 := Nat.mul_le_mul_right 255 hb
  rw [e, g]
  exact va_nl2 d m
theorem va_nl : ∀ L : List Nat, (∀ b, b ∈ L → Nb b) → va L * 255 + 68 ≤ 68 * 256 ^ L.length
  | [], _ => by show 0 * 255 + 68 ≤ 68 * 1; decide
  | b :: L, h => by
    have ih := va_nl L (fun c hc => h c (List.mem_cons_of_mem _ hc))
    have hb := h b List.mem_cons_self
    unfold Nb at hb
    have hb2 : b ≤ 68 := by omega
    show (b + 256 * va L) * 255 + 68 ≤ 68 * 256 ^ (L.length + 1)
    rw [Nat.pow_succ]
    exact va_nl1 hb2 ih
theorem cb_8 {b0 b1 b2 b3 b4 b5 b6 b7 : Nat} (h0 : b0 < 256) (h1 : b1 < 256) (h2 : b2 < 256) (h3 : b3 < 256) (h4 : b4 < 256) (h5 : b5 < 256) (h6 : b6 < 256) (h7 : b7 < 256) : cb (va [b0, b1, b2, b3, b4, b5, b6, b7]) 64 = cb b0 8 + (cb b1 8 + (cb b2 8 + (cb b3 8 + (cb b4 8 + (cb b5 8 + (cb b6 8 + (cb b7 8 + 0))))))) := by
  have q : ∀ {b : Nat} {L : List Nat} (k : Nat), b < 256 → cb (va (b :: L)) (8 + k) = cb b 8 + cb (va L) k := fun k hb => cb_hi hb k
  have e7 := q (L := []) 0 h7
  have e6 := q (L := [b7]) 8 h6
  have e5 := q (L := [b6, b7]) 16 h5
  have e4 := q (L := [b5, b6, b7]) 24 h4
  have e3 := q (L := [b4, b5, b6, b7]) 32 h3
  have e2 := q (L := [b3, b4, b5, b6, b7]) 40 h2
  have e1 := q (L := [b2, b3, b4, b5, b6, b7]) 48 h1
  have e0 := q (L := [b1, b2, b3, b4, b5, b6, b7]) 56 h0
  have z : cb (va []) 0 = 0 := rfl
  rw [z] at e7
  exact e0.trans (congrArg (fun x => cb b0 8 + x) (e1.trans (congrArg (fun x => cb b1 8 + x) (e2.trans (congrArg (fun x => cb b2 8 + x) (e3.trans (congrArg (fun x => cb b3 8 + x) (e4.trans (congrArg (fun x => cb b4 8 + x) (e5.trans (congrArg (fun x => cb b5 8 + x) (e6.trans (congrArg (fun x => cb b6 8 + x) e7)))))))))))))
theorem pd1 {Y Y1 d : Nat} (hd : d ≤ 8) (e : Y = d + 256 * Y1) : Y / 256 = Y1 := by omega
theorem pd2 {Y Y1 Y2 Y3 d0 d1 d2 : Nat} (h0 : d0 ≤ 8) (h1 : d1 ≤ 8) (h2 : d2 ≤ 8) (e0 : Y = d0 + 256 * Y1) (e1 : Y1 = d1 + 256 * Y2) (e2 : Y2 = d2 + 256 * Y3) : (Y + Y1) / 65536 = Y2 + Y3 := by omega
theorem pdL {Y Y1 Y2 Y3 Y4 d0 d1 d2 d3 : Nat} (h0 : d0 ≤ 8) (h1 : d1 ≤ 8) (h2 : d2 ≤ 8) (h3 : d3 ≤ 8) (e0 : Y = d0 + 256 * Y1) (e1 : Y1 = d1 + 256 * Y2) (e2 : Y2 = d2 + 256 * Y3) (e3 : Y3 = d3 + 256 * Y4) : ∃ L, Y = L + 4294967296 * Y4 ∧ L ≤ 134744072 := ⟨d0 + 256 * d1 + 65536 * d2 + 16777216 * d3, by omega, by omega⟩
theorem pd3 {Y Y1 Y2 Y3 Y4 Y5 Y6 Y7 L0 L1 L2 L3 : Nat} (e0 : Y = L0 + 4294967296 * Y4) (l0 : L0 ≤ 134744072) (e1 : Y1 = L1 + 4294967296 * Y5) (l1 : L1 ≤ 134744072) (e2 : Y2 = L2 + 4294967296 * Y6) (l2 : L2 ≤ 134744072) (e3 : Y3 = L3 + 4294967296 * Y7) (l3 : L3 ≤ 134744072) : (Y + Y1 + (Y2 + Y3)) / 4294967296 = Y4 + Y5 + (Y6 + Y7) := by
  have e : Y + Y1 + (Y2 + Y3) = (L0 + L1 + L2 + L3) + 4294967296 * (Y4 + Y5 + (Y6 + Y7)) := by omega
  have l : L0 + L1 + L2 + L3 < 4294967296 := by omega
  rw [e, Nat.add_mul_div_left _ _ (by decide), Nat.div_eq_of_lt l, Nat.zero_add]
theorem pd4 {Y Y1 Y2 Y3 Y4 Y5 Y6 Y7 : Nat} (b : Y ≤ 578721382704613384) (b1 : Y1 ≤ 2260630401189896) (b2 : Y2 ≤ 8830587504648) (b3 : Y3 ≤ 34494482440) (b4 : Y4 ≤ 134744072) (b5 : Y5 ≤ 526344) (b6 : Y6 ≤ 2056) (b7 : Y7 ≤ 8) : Y + Y1 < 9223372036854775808 ∧ Y + Y1 + (Y2 + Y3) < 9223372036854775808 ∧ Y + Y1 + (Y2 + Y3) + (Y4 + Y5 + (Y6 + Y7)) < 9223372036854775808 := by omega
theorem pd5 {Y Y1 Y2 Y3 Y4 Y5 Y6 Y7 d0 d1 d2 d3 d4 d5 d6 d7 : Nat} (e0 : Y = d0 + 256 * Y1) (e1 : Y1 = d1 + 256 * Y2) (e2 : Y2 = d2 + 256 * Y3) (e3 : Y3 = d3 + 256 * Y4) (e4 : Y4 = d4 + 256 * Y5) (e5 : Y5 = d5 + 256 * Y6) (e6 : Y6 = d6 + 256 * Y7) (e7 : Y7 = d7 + 256 * 0) : Y + Y1 + (Y2 + Y3) + (Y4 + Y5 + (Y6 + Y7)) = (d0 + (d1 + (d2 + (d3 + (d4 + (d5 + (d6 + (d7 + 0)))))))) + 128 * (2 * (Y1 + Y2 + Y3 + Y4 + Y5 + Y6 + Y7)) := by
  have w1 : Y + Y1 = d0 + d1 + 256 * Y1 + 256 * Y2 := by omega
  have w2 : Y2 + Y3 = d2 + d3 + 256 * Y3 + 256 * Y4 := by omega
  have w3 : Y4 + Y5 = d4 + d5 + 256 * Y5 + 256 * Y6 := by omega
  have w4 : Y6 + Y7 = d6 + d7 + 256 * Y7 := by omega
  rw [w1, w2, w3, w4]
  clear e0 e1 e2 e3 e4 e5 e6 e7 w1 w2 w3 w4
  omega
theorem pop_d {d0 d1 d2 d3 d4 d5 d6 d7 Y : Nat} (h0 : d0 ≤ 8) (h1 : d1 ≤ 8) (h2 : d2 ≤ 8) (h3 : d3 ≤ 8) (h4 : d4 ≤ 8) (h5 : d5 ≤ 8) (h6 : d6 ≤ 8) (h7 : d7 ≤ 8) (eY : Y = d0 + 256 * (d1 + 256 * (d2 + 256 * (d3 + 256 * (d4 + 256 * (d5 + 256 * (d6 + 256 * (d7 + 256 * 0)))))))) :
    Y + Y / 256 < 9223372036854775808 ∧ (Y + Y / 256) + (Y + Y / 256) / 65536 < 9223372036854775808 ∧
      ((Y + Y / 256) + (Y + Y / 256) / 65536) + ((Y + Y / 256) + (Y + Y / 256) / 65536) / 4294967296 < 9223372036854775808 ∧ (((Y + Y / 256) + (Y + Y / 256) / 65536) + ((Y + Y / 256) + (Y + Y / 256) / 65536) / 4294967296) % 128 = d0 + (d1 + (d2 + (d3 + (d4 + (d5 + (d6 + (d7 + 0))))))) := by
  obtain ⟨Y7, y7⟩ : ∃ x, x = d7 + 256 * 0 := ⟨_, rfl⟩
  obtain ⟨Y6, y6⟩ : ∃ x, x = d6 + 256 * Y7 := ⟨_, rfl⟩
  obtain ⟨Y5, y5⟩ : ∃ x, x = d5 + 256 * Y6 := ⟨_, rfl⟩
  obtain ⟨Y4, y4⟩ : ∃ x, x = d4 + 256 * Y5 := ⟨_, rfl⟩
  obtain ⟨Y3, y3⟩ : ∃ x, x = d3 + 256 * Y4 := ⟨_, rfl⟩
  obtain ⟨Y2, y2⟩ : ∃ x, x = d2 + 256 * Y3 := ⟨_, rfl⟩
  obtain ⟨Y1, y1⟩ : ∃ x, x = d1 + 256 * Y2 := ⟨_, rfl⟩
  rw [← y7, ← y6, ← y5, ← y4, ← y3, ← y2, ← y1] at eY
  obtain ⟨L0, p0, l0⟩ := pdL h0 h1 h2 h3 eY y1 y2 y3
  obtain ⟨L1, p1, l1⟩ := pdL h1 h2 h3 h4 y1 y2 y3 y4
  obtain ⟨L2, p2, l2⟩ := pdL h2 h3 h4 h5 y2 y3 y4 y5
  obtain ⟨L3, p3, l3⟩ := pdL h3 h4 h5 h6 y3 y4 y5 y6
  have b7 : Y7 ≤ 8 := by rw [y7]; exact h7
  have st : ∀ {x y d B : Nat}, d ≤ 8 → x = d + 256 * y → y ≤ B → x ≤ 8 + 256 * B := fun hd e hy => by rw [e]; exact Nat.add_le_add hd (Nat.mul_le_mul_left 256 hy)
  have b6 : Y6 ≤ 2056 := Nat.le_trans (st h6 y6 b7) (by decide)
  have b5 : Y5 ≤ 526344 := Nat.le_trans (st h5 y5 b6) (by decide)
  have b4 : Y4 ≤ 134744072 := Nat.le_trans (st h4 y4 b5) (by decide)
  have b3 : Y3 ≤ 34494482440 := Nat.le_trans (st h3 y3 b4) (by decide)
  have b2 : Y2 ≤ 8830587504648 := Nat.le_trans (st h2 y2 b3) (by decide)
  have b1 : Y1 ≤ 2260630401189896 := Nat.le_trans (st h1 y1 b2) (by decide)
  have b0 : Y ≤ 578721382704613384 := Nat.le_trans (st h0 eY b1) (by decide)
  obtain ⟨r1, r2, r3⟩ := pd4 b0 b1 b2 b3 b4 b5 b6 b7
  rw [pd1 h0 eY, pd2 h0 h1 h2 eY y1 y2, pd3 p0 l0 p1 l1 p2 l2 p3 l3]
  refine ⟨r1, r2, r3, ?_⟩
  rw [pd5 eY y1 y2 y3 y4 y5 y6 y7, Nat.add_mul_mod_self_left]
  exact Nat.mod_eq_of_lt (by clear b0 b1 b2 b3 b4 b5 b6 r1 r2 r3 p0 p1 p2 p3 eY y1 y2 y3 y4 y5 y6 y7; omega)
theorem pop_f {b0 b1 b2 b3 b4 b5 b6 b7 : Nat} (hL : ∀ b, b ∈ [b0, b1, b2, b3, b4, b5, b6, b7] → b < 256) (hc : ∀ b, b ∈ [b0, b1, b2, b3, b4, b5, b6, b7] → cb b 8 ≤ 8) :
    va [cb b0 8, cb b1 8, cb b2 8, cb b3 8, cb b4 8, cb b5 8, cb b6 8, cb b7 8] + va [cb b0 8, cb b1 8, cb b2 8, cb b3 8, cb b4 8, cb b5 8, cb b6 8, cb b7 8] / 256 < 9223372036854775808 ∧
    (va [cb b0 8, cb b1 8, cb b2 8, cb b3 8, cb b4 8, cb b5 8, cb b6 8, cb b7 8] + va [cb b0 8, cb b1 8, cb b2 8, cb b3 8, cb b4 8, cb b5 8, cb b6 8, cb b7 8] / 256) + (va [cb b0 8, cb b1 8, cb b2 8, cb b3 8, cb b4 8, cb b5 8, cb b6 8, cb b7 8] + va [cb b0 8, cb b1 8, cb b2 8, cb b3 8, cb b4 8, cb b5 8, cb b6 8, cb b7 8] / 256) / 65536 < 9223372036854775808 ∧
    ((va [cb b0 8, cb b1 8, cb b2 8, cb b3 8, cb b4 8, cb b5 8, cb b6 8, cb b7 8] + va [cb b0 8, cb b1 8, cb b2 8, cb b3 8, cb b4 8, cb b5 8, cb b6 8, cb b7 8] / 256) + (va [cb b0 8, cb b1 8, cb b2 8, cb b3 8, cb b4 8, cb b5 8, cb b6 8, cb b7 8] + va [cb b0 8, cb b1 8, cb b2 8, cb b3 8, cb b4 8, cb b5 8, cb b6 8, cb b7 8] / 256) / 65536) + ((va [cb b0 8, cb b1 8, cb b2 8, cb b3 8, cb b4 8, cb b5 8, cb b6 8, cb b7 8] + va [cb b0 8, cb b1 8, cb b2 8, cb b3 8, cb b4 8, cb b5 8, cb b6 8, cb b7 8] / 256) + (va [cb b0 8, cb b1 8, cb b2 8, cb b3 8, cb b4 8, cb b5 8, cb b6 8, cb b7 8] + va [cb b0 8, cb b1 8, cb b2 8, cb b3 8, cb b4 8, cb b5 8, cb b6 8, cb b7 8] / 256) / 65536) / 4294967296 < 9223372036854775808 ∧
    (((va [cb b0 8, cb b1 8, cb b2 8, cb b3 8, cb b4 8, cb b5 8, cb b6 8, cb b7 8] + va [cb b0 8, cb b1 8, cb b2 8, cb b3 8, cb b4 8, cb b5 8, cb b6 8, cb b7 8] / 256) + (va [cb b0 8, cb b1 8, cb b2 8, cb b3 8, cb b4 8, cb b5 8, cb b6 8, cb b7 8] + va [cb b0 8, cb b1 8, cb b2 8, cb b3 8, cb b4 8, cb b5 8, cb b6 8, cb b7 8] / 256) / 65536) + ((va [cb b0 8, cb b1 8, cb b2 8, cb b3 8, cb b4 8, cb b5 8, cb b6 8, cb b7 8] + va [cb b0 8, cb b1 8, cb b2 8, cb b3 8, cb b4 8, cb b5 8, cb b6 8, cb b7 8] / 256) + (va [cb b0 8, cb b1 8, cb b2 8, cb b3 8, cb b4 8, cb b5 8, cb b6 8, cb b7 8] + va [cb b0 8, cb b1 8, cb b2 8, cb b3 8, cb b4 8, cb b5 8, cb b6 8, cb b7 8] / 256) / 65536) / 4294967296) % 128 = cb (va [b0, b1, b2, b3, b4, b5, b6, b7]) 64 := by
  rw [cb_8 (hL b0 (by simp)) (hL b1 (by simp)) (hL b2 (by simp)) (hL b3 (by simp)) (hL b4 (by simp)) (hL b5 (by simp)) (hL b6 (by simp)) (hL b7 (by simp))]
  exact pop_d (hc b0 (by simp)) (hc b1 (by simp)) (hc b2 (by simp)) (hc b3 (by simp)) (hc b4 (by simp)) (hc b5 (by simp)) (hc b6 (by simp)) (hc b7 (by simp)) rfl
theorem pop_n {X : Nat} (hX : X < 18446744073709551616) (M5 M3 MF : Nat) (e5 : M5 = 6148914691236517205) (e3 : M3 = 3689348814741910323) (eF : MF = 1085102592571150095) :
    ∃ Y1 Y2 Y3 : Nat, X = ((X / 2) &&& M5) + Y1 ∧ Y1 < 18446744073709551616 ∧ Y2 = (Y1 &&& M3) + ((Y1 / 4) &&& M3) ∧ Y2 + Y2 / 16 < 18446744073709551616 ∧ Y3 = (Y2 + Y2 / 16) &&& MF ∧ Y3 + Y3 / 256 < 9223372036854775808 ∧ (Y3 + Y3 / 256) + (Y3 + Y3 / 256) / 65536 < 9223372036854775808 ∧
      ((Y3 + Y3 / 256) + (Y3 + Y3 / 256) / 65536) + ((Y3 + Y3 / 256) + (Y3 + Y3 / 256) / 65536) / 4294967296 < 9223372036854775808 ∧ (((Y3 + Y3 / 256) + (Y3 + Y3 / 256) / 65536) + ((Y3 + Y3 / 256) + (Y3 + Y3 / 256) / 65536) / 4294967296) % 128 = cb X 64 := by
  have eX := va_byl 8 X (by have : 256 ^ 8 = 18446744073709551616 := by decide
                            omega)
  have hL := byl_b 8 X
  have h1 : ∀ b, b ∈ byl 8 X → ((b / 2) &&& 85) ≤ b ∧ pc1 b < 256 ∧ (pc2 (pc1 b) % 16 ≤ 4 ∧ pc2 (pc1 b) / 16 ≤ 4) ∧ pc3 (pc2 (pc1 b)) = cb b 8 ∧ cb b 8 ≤ 8 := fun b hb => pc_ok b (hL b hb)
  have s1 := st1 (byl 8 X) hL
  have l8 : (byl 8 X).length = 8 := rfl
  have m5 : va ((byl 8 X).map (fun _ => 85)) = M5 := by rw [va_c, l8, e5]; decide +kernel
  have m3 : va ((byl 8 X).map (fun _ => 51)) = M3 := by rw [va_c, l8, e3]; decide +kernel
  have mF : va ((byl 8 X).map (fun _ => 15)) = MF := by rw [va_c, l8, eF]; decide +kernel
  have v1 := va_sub (f := fun b => (b / 2) &&& 85) (byl 8 X) (fun b hb => (h1 b hb).1)
  have L1 : ∀ b, b ∈ (byl 8 X).map pc1 → b < 256 := fun b hb => by
    obtain ⟨a, ha, rfl⟩ := List.mem_map.mp hb
    exact (h1 a ha).2.1
  have L2 : ∀ b, b ∈ ((byl 8 X).map pc1).map pc2 → Nb b := fun b hb => by
    obtain ⟨a, ha, rfl⟩ := List.mem_map.mp hb
    obtain ⟨c, hc, rfl⟩ := List.mem_map.mp ha
    exact (h1 c hc).2.2.1
  have a2 := st2a _ L1
  have b2 := st2 _ L1
  have c2 := va_add (f := fun b => b &&& 51) (g := fun b => (b / 4) &&& 51) ((byl 8 X).map pc1)
  have s3 := st3 _ L2
  have n3 : ((byl 8 X).map pc1).map (fun _ => 51) = (byl 8 X).map (fun _ => 51) := by rw [List.map_map]; rfl
  have nF : (((byl 8 X).map pc1).map pc2).map (fun _ => 15) = (byl 8 X).map (fun _ => 15) := by rw [List.map_map, List.map_map]; rfl
  rw [n3] at a2 b2
  rw [nF] at s3
  have f3 : (((byl 8 X).map pc1).map pc2).map (fun b => (b + b / 16) % 16) = (byl 8 X).map (fun b => cb b 8) := by
    rw [List.map_map, List.map_map]
    exact List.map_congr_left (fun b hb => (h1 b hb).2.2.2.1)
  rw [f3] at s3
  have p2 : va (((byl 8 X).map pc1).map (fun b => (b &&& 51) + ((b / 4) &&& 51))) = va (((byl 8 X).map pc1).map pc2) := rfl
  have p1 : va ((byl 8 X).map (fun b => b - ((b / 2) &&& 85))) = va ((byl 8 X).map pc1) := rfl
  rw [m5, eX] at s1
  rw [m3] at a2 b2
  rw [mF] at s3
  rw [eX] at v1
  have p8 : (256 : Nat) ^ 8 = 18446744073709551616 := by decide
  have y1 := va_lt _ L1
  rw [show ((byl 8 X).map pc1).length = 8 from rfl, p8] at y1
  have y2 : va (((byl 8 X).map pc1).map pc2) + va (((byl 8 X).map pc1).map pc2) / 16 < 18446744073709551616 := by
    have q := va_nl _ L2
    rw [show (((byl 8 X).map pc1).map pc2).length = 8 from rfl, p8] at q
    omega
  have hc8 : ∀ b, b ∈ byl 8 X → cb b 8 ≤ 8 := fun b hb => (h1 b hb).2.2.2.2
  have fin := pop_f (b0 := X % 256) (b1 := X / 256 % 256) (b2 := X / 256 / 256 % 256) (b3 := X / 256 / 256 / 256 % 256) (b4 := X / 256 / 256 / 256 / 256 % 256) (b5 := X / 256 / 256 / 256 / 256 / 256 % 256) (b6 := X / 256 / 256 / 256 / 256 / 256 / 256 % 256) (b7 := X / 256 / 256 / 256 / 256 / 256 / 256 / 256 % 256) hL hc8
  have eX2 : va [X % 256, X / 256 % 256, X / 256 / 256 % 256, X / 256 / 256 / 256 % 256, X / 256 / 256 / 256 / 256 % 256, X / 256 / 256 / 256 / 256 / 256 % 256, X / 256 / 256 / 256 / 256 / 256 / 256 % 256, X / 256 / 256 / 256 / 256 / 256 / 256 / 256 % 256] = X := eX
  rw [eX2] at fin
  refine ⟨va ((byl 8 X).map pc1), va (((byl 8 X).map pc1).map pc2), va ((byl 8 X).map (fun b => cb b 8)), ?_, y1, ?_, y2, s3.symm, fin⟩
  · rw [s1, ← p1]; exact v1
  · have q := c2
    rw [← a2, ← b2] at q
    exact q.symm
