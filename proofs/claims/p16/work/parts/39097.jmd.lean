/-! ===== judge, the reference: what is heard of one event ===== -/
def MV (μ : pm_T) (h : ah_T) : Prop := KSn μ h ∧ GM μ ∧ (0 < μ 0 7 → h.2.1 173 0 = μ 0 1 ∧ h.2.1 174 0 = μ 0 2)
abbrev JWm : Nat → Nat → Prop := fun a k => (a = 170 ∧ (k = 65 ∨ k = 66 ∨ k = 80)) ∨ (221 ≤ a ∧ a ≤ 224)
abbrev JWs : Nat → Nat → Prop := fun a k => a = 170 ∧ (k = 65 ∨ k = 66)
theorem MV_f {μ : pm_T} {h h' : ah_T} {W : Nat → Nat → Prop} (H : MV μ h) (f : fr W h h') (hW : ∀ a k, W a k → a = 170 ∨ 201 ≤ a) : MV μ h' := by
  obtain ⟨K, G, T⟩ := H
  have n : ∀ a k, 172 ≤ a → a ≤ 200 → ¬ W a k := fun a k q1 q2 w => by have := hW a k w; omega
  refine ⟨KSn_g K (fun a k q => ?_), G, ?_⟩
  · have r : 172 ≤ a ∧ a ≤ 200 := by
      rcases q with ⟨p1, p2⟩ | ⟨p1, p2⟩ | ⟨p1, p2⟩ | ⟨p1, p2⟩ | ⟨p1, p2⟩ | ⟨p1, p2⟩ | ⟨p1, p2⟩ | ⟨p1, p2⟩ <;> omega
    exact ⟨fr_g f (n a k r.1 r.2), fr_gl f (n a k r.1 r.2)⟩
  · rw [fr_g f (n 173 0 (by decide) (by decide)), fr_g f (n 174 0 (by decide) (by decide))]
    exact T
theorem JWm_w : ∀ a k, JWm a k → a = 170 ∨ 201 ≤ a := by
  intro a k w
  rcases w with w | w <;> omega
theorem JWs_w : ∀ a k, JWs a k → a = 170 ∨ 201 ≤ a := fun a k w => Or.inl w.1
theorem fr_sm {h h' : ah_T} (f : fr JWs h h') : fr JWm h h' := fr_w f (fun a k w => by obtain ⟨w1, w2⟩ := w; omega)
theorem MV_n {μ : pm_T} {n : Nat} {h : ah_T} (H : MV μ h) (hn : (n : Int) < μ 0 7) : h.2.1 185 n = μ (10 + n) 0 ∧ h.2.1 186 n = μ (10 + n) 1 ∧ (0 ≤ μ (10 + n) 0 ∧ μ (10 + n) 0 ≤ 300) ∧ (1 ≤ μ (10 + n) 1 ∧ μ (10 + n) 1 ≤ 101) ∧ n < 4 := by
  have V := H.1.2.2.2.2.2 n hn
  have b := H.1.2.1.2.2.2
  exact ⟨V.1.1, V.1.2, V.2.1.1, V.2.1.2, by omega⟩
theorem MV_e {μ : pm_T} {n e : Nat} {h : ah_T} (H : MV μ h) (hn : (n : Int) < μ 0 7) (he : (e : Int) < μ (10 + n) 0) : (h.2.1 191 (300 * n + e) = pt μ n e ∧ h.2.1 195 (300 * n + e) = μ (100 + 40 * n + 5) e ∧ h.2.1 196 (300 * n + e) = μ (100 + 40 * n + 6) e) ∧ (h.2.2.1 187 (300 * n + e) = smT μ n e ∧ h.2.2.1 188 (300 * n + e) = smB μ n e ∧ h.2.2.1 189 (300 * n + e) = μ (100 + 40 * n + 2) e ∧ h.2.2.1 190 (300 * n + e) = μ (100 + 40 * n + 3) e) ∧ (0 ≤ pt μ n e ∧ pt μ n e ≤ 4) ∧ ∀ p : Nat, (p : Int) < pt μ n e → h.2.1 192 (4 * (300 * n + e) + p) = ky μ n e p := by
  obtain ⟨⟨y1, y2, y3, -⟩, ⟨z0, z1, z2, z3⟩, b, k⟩ := (H.1.2.2.2.2.2 n hn).2.2.1 e he
  unfold smT smB
  rw [if_pos he, if_pos he]
  exact ⟨⟨y1, y2, y3⟩, ⟨z0, z1, z2, z3⟩, b, fun p hp => (k p hp).1⟩
theorem MV_b {μ : pm_T} {n b : Nat} {h : ah_T} (H : MV μ h) (hn : (n : Int) < μ 0 7) (hb : (b : Int) ≤ μ (10 + n) 1) : h.2.2.1 199 (102 * n + b) = smT μ n (brE μ n b) ∧ h.2.2.1 200 (102 * n + b) = smB μ n (brE μ n b) := by
  have V := H.1.2.2.2.2.2 n hn
  have m := V.2.1
  unfold brE
  split
  · rename_i c
    exact V.2.2.2.1 b c
  · have e := V.2.2.2.2
    rw [show (μ (10 + n) 1).toNat = b by omega] at e
    unfold smT smB
    rw [if_neg (by omega), if_neg (by omega)]
    exact e
section
variable {G : cx_T} {s n e : Nat} {h : ah_T} {μ : pm_T}
theorem m_compare {a b c d : Int} (hb0 : hb s h) (h1 : -9223372036854775808 ≤ a * d ∧ a * d ≤ 9223372036854775807) (h2 : -9223372036854775808 ≤ c * b ∧ c * b ≤ 9223372036854775807) : con G 0 0 0 m_MD_compare [av_R (some 170), av_L a, av_L b, av_L c, av_L d] h (fun r h' => ∃ z : Int, r = some (av_I z) ∧ hb s h' ∧ h' = h ∧ (z = 0 ↔ a * d = c * b) ∧ (z < 0 ↔ a * d < c * b)) := by
  refine c_MD_compare hb0 (fun _ _ _ _ => ?_)
  unfold B_MD_compare_0 B_MD_compare_37
  intro x1 e1
  refine ⟨by omega, fun x3 e3 => ⟨by omega, fun q => ⟨fun q2 => ⟨0, rfl, hb0, rfl, by omega, by omega⟩, fun q2 => ⟨1, rfl, hb0, rfl, by omega, by omega⟩⟩, fun q => ⟨-1, rfl, hb0, rfl, by omega, by omega⟩⟩⟩
theorem m_lowest (hb0 : hb s h) (H : MV μ h) (hn : (n : Int) < μ 0 7) (he : (e : Int) < μ (10 + n) 0) (hp : 1 ≤ pt μ n e) : con G 0 0 0 m_MD_lowest [av_R (some 170), av_I (300 * (n : Int) + (e : Int))] h (fun r h' => ∃ z : Int, r = some (av_I z) ∧ hb s h' ∧ h' = h ∧ z = ky μ n e 0) := by
  obtain ⟨-, -, hE, -, n4⟩ := MV_n H hn
  obtain ⟨-, -, b, k⟩ := MV_e H hn he
  refine c_MD_lowest hb0 (fun _ => ?_)
  unfold B_MD_lowest_0
  refine ⟨⟨by omega, by omega⟩, by omega, ?_⟩
  rw [show (4 * (300 * (n : Int) + (e : Int))).toNat = 4 * (300 * n + e) + 0 by omega]
  exact fun x3 e3 _ _ => ⟨_, rfl, hb0, rfl, e3.trans (k 0 (by omega))⟩
theorem m_highest (hb0 : hb s h) (H : MV μ h) (hn : (n : Int) < μ 0 7) (he : (e : Int) < μ (10 + n) 0) (hp : 1 ≤ pt μ n e) : con G 0 0 0 m_MD_highest [av_R (some 170), av_I (300 * (n : Int) + (e : Int))] h (fun r h' => ∃ z : Int, r = some (av_I z) ∧ hb s h' ∧ h' = h ∧ z = ky μ n e (pt μ n e - 1).toNat) := by
  obtain ⟨-, -, hE, -, n4⟩ := MV_n H hn
  obtain ⟨⟨y1, -, -⟩, -, b, k⟩ := MV_e H hn he
  refine c_MD_highest hb0 (fun _ => ?_)
  unfold B_MD_highest_0
  refine ⟨⟨by omega, by omega⟩, by omega, ?_⟩
  rw [show (300 * (n : Int) + (e : Int)).toNat = 300 * n + e by omega]
  intro x4 e4 _ _
  obtain rfl := e4.trans y1
  refine ⟨⟨by omega, by omega⟩, ⟨by omega, by omega⟩, by omega, ?_⟩
  rw [show (4 * (300 * (n : Int) + (e : Int)) + pt μ n e - 1).toNat = 4 * (300 * n + e) + (pt μ n e - 1).toNat by omega]
  exact fun x3 e3 _ _ => ⟨_, rfl, hb0, rfl, e3.trans (k _ (by omega))⟩
theorem m_modulo {a : Int} (hb0 : hb s h) : con G 0 0 0 m_MD_modulo [av_R (some 170), av_I a] h (fun r h' => ∃ z : Int, r = some (av_I z) ∧ hb s h' ∧ h' = h ∧ z = a % 12) := by
  refine c_MD_modulo hb0 (fun _ => ?_)
  unfold B_MD_modulo_0
  intro x1 e1 _ _
  have b1 : -11 ≤ x1 ∧ x1 ≤ 11 ∧ (x1 - a) % 12 = 0 := by
    rw [e1]
    have h1 := Int.tmod_add_mul_tdiv a 12
    by_cases c : 0 ≤ a
    · have := Int.tmod_nonneg 12 c
      have := Int.tmod_lt_of_pos a (show (0 : Int) < 12 by decide)
      omega
    · have e := Int.neg_tmod (-a) 12
      rw [Int.neg_neg] at e
      have := Int.tmod_nonneg 12 (show 0 ≤ -a by omega)
      have := Int.tmod_lt_of_pos (-a) (show (0 : Int) < 12 by decide)
      omega
  refine ⟨⟨by omega, by omega⟩, fun x3 e3 _ _ => ⟨x3, rfl, hb0, rfl, ?_⟩⟩
  rw [e3, Int.tmod_eq_emod_of_nonneg (by omega)]
  omega
theorem rd_pos {x y : Int} (hx : 0 ≤ x) (hy : 1 ≤ y) : (0 ≤ rdT x y ∧ rdT x y ≤ x) ∧ (1 ≤ rdB x y ∧ rdB x y ≤ y) ∧ ∃ g : Int, 1 ≤ g ∧ x = g * rdT x y ∧ y = g * rdB x y := by
  obtain ⟨e1, e2⟩ := gc_e x y
  generalize hg : (Int.gcd x y : Int) = g at *
  have hg0 : 0 ≤ g := by rw [← hg]; exact Int.natCast_nonneg _
  have hg1 : 1 ≤ g := by
    by_cases c : g = 0
    · rw [c, Int.zero_mul] at e2; omega
    · omega
  generalize rdT x y = a at *
  generalize rdB x y = b at *
  have ha : 0 ≤ a := by
    by_cases c : 0 ≤ a
    · exact c
    · have : g * a < 0 := Int.mul_neg_of_pos_of_neg (by omega) (by omega)
      omega
  have hb : 1 ≤ b := by
    by_cases c : 1 ≤ b
    · exact c
    · have : g * b ≤ 0 := Int.mul_nonpos_of_nonneg_of_nonpos (by omega) (by omega)
      omega
  have la : 1 * a ≤ g * a := Int.mul_le_mul_of_nonneg_right hg1 ha
  have lb : 1 * b ≤ g * b := Int.mul_le_mul_of_nonneg_right hg1 (by omega)
  exact ⟨⟨ha, by omega⟩, ⟨hb, by omega⟩, g, hg1, e1, e2⟩
theorem m_isAhead {o i : Nat} (hb0 : hb s h) (H : MV μ h) (hn : (n : Int) < μ 0 7) (he : (e : Int) < μ (10 + n) 0) (ho : (o : Int) < μ 0 7) (hi : (i : Int) < μ (10 + o) 0) : con G 3 0 0 m_MD_isAhead [av_R (some 170), av_I (300 * (n : Int) + (e : Int)), av_I (300 * (o : Int) + (i : Int))] h (fun r h' => ∃ z : Int, r = some (av_I z) ∧ hb s h' ∧ fr JWs h h' ∧ h'.2.1 = h.2.1 ∧ (z = 0 ↔ SL μ o i n (e + 1))) := by
  obtain ⟨-, -, hE, -, n4⟩ := MV_n H hn
  obtain ⟨-, -, hO, -, o4⟩ := MV_n H ho
  obtain ⟨-, ⟨z0, z1, z2, z3⟩, -⟩ := MV_e H hn he
  obtain ⟨-, ⟨w0, w1, -⟩, -⟩ := MV_e H ho hi
  have GG := H.2.1
  have bn := GM_b GG hn e
  have bn1 := GM_b GG hn (e + 1)
  have bo := GM_b GG ho i
  have M := ((GG.2.2 n hn).2.2.2.1 e he).2.2.2.2.2.1
  obtain ⟨r1, r2⟩ := (GG.1.2 n hn).1 e he
  refine c_MD_isAhead hb0 (fun _ _ => ?_)
  unfold B_MD_isAhead_0 B_MD_isAhead_60
  refine ⟨by omega, ?_⟩
  rw [show (300 * (n : Int) + (e : Int)).toNat = 300 * n + e by omega, show (300 * (o : Int) + (i : Int)).toNat = 300 * o + i by omega]
  intro x2 e2 _ _ x5 e5 _ _ x7 e7 _ _ x9 e9 _ _
  obtain rfl := e2.trans z0
  obtain rfl := e5.trans z1
  obtain rfl := e7.trans z2
  obtain rfl := e9.trans z3
  have p1 := pr_b bn.1 bn.2 ⟨M.2.2.1, M.2.2.2⟩
  have p2 := pr_b (a := μ (100 + 40 * n + 2) e) ⟨by omega, M.2.1⟩ ⟨M.2.2.1, M.2.2.2⟩ bn.2
  have p3 : 1 ≤ smB μ n e * μ (100 + 40 * n + 3) e ∧ smB μ n e * μ (100 + 40 * n + 3) e ≤ 1000000000000 := by
    have h1 := Int.mul_le_mul bn.2.1 M.2.2.1 (by omega) (by omega)
    have h2 : smB μ n e * μ (100 + 40 * n + 3) e ≤ 1000000 * 1000000 := Int.mul_le_mul bn.2.2 M.2.2.2 (by omega) (by omega)
    omega
  refine con_mono (t_MD_sum hb0 (by omega) (by omega) (by omega) (by omega)) ?_
  rintro r h2 ⟨rfl, hb2, f2, t1, t2, t3⟩
  refine ⟨rfl, hb2, fun x13 e13 _ _ x14 e14 _ _ => ⟨by omega, fun x16 e16 _ _ x19 e19 _ _ => ?_⟩⟩
  obtain rfl := e13.trans (t1.trans r1.symm)
  obtain rfl := e14.trans (t2.trans r2.symm)
  have ef : ∀ a k, 172 ≤ a → h2.2.2.1 a k = h.2.2.1 a k := fun a k q => fr_gl f2 (by omega)
  obtain rfl := e16.trans ((ef 187 _ (by decide)).trans w0)
  obtain rfl := e19.trans ((ef 188 _ (by decide)).trans w1)
  have q1 := pr_b bn1.1 bn1.2 bo.2
  have q2 := pr_b bo.1 bo.2 bn1.2
  refine con_mono (m_compare hb2 (by omega) (by omega)) ?_
  rintro r h3 ⟨z, rfl, hb3, rfl, g1, g2⟩
  have f3 : fr JWs h h3 := fr_w f2 (fun a k w => w)
  refine ⟨z, rfl, hb3, fun q => ⟨Or.inl rfl, 0, rfl, hb3, f3, t3, ?_⟩, fun q => ⟨Or.inr rfl, 1, rfl, hb3, f3, t3, ?_⟩⟩
  · unfold SL
    refine ⟨fun _ => ?_, fun _ => rfl⟩
    omega
  · unfold SL
    omega
end
