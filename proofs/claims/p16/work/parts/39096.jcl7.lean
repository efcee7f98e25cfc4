/-! ===== judge, the class ===== -/
def cntb (μ : pm_T) (n e : Nat) : Nat → Nat
  | 0 => 0
  | k + 1 => cntb μ n e k + (if brE μ n k < e then 1 else 0)
theorem cntb_l {μ : pm_T} {n e : Nat} : ∀ k, cntb μ n e k ≤ k
  | 0 => Nat.le_refl _
  | k + 1 => by
    have := cntb_l (μ := μ) (n := n) (e := e) k
    rw [cntb]
    split <;> omega
theorem barF_c {μ : pm_T} {n e : Nat} : ∀ k, (barF μ n e k).length + cntb μ n e k ≤ cntb μ n (e + 1) k
  | 0 => Nat.le_refl _
  | k + 1 => by
    have ih := barF_c (μ := μ) (n := n) (e := e) k
    show (barF μ n e k ++ pif (brE μ n k = e ∧ ¬ WHo μ n k) [(1, (n : Int), (e : Int), (k : Int))]).length + _ ≤ _
    rw [List.length_append, cntb, cntb]
    by_cases c : brE μ n k = e
    · have := pif_l (p := brE μ n k = e ∧ ¬ WHo μ n k) (q := (1, (n : Int), (e : Int), (k : Int)))
      rw [if_neg (by omega), if_pos (by omega)]
      omega
    · rw [pif_f (fun w => c w.1)]
      show _ + 0 + _ ≤ _
      split <;> split <;> omega
theorem evF_l {μ : pm_T} {n e : Nat} : (evF μ n e).length ≤ 2 + 2 * n := by
  have la := aloF_l (μ := μ) (n := n) (e := e)
  have lc := croF_l (μ := μ) (n := n) (e := e) (k := n)
  have lpp := parF_l (μ := μ) (n := n) (e := e) (k := n)
  unfold evF
  rw [List.length_append, List.length_append]
  omega
theorem voF_l {μ : pm_T} {n : Nat} : ∀ k : Nat, (voF μ n k).length ≤ cntb μ n k (μ (10 + n) 1).toNat + (2 + 2 * n) * k
  | 0 => Nat.zero_le _
  | k + 1 => by
    have ih := voF_l (μ := μ) (n := n) k
    have b := barF_c (μ := μ) (n := n) (e := k) (μ (10 + n) 1).toNat
    have e := evF_l (μ := μ) (n := n) (e := k)
    show (voF μ n k ++ (barF μ n k (μ (10 + n) 1).toNat ++ pif ((k : Int) < μ (10 + n) 0) (evF μ n k))).length ≤ _
    rw [List.length_append, List.length_append, Nat.mul_add, Nat.mul_one]
    by_cases c : (k : Int) < μ (10 + n) 0
    · rw [pif_t c]; omega
    · rw [pif_f c]; show _ + (_ + 0) ≤ _; omega
theorem voF_end {μ : pm_T} (GG : GM μ) {n : Nat} (hn : (n : Int) < μ 0 7) : (voF μ n ((μ (10 + n) 0).toNat + 1)).length ≤ 101 + (2 + 2 * n) * 300 := by
  have M := GG.2.2 n hn
  have m1 := M.1
  have m2 := M.2.1
  generalize hE : (μ (10 + n) 0).toNat = E
  have ih := voF_l (μ := μ) (n := n) E
  have b := barF_c (μ := μ) (n := n) (e := E) (μ (10 + n) 1).toNat
  have c := cntb_l (μ := μ) (n := n) (e := E + 1) (μ (10 + n) 1).toNat
  have w : (2 + 2 * n) * E ≤ (2 + 2 * n) * 300 := Nat.mul_le_mul_left _ (by omega)
  show (voF μ n E ++ (barF μ n E (μ (10 + n) 1).toNat ++ pif ((E : Int) < μ (10 + n) 0) (evF μ n E))).length ≤ _
  rw [List.length_append, List.length_append, pif_f (by omega)]
  show _ + (_ + 0) ≤ _
  omega
def LBj : Nat → Nat
  | 0 => 0
  | n + 1 => LBj n + (101 + (2 + 2 * n) * 300)
theorem juF_l {μ : pm_T} (GG : GM μ) : ∀ n : Nat, (n : Int) ≤ μ 0 7 → (juF μ n).length ≤ LBj n
  | 0, _ => Nat.le_refl _
  | n + 1, h => by
    have ih := juF_l GG n (by omega)
    have v := voF_end GG (n := n) (by omega)
    show (juF μ n ++ voF μ n ((μ (10 + n) 0).toNat + 1)).length ≤ LBj n + (101 + (2 + 2 * n) * 300)
    rw [List.length_append]
    omega
theorem LBj_4 : ∀ n, n < 4 → LBj n + wEv n 0 + 101 ≤ 6404 := by decide
theorem t_Judge_hear {G : cx_T} {s c : Nat} {h : ah_T} {μ : pm_T} (hb0 : hb s h) (H : CV μ c h) : con G 5 0 0 m_Judge_hear [av_R (some 143), av_R (some c)] h (fun r h' => r = some (av_I ((juF μ (μ 0 7).toNat).length : Int)) ∧ hb s h' ∧ fr JWc h h' ∧ JL (juF μ (μ 0 7).toNat) h') := by
  have GG := H.2.2.1
  have b4 := GG.1.1
  refine c_Judge_hear H.1 (X7 := fun v2 hh => ∃ n : Nat, v2 = (n : Int) ∧ (n : Int) ≤ μ 0 7 ∧ fr JWc h hh ∧ JL (juF μ n) hh) ?_ hb0 ?_
  · refine lp_Judge_hear_7 H.1 _ (fun v2 _ => (5 - v2).toNat) ?_
    rintro v2 hh hb1 ⟨n, rfl, hn, f, J1⟩
    have H1 := CV_f H f JWc_43
    unfold B_Judge_hear_7 B_Judge_hear_32
    intro x1 e1 _ _
    have ex := e1.trans H1.2.1.1.1
    subst ex
    refine ⟨fun q x2 e2 _ _ => ?_, fun q => ?_⟩
    · have en : (μ 0 7).toNat = n := by omega
      rw [en]
      have ex2 := e2.trans J1.1
      subst ex2
      exact ⟨rfl, hb1, f, J1⟩
    have hn' : (n : Int) < μ 0 7 := by omega
    refine con_mono (t_Score_voiceAt hb1 H.1 H1.2.1) ?_
    rintro r h2 ⟨hb2, rfl, ⟨-, -, rfl⟩ | ⟨q1, -⟩⟩
    rotate_left
    · omega
    rw [tn_c]
    have lb := LBj_4 n (by omega)
    have ll := juF_l GG n (by omega)
    refine ⟨_, rfl, hb2, Or.inr ⟨_, rfl, (CV_v H1 hn').1, ?_⟩⟩
    refine con_mono (j_voice hb2 H1 hn' J1 (by omega)) ?_
    rintro r h3 ⟨rfl, hb3, f3, J3⟩
    exact ⟨rfl, hb3, ⟨by omega, by omega⟩, ⟨n + 1, by omega, by omega, fr_t f f3 (fun _ _ w => w), J3⟩, by omega⟩
  · unfold B_Judge_hear_0
    exact fun h1 e1 => ⟨0, rfl, b4.1, fr_i fr_0 e1 (Or.inl ⟨rfl, rfl⟩), ⟨mv_i e1, fun k q hq => by cases hq⟩⟩
