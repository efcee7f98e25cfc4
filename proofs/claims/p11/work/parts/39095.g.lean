/-! ===== judge, the class: a voice ===== -/
noncomputable def barF (μ : pm_T) (n e k : Nat) : List JQ := catl (fun b => pif (brE μ n b = e ∧ ¬ WHo μ n b) [(1, (n : Int), (e : Int), (b : Int))]) k
noncomputable def evF (μ : pm_T) (n e : Nat) : List JQ := aloF μ n e ++ croF μ n e n ++ parF μ n e n
noncomputable def atF (μ : pm_T) (n e : Nat) : List JQ := barF μ n e (μ (10 + n) 1).toNat ++ pif ((e : Int) < μ (10 + n) 0) (evF μ n e)
noncomputable def voF (μ : pm_T) (n k : Nat) : List JQ := catl (atF μ n) k
noncomputable def juF (μ : pm_T) (k : Nat) : List JQ := catl (fun n => voF μ n ((μ (10 + n) 0).toNat + 1)) k
theorem barF_0 {μ : pm_T} {n e : Nat} : ∀ k : Nat, (∀ j, j < k → brE μ n j ≠ e) → barF μ n e k = []
  | 0, _ => rfl
  | k + 1, h => by
    show barF μ n e k ++ pif (brE μ n k = e ∧ ¬ WHo μ n k) _ = []
    rw [barF_0 k (fun j hj => h j (by omega)), pif_f (fun w => h k (by omega) w.1)]
    rfl
theorem barF_e {μ : pm_T} {n e b : Nat} : ∀ k : Nat, b ≤ k → (∀ j, b ≤ j → j < k → brE μ n j ≠ e) → barF μ n e k = barF μ n e b
  | 0, h, _ => by
    have : b = 0 := by omega
    subst this; rfl
  | k + 1, h, q => by
    by_cases c : b = k + 1
    · subst c; rfl
    · show barF μ n e k ++ pif (brE μ n k = e ∧ ¬ WHo μ n k) _ = _
      rw [barF_e k (by omega) (fun j h1 h2 => q j h1 (by omega)), pif_f (fun w => q k (by omega) (by omega) w.1), List.append_nil]
theorem brE_mm {μ : pm_T} (GG : GM μ) {n b : Nat} (hn : (n : Int) < μ 0 7) : ∀ k : Nat, b ≤ k → brE μ n b ≤ brE μ n k
  | 0, h => by
    have : b = 0 := by omega
    subst this; exact Nat.le_refl _
  | k + 1, h => by
    by_cases c : b = k + 1
    · subst c; exact Nat.le_refl _
    · exact Nat.le_trans (brE_mm GG hn k (by omega)) (brE_m GG hn)
/-- what is sounding -/
def SDo (μ : pm_T) (n e : Nat) (h : ah_T) : Prop := ∀ o, o < n → ∃ i : Nat, h.2.1 145 o = (i : Int) ∧ (i : Int) ≤ μ (10 + o) 0 ∧ ((e : Int) < μ (10 + n) 0 → ∀ j, j < i → SE μ o (j + 1) n e)
/-- room for the faults to come -/
def wEv (n e : Nat) : Nat := (2 + 2 * n) * (300 - e)
theorem wEv_s {n e : Nat} (h : e < 300) : wEv n e = wEv n (e + 1) + (2 + 2 * n) := by
  unfold wEv
  rw [show 300 - e = 300 - (e + 1) + 1 by omega, Nat.mul_add, Nat.mul_one]
theorem wEv_m {n e : Nat} : wEv n (e + 1) ≤ wEv n e := Nat.mul_le_mul_left _ (by omega)
section
variable {G : cx_T} {s c n : Nat} {h : ah_T} {μ : pm_T} {l : List JQ}
def JI33 (μ : pm_T) (n : Nat) (l : List JQ) (h : ah_T) (v4 v5 : Int) (hh : ah_T) : Prop := ∃ b e : Nat, v4 = (b : Int) ∧ v5 = (e : Int) ∧ (b : Int) ≤ μ (10 + n) 1 ∧ (e : Int) ≤ μ (10 + n) 0 + 1 ∧ fr JWc h hh ∧ JL (l ++ voF μ n e) hh ∧ (∀ j, j < b → brE μ n j < e) ∧ ((b : Int) < μ (10 + n) 1 → e ≤ brE μ n b) ∧ SDo μ n e hh ∧ (l ++ voF μ n e).length + wEv n e + (101 - b) ≤ 6404
def JI42 (μ : pm_T) (n : Nat) (l : List JQ) (h : ah_T) (v4 v5 : Int) (hh : ah_T) : Prop := ∃ b e : Nat, v4 = (b : Int) ∧ v5 = (e : Int) ∧ (b : Int) ≤ μ (10 + n) 1 ∧ (e : Int) ≤ μ (10 + n) 0 ∧ fr JWc h hh ∧ JL (l ++ voF μ n e ++ barF μ n e b) hh ∧ (∀ j, j < b → brE μ n j ≤ e) ∧ ((b : Int) < μ (10 + n) 1 → e ≤ brE μ n b) ∧ SDo μ n e hh ∧ (l ++ voF μ n e ++ barF μ n e b).length + wEv n e + (101 - b) ≤ 6404
theorem j_voice (hb0 : hb s h) (H : CV μ c h) (hn : (n : Int) < μ 0 7) (J : JL l h) (hl : l.length + wEv n 0 + 101 ≤ 6404) :
    con G 4 0 0 m_Judge_hearVoice [av_R (some 143), av_R (some c), av_R (some (c + 7 + 14 * n)), av_I (n : Int)] h (fun r h' => r = none ∧ hb s h' ∧ fr JWc h h' ∧ JL (l ++ voF μ n ((μ (10 + n) 0).toNat + 1)) h') := by
  obtain ⟨hv, h14, h16, hE, hB, n4⟩ := CV_v H hn
  have GG := H.2.2.1
  have key : ∀ (N : Nat) (v4 v5 : Int) (hh : ah_T), hb s hh → JI33 μ n l h v4 v5 hh → (400 - v5).toNat < N → aw G (rm_R 4 0 0) m_Judge_hearVoice 0 0 33 [some (av_R (some 143)), some (av_R (some c)), some (av_R (some (c + 7 + 14 * n))), some (av_I (n : Int)), some (av_I v4), some (av_I v5)] [] hh (fun r h' => r = none ∧ hb s h' ∧ fr JWc h h' ∧ JL (l ++ voF μ n ((μ (10 + n) 0).toNat + 1)) h') := by
    intro N
    induction N with
    | zero => intro v4 v5 hh _ _ q; omega
    | succ N ih =>
      intro v4 v5 hh hbh I33 hN
      have v5b : v5 ≤ 301 := by
        obtain ⟨b, e, -, rfl, -, e1, -⟩ := I33
        omega
      have in42 : ∀ (v4' v5' : Int) (h' : ah_T), hb s h' → (JI42 μ n l h v4' v5' h' ∧ v5' = v5) → aw G (rm_R 4 0 0) m_Judge_hearVoice 0 0 42 [some (av_R (some 143)), some (av_R (some c)), some (av_R (some (c + 7 + 14 * n))), some (av_I (n : Int)), some (av_I v4'), some (av_I v5')] [] h' (fun r h' => r = none ∧ hb s h' ∧ fr JWc h h' ∧ JL (l ++ voF μ n ((μ (10 + n) 0).toNat + 1)) h') := by
        refine lp_Judge_hearVoice_42 (X33 := fun a b h' => JI33 μ n l h a b h' ∧ b = v5 + 1) H.1 hv (fun a b h' hb' x => ih a b h' hb' x.1 (by have := x.2; omega)) _ (fun v4 _ _ => (200 - v4).toNat) ?_
        rintro v4' v5' h1 hb1 ⟨⟨b, e, rfl, rfl, b1, e1, f, J1, al, nx, Sd, ln⟩, ev⟩
        subst ev
        have H1 := CV_f H f JWc_43
        have h14' := (CV_v H1 hn).2.1
        have h16' := (CV_v H1 hn).2.2.1
        unfold B_Judge_hearVoice_42 B_Judge_hearVoice_83
        have go89 : barF μ n e (μ (10 + n) 1).toNat = barF μ n e b → (∀ j, j < b → brE μ n j < e + 1) → ((b : Int) < μ (10 + n) 1 → e + 1 ≤ brE μ n b) → B_Judge_hearVoice_89 G s c (c + 7 + 14 * n) (n : Int) (b : Int) (e : Int) h1 (fun r h' => r = none ∧ hb s h' ∧ fr JWc h h' ∧ JL (l ++ voF μ n ((μ (10 + n) 0).toNat + 1)) h') (fun a b h' => JI33 μ n l h a b h' ∧ b = (e : Int) + 1) := by
          intro eb alb nxb
          have voS : l ++ voF μ n (e + 1) = l ++ voF μ n e ++ barF μ n e b ++ pif ((e : Int) < μ (10 + n) 0) (evF μ n e) := by
            show l ++ (voF μ n e ++ (barF μ n e (μ (10 + n) 1).toNat ++ pif ((e : Int) < μ (10 + n) 0) (evF μ n e))) = _
            rw [eb, ← List.append_assoc, ← List.append_assoc]
          unfold B_Judge_hearVoice_89 B_Judge_hearVoice_124
          intro x1 ex1 _ _
          have ex := ex1.trans h14'
          subst ex
          refine ⟨fun q => ⟨⟨by omega, by omega⟩, ⟨b, e + 1, rfl, by omega, b1, by omega, f, ?_, alb, nxb, ?_, ?_⟩, rfl⟩, fun q => ?_⟩
          · rw [voS, pif_f (by omega), List.append_nil]; exact J1
          · intro o ho
            obtain ⟨i, i1, i2, -⟩ := Sd o ho
            exact ⟨i, i1, i2, fun q2 => by omega⟩
          · rw [voS, pif_f (by omega), List.append_nil]
            have := wEv_m (n := n) (e := e)
            omega
          have he : (e : Int) < μ (10 + n) 0 := by omega
          have ws := wEv_s (n := n) (e := e) (by omega)
          have la := aloF_l (μ := μ) (n := n) (e := e)
          have lc := croF_l (μ := μ) (n := n) (e := e) (k := n)
          have lpp := parF_l (μ := μ) (n := n) (e := e) (k := n)
          generalize l ++ voF μ n e ++ barF μ n e b = l1 at *
          refine con_mono (j_alone hb1 H1 hn he J1 (by omega)) ?_
          rintro r h2 ⟨rfl, hb2, f2, J2⟩
          have H2 := CV_f H1 f2 JW_43
          refine ⟨rfl, hb2, ?_⟩
          refine con_mono (j_cross hb2 H2 hn he J2 (by rw [List.length_append]; omega) (fun o ho => ?_)) ?_
          · obtain ⟨i, i1, i2, i3⟩ := Sd o ho
            exact ⟨i, (fr_g f2 (by omega)).trans i1, i2, i3 he⟩
          rintro r h3 ⟨rfl, hb3, f3, J3, S3⟩
          have H3 := CV_f H2 f3 JWc_43
          refine ⟨rfl, hb3, ?_⟩
          refine con_mono (j_para hb3 H3 hn he J3 (by rw [List.length_append, List.length_append]; omega) S3) ?_
          rintro r h4 ⟨rfl, hb4, f4, J4⟩
          have ev : l1 ++ aloF μ n e ++ croF μ n e n ++ parF μ n e n = l ++ voF μ n (e + 1) := by
            rw [voS, pif_t he]
            unfold evF
            rw [← List.append_assoc, ← List.append_assoc]
          rw [ev] at J4
          refine ⟨rfl, hb4, ⟨by omega, by omega⟩, ⟨b, e + 1, rfl, by omega, b1, by omega, fr_t (fr_t (fr_t f (fr_ac f2) (fun _ _ w => w)) f3 (fun _ _ w => w)) (fr_ac f4) (fun _ _ w => w), J4, alb, nxb, fun o ho => ?_, ?_⟩, rfl⟩
          · obtain ⟨i, i1, i2⟩ := S3 o ho
            refine ⟨i, (fr_g f4 (by omega)).trans i1, i2.1, fun q2 j hj => ?_⟩
            exact SE_le GG (by omega) hn hn (i2.2.1 j hj) (SL_e (GM_s GG hn he))
          · rw [← ev, List.length_append, List.length_append, List.length_append]
            omega
        intro x1 ex1 _ _
        have ex := ex1.trans h16'
        subst ex
        refine ⟨fun q => ?_, fun q => ⟨by omega, ?_⟩⟩
        · have : (μ (10 + n) 1).toNat = b := by omega
          exact go89 (by rw [this]) (fun j hj => by have := al j hj; omega) (fun q2 => by omega)
        rw [tn_c]
        intro x3 ex3 _ _
        have ex := ex3.trans (CV_b H1 hn (b := b) b1)
        subst ex
        have hbl : (b : Int) < μ (10 + n) 1 := by omega
        have nb := nx hbl
        refine ⟨fun q2 => go89 (barF_e _ (by omega) (fun j h1 h2 => ?_)) (fun j hj => by have := al j hj; omega) (fun _ => by omega), fun q2 => ?_⟩
        · have := brE_mm GG hn (b := b) j h1
          omega
        have eb : brE μ n b = e := by omega
        have nx2 : ((b + 1 : Nat) : Int) < μ (10 + n) 1 → e ≤ brE μ n (b + 1) := fun _ => by
          have := brE_m GG (b := b) hn
          omega
        refine con_mono (j_whole hb1 H1 hn hbl) ?_
        rintro r h2 ⟨z, rfl, hb2, rfl, zz⟩
        refine ⟨z, rfl, hb2, fun q3 => ?_, fun q3 => ⟨⟨by omega, by omega⟩, ⟨⟨b + 1, e, by omega, rfl, by omega, e1, f, ?_, ?_, nx2, Sd, ?_⟩, rfl⟩, by omega⟩⟩
        · have no : ¬ WHo μ n b := by
            rcases zz with ⟨-, x⟩ | ⟨x, -⟩
            · exact x
            · omega
          have bs : l ++ voF μ n e ++ barF μ n e (b + 1) = l ++ voF μ n e ++ barF μ n e b ++ [(1, (n : Int), (e : Int), (b : Int))] := by
            show l ++ voF μ n e ++ (barF μ n e b ++ pif (brE μ n b = e ∧ ¬ WHo μ n b) _) = _
            rw [pif_t ⟨eb, no⟩, ← List.append_assoc]
          refine con_mono (j_add hb2 J1 (by omega)) ?_
          rintro r h3 ⟨rfl, hb3, f3, J3⟩
          refine ⟨rfl, hb3, ⟨by omega, by omega⟩, ⟨⟨b + 1, e, by omega, rfl, by omega, e1, fr_t f (fr_ac f3) (fun _ _ w => w), by rw [bs]; exact J3, ?_, nx2, fun o ho => ?_, ?_⟩, rfl⟩, by omega⟩
          · intro j hj
            by_cases cj : j = b
            · subst cj; omega
            · exact al j (by omega)
          · obtain ⟨i, i1, i2⟩ := Sd o ho
            exact ⟨i, (fr_g f3 (by omega)).trans i1, i2⟩
          · rw [bs, List.length_append]
            show _ + 1 + _ + _ ≤ _
            omega
        · have yes : WHo μ n b := by
            rcases zz with ⟨x, -⟩ | ⟨-, x⟩
            · exact absurd x q3
            · exact x
          show JL (l ++ voF μ n e ++ (barF μ n e b ++ pif (brE μ n b = e ∧ ¬ WHo μ n b) _)) h2
          rw [pif_f (fun w => w.2 yes), List.append_nil]
          exact J1
        · intro j hj
          by_cases cj : j = b
          · subst cj; omega
          · exact al j (by omega)
        · have yes : WHo μ n b := by
            rcases zz with ⟨x, -⟩ | ⟨-, x⟩
            · exact absurd x q3
            · exact x
          show (l ++ voF μ n e ++ (barF μ n e b ++ pif (brE μ n b = e ∧ ¬ WHo μ n b) _)).length + _ + _ ≤ _
          rw [pif_f (fun w => w.2 yes), List.append_nil]
          omega
      obtain ⟨b, e, rfl, rfl, b1, e1, f, J1, al, nx, Sd, ln⟩ := I33
      have H1 := CV_f H f JWc_43
      have h14' := (CV_v H1 hn).2.1
      refine b_Judge_hearVoice_33 (X42 := fun a b h' => JI42 μ n l h a b h' ∧ b = (e : Int)) H.1 hv in42 hbh ?_
      unfold B_Judge_hearVoice_33
      intro x1 ex1 _ _
      have ex := ex1.trans h14'
      subst ex
      have nob : barF μ n e b = [] := barF_0 b (fun j hj => by have := al j hj; omega)
      refine ⟨fun q => ⟨rfl, hbh, f, ?_⟩, fun q => ⟨⟨b, e, rfl, rfl, b1, by omega, f, by rw [nob, List.append_nil]; exact J1, fun j hj => by have := al j hj; omega, nx, Sd, by rw [nob, List.append_nil]; exact ln⟩, rfl⟩⟩
      rw [show (μ (10 + n) 0).toNat + 1 = e by omega]
      exact J1
  refine c_Judge_hearVoice H.1 hv (X3 := fun v4 hh => ∃ k : Nat, v4 = (k : Int) ∧ k ≤ 4 ∧ fr JWc h hh ∧ JL l hh ∧ ∀ o, o < k → hh.2.1 145 o = 0) ?_ hb0 (fun _ => ?_)
  · refine lp_Judge_hearVoice_3 (X33 := fun a b h' => JI33 μ n l h a b h' ∧ b = 0) H.1 hv (fun a b h' hb' x => key 500 a b h' hb' x.1 (by have := x.2; omega)) _ (fun v4 _ => (5 - v4).toNat) ?_
    rintro v4 hh hb1 ⟨k, rfl, hk, f, J1, z⟩
    unfold B_Judge_hearVoice_3
    refine ⟨fun q => ⟨⟨0, 0, rfl, rfl, by omega, by omega, f, by show JL (l ++ []) hh; rw [List.append_nil]; exact J1, fun j hj => by omega, fun _ => Nat.zero_le _, fun o ho => ?_, ?_⟩, rfl⟩, fun q => ⟨by omega, fun h4 e4 => ⟨⟨by omega, by omega⟩, ⟨k + 1, by omega, by omega, fr_i f e4 (Or.inr (Or.inr rfl)), ⟨by rw [mm_i e4 (by omega)]; exact J1.1, fun j q hq => by rw [mm_i e4 (by omega)]; exact J1.2 j q hq⟩, fun o ho => ?_⟩, by omega⟩⟩⟩
    · have b0 := (GG.2.2 o (by omega)).1
      exact ⟨0, z o (by omega), by omega, fun _ j hj => by omega⟩
    · show (l ++ []).length + _ + _ ≤ _
      rw [List.append_nil]
      omega
    · rw [tn_c] at e4
      by_cases co : o = k
      · subst co; exact mv_i e4
      · rw [mm_i e4 (by omega)]; exact z o (by omega)
  · unfold B_Judge_hearVoice_0
    exact ⟨0, rfl, by decide, fr_0, J, fun o ho => by omega⟩
end

/-! ===== judge, the class ===== -/
def cntb (μ : pm_T) (n e : Nat) : Nat → Nat
  | 0 => 0
  | k + 1 => cntb μ n e k + (if brE μ n k < e then 1 else 0)
theorem cntb_l {μ : pm_T} {n e : Nat} : ∀ k, cntb μ n e k ≤ k
  | 0 => Nat.le_refl _
  | k + 1 => by
    have := cntb_l (μ := μ) (n := n) (e := e) k
    rw [cntb]
    split <;> omega
theorem barF_c {μ : pm_T} {n e : Nat} : ∀ k, (barF μ n e k).length + cntb μ n e k ≤ cntb μ n (e + 1) k
  | 0 => Nat.le_refl _
  | k + 1 => by
    have ih := barF_c (μ := μ) (n := n) (e := e) k
    show (barF μ n e k ++ pif (brE μ n k = e ∧ ¬ WHo μ n k) [(1, (n : Int), (e : Int), (k : Int))]).length + _ ≤ _
    rw [List.length_append, cntb, cntb]
    by_cases c : brE μ n k = e
    · have := pif_l (p := brE μ n k = e ∧ ¬ WHo μ n k) (q := (1, (n : Int), (e : Int), (k : Int)))
      rw [if_neg (by omega), if_pos (by omega)]
      omega
    · rw [pif_f (fun w => c w.1)]
      show _ + 0 + _ ≤ _
      split <;> split <;> omega
theorem evF_l {μ : pm_T} {n e : Nat} : (evF μ n e).length ≤ 2 + 2 * n := by
  have la := aloF_l (μ := μ) (n := n) (e := e)
  have lc := croF_l (μ := μ) (n := n) (e := e) (k := n)
  have lpp := parF_l (μ := μ) (n := n) (e := e) (k := n)
  unfold evF
  rw [List.length_append, List.length_append]
  omega
theorem voF_l {μ : pm_T} {n : Nat} : ∀ k : Nat, (voF μ n k).length ≤ cntb μ n k (μ (10 + n) 1).toNat + (2 + 2 * n) * k
  | 0 => Nat.zero_le _
  | k + 1 => by
    have ih := voF_l (μ := μ) (n := n) k
    have b := barF_c (μ := μ) (n := n) (e := k) (μ (10 + n) 1).toNat
    have e := evF_l (μ := μ) (n := n) (e := k)
    show (voF μ n k ++ (barF μ n k (μ (10 + n) 1).toNat ++ pif ((k : Int) < μ (10 + n) 0) (evF μ n k))).length ≤ _
    rw [List.length_append, List.length_append, Nat.mul_add, Nat.mul_one]
    by_cases c : (k : Int) < μ (10 + n) 0
    · rw [pif_t c]; omega
    · rw [pif_f c]; show _ + (_ + 0) ≤ _; omega
theorem voF_end {μ : pm_T} (GG : GM μ) {n : Nat} (hn : (n : Int) < μ 0 7) : (voF μ n ((μ (10 + n) 0).toNat + 1)).length ≤ 101 + (2 + 2 * n) * 300 := by
  have M := GG.2.2 n hn
  have m1 := M.1
  have m2 := M.2.1
  generalize hE : (μ (10 + n) 0).toNat = E
  have ih := voF_l (μ := μ) (n := n) E
  have b := barF_c (μ := μ) (n := n) (e := E) (μ (10 + n) 1).toNat
  have c := cntb_l (μ := μ) (n := n) (e := E + 1) (μ (10 + n) 1).toNat
  have w : (2 + 2 * n) * E ≤ (2 + 2 * n) * 300 := Nat.mul_le_mul_left _ (by omega)
  show (voF μ n E ++ (barF μ n E (μ (10 + n) 1).toNat ++ pif ((E : Int) < μ (10 + n) 0) (evF μ n E))).length ≤ _
  rw [List.length_append, List.length_append, pif_f (by omega)]
  show _ + (_ + 0) ≤ _
  omega
def LBj : Nat → Nat
  | 0 => 0
  | n + 1 => LBj n + (101 + (2 + 2 * n) * 300)
theorem juF_l {μ : pm_T} (GG : GM μ) : ∀ n : Nat, (n : Int) ≤ μ 0 7 → (juF μ n).length ≤ LBj n
  | 0, _ => Nat.le_refl _
  | n + 1, h => by
    have ih := juF_l GG n (by omega)
    have v := voF_end GG (n := n) (by omega)
    show (juF μ n ++ voF μ n ((μ (10 + n) 0).toNat + 1)).length ≤ LBj n + (101 + (2 + 2 * n) * 300)
    rw [List.length_append]
    omega
theorem LBj_4 : ∀ n, n < 4 → LBj n + wEv n 0 + 101 ≤ 6404 := by decide
theorem t_Judge_hear {G : cx_T} {s c : Nat} {h : ah_T} {μ : pm_T} (hb0 : hb s h) (H : CV μ c h) : con G 5 0 0 m_Judge_hear [av_R (some 143), av_R (some c)] h (fun r h' => r = some (av_I ((juF μ (μ 0 7).toNat).length : Int)) ∧ hb s h' ∧ fr JWc h h' ∧ JL (juF μ (μ 0 7).toNat) h') := by
  have GG := H.2.2.1
  have b4 := GG.1.1
  refine c_Judge_hear H.1 (X7 := fun v2 hh => ∃ n : Nat, v2 = (n : Int) ∧ (n : Int) ≤ μ 0 7 ∧ fr JWc h hh ∧ JL (juF μ n) hh) ?_ hb0 ?_
  · refine lp_Judge_hear_7 H.1 _ (fun v2 _ => (5 - v2).toNat) ?_
    rintro v2 hh hb1 ⟨n, rfl, hn, f, J1⟩
    have H1 := CV_f H f JWc_43
    unfold B_Judge_hear_7 B_Judge_hear_32
    intro x1 e1 _ _
    have ex := e1.trans H1.2.1.1.1
    subst ex
    refine ⟨fun q x2 e2 _ _ => ?_, fun q => ?_⟩
    · have en : (μ 0 7).toNat = n := by omega
      rw [en]
      have ex2 := e2.trans J1.1
      subst ex2
      exact ⟨rfl, hb1, f, J1⟩
    have hn' : (n : Int) < μ 0 7 := by omega
    refine con_mono (t_Score_voiceAt hb1 H.1 H1.2.1) ?_
    rintro r h2 ⟨hb2, rfl, ⟨-, -, rfl⟩ | ⟨q1, -⟩⟩
    rotate_left
    · omega
    rw [tn_c]
    have lb := LBj_4 n (by omega)
    have ll := juF_l GG n (by omega)
    refine ⟨_, rfl, hb2, Or.inr ⟨_, rfl, (CV_v H1 hn').1, ?_⟩⟩
    refine con_mono (j_voice hb2 H1 hn' J1 (by omega)) ?_
    rintro r h3 ⟨rfl, hb3, f3, J3⟩
    exact ⟨rfl, hb3, ⟨by omega, by omega⟩, ⟨n + 1, by omega, by omega, fr_t f f3 (fun _ _ w => w), J3⟩, by omega⟩
  · unfold B_Judge_hear_0
    exact fun h1 e1 => ⟨0, rfl, b4.1, fr_i fr_0 e1 (Or.inl ⟨rfl, rfl⟩), ⟨mv_i e1, fun k q hq => by cases hq⟩⟩

/-! ===== judge, the reference: what is heard of one event ===== -/
def MV (μ : pm_T) (h : ah_T) : Prop := KSn μ h ∧ GM μ ∧ (0 < μ 0 7 → h.2.1 173 0 = μ 0 1 ∧ h.2.1 174 0 = μ 0 2)
abbrev JWm : Nat → Nat → Prop := fun a k => (a = 170 ∧ (k = 65 ∨ k = 66 ∨ k = 80)) ∨ (221 ≤ a ∧ a ≤ 224)
abbrev JWs : Nat → Nat → Prop := fun a k => a = 170 ∧ (k = 65 ∨ k = 66)
theorem MV_f {μ : pm_T} {h h' : ah_T} {W : Nat → Nat → Prop} (H : MV μ h) (f : fr W h h') (hW : ∀ a k, W a k → a = 170 ∨ 201 ≤ a) : MV μ h' := by
  obtain ⟨K, G, T⟩ := H
  have n : ∀ a k, 172 ≤ a → a ≤ 200 → ¬ W a k := fun a k q1 q2 w => by have := hW a k w; omega
  refine ⟨KSn_g K (fun a k q => ?_), G, ?_⟩
  · have r : 172 ≤ a ∧ a ≤ 200 := by
      rcases q with ⟨p1, p2⟩ | ⟨p1, p2⟩ | ⟨p1, p2⟩ | ⟨p1, p2⟩ | ⟨p1, p2⟩ | ⟨p1, p2⟩ | ⟨p1, p2⟩ | ⟨p1, p2⟩ <;> omega
    exact ⟨fr_g f (n a k r.1 r.2), fr_gl f (n a k r.1 r.2)⟩
  · rw [fr_g f (n 173 0 (by decide) (by decide)), fr_g f (n 174 0 (by decide) (by decide))]
    exact T
theorem JWm_w : ∀ a k, JWm a k → a = 170 ∨ 201 ≤ a := by
  intro a k w
  rcases w with w | w <;> omega
theorem JWs_w : ∀ a k, JWs a k → a = 170 ∨ 201 ≤ a := fun a k w => Or.inl w.1
theorem fr_sm {h h' : ah_T} (f : fr JWs h h') : fr JWm h h' := fr_w f (fun a k w => by obtain ⟨w1, w2⟩ := w; omega)
theorem MV_n {μ : pm_T} {n : Nat} {h : ah_T} (H : MV μ h) (hn : (n : Int) < μ 0 7) : h.2.1 185 n = μ (10 + n) 0 ∧ h.2.1 186 n = μ (10 + n) 1 ∧ (0 ≤ μ (10 + n) 0 ∧ μ (10 + n) 0 ≤ 300) ∧ (1 ≤ μ (10 + n) 1 ∧ μ (10 + n) 1 ≤ 101) ∧ n < 4 := by
  have V := H.1.2.2.2.2.2 n hn
  have b := H.1.2.1.2.2.2
  exact ⟨V.1.1, V.1.2, V.2.1.1, V.2.1.2, by omega⟩
theorem MV_e {μ : pm_T} {n e : Nat} {h : ah_T} (H : MV μ h) (hn : (n : Int) < μ 0 7) (he : (e : Int) < μ (10 + n) 0) : (h.2.1 191 (300 * n + e) = pt μ n e ∧ h.2.1 195 (300 * n + e) = μ (100 + 40 * n + 5) e ∧ h.2.1 196 (300 * n + e) = μ (100 + 40 * n + 6) e) ∧ (h.2.2.1 187 (300 * n + e) = smT μ n e ∧ h.2.2.1 188 (300 * n + e) = smB μ n e ∧ h.2.2.1 189 (300 * n + e) = μ (100 + 40 * n + 2) e ∧ h.2.2.1 190 (300 * n + e) = μ (100 + 40 * n + 3) e) ∧ (0 ≤ pt μ n e ∧ pt μ n e ≤ 4) ∧ ∀ p : Nat, (p : Int) < pt μ n e → h.2.1 192 (4 * (300 * n + e) + p) = ky μ n e p := by
  obtain ⟨⟨y1, y2, y3, -⟩, ⟨z0, z1, z2, z3⟩, b, k⟩ := (H.1.2.2.2.2.2 n hn).2.2.1 e he
  unfold smT smB
  rw [if_pos he, if_pos he]
  exact ⟨⟨y1, y2, y3⟩, ⟨z0, z1, z2, z3⟩, b, fun p hp => (k p hp).1⟩
theorem MV_b {μ : pm_T} {n b : Nat} {h : ah_T} (H : MV μ h) (hn : (n : Int) < μ 0 7) (hb : (b : Int) ≤ μ (10 + n) 1) : h.2.2.1 199 (102 * n + b) = smT μ n (brE μ n b) ∧ h.2.2.1 200 (102 * n + b) = smB μ n (brE μ n b) := by
  have V := H.1.2.2.2.2.2 n hn
  have m := V.2.1
  unfold brE
  split
  · rename_i c
    exact V.2.2.2.1 b c
  · have e := V.2.2.2.2
    rw [show (μ (10 + n) 1).toNat = b by omega] at e
    unfold smT smB
    rw [if_neg (by omega), if_neg (by omega)]
    exact e
section
variable {G : cx_T} {s n e : Nat} {h : ah_T} {μ : pm_T}
theorem m_compare {a b c d : Int} (hb0 : hb s h) (h1 : -9223372036854775808 ≤ a * d ∧ a * d ≤ 9223372036854775807) (h2 : -9223372036854775808 ≤ c * b ∧ c * b ≤ 9223372036854775807) : con G 0 0 0 m_MD_compare [av_R (some 170), av_L a, av_L b, av_L c, av_L d] h (fun r h' => ∃ z : Int, r = some (av_I z) ∧ hb s h' ∧ h' = h ∧ (z = 0 ↔ a * d = c * b) ∧ (z < 0 ↔ a * d < c * b)) := by
  refine c_MD_compare hb0 (fun _ _ _ _ => ?_)
  unfold B_MD_compare_0 B_MD_compare_37
  intro x1 e1
  refine ⟨by omega, fun x3 e3 => ⟨by omega, fun q => ⟨fun q2 => ⟨0, rfl, hb0, rfl, by omega, by omega⟩, fun q2 => ⟨1, rfl, hb0, rfl, by omega, by omega⟩⟩, fun q => ⟨-1, rfl, hb0, rfl, by omega, by omega⟩⟩⟩
theorem m_lowest (hb0 : hb s h) (H : MV μ h) (hn : (n : Int) < μ 0 7) (he : (e : Int) < μ (10 + n) 0) (hp : 1 ≤ pt μ n e) : con G 0 0 0 m_MD_lowest [av_R (some 170), av_I (300 * (n : Int) + (e : Int))] h (fun r h' => ∃ z : Int, r = some (av_I z) ∧ hb s h' ∧ h' = h ∧ z = ky μ n e 0) := by
  obtain ⟨-, -, hE, -, n4⟩ := MV_n H hn
  obtain ⟨-, -, b, k⟩ := MV_e H hn he
  refine c_MD_lowest hb0 (fun _ => ?_)
  unfold B_MD_lowest_0
  refine ⟨⟨by omega, by omega⟩, by omega, ?_⟩
  rw [show (4 * (300 * (n : Int) + (e : Int))).toNat = 4 * (300 * n + e) + 0 by omega]
  exact fun x3 e3 _ _ => ⟨_, rfl, hb0, rfl, e3.trans (k 0 (by omega))⟩
theorem m_highest (hb0 : hb s h) (H : MV μ h) (hn : (n : Int) < μ 0 7) (he : (e : Int) < μ (10 + n) 0) (hp : 1 ≤ pt μ n e) : con G 0 0 0 m_MD_highest [av_R (some 170), av_I (300 * (n : Int) + (e : Int))] h (fun r h' => ∃ z : Int, r = some (av_I z) ∧ hb s h' ∧ h' = h ∧ z = ky μ n e (pt μ n e - 1).toNat) := by
  obtain ⟨-, -, hE, -, n4⟩ := MV_n H hn
  obtain ⟨⟨y1, -, -⟩, -, b, k⟩ := MV_e H hn he
  refine c_MD_highest hb0 (fun _ => ?_)
  unfold B_MD_highest_0
  refine ⟨⟨by omega, by omega⟩, by omega, ?_⟩
  rw [show (300 * (n : Int) + (e : Int)).toNat = 300 * n + e by omega]
  intro x4 e4 _ _
  obtain rfl := e4.trans y1
  refine ⟨⟨by omega, by omega⟩, ⟨by omega, by omega⟩, by omega, ?_⟩
  rw [show (4 * (300 * (n : Int) + (e : Int)) + pt μ n e - 1).toNat = 4 * (300 * n + e) + (pt μ n e - 1).toNat by omega]
  exact fun x3 e3 _ _ => ⟨_, rfl, hb0, rfl, e3.trans (k _ (by omega))⟩
theorem m_modulo {a : Int} (hb0 : hb s h) : con G 0 0 0 m_MD_modulo [av_R (some 170), av_I a] h (fun r h' => ∃ z : Int, r = some (av_I z) ∧ hb s h' ∧ h' = h ∧ z = a % 12) := by
  refine c_MD_modulo hb0 (fun _ => ?_)
  unfold B_MD_modulo_0
  intro x1 e1 _ _
  have b1 : -11 ≤ x1 ∧ x1 ≤ 11 ∧ (x1 - a) % 12 = 0 := by
    rw [e1]
    have h1 := Int.tmod_add_mul_tdiv a 12
    by_cases c : 0 ≤ a
    · have := Int.tmod_nonneg 12 c
      have := Int.tmod_lt_of_pos a (show (0 : Int) < 12 by decide)
      omega
    · have e := Int.neg_tmod (-a) 12
      rw [Int.neg_neg] at e
      have := Int.tmod_nonneg 12 (show 0 ≤ -a by omega)
      have := Int.tmod_lt_of_pos (-a) (show (0 : Int) < 12 by decide)
      omega
  refine ⟨⟨by omega, by omega⟩, fun x3 e3 _ _ => ⟨x3, rfl, hb0, rfl, ?_⟩⟩
  rw [e3, Int.tmod_eq_emod_of_nonneg (by omega)]
  omega
theorem rd_pos {x y : Int} (hx : 0 ≤ x) (hy : 1 ≤ y) : (0 ≤ rdT x y ∧ rdT x y ≤ x) ∧ (1 ≤ rdB x y ∧ rdB x y ≤ y) ∧ ∃ g : Int, 1 ≤ g ∧ x = g * rdT x y ∧ y = g * rdB x y := by
  obtain ⟨e1, e2⟩ := gc_e x y
  generalize hg : (Int.gcd x y : Int) = g at *
  have hg0 : 0 ≤ g := by rw [← hg]; exact Int.natCast_nonneg _
  have hg1 : 1 ≤ g := by
    by_cases c : g = 0
    · rw [c, Int.zero_mul] at e2; omega
    · omega
  generalize rdT x y = a at *
  generalize rdB x y = b at *
  have ha : 0 ≤ a := by
    by_cases c : 0 ≤ a
    · exact c
    · have : g * a < 0 := Int.mul_neg_of_pos_of_neg (by omega) (by omega)
      omega
  have hb : 1 ≤ b := by
    by_cases c : 1 ≤ b
    · exact c
    · have : g * b ≤ 0 := Int.mul_nonpos_of_nonneg_of_nonpos (by omega) (by omega)
      omega
  have la : 1 * a ≤ g * a := Int.mul_le_mul_of_nonneg_right hg1 ha
  have lb : 1 * b ≤ g * b := Int.mul_le_mul_of_nonneg_right hg1 (by omega)
  exact ⟨⟨ha, by omega⟩, ⟨hb, by omega⟩, g, hg1, e1, e2⟩
theorem m_isAhead {o i : Nat} (hb0 : hb s h) (H : MV μ h) (hn : (n : Int) < μ 0 7) (he : (e : Int) < μ (10 + n) 0) (ho : (o : Int) < μ 0 7) (hi : (i : Int) < μ (10 + o) 0) : con G 3 0 0 m_MD_isAhead [av_R (some 170), av_I (300 * (n : Int) + (e : Int)), av_I (300 * (o : Int) + (i : Int))] h (fun r h' => ∃ z : Int, r = some (av_I z) ∧ hb s h' ∧ fr JWs h h' ∧ h'.2.1 = h.2.1 ∧ (z = 0 ↔ SL μ o i n (e + 1))) := by
  obtain ⟨-, -, hE, -, n4⟩ := MV_n H hn
  obtain ⟨-, -, hO, -, o4⟩ := MV_n H ho
  obtain ⟨-, ⟨z0, z1, z2, z3⟩, -⟩ := MV_e H hn he
  obtain ⟨-, ⟨w0, w1, -⟩, -⟩ := MV_e H ho hi
  have GG := H.2.1
  have bn := GM_b GG hn e
  have bn1 := GM_b GG hn (e + 1)
  have bo := GM_b GG ho i
  have M := ((GG.2.2 n hn).2.2.2.1 e he).2.2.2.2.2.1
  obtain ⟨r1, r2⟩ := (GG.1.2 n hn).1 e he
  refine c_MD_isAhead hb0 (fun _ _ => ?_)
  unfold B_MD_isAhead_0 B_MD_isAhead_60
  refine ⟨by omega, ?_⟩
  rw [show (300 * (n : Int) + (e : Int)).toNat = 300 * n + e by omega, show (300 * (o : Int) + (i : Int)).toNat = 300 * o + i by omega]
  intro x2 e2 _ _ x5 e5 _ _ x7 e7 _ _ x9 e9 _ _
  obtain rfl := e2.trans z0
  obtain rfl := e5.trans z1
  obtain rfl := e7.trans z2
  obtain rfl := e9.trans z3
  have p1 := pr_b bn.1 bn.2 ⟨M.2.2.1, M.2.2.2⟩
  have p2 := pr_b (a := μ (100 + 40 * n + 2) e) ⟨by omega, M.2.1⟩ ⟨M.2.2.1, M.2.2.2⟩ bn.2
  have p3 : 1 ≤ smB μ n e * μ (100 + 40 * n + 3) e ∧ smB μ n e * μ (100 + 40 * n + 3) e ≤ 1000000000000 := by
    have h1 := Int.mul_le_mul bn.2.1 M.2.2.1 (by omega) (by omega)
    have h2 : smB μ n e * μ (100 + 40 * n + 3) e ≤ 1000000 * 1000000 := Int.mul_le_mul bn.2.2 M.2.2.2 (by omega) (by omega)
    omega
  refine con_mono (t_MD_sum hb0 (by omega) (by omega) (by omega) (by omega)) ?_
  rintro r h2 ⟨rfl, hb2, f2, t1, t2, t3⟩
  refine ⟨rfl, hb2, fun x13 e13 _ _ x14 e14 _ _ => ⟨by omega, fun x16 e16 _ _ x19 e19 _ _ => ?_⟩⟩
  obtain rfl := e13.trans (t1.trans r1.symm)
  obtain rfl := e14.trans (t2.trans r2.symm)
  have ef : ∀ a k, 172 ≤ a → h2.2.2.1 a k = h.2.2.1 a k := fun a k q => fr_gl f2 (by omega)
  obtain rfl := e16.trans ((ef 187 _ (by decide)).trans w0)
  obtain rfl := e19.trans ((ef 188 _ (by decide)).trans w1)
  have q1 := pr_b bn1.1 bn1.2 bo.2
  have q2 := pr_b bo.1 bo.2 bn1.2
  refine con_mono (m_compare hb2 (by omega) (by omega)) ?_
  rintro r h3 ⟨z, rfl, hb3, rfl, g1, g2⟩
  have f3 : fr JWs h h3 := fr_w f2 (fun a k w => w)
  refine ⟨z, rfl, hb3, fun q => ⟨Or.inl rfl, 0, rfl, hb3, f3, t3, ?_⟩, fun q => ⟨Or.inr rfl, 1, rfl, hb3, f3, t3, ?_⟩⟩
  · unfold SL
    refine ⟨fun _ => ?_, fun _ => rfl⟩
    omega
  · unfold SL
    omega
end
