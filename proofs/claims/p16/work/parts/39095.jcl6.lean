/-! ===== judge, the class: a voice ===== -/
noncomputable def barF (μ : pm_T) (n e k : Nat) : List JQ := catl (fun b => pif (brE μ n b = e ∧ ¬ WHo μ n b) [(1, (n : Int), (e : Int), (b : Int))]) k
noncomputable def evF (μ : pm_T) (n e : Nat) : List JQ := aloF μ n e ++ croF μ n e n ++ parF μ n e n
noncomputable def atF (μ : pm_T) (n e : Nat) : List JQ := barF μ n e (μ (10 + n) 1).toNat ++ pif ((e : Int) < μ (10 + n) 0) (evF μ n e)
noncomputable def voF (μ : pm_T) (n k : Nat) : List JQ := catl (atF μ n) k
noncomputable def juF (μ : pm_T) (k : Nat) : List JQ := catl (fun n => voF μ n ((μ (10 + n) 0).toNat + 1)) k
theorem barF_0 {μ : pm_T} {n e : Nat} : ∀ k : Nat, (∀ j, j < k → brE μ n j ≠ e) → barF μ n e k = []
  | 0, _ => rfl
  | k + 1, h => by
    show barF μ n e k ++ pif (brE μ n k = e ∧ ¬ WHo μ n k) _ = []
    rw [barF_0 k (fun j hj => h j (by omega)), pif_f (fun w => h k (by omega) w.1)]
    rfl
theorem barF_e {μ : pm_T} {n e b : Nat} : ∀ k : Nat, b ≤ k → (∀ j, b ≤ j → j < k → brE μ n j ≠ e) → barF μ n e k = barF μ n e b
  | 0, h, _ => by
    have : b = 0 := by omega
    subst this; rfl
  | k + 1, h, q => by
    by_cases c : b = k + 1
    · subst c; rfl
    · show barF μ n e k ++ pif (brE μ n k = e ∧ ¬ WHo μ n k) _ = _
      rw [barF_e k (by omega) (fun j h1 h2 => q j h1 (by omega)), pif_f (fun w => q k (by omega) (by omega) w.1), List.append_nil]
theorem brE_mm {μ : pm_T} (GG : GM μ) {n b : Nat} (hn : (n : Int) < μ 0 7) : ∀ k : Nat, b ≤ k → brE μ n b ≤ brE μ n k
  | 0, h => by
    have : b = 0 := by omega
    subst this; exact Nat.le_refl _
  | k + 1, h => by
    by_cases c : b = k + 1
    · subst c; exact Nat.le_refl _
    · exact Nat.le_trans (brE_mm GG hn k (by omega)) (brE_m GG hn)
/-- what is sounding -/
def SDo (μ : pm_T) (n e : Nat) (h : ah_T) : Prop := ∀ o, o < n → ∃ i : Nat, h.2.1 145 o = (i : Int) ∧ (i : Int) ≤ μ (10 + o) 0 ∧ ((e : Int) < μ (10 + n) 0 → ∀ j, j < i → SE μ o (j + 1) n e)
/-- room for the faults to come -/
def wEv (n e : Nat) : Nat := (2 + 2 * n) * (300 - e)
theorem wEv_s {n e : Nat} (h : e < 300) : wEv n e = wEv n (e + 1) + (2 + 2 * n) := by
  unfold wEv
  rw [show 300 - e = 300 - (e + 1) + 1 by omega, Nat.mul_add, Nat.mul_one]
theorem wEv_m {n e : Nat} : wEv n (e + 1) ≤ wEv n e := Nat.mul_le_mul_left _ (by omega)
section
variable {G : cx_T} {s c n : Nat} {h : ah_T} {μ : pm_T} {l : List JQ}
def JI33 (μ : pm_T) (n : Nat) (l : List JQ) (h : ah_T) (v4 v5 : Int) (hh : ah_T) : Prop := ∃ b e : Nat, v4 = (b : Int) ∧ v5 = (e : Int) ∧ (b : Int) ≤ μ (10 + n) 1 ∧ (e : Int) ≤ μ (10 + n) 0 + 1 ∧ fr JWc h hh ∧ JL (l ++ voF μ n e) hh ∧ (∀ j, j < b → brE μ n j < e) ∧ ((b : Int) < μ (10 + n) 1 → e ≤ brE μ n b) ∧ SDo μ n e hh ∧ (l ++ voF μ n e).length + wEv n e + (101 - b) ≤ 6404
def JI42 (μ : pm_T) (n : Nat) (l : List JQ) (h : ah_T) (v4 v5 : Int) (hh : ah_T) : Prop := ∃ b e : Nat, v4 = (b : Int) ∧ v5 = (e : Int) ∧ (b : Int) ≤ μ (10 + n) 1 ∧ (e : Int) ≤ μ (10 + n) 0 ∧ fr JWc h hh ∧ JL (l ++ voF μ n e ++ barF μ n e b) hh ∧ (∀ j, j < b → brE μ n j ≤ e) ∧ ((b : Int) < μ (10 + n) 1 → e ≤ brE μ n b) ∧ SDo μ n e hh ∧ (l ++ voF μ n e ++ barF μ n e b).length + wEv n e + (101 - b) ≤ 6404
theorem j_voice (hb0 : hb s h) (H : CV μ c h) (hn : (n : Int) < μ 0 7) (J : JL l h) (hl : l.length + wEv n 0 + 101 ≤ 6404) :
    con G 4 0 0 m_Judge_hearVoice [av_R (some 143), av_R (some c), av_R (some (c + 7 + 14 * n)), av_I (n : Int)] h (fun r h' => r = none ∧ hb s h' ∧ fr JWc h h' ∧ JL (l ++ voF μ n ((μ (10 + n) 0).toNat + 1)) h') := by
  obtain ⟨hv, h14, h16, hE, hB, n4⟩ := CV_v H hn
  have GG := H.2.2.1
  have key : ∀ (N : Nat) (v4 v5 : Int) (hh : ah_T), hb s hh → JI33 μ n l h v4 v5 hh → (400 - v5).toNat < N → aw G (rm_R 4 0 0) m_Judge_hearVoice 0 0 33 [some (av_R (some 143)), some (av_R (some c)), some (av_R (some (c + 7 + 14 * n))), some (av_I (n : Int)), some (av_I v4), some (av_I v5)] [] hh (fun r h' => r = none ∧ hb s h' ∧ fr JWc h h' ∧ JL (l ++ voF μ n ((μ (10 + n) 0).toNat + 1)) h') := by
    intro N
    induction N with
    | zero => intro v4 v5 hh _ _ q; omega
    | succ N ih =>
      intro v4 v5 hh hbh I33 hN
      have v5b : v5 ≤ 301 := by
        obtain ⟨b, e, -, rfl, -, e1, -⟩ := I33
        omega
      have in42 : ∀ (v4' v5' : Int) (h' : ah_T), hb s h' → (JI42 μ n l h v4' v5' h' ∧ v5' = v5) → aw G (rm_R 4 0 0) m_Judge_hearVoice 0 0 42 [some (av_R (some 143)), some (av_R (some c)), some (av_R (some (c + 7 + 14 * n))), some (av_I (n : Int)), some (av_I v4'), some (av_I v5')] [] h' (fun r h' => r = none ∧ hb s h' ∧ fr JWc h h' ∧ JL (l ++ voF μ n ((μ (10 + n) 0).toNat + 1)) h') := by
        refine lp_Judge_hearVoice_42 (X33 := fun a b h' => JI33 μ n l h a b h' ∧ b = v5 + 1) H.1 hv (fun a b h' hb' x => ih a b h' hb' x.1 (by have := x.2; omega)) _ (fun v4 _ _ => (200 - v4).toNat) ?_
        rintro v4' v5' h1 hb1 ⟨⟨b, e, rfl, rfl, b1, e1, f, J1, al, nx, Sd, ln⟩, ev⟩
        subst ev
        have H1 := CV_f H f JWc_43
        have h14' := (CV_v H1 hn).2.1
        have h16' := (CV_v H1 hn).2.2.1
        unfold B_Judge_hearVoice_42 B_Judge_hearVoice_83
        have go89 : barF μ n e (μ (10 + n) 1).toNat = barF μ n e b → (∀ j, j < b → brE μ n j < e + 1) → ((b : Int) < μ (10 + n) 1 → e + 1 ≤ brE μ n b) → B_Judge_hearVoice_89 G s c (c + 7 + 14 * n) (n : Int) (b : Int) (e : Int) h1 (fun r h' => r = none ∧ hb s h' ∧ fr JWc h h' ∧ JL (l ++ voF μ n ((μ (10 + n) 0).toNat + 1)) h') (fun a b h' => JI33 μ n l h a b h' ∧ b = (e : Int) + 1) := by
          intro eb alb nxb
          have voS : l ++ voF μ n (e + 1) = l ++ voF μ n e ++ barF μ n e b ++ pif ((e : Int) < μ (10 + n) 0) (evF μ n e) := by
            show l ++ (voF μ n e ++ (barF μ n e (μ (10 + n) 1).toNat ++ pif ((e : Int) < μ (10 + n) 0) (evF μ n e))) = _
            rw [eb, ← List.append_assoc, ← List.append_assoc]
          unfold B_Judge_hearVoice_89 B_Judge_hearVoice_124
          intro x1 ex1 _ _
          have ex := ex1.trans h14'
          subst ex
          refine ⟨fun q => ⟨⟨by omega, by omega⟩, ⟨b, e + 1, rfl, by omega, b1, by omega, f, ?_, alb, nxb, ?_, ?_⟩, rfl⟩, fun q => ?_⟩
          · rw [voS, pif_f (by omega), List.append_nil]; exact J1
          · intro o ho
            obtain ⟨i, i1, i2, -⟩ := Sd o ho
            exact ⟨i, i1, i2, fun q2 => by omega⟩
          · rw [voS, pif_f (by omega), List.append_nil]
            have := wEv_m (n := n) (e := e)
            omega
          have he : (e : Int) < μ (10 + n) 0 := by omega
          have ws := wEv_s (n := n) (e := e) (by omega)
          have la := aloF_l (μ := μ) (n := n) (e := e)
          have lc := croF_l (μ := μ) (n := n) (e := e) (k := n)
          have lpp := parF_l (μ := μ) (n := n) (e := e) (k := n)
          generalize l ++ voF μ n e ++ barF μ n e b = l1 at *
          refine con_mono (j_alone hb1 H1 hn he J1 (by omega)) ?_
          rintro r h2 ⟨rfl, hb2, f2, J2⟩
          have H2 := CV_f H1 f2 JW_43
          refine ⟨rfl, hb2, ?_⟩
          refine con_mono (j_cross hb2 H2 hn he J2 (by rw [List.length_append]; omega) (fun o ho => ?_)) ?_
          · obtain ⟨i, i1, i2, i3⟩ := Sd o ho
            exact ⟨i, (fr_g f2 (by omega)).trans i1, i2, i3 he⟩
          rintro r h3 ⟨rfl, hb3, f3, J3, S3⟩
          have H3 := CV_f H2 f3 JWc_43
          refine ⟨rfl, hb3, ?_⟩
          refine con_mono (j_para hb3 H3 hn he J3 (by rw [List.length_append, List.length_append]; omega) S3) ?_
          rintro r h4 ⟨rfl, hb4, f4, J4⟩
          have ev : l1 ++ aloF μ n e ++ croF μ n e n ++ parF μ n e n = l ++ voF μ n (e + 1) := by
            rw [voS, pif_t he]
            unfold evF
            rw [← List.append_assoc, ← List.append_assoc]
          rw [ev] at J4
          refine ⟨rfl, hb4, ⟨by omega, by omega⟩, ⟨b, e + 1, rfl, by omega, b1, by omega, fr_t (fr_t (fr_t f (fr_ac f2) (fun _ _ w => w)) f3 (fun _ _ w => w)) (fr_ac f4) (fun _ _ w => w), J4, alb, nxb, fun o ho => ?_, ?_⟩, rfl⟩
          · obtain ⟨i, i1, i2⟩ := S3 o ho
            refine ⟨i, (fr_g f4 (by omega)).trans i1, i2.1, fun q2 j hj => ?_⟩
            exact SE_le GG (by omega) hn hn (i2.2.1 j hj) (SL_e (GM_s GG hn he))
          · rw [← ev, List.length_append, List.length_append, List.length_append]
            omega
        intro x1 ex1 _ _
        have ex := ex1.trans h16'
        subst ex
        refine ⟨fun q => ?_, fun q => ⟨by omega, ?_⟩⟩
        · have : (μ (10 + n) 1).toNat = b := by omega
          exact go89 (by rw [this]) (fun j hj => by have := al j hj; omega) (fun q2 => by omega)
        rw [tn_c]
        intro x3 ex3 _ _
        have ex := ex3.trans (CV_b H1 hn (b := b) b1)
        subst ex
        have hbl : (b : Int) < μ (10 + n) 1 := by omega
        have nb := nx hbl
        refine ⟨fun q2 => go89 (barF_e _ (by omega) (fun j h1 h2 => ?_)) (fun j hj => by have := al j hj; omega) (fun _ => by omega), fun q2 => ?_⟩
        · have := brE_mm GG hn (b := b) j h1
          omega
        have eb : brE μ n b = e := by omega
        have nx2 : ((b + 1 : Nat) : Int) < μ (10 + n) 1 → e ≤ brE μ n (b + 1) := fun _ => by
          have := brE_m GG (b := b) hn
          omega
        refine con_mono (j_whole hb1 H1 hn hbl) ?_
        rintro r h2 ⟨z, rfl, hb2, rfl, zz⟩
        refine ⟨z, rfl, hb2, fun q3 => ?_, fun q3 => ⟨⟨by omega, by omega⟩, ⟨⟨b + 1, e, by omega, rfl, by omega, e1, f, ?_, ?_, nx2, Sd, ?_⟩, rfl⟩, by omega⟩⟩
        · have no : ¬ WHo μ n b := by
            rcases zz with ⟨-, x⟩ | ⟨x, -⟩
            · exact x
            · omega
          have bs : l ++ voF μ n e ++ barF μ n e (b + 1) = l ++ voF μ n e ++ barF μ n e b ++ [(1, (n : Int), (e : Int), (b : Int))] := by
            show l ++ voF μ n e ++ (barF μ n e b ++ pif (brE μ n b = e ∧ ¬ WHo μ n b) _) = _
            rw [pif_t ⟨eb, no⟩, ← List.append_assoc]
          refine con_mono (j_add hb2 J1 (by omega)) ?_
          rintro r h3 ⟨rfl, hb3, f3, J3⟩
          refine ⟨rfl, hb3, ⟨by omega, by omega⟩, ⟨⟨b + 1, e, by omega, rfl, by omega, e1, fr_t f (fr_ac f3) (fun _ _ w => w), by rw [bs]; exact J3, ?_, nx2, fun o ho => ?_, ?_⟩, rfl⟩, by omega⟩
          · intro j hj
            by_cases cj : j = b
            · subst cj; omega
            · exact al j (by omega)
          · obtain ⟨i, i1, i2⟩ := Sd o ho
            exact ⟨i, (fr_g f3 (by omega)).trans i1, i2⟩
          · rw [bs, List.length_append]
            show _ + 1 + _ + _ ≤ _
            omega
        · have yes : WHo μ n b := by
            rcases zz with ⟨x, -⟩ | ⟨-, x⟩
            · exact absurd x q3
            · exact x
          show JL (l ++ voF μ n e ++ (barF μ n e b ++ pif (brE μ n b = e ∧ ¬ WHo μ n b) _)) h2
          rw [pif_f (fun w => w.2 yes), List.append_nil]
          exact J1
        · intro j hj
          by_cases cj : j = b
          · subst cj; omega
          · exact al j (by omega)
        · have yes : WHo μ n b := by
            rcases zz with ⟨x, -⟩ | ⟨-, x⟩
            · exact absurd x q3
            · exact x
          show (l ++ voF μ n e ++ (barF μ n e b ++ pif (brE μ n b = e ∧ ¬ WHo μ n b) _)).length + _ + _ ≤ _
          rw [pif_f (fun w => w.2 yes), List.append_nil]
          omega
      obtain ⟨b, e, rfl, rfl, b1, e1, f, J1, al, nx, Sd, ln⟩ := I33
      have H1 := CV_f H f JWc_43
      have h14' := (CV_v H1 hn).2.1
      refine b_Judge_hearVoice_33 (X42 := fun a b h' => JI42 μ n l h a b h' ∧ b = (e : Int)) H.1 hv in42 hbh ?_
      unfold B_Judge_hearVoice_33
      intro x1 ex1 _ _
      have ex := ex1.trans h14'
      subst ex
      have nob : barF μ n e b = [] := barF_0 b (fun j hj => by have := al j hj; omega)
      refine ⟨fun q => ⟨rfl, hbh, f, ?_⟩, fun q => ⟨⟨b, e, rfl, rfl, b1, by omega, f, by rw [nob, List.append_nil]; exact J1, fun j hj => by have := al j hj; omega, nx, Sd, by rw [nob, List.append_nil]; exact ln⟩, rfl⟩⟩
      rw [show (μ (10 + n) 0).toNat + 1 = e by omega]
      exact J1
  refine c_Judge_hearVoice H.1 hv (X3 := fun v4 hh => ∃ k : Nat, v4 = (k : Int) ∧ k ≤ 4 ∧ fr JWc h hh ∧ JL l hh ∧ ∀ o, o < k → hh.2.1 145 o = 0) ?_ hb0 (fun _ => ?_)
  · refine lp_Judge_hearVoice_3 (X33 := fun a b h' => JI33 μ n l h a b h' ∧ b = 0) H.1 hv (fun a b h' hb' x => key 500 a b h' hb' x.1 (by have := x.2; omega)) _ (fun v4 _ => (5 - v4).toNat) ?_
    rintro v4 hh hb1 ⟨k, rfl, hk, f, J1, z⟩
    unfold B_Judge_hearVoice_3
    refine ⟨fun q => ⟨⟨0, 0, rfl, rfl, by omega, by omega, f, by show JL (l ++ []) hh; rw [List.append_nil]; exact J1, fun j hj => by omega, fun _ => Nat.zero_le _, fun o ho => ?_, ?_⟩, rfl⟩, fun q => ⟨by omega, fun h4 e4 => ⟨⟨by omega, by omega⟩, ⟨k + 1, by omega, by omega, fr_i f e4 (Or.inr (Or.inr rfl)), ⟨by rw [mm_i e4 (by omega)]; exact J1.1, fun j q hq => by rw [mm_i e4 (by omega)]; exact J1.2 j q hq⟩, fun o ho => ?_⟩, by omega⟩⟩⟩
    · have b0 := (GG.2.2 o (by omega)).1
      exact ⟨0, z o (by omega), by omega, fun _ j hj => by omega⟩
    · show (l ++ []).length + _ + _ ≤ _
      rw [List.append_nil]
      omega
    · rw [tn_c] at e4
      by_cases co : o = k
      · subst co; exact mv_i e4
      · rw [mm_i e4 (by omega)]; exact z o (by omega)
  · unfold B_Judge_hearVoice_0
    exact ⟨0, rfl, by decide, fr_0, J, fun o ho => by omega⟩
end
