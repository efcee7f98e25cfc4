/-! ===== page, the reference: the width of a bar ===== -/
noncomputable def acN (μ : pm_T) (b : Nat) : Nat → Nat
  | 0 => 0
  | n + 1 => acN μ b n + Nf μ b n (ptr0 μ b n)
theorem acN_4 {μ : pm_T} {b : Nat} (GG : GM μ) : acN μ b (μ 0 7).toNat = Rem4 μ b (ptr0 μ b) := by
  have b7 := GG.1.1
  have z : ∀ v : Nat, ¬ (v : Int) < μ 0 7 → Nf μ b v (ptr0 μ b v) = 0 := fun v hv => Nf_0 (fun A => hv A.1)
  have e4 : Rem4 μ b (ptr0 μ b) = acN μ b 4 := by
    unfold Rem4
    simp only [acN]
    omega
  rw [e4]
  obtain e | e | e | e | e : μ 0 7 = 0 ∨ μ 0 7 = 1 ∨ μ 0 7 = 2 ∨ μ 0 7 = 3 ∨ μ 0 7 = 4 := by omega
  all_goals rw [e]
  all_goals have z0 := z 0
  all_goals have z1 := z 1
  all_goals have z2 := z 2
  all_goals have z3 := z 3
  all_goals rw [e] at z0 z1 z2 z3
  · have := z0 (by decide); have := z1 (by decide); have := z2 (by decide); have := z3 (by decide)
    show acN μ b 0 = _
    simp only [acN]; omega
  · have := z1 (by decide); have := z2 (by decide); have := z3 (by decide)
    show acN μ b 1 = _
    simp only [acN]; omega
  · have := z2 (by decide); have := z3 (by decide)
    show acN μ b 2 = _
    simp only [acN]; omega
  · have := z3 (by decide)
    show acN μ b 3 = _
    simp only [acN]; omega
  · rfl
theorem acN_b {μ : pm_T} {b : Nat} (GG : GM μ) : ∀ n, acN μ b n ≤ 300 * n
  | 0 => Nat.le_refl _
  | n + 1 => by
    have := acN_b (b := b) GG n
    have := Nf_b GG (b := b) (v := n) (i := ptr0 μ b n)
    rw [acN]; omega
/-- j, brought between x and t -/
def clp (x t j : Nat) : Nat := if j < x then x else if t < j then t else j
section
variable {G : cx_T} {s b : Nat} {h : ah_T} {μ : pm_T}
theorem t_MD_widthB (hb0 : hb s h) (H : MV μ h) (hb1 : (b : Int) < mbr μ (μ 0 7).toNat) (hb2 : b ≤ 100) : con G 4 0 0 m_MD_width [av_R (some 170), av_I (b : Int)] h (fun r h' => r = some (av_I (wdt μ b)) ∧ hb s h' ∧ fr JWs h h') := by
  have GG := H.2.1
  have b7 := GG.1.1
  have key : ∀ (N : Nat) (v2 v3 v4 : Int) (hh : ah_T), hb s hh → (fr JWs h hh ∧ ∃ n : Nat, v4 = (n : Int) ∧ (n : Int) ≤ μ 0 7 ∧ v2 = (acN μ b n : Int) ∧ v3 = sgA μ b n) → (10 - v4).toNat < N → aw G (rm_R 4 0 0) m_MD_width 0 0 21 [some (av_R (some 170)), some (av_I (b : Int)), some (av_I v2), some (av_I v3), some (av_I v4), none, none] [] hh (fun r h' => r = some (av_I (wdt μ b)) ∧ hb s h' ∧ fr JWs h h') := by
    intro N
    induction N with
    | zero => intro v2 v3 v4 hh _ _ q; omega
    | succ N ih =>
      rintro v2 v3 v4 hh hbh ⟨f, n, rfl, hn, rfl, rfl⟩ hN
      have H1 := MV_f H f JWs_w
      have sa := sgA_b (b := b) GG n hn
      have ab := acN_b (b := b) GG n
      by_cases hn' : (n : Int) < μ 0 7
      · have hE := (GG.2.2 n hn').1
        have e1 := brE_b GG (b := b + 1) hn'
        have em := brE_m GG (b := b) hn'
        have in35 : ∀ (a2 a3 a4 a5 : Int) (h' : ah_T), hb s h' → (fr JWs h h' ∧ a4 = (n : Int) ∧ ∃ j : Nat, a5 = (j : Int) ∧ (j : Int) ≤ μ (10 + n) 0 ∧ (((b : Int) < μ (10 + n) 1 ∧ (∃ x : Nat, a2 = (x : Int) ∧ x + Nf μ b n (clp (brE μ n b) (brE μ n (b + 1)) j) = acN μ b n + Nf μ b n (brE μ n b)) ∧ a3 = sgA μ b n + sgV μ b n (clp (brE μ n b) (brE μ n (b + 1)) j - brE μ n b)) ∨ (¬ (b : Int) < μ (10 + n) 1 ∧ a2 = (acN μ b n : Int) ∧ a3 = sgA μ b n))) → aw G (rm_R 4 0 0) m_MD_width 0 0 35 [some (av_R (some 170)), some (av_I (b : Int)), some (av_I a2), some (av_I a3), some (av_I a4), some (av_I a5), none] [] h' (fun r h' => r = some (av_I (wdt μ b)) ∧ hb s h' ∧ fr JWs h h') := by
          refine lp_MD_width_35 (X21 := fun v2 v3 v4 hh => (fr JWs h hh ∧ ∃ n : Nat, v4 = (n : Int) ∧ (n : Int) ≤ μ 0 7 ∧ v2 = (acN μ b n : Int) ∧ v3 = sgA μ b n) ∧ v4 = (n : Int) + 1) (fun v2 v3 v4 hh hb' x => ih v2 v3 v4 hh hb' x.1 (by have := x.2; omega)) _ (fun _ _ _ a5 _ => (400 - a5).toNat) ?_
          rintro a2 a3 a4 a5 h' hb' ⟨f', rfl, j, rfl, hj, st⟩
          have H' := MV_f H f' JWs_w
          obtain ⟨o1, -, -, -, n4⟩ := MV_n H' hn'
          unfold B_MD_width_35
          refine ⟨by omega, ?_⟩
          rw [tn_c]
          intro x2 e2 _ _
          obtain rfl := e2.trans o1
          refine ⟨fun q => ⟨⟨by omega, by omega⟩, ⟨f', n + 1, by omega, by omega, ?_, ?_⟩, rfl⟩, fun q => ?_⟩
          · rw [acN]
            rcases st with ⟨k1, ⟨x, rfl, k2⟩, -⟩ | ⟨k1, rfl, -⟩
            · have p0 : ptr0 μ b n = brE μ n b := by unfold ptr0; rw [if_pos ⟨hn', k1⟩]
              have z : Nf μ b n (clp (brE μ n b) (brE μ n (b + 1)) j) = 0 := Nf_0 (fun A => by have := A.2.2; unfold clp at this; split at this <;> (try split at this) <;> omega)
              rw [p0]
              omega
            · have z : Nf μ b n (ptr0 μ b n) = 0 := Nf_0 (fun A => k1 A.2.1)
              omega
          · rw [sgA]
            unfold sgT
            rcases st with ⟨k1, -, k3⟩ | ⟨k1, -, k3⟩
            · rw [if_pos k1, k3]
              have : clp (brE μ n b) (brE μ n (b + 1)) j = brE μ n (b + 1) := by unfold clp; split <;> (try split) <;> omega
              rw [this]
            · rw [if_neg k1, k3, Int.add_zero]
          have hj' : (j : Int) < μ (10 + n) 0 := by omega
          obtain ⟨⟨-, -, y6⟩, -⟩ := MV_e H' hn' hj'
          have y9 : h'.2.1 194 (300 * n + j) = μ (100 + 40 * n + 9) j := ((H'.1.2.2.2.2.2 n hn').2.2.1 j hj').1.2.2.2.2.2
          have be := bar_e (b := b) GG hn' hj'
          refine ⟨⟨by omega, by omega⟩, ⟨by omega, by omega⟩, by omega, ?_⟩
          rw [nx300]
          intro x8 e8 _ _
          obtain rfl := e8.trans y6
          refine ⟨fun q2 x11 e11 _ _ => ?_, fun q2 => ?_⟩
          · obtain rfl := e11.trans y9
            obtain ⟨k1, k2, k3⟩ := be.mp q2
            have r9 := row9_b GG hn' hj'
            rcases st with ⟨-, ⟨x, rfl, st2⟩, rfl⟩ | ⟨no, -⟩
            rotate_left
            · exact absurd k1 no
            have cj : clp (brE μ n b) (brE μ n (b + 1)) j = j := by unfold clp; rw [if_neg (by omega), if_neg (by omega)]
            have cj1 : clp (brE μ n b) (brE μ n (b + 1)) (j + 1) = j + 1 := by unfold clp; rw [if_neg (by omega), if_neg (by omega)]
            have sv := sgV_b (b := b) GG hn' (j - brE μ n b) (by omega)
            have A : act μ b n j := ⟨hn', k1, k3⟩
            have ns := Nf_s A
            rw [cj] at st2 ⊢
            have nb := Nf_b GG (b := b) (v := n) (i := brE μ n b)
            have sg1 : sgV μ b n (j + 1 - brE μ n b) = sgV μ b n (j - brE μ n b) + μ (100 + 40 * n + 9) j := by
              rw [show j + 1 - brE μ n b = (j - brE μ n b) + 1 by omega, sgV, show brE μ n b + (j - brE μ n b) = j by omega]
            have fin : ∀ (t1 : Nat) {h2 : ah_T}, t1 = dif (Fst μ b n j) 1 0 → fr JWs h h2 → B_MD_width_100 G s (b : Int) (sgA μ b n + sgV μ b n (j - brE μ n b) + μ (100 + 40 * n + 9) j) (n : Int) (j : Int) (x : Int) (t1 : Int) h2 (fun r h' => r = some (av_I (wdt μ b)) ∧ hb s h' ∧ fr JWs h h') (fun a2' a3' a4' a5' h'' => (fr JWs h h'' ∧ a4' = (n : Int) ∧ ∃ j : Nat, a5' = (j : Int) ∧ (j : Int) ≤ μ (10 + n) 0 ∧ (((b : Int) < μ (10 + n) 1 ∧ (∃ x : Nat, a2' = (x : Int) ∧ x + Nf μ b n (clp (brE μ n b) (brE μ n (b + 1)) j) = acN μ b n + Nf μ b n (brE μ n b)) ∧ a3' = sgA μ b n + sgV μ b n (clp (brE μ n b) (brE μ n (b + 1)) j - brE μ n b)) ∨ (¬ (b : Int) < μ (10 + n) 1 ∧ a2' = (acN μ b n : Int) ∧ a3' = sgA μ b n))) ∧ (400 - a5').toNat < (400 - (j : Int)).toNat) := by
              intro t1 h2 et f2
              rw [← et] at ns
              unfold B_MD_width_100 B_MD_width_102
              have t1b : t1 ≤ 1 := by
                rw [et]
                by_cases c : Fst μ b n j
                · rw [dif_t c]; omega
                · rw [dif_f c]; omega
              refine ⟨⟨by omega, by omega⟩, ⟨by omega, by omega⟩, ⟨f2, rfl, j + 1, by omega, by omega, Or.inl ⟨k1, ⟨x + t1, by omega, ?_⟩, ?_⟩⟩, by omega⟩
              · rw [cj1]; omega
              · rw [cj1, sg1]; omega
            refine ⟨⟨by omega, by omega⟩, ?_⟩
            refine con_mono (m_firstTime hb' H' hn' hj' q2) ?_
            rintro r h13 ⟨z, rfl, hb13, f13, i13, zz⟩
            have f13' := fr_t f' f13 (fun _ _ w => w)
            refine ⟨z, rfl, hb13, fun q3 => fin 0 ?_ f13', fun q3 => fin 1 ?_ f13'⟩
            · rcases zz with ⟨-, w⟩ | ⟨w, -⟩
              · rw [dif_f w]
              · omega
            · rcases zz with ⟨w, -⟩ | ⟨-, w⟩
              · exact absurd w q3
              · rw [dif_t w]
          · unfold B_MD_width_102
            refine ⟨⟨by omega, by omega⟩, ⟨f', rfl, j + 1, by omega, by omega, ?_⟩, by omega⟩
            rcases st with ⟨k1, st2, st3⟩ | st
            · have nb : ¬ (brE μ n b ≤ j ∧ j < brE μ n (b + 1)) := fun w => q2 (be.mpr ⟨k1, w⟩)
              have cc : clp (brE μ n b) (brE μ n (b + 1)) (j + 1) = clp (brE μ n b) (brE μ n (b + 1)) j := by
                unfold clp
                by_cases c1 : j < brE μ n b
                · rw [if_pos c1]
                  split
                  · rfl
                  · split <;> omega
                · have : brE μ n (b + 1) ≤ j := by omega
                  rw [if_neg c1, if_neg (by omega), if_pos (by omega)]
                  split <;> omega
              rw [cc]
              exact Or.inl ⟨k1, st2, st3⟩
            · exact Or.inr st
        refine b_MD_width_21 in35 hbh ?_
        unfold B_MD_width_21
        intro x2 e2 _ _
        obtain rfl := e2.trans H1.1.1.1
        refine ⟨fun q => by omega, fun q => ⟨f, rfl, 0, rfl, by omega, ?_⟩⟩
        by_cases k1 : (b : Int) < μ (10 + n) 1
        · have c0 : clp (brE μ n b) (brE μ n (b + 1)) 0 = brE μ n b := by
            unfold clp
            split
            · rfl
            · split <;> omega
          rw [c0, Nat.sub_self]
          exact Or.inl ⟨k1, ⟨acN μ b n, rfl, rfl⟩, by rw [sgV, Int.add_zero]⟩
        · exact Or.inr ⟨k1, rfl, rfl⟩
      · refine b_MD_width_21 (X35 := fun _ _ _ _ _ => False) (fun _ _ _ _ _ _ x => x.elim) hbh ?_
        unfold B_MD_width_21
        intro x2 e2 _ _
        obtain rfl := e2.trans H1.1.1.1
        have en : (μ 0 7).toNat = n := by omega
        have a4 := acN_4 (b := b) GG
        rw [en] at a4
        refine ⟨fun q => ⟨by omega, by omega, by omega, by omega, ?_, hbh, f⟩, fun q => by omega⟩
        unfold wdt
        rw [en, a4]
  refine c_MD_width (X21 := fun v2 v3 v4 hh => fr JWs h hh ∧ ∃ n : Nat, v4 = (n : Int) ∧ (n : Int) ≤ μ 0 7 ∧ v2 = (acN μ b n : Int) ∧ v3 = sgA μ b n) (fun v2 v3 v4 hh hb' x => key ((10 - v4).toNat + 1) v2 v3 v4 hh hb' x (Nat.lt_succ_self _)) hb0 (fun _ => ?_)
  unfold B_MD_width_0
  refine ⟨fun q => by omega, fun q => ?_⟩
  refine con_mono (t_MD_pageBars hb0 H.1) ?_
  rintro r h1 ⟨hb1', rfl, rfl⟩
  exact ⟨_, rfl, hb1', fun _ => ⟨fr_0, 0, rfl, b7.1, rfl, rfl⟩, fun w => absurd hb1 w⟩
end
