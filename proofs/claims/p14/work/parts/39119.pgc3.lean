/-! ===== page, the class: a time is passed ===== -/
noncomputable def pasP (μ : pm_T) (b : Nat) (T B : Int) (p : Nat → Nat) (v : Nat) : Nat := dif (act μ b v (p v) ∧ tmT μ b v (p v) = T ∧ tmB μ b v (p v) = B) (p v + 1) (p v)
section
variable {G : cx_T} {s c b : Nat} {h : ah_T} {μ : pm_T}
theorem j_pass {p : Nat → Nat} {T B : Int} (hb0 : hb s h) (H : CV μ c h) (P : PTs μ b p h) (hT : 0 ≤ T) (hb1 : b ≤ 101) : con G 2 0 0 m_Page_passTime [av_R (some 150), av_R (some c), av_I (b : Int), av_L T, av_L B] h (fun r h' => r = none ∧ hb s h' ∧ fr JWg h h' ∧ PTs μ b (pasP μ b T B p) h') := by
  refine c_Page_passTime H.1 (X3 := fun v7 hh => fr JWg h hh ∧ ∃ k : Nat, v7 = (k : Int) ∧ k ≤ 4 ∧ PTs μ b (fun o => if o < k then pasP μ b T B p o else p o) hh) ?_ hb0 (fun _ _ _ => ?_)
  · refine lp_Page_passTime_3 H.1 _ (fun v7 _ => (5 - v7).toNat) ?_
    rintro v7 hh hb2 ⟨f, k, rfl, hk, P1⟩
    have H1 := CV_f H f JWg_43
    unfold B_Page_passTime_3 B_Page_passTime_58
    have nxt : ∀ {h' : ah_T}, fr JWg h h' → k < 4 → PTs μ b (fun o => if o < k + 1 then pasP μ b T B p o else p o) h' → ((-2147483648) ≤ ((k : Int) + 1) ∧ ((k : Int) + 1) ≤ 2147483647) ∧ ((fr JWg h h' ∧ ∃ k' : Nat, (k : Int) + 1 = (k' : Int) ∧ k' ≤ 4 ∧ PTs μ b (fun o => if o < k' then pasP μ b T B p o else p o) h') ∧ (5 - ((k : Int) + 1)).toNat < (5 - (k : Int)).toNat) := fun f' k4 P' => ⟨⟨by omega, by omega⟩, ⟨f', k + 1, by omega, by omega, P'⟩, by omega⟩
    have same : ¬ (act μ b k (p k) ∧ tmT μ b k (p k) = T ∧ tmB μ b k (p k) = B) → PTs μ b (fun o => if o < k + 1 then pasP μ b T B p o else p o) hh := fun q => by
      have e : (fun o => if o < k + 1 then pasP μ b T B p o else p o) = (fun o => if o < k then pasP μ b T B p o else p o) := by
        funext o
        by_cases c1 : o < k
        · rw [if_pos c1, if_pos (by omega)]
        · by_cases c2 : o = k
          · subst c2
            rw [if_pos (by omega), if_neg c1]
            unfold pasP
            rw [dif_f q]
          · rw [if_neg c1, if_neg (by omega)]
      rw [e]; exact P1
    refine ⟨fun q => ⟨rfl, hb2, f, ?_⟩, fun q => ⟨by omega, ?_⟩⟩
    · have k4 : k = 4 := by omega
      subst k4
      intro o ho
      have := P1 o ho
      dsimp only at this
      rw [if_pos ho] at this
      exact this
    have k4 : k < 4 := by omega
    have P1k := P1 k k4
    dsimp only at P1k
    rw [if_neg (by omega)] at P1k
    obtain ⟨q1, ⟨q2, q3⟩, q4⟩ := P1k
    rw [tn_c]
    intro x2 e2 _ _
    by_cases A : act μ b k (p k)
    rotate_left
    · have ex := e2.trans (q3 A)
      subst ex
      exact ⟨fun w => by omega, fun w => nxt f k4 (same (fun x => A x.1))⟩
    obtain ⟨t1, t2⟩ := q2 A
    have ex := e2.trans t1
    subst ex
    refine ⟨fun w x6 e6 _ _ => ?_, fun w => nxt f k4 (same (fun x => w x.2.1))⟩
    have ex := e6.trans t2
    subst ex
    refine ⟨fun w2 x9 e9 _ _ => ?_, fun w2 => nxt f k4 (same (fun x => w2 x.2.2))⟩
    have ex := e9.trans q1
    subst ex
    have e1 := brE_b H.2.2.1 (b := b + 1) A.1
    have lt := A.2.2
    have m3 := (H.2.2.1.2.2 k A.1).1
    refine ⟨⟨by omega, by omega⟩, fun h11 e11 => ?_⟩
    have f11 := fr_i f e11 (Or.inl rfl)
    have hb11 := hb_i hb2 e11
    have H11 := CV_f H f11 JWg_43
    refine con_mono (t_Score_voiceAt hb11 H.1 H11.2.1) ?_
    rintro r h13 ⟨hb13, rfl, ⟨-, -, rfl⟩ | ⟨q5, -⟩⟩
    rotate_left
    · exact absurd ⟨by omega, A.1⟩ q5
    rw [tn_c]
    refine ⟨_, rfl, hb13, Or.inr ⟨_, rfl, (CV_v H11 A.1).1, ?_⟩⟩
    have hp1 : h13.2.1 155 k = ((p k + 1 : Nat) : Int) := by rw [mv_i e11]; omega
    refine con_mono (j_next_v hb13 H11 A.1 hp1 (fun _ => by have := q4 A; omega) hb1) ?_
    rintro r h19 ⟨rfl, hb19, f19, N⟩
    refine ⟨rfl, hb19, nxt (fr_t f11 (JWn_g f19) (fun _ _ w => w)) k4 ?_⟩
    intro o ho
    dsimp only
    by_cases c2 : o = k
    · subst c2
      have ep : pasP μ b (tmT μ b o (p o)) (tmB μ b o (p o)) p o = p o + 1 := by unfold pasP; rw [dif_t ⟨A, rfl, rfl⟩]
      rw [if_pos (by omega), ← w, ← w2, ep]
      exact ⟨(fr_g f19 (by omega)).trans hp1, N, fun _ => by have := q4 A; omega⟩
    · have old := P1 o ho
      dsimp only at old
      have e : (if o < k + 1 then pasP μ b T B p o else p o) = (if o < k then pasP μ b T B p o else p o) := by
        by_cases c1 : o < k
        · rw [if_pos c1, if_pos (by omega)]
        · rw [if_neg c1, if_neg (by omega)]
      rw [e]
      have g1 : h19.2.1 155 o = hh.2.1 155 o := by rw [fr_g f19 (by omega), mm_i e11 (by omega)]
      have g2 : h19.2.2.1 156 o = hh.2.2.1 156 o := by rw [fr_gl f19 (by omega), mm_io e11]
      have g3 : h19.2.2.1 157 o = hh.2.2.1 157 o := by rw [fr_gl f19 (by omega), mm_io e11]
      unfold NXt at old ⊢
      rw [g1, g2, g3]
      exact old
  · unfold B_Page_passTime_0
    exact ⟨fr_0, 0, rfl, by decide, fun o ho => by dsimp only; rw [if_neg (by omega)]; exact P o ho⟩
end
