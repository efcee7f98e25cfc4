/-! ===== page, the class: how many times an event of the bar begins ===== -/
def ptr0 (μ : pm_T) (b o : Nat) : Nat := if (o : Int) < μ 0 7 ∧ (b : Int) < μ (10 + o) 1 then brE μ o b else 0
section
variable {G : cx_T} {s c b : Nat} {h : ah_T} {μ : pm_T}
theorem ptr0_b {o : Nat} (A : act μ b o (ptr0 μ b o)) : ptr0 μ b o = brE μ o b := by unfold ptr0; rw [if_pos ⟨A.1, A.2.1⟩]
theorem Past_0 : Past μ b (ptr0 μ b) := by
  refine ⟨fun o _ A => by rw [ptr0_b A]; exact Nat.le_refl _, fun o _ f q1 q2 A => ?_⟩
  unfold ptr0 at q2
  rw [if_pos ⟨A.1, A.2.1⟩] at q2
  omega
theorem Nf_b {v i : Nat} (GG : GM μ) : Nf μ b v i ≤ 300 := by
  unfold Nf
  have l := rkC_l (F := Fst μ b v) (t := tnd μ b v) (tnd μ b v - i)
  have t : tnd μ b v ≤ 300 := by
    unfold tnd
    by_cases c : (v : Int) < μ 0 7 ∧ (b : Int) < μ (10 + v) 1
    · rw [dif_t c]
      have := brE_b GG (b := b + 1) c.1
      have := (GG.2.2 v c.1).1
      omega
    · rw [dif_f c]; decide
  omega
theorem Rem4_b {p : Nat → Nat} (GG : GM μ) : Rem4 μ b p ≤ 1200 := by
  unfold Rem4
  have := Nf_b GG (b := b) (v := 0) (i := p 0)
  have := Nf_b GG (b := b) (v := 1) (i := p 1)
  have := Nf_b GG (b := b) (v := 2) (i := p 2)
  have := Nf_b GG (b := b) (v := 3) (i := p 3)
  omega
theorem t_Page_timesIn (hb0 : hb s h) (H : CV μ c h) (hb1 : b ≤ 101) : con G 3 0 0 m_Page_timesIn [av_R (some 150), av_R (some c), av_I (b : Int)] h (fun r h' => r = some (av_I (Rem4 μ b (ptr0 μ b) : Int)) ∧ hb s h' ∧ fr JWg h h') := by
  have GG := H.2.2.1
  have rb := Rem4_b (b := b) (p := ptr0 μ b) GG
  have l64 : ∀ (v3 v4 : Int) (hh : ah_T), hb s hh → (fr JWg h hh ∧ ∃ (k : Nat) (p : Nat → Nat), v3 = (k : Int) ∧ v4 = (k : Int) ∧ PTs μ b p hh ∧ Past μ b p ∧ Rem4 μ b (ptr0 μ b) = k + Rem4 μ b p) → aw G (rm_R 3 0 0) m_Page_timesIn 0 0 64 [some (av_R (some 150)), some (av_R (some c)), some (av_I (b : Int)), some (av_I v3), some (av_I v4), none] [] hh (fun r h' => r = some (av_I (Rem4 μ b (ptr0 μ b) : Int)) ∧ hb s h' ∧ fr JWg h h') := by
    refine lp_Page_timesIn_64 H.1 _ (fun _ v4 _ => (2000 - v4).toNat) ?_
    rintro v3 v4 hh hb2 ⟨f, k, p, rfl, rfl, P, Pa, R⟩
    have H1 := CV_f H f JWg_43
    unfold B_Page_timesIn_64
    refine ⟨fun q => ⟨?_, hb2, f⟩, fun q => ?_⟩
    · rw [show Rem4 μ b (ptr0 μ b) = k by omega]
    refine con_mono (j_earliest hb2 GG P) ?_
    rintro r h2 ⟨m, rfl, hb3, rfl, m4, er⟩
    refine ⟨_, rfl, hb3, by omega, ?_⟩
    rw [tn_c]
    intro x5 e5 _ _
    obtain ⟨-, ⟨n1, n2⟩, n3⟩ := P m m4
    by_cases A : act μ b m (p m)
    · have e1 := act_b GG A
      have tb := tm_b GG (b := b) A.1 (n3 A) (by omega)
      have ex := e5.trans (n1 A).1
      subst ex
      refine ⟨fun _ => ⟨by omega, fun x12 e12 _ _ => ?_⟩, fun w => absurd tb.1.1 w⟩
      have ex := e12.trans (n1 A).2
      subst ex
      refine con_mono (j_pass hb3 H1 P tb.1.1 hb1) ?_
      rintro r h3 ⟨rfl, hb4, f3, P3⟩
      obtain ⟨t1, t2⟩ := Rem_turn GG Pa m4 A (fun o o4 ao => (er o o4 ao).2)
      exact ⟨rfl, hb4, ⟨by omega, by omega⟩, ⟨fr_t f f3 (fun _ _ w => w), k + 1, _, by omega, by omega, P3, t2, by omega⟩, by omega⟩
    · have ex := e5.trans (n2 A)
      subst ex
      refine ⟨fun w => absurd w (by decide), fun _ => ⟨?_, hb3, f⟩⟩
      have z : ∀ o, o < 4 → Nf μ b o (p o) = 0 := fun o o4 => Nf_0 (fun ao => A (er o o4 ao).1)
      have R0 : Rem4 μ b p = 0 := by
        unfold Rem4
        rw [z 0 (by decide), z 1 (by decide), z 2 (by decide), z 3 (by decide)]
      rw [show Rem4 μ b (ptr0 μ b) = k by omega]
  refine c_Page_timesIn H.1 (X2 := fun v3 hh => fr JWg h hh ∧ ∃ k : Nat, v3 = (k : Int) ∧ k ≤ 4 ∧ ∀ o, o < k → hh.2.1 155 o = (ptr0 μ b o : Int) ∧ NXt μ b o (ptr0 μ b o) hh) ?_ hb0 (fun _ => ?_)
  · refine lp_Page_timesIn_2 H.1 l64 _ (fun v3 _ => (5 - v3).toNat) ?_
    rintro v3 hh hb2 ⟨f, k, rfl, hk, P⟩
    have H1 := CV_f H f JWg_43
    unfold B_Page_timesIn_2
    refine ⟨fun q => ?_, fun q => ?_⟩
    · have k4 : k = 4 := by omega
      subst k4
      exact ⟨f, 0, ptr0 μ b, rfl, rfl, fun o ho => ⟨(P o ho).1, (P o ho).2, fun A => by rw [ptr0_b A]; exact Nat.le_refl _⟩, Past_0, by omega⟩
    have k4 : k < 4 := by omega
    have fin : ∀ {h1 h2 : ah_T}, h1 = st_i hh 155 k (ptr0 μ b k : Int) → fr (JWn k) h1 h2 → NXt μ b k (ptr0 μ b k) h2 → ((-2147483648) ≤ ((k : Int) + 1) ∧ ((k : Int) + 1) ≤ 2147483647) ∧ ((fr JWg h h2 ∧ ∃ k' : Nat, (k : Int) + 1 = (k' : Int) ∧ k' ≤ 4 ∧ ∀ o, o < k' → h2.2.1 155 o = (ptr0 μ b o : Int) ∧ NXt μ b o (ptr0 μ b o) h2) ∧ (5 - ((k : Int) + 1)).toNat < (5 - (k : Int)).toNat) := by
      intro h1 h2 e1 f2 N
      refine ⟨⟨by omega, by omega⟩, ⟨fr_t (fr_i f e1 (Or.inl rfl)) (JWn_g f2) (fun _ _ w => w), k + 1, by omega, by omega, fun o ho => ?_⟩, by omega⟩
      by_cases co : o = k
      · subst co
        exact ⟨(fr_g f2 (by omega)).trans (mv_i e1), N⟩
      · have old := P o (by omega)
        have g1 : h2.2.1 155 o = hh.2.1 155 o := by rw [fr_g f2 (by omega), mm_i e1 (by omega)]
        have g2 : h2.2.2.1 156 o = hh.2.2.1 156 o := by rw [fr_gl f2 (by omega), mm_io e1]
        have g3 : h2.2.2.1 157 o = hh.2.2.1 157 o := by rw [fr_gl f2 (by omega), mm_io e1]
        unfold NXt at old ⊢
        rw [g1, g2, g3]
        exact old
    refine con_mono (t_Score_voiceAt hb2 H.1 H1.2.1) ?_
    rintro r h2 ⟨hb3, rfl, ⟨q1, q2, rfl⟩ | ⟨q1, rfl⟩⟩
    · rw [tn_c]
      obtain ⟨hv, -, h16, hE, hB, n4⟩ := CV_v H1 q2
      refine ⟨_, rfl, hb3, Or.inr ⟨_, rfl, hv, fun x13 e13 _ _ => ?_⟩⟩
      have ex := e13.trans h16
      subst ex
      have go : ∀ {h1 : ah_T}, h1 = st_i h2 155 k (ptr0 μ b k : Int) → con G 1 0 0 m_Page_setNext [av_R (some 150), av_R (some (c + 7 + 14 * k)), av_I (k : Int), av_I (b : Int)] h1 (fun r h20 => r = none ∧ hb s h20 ∧ ((-2147483648) ≤ ((k : Int) + 1) ∧ ((k : Int) + 1) ≤ 2147483647) ∧ ((fr JWg h h20 ∧ ∃ k' : Nat, (k : Int) + 1 = (k' : Int) ∧ k' ≤ 4 ∧ ∀ o, o < k' → h20.2.1 155 o = (ptr0 μ b o : Int) ∧ NXt μ b o (ptr0 μ b o) h20) ∧ (5 - ((k : Int) + 1)).toNat < (5 - (k : Int)).toNat)) := by
        intro h1 e1
        have H3 := CV_f H1 (fr_i (W := JWg) fr_0 e1 (Or.inl rfl)) JWg_43
        refine con_mono (j_next_v (hb_i hb3 e1) H3 q2 (mv_i e1) (fun hbb => ?_) hb1) ?_
        · unfold ptr0
          rw [if_pos ⟨q2, hbb⟩]
          exact Nat.le_refl _
        · rintro r h20 ⟨rfl, hb20, f20, N⟩
          exact ⟨rfl, hb20, fin e1 f20 N⟩
      refine ⟨fun w => ⟨by omega, ?_⟩, fun w => ⟨by omega, fun h25 e25 => ?_⟩⟩
      · rw [tn_c]
        intro x15 e15 _ _
        obtain rfl := e15.trans (CV_b H1 q2 (b := b) (Int.le_of_lt w))
        refine ⟨by omega, fun h18 e18 => go ?_⟩
        rw [e18]
        unfold ptr0
        rw [if_pos ⟨q2, w⟩]
      · refine go ?_
        rw [e25]
        unfold ptr0
        rw [if_neg (fun x => w x.2)]
        rfl
    · refine ⟨_, rfl, hb3, Or.inl ⟨rfl, by omega, fun h6 e6 => ?_⟩⟩
      rw [tn_c] at e6
      have no : ¬ (k : Int) < μ 0 7 := fun w => q1 ⟨by omega, w⟩
      have e6' : h6 = st_i h2 155 k (ptr0 μ b k : Int) := by
        rw [e6]
        unfold ptr0
        rw [if_neg (fun x => no x.1)]
        rfl
      refine con_mono (j_next_n (i := ptr0 μ b k) (μ := μ) (hb_i hb3 e6) no k4) ?_
      rintro r h8 ⟨rfl, hb8, f8, N⟩
      exact ⟨rfl, hb8, fin e6' f8 N⟩
  · unfold B_Page_timesIn_0
    exact ⟨fr_0, 0, rfl, by decide, fun o ho => by omega⟩
end
