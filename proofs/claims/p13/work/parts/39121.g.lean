/-! ===== page, the class: how many times an event of the bar begins ===== -/
def ptr0 (μ : pm_T) (b o : Nat) : Nat := if (o : Int) < μ 0 7 ∧ (b : Int) < μ (10 + o) 1 then brE μ o b else 0
section
variable {G : cx_T} {s c b : Nat} {h : ah_T} {μ : pm_T}
theorem ptr0_b {o : Nat} (A : act μ b o (ptr0 μ b o)) : ptr0 μ b o = brE μ o b := by unfold ptr0; rw [if_pos ⟨A.1, A.2.1⟩]
theorem Past_0 : Past μ b (ptr0 μ b) := by
  refine ⟨fun o _ A => by rw [ptr0_b A]; exact Nat.le_refl _, fun o _ f q1 q2 A => ?_⟩
  unfold ptr0 at q2
  rw [if_pos ⟨A.1, A.2.1⟩] at q2
  omega
theorem Nf_b {v i : Nat} (GG : GM μ) : Nf μ b v i ≤ 300 := by
  unfold Nf
  have l := rkC_l (F := Fst μ b v) (t := tnd μ b v) (tnd μ b v - i)
  have t : tnd μ b v ≤ 300 := by
    unfold tnd
    by_cases c : (v : Int) < μ 0 7 ∧ (b : Int) < μ (10 + v) 1
    · rw [dif_t c]
      have := brE_b GG (b := b + 1) c.1
      have := (GG.2.2 v c.1).1
      omega
    · rw [dif_f c]; decide
  omega
theorem Rem4_b {p : Nat → Nat} (GG : GM μ) : Rem4 μ b p ≤ 1200 := by
  unfold Rem4
  have := Nf_b GG (b := b) (v := 0) (i := p 0)
  have := Nf_b GG (b := b) (v := 1) (i := p 1)
  have := Nf_b GG (b := b) (v := 2) (i := p 2)
  have := Nf_b GG (b := b) (v := 3) (i := p 3)
  omega
theorem t_Page_timesIn (hb0 : hb s h) (H : CV μ c h) (hb1 : b ≤ 101) : con G 3 0 0 m_Page_timesIn [av_R (some 150), av_R (some c), av_I (b : Int)] h (fun r h' => r = some (av_I (Rem4 μ b (ptr0 μ b) : Int)) ∧ hb s h' ∧ fr JWg h h') := by
  have GG := H.2.2.1
  have rb := Rem4_b (b := b) (p := ptr0 μ b) GG
  have l64 : ∀ (v3 v4 : Int) (hh : ah_T), hb s hh → (fr JWg h hh ∧ ∃ (k : Nat) (p : Nat → Nat), v3 = (k : Int) ∧ v4 = (k : Int) ∧ PTs μ b p hh ∧ Past μ b p ∧ Rem4 μ b (ptr0 μ b) = k + Rem4 μ b p) → aw G (rm_R 3 0 0) m_Page_timesIn 0 0 64 [some (av_R (some 150)), some (av_R (some c)), some (av_I (b : Int)), some (av_I v3), some (av_I v4), none] [] hh (fun r h' => r = some (av_I (Rem4 μ b (ptr0 μ b) : Int)) ∧ hb s h' ∧ fr JWg h h') := by
    refine lp_Page_timesIn_64 H.1 _ (fun _ v4 _ => (2000 - v4).toNat) ?_
    rintro v3 v4 hh hb2 ⟨f, k, p, rfl, rfl, P, Pa, R⟩
    have H1 := CV_f H f JWg_43
    unfold B_Page_timesIn_64
    refine ⟨fun q => ⟨?_, hb2, f⟩, fun q => ?_⟩
    · rw [show Rem4 μ b (ptr0 μ b) = k by omega]
    refine con_mono (j_earliest hb2 GG P) ?_
    rintro r h2 ⟨m, rfl, hb3, rfl, m4, er⟩
    refine ⟨_, rfl, hb3, by omega, ?_⟩
    rw [tn_c]
    intro x5 e5 _ _
    obtain ⟨-, ⟨n1, n2⟩, n3⟩ := P m m4
    by_cases A : act μ b m (p m)
    · have e1 := act_b GG A
      have tb := tm_b GG (b := b) A.1 (n3 A) (by omega)
      have ex := e5.trans (n1 A).1
      subst ex
      refine ⟨fun _ => ⟨by omega, fun x12 e12 _ _ => ?_⟩, fun w => absurd tb.1.1 w⟩
      have ex := e12.trans (n1 A).2
      subst ex
      refine con_mono (j_pass hb3 H1 P tb.1.1 hb1) ?_
      rintro r h3 ⟨rfl, hb4, f3, P3⟩
      obtain ⟨t1, t2⟩ := Rem_turn GG Pa m4 A (fun o o4 ao => (er o o4 ao).2)
      exact ⟨rfl, hb4, ⟨by omega, by omega⟩, ⟨fr_t f f3 (fun _ _ w => w), k + 1, _, by omega, by omega, P3, t2, by omega⟩, by omega⟩
    · have ex := e5.trans (n2 A)
      subst ex
      refine ⟨fun w => absurd w (by decide), fun _ => ⟨?_, hb3, f⟩⟩
      have z : ∀ o, o < 4 → Nf μ b o (p o) = 0 := fun o o4 => Nf_0 (fun ao => A (er o o4 ao).1)
      have R0 : Rem4 μ b p = 0 := by
        unfold Rem4
        rw [z 0 (by decide), z 1 (by decide), z 2 (by decide), z 3 (by decide)]
      rw [show Rem4 μ b (ptr0 μ b) = k by omega]
  refine c_Page_timesIn H.1 (X2 := fun v3 hh => fr JWg h hh ∧ ∃ k : Nat, v3 = (k : Int) ∧ k ≤ 4 ∧ ∀ o, o < k → hh.2.1 155 o = (ptr0 μ b o : Int) ∧ NXt μ b o (ptr0 μ b o) hh) ?_ hb0 (fun _ => ?_)
  · refine lp_Page_timesIn_2 H.1 l64 _ (fun v3 _ => (5 - v3).toNat) ?_
    rintro v3 hh hb2 ⟨f, k, rfl, hk, P⟩
    have H1 := CV_f H f JWg_43
    unfold B_Page_timesIn_2
    refine ⟨fun q => ?_, fun q => ?_⟩
    · have k4 : k = 4 := by omega
      subst k4
      exact ⟨f, 0, ptr0 μ b, rfl, rfl, fun o ho => ⟨(P o ho).1, (P o ho).2, fun A => by rw [ptr0_b A]; exact Nat.le_refl _⟩, Past_0, by omega⟩
    have k4 : k < 4 := by omega
    have fin : ∀ {h1 h2 : ah_T}, h1 = st_i hh 155 k (ptr0 μ b k : Int) → fr (JWn k) h1 h2 → NXt μ b k (ptr0 μ b k) h2 → ((-2147483648) ≤ ((k : Int) + 1) ∧ ((k : Int) + 1) ≤ 2147483647) ∧ ((fr JWg h h2 ∧ ∃ k' : Nat, (k : Int) + 1 = (k' : Int) ∧ k' ≤ 4 ∧ ∀ o, o < k' → h2.2.1 155 o = (ptr0 μ b o : Int) ∧ NXt μ b o (ptr0 μ b o) h2) ∧ (5 - ((k : Int) + 1)).toNat < (5 - (k : Int)).toNat) := by
      intro h1 h2 e1 f2 N
      refine ⟨⟨by omega, by omega⟩, ⟨fr_t (fr_i f e1 (Or.inl rfl)) (JWn_g f2) (fun _ _ w => w), k + 1, by omega, by omega, fun o ho => ?_⟩, by omega⟩
      by_cases co : o = k
      · subst co
        exact ⟨(fr_g f2 (by omega)).trans (mv_i e1), N⟩
      · have old := P o (by omega)
        have g1 : h2.2.1 155 o = hh.2.1 155 o := by rw [fr_g f2 (by omega), mm_i e1 (by omega)]
        have g2 : h2.2.2.1 156 o = hh.2.2.1 156 o := by rw [fr_gl f2 (by omega), mm_io e1]
        have g3 : h2.2.2.1 157 o = hh.2.2.1 157 o := by rw [fr_gl f2 (by omega), mm_io e1]
        unfold NXt at old ⊢
        rw [g1, g2, g3]
        exact old
    refine con_mono (t_Score_voiceAt hb2 H.1 H1.2.1) ?_
    rintro r h2 ⟨hb3, rfl, ⟨q1, q2, rfl⟩ | ⟨q1, rfl⟩⟩
    · rw [tn_c]
      obtain ⟨hv, -, h16, hE, hB, n4⟩ := CV_v H1 q2
      refine ⟨_, rfl, hb3, Or.inr ⟨_, rfl, hv, fun x13 e13 _ _ => ?_⟩⟩
      have ex := e13.trans h16
      subst ex
      have go : ∀ {h1 : ah_T}, h1 = st_i h2 155 k (ptr0 μ b k : Int) → con G 1 0 0 m_Page_setNext [av_R (some 150), av_R (some (c + 7 + 14 * k)), av_I (k : Int), av_I (b : Int)] h1 (fun r h20 => r = none ∧ hb s h20 ∧ ((-2147483648) ≤ ((k : Int) + 1) ∧ ((k : Int) + 1) ≤ 2147483647) ∧ ((fr JWg h h20 ∧ ∃ k' : Nat, (k : Int) + 1 = (k' : Int) ∧ k' ≤ 4 ∧ ∀ o, o < k' → h20.2.1 155 o = (ptr0 μ b o : Int) ∧ NXt μ b o (ptr0 μ b o) h20) ∧ (5 - ((k : Int) + 1)).toNat < (5 - (k : Int)).toNat)) := by
        intro h1 e1
        have H3 := CV_f H1 (fr_i (W := JWg) fr_0 e1 (Or.inl rfl)) JWg_43
        refine con_mono (j_next_v (hb_i hb3 e1) H3 q2 (mv_i e1) (fun hbb => ?_) hb1) ?_
        · unfold ptr0
          rw [if_pos ⟨q2, hbb⟩]
          exact Nat.le_refl _
        · rintro r h20 ⟨rfl, hb20, f20, N⟩
          exact ⟨rfl, hb20, fin e1 f20 N⟩
      refine ⟨fun w => ⟨by omega, ?_⟩, fun w => ⟨by omega, fun h25 e25 => ?_⟩⟩
      · rw [tn_c]
        intro x15 e15 _ _
        obtain rfl := e15.trans (CV_b H1 q2 (b := b) (Int.le_of_lt w))
        refine ⟨by omega, fun h18 e18 => go ?_⟩
        rw [e18]
        unfold ptr0
        rw [if_pos ⟨q2, w⟩]
      · refine go ?_
        rw [e25]
        unfold ptr0
        rw [if_neg (fun x => w x.2)]
        rfl
    · refine ⟨_, rfl, hb3, Or.inl ⟨rfl, by omega, fun h6 e6 => ?_⟩⟩
      rw [tn_c] at e6
      have no : ¬ (k : Int) < μ 0 7 := fun w => q1 ⟨by omega, w⟩
      have e6' : h6 = st_i h2 155 k (ptr0 μ b k : Int) := by
        rw [e6]
        unfold ptr0
        rw [if_neg (fun x => no x.1)]
        rfl
      refine con_mono (j_next_n (i := ptr0 μ b k) (μ := μ) (hb_i hb3 e6) no k4) ?_
      rintro r h8 ⟨rfl, hb8, f8, N⟩
      exact ⟨rfl, hb8, fin e6' f8 N⟩
  · unfold B_Page_timesIn_0
    exact ⟨fr_0, 0, rfl, by decide, fun o ho => by omega⟩
end

/-! ===== page, the class: the width of a bar ===== -/
def sgV (μ : pm_T) (b v : Nat) : Nat → Int
  | 0 => 0
  | k + 1 => sgV μ b v k + μ (100 + 40 * v + 9) (brE μ v b + k)
def sgT (μ : pm_T) (b v : Nat) : Int := if (b : Int) < μ (10 + v) 1 then sgV μ b v (brE μ v (b + 1) - brE μ v b) else 0
def sgA (μ : pm_T) (b : Nat) : Nat → Int
  | 0 => 0
  | n + 1 => sgA μ b n + sgT μ b n
noncomputable def wdt (μ : pm_T) (b : Nat) : Int := 8 * (Rem4 μ b (ptr0 μ b) : Int) + 3 * sgA μ b (μ 0 7).toNat + 10
section
variable {G : cx_T} {s c b : Nat} {h : ah_T} {μ : pm_T}
theorem row9_b {n e : Nat} (GG : GM μ) (hn : (n : Int) < μ 0 7) (he : (e : Int) < μ (10 + n) 0) : 0 ≤ μ (100 + 40 * n + 9) e ∧ μ (100 + 40 * n + 9) e ≤ 800 := by
  have M := (GG.2.2 n hn).2.2.2.1 e he
  have hM := M.1
  have s := sgm_b M.2.2.2.2.2.2.1 (μ (100 + 40 * n + 4) e).toNat (by omega)
  rw [M.2.2.2.2.2.2.2]
  omega
theorem sgV_b {n : Nat} (GG : GM μ) (hn : (n : Int) < μ 0 7) : ∀ k : Nat, ((brE μ n b + k : Nat) : Int) ≤ μ (10 + n) 0 → 0 ≤ sgV μ b n k ∧ sgV μ b n k ≤ 800 * (k : Int)
  | 0, _ => by rw [sgV]; omega
  | k + 1, hk => by
    have ih := sgV_b GG hn k (by omega)
    have := row9_b GG hn (e := brE μ n b + k) (by omega)
    rw [sgV]
    omega
theorem sgT_b {n : Nat} (GG : GM μ) (hn : (n : Int) < μ 0 7) : 0 ≤ sgT μ b n ∧ sgT μ b n ≤ 240000 := by
  have m := (GG.2.2 n hn).1
  have e1 := brE_b GG (b := b + 1) hn
  have em := brE_m GG (b := b) hn
  unfold sgT
  split
  · have := sgV_b GG hn (b := b) (brE μ n (b + 1) - brE μ n b) (by omega)
    omega
  · omega
theorem sgA_b (GG : GM μ) : ∀ n : Nat, (n : Int) ≤ μ 0 7 → 0 ≤ sgA μ b n ∧ sgA μ b n ≤ 240000 * (n : Int)
  | 0, _ => by rw [sgA]; omega
  | n + 1, hn => by
    have ih := sgA_b GG n (by omega)
    have := sgT_b GG (b := b) (n := n) (by omega)
    rw [sgA]
    omega
theorem t_Page_widthOf (hb0 : hb s h) (H : CV μ c h) (hb1 : b ≤ 100) : con G 4 0 0 m_Page_widthOf [av_R (some 150), av_R (some c), av_I (b : Int)] h (fun r h' => r = some (av_I (wdt μ b)) ∧ hb s h' ∧ fr JWg h h') := by
  have GG := H.2.2.1
  have b7 := GG.1.1
  have rb := Rem4_b (b := b) (p := ptr0 μ b) GG
  have key : ∀ (N : Nat) (v3 v4 : Int) (hh : ah_T), hb s hh → (hh = h ∧ ∃ n : Nat, v4 = (n : Int) ∧ (n : Int) ≤ μ 0 7 ∧ v3 = sgA μ b n) → (10 - v4).toNat < N → aw G (rm_R 4 0 0) m_Page_widthOf 0 0 5 [some (av_R (some 150)), some (av_R (some c)), some (av_I (b : Int)), some (av_I v3), some (av_I v4), none, none] [] hh (fun r h' => r = some (av_I (wdt μ b)) ∧ hb s h' ∧ fr JWg h h') := by
    intro N
    induction N with
    | zero => intro v3 v4 hh _ _ q; omega
    | succ N ih =>
      rintro v3 v4 hh hbh ⟨rfl, n, rfl, hn, rfl⟩ hN
      have sa := sgA_b (b := b) GG n hn
      have up5 : ∀ (v3 v4 : Int) (h' : ah_T), hb s h' → ((h' = hh ∧ ∃ n' : Nat, v4 = (n' : Int) ∧ (n' : Int) ≤ μ 0 7 ∧ v3 = sgA μ b n') ∧ v4 = (n : Int) + 1) → aw G (rm_R 4 0 0) m_Page_widthOf 0 0 5 [some (av_R (some 150)), some (av_R (some c)), some (av_I (b : Int)), some (av_I v3), some (av_I v4), none, none] [] h' (fun r h' => r = some (av_I (wdt μ b)) ∧ hb s h' ∧ fr JWg hh h') := fun v3 v4 h' hb' x => ih v3 v4 h' hb' x.1 (by have := x.2; omega)
      by_cases hn' : (n : Int) < μ 0 7
      · obtain ⟨hv, h14, h16, hE, hB, n4⟩ := CV_v H hn'
        have e1 := brE_b GG (b := b + 1) hn'
        have em := brE_m GG (b := b) hn'
        have st := sgT_b (b := b) GG hn'
        have nx : ∀ {x : Int}, x = sgA μ b n + sgT μ b n → ((-2147483648) ≤ ((n : Int) + 1) ∧ ((n : Int) + 1) ≤ 2147483647) ∧ ((hh = hh ∧ ∃ n' : Nat, (n : Int) + 1 = (n' : Int) ∧ (n' : Int) ≤ μ 0 7 ∧ x = sgA μ b n') ∧ (n : Int) + 1 = (n : Int) + 1) := fun e => ⟨⟨by omega, by omega⟩, ⟨rfl, n + 1, by omega, by omega, by rw [e]; rfl⟩, rfl⟩
        have in45 : (b : Int) < μ (10 + n) 1 → ∀ (v3 v4 : Int) (v5 : Nat) (v6 : Int) (h' : ah_T), isV v5 → hb s h' → (h' = hh ∧ v4 = (n : Int) ∧ v5 = c + 7 + 14 * n ∧ ∃ k : Nat, v6 = ((brE μ n b + k : Nat) : Int) ∧ brE μ n b + k ≤ brE μ n (b + 1) ∧ v3 = sgA μ b n + sgV μ b n k) → aw G (rm_R 4 0 0) m_Page_widthOf 0 0 45 [some (av_R (some 150)), some (av_R (some c)), some (av_I (b : Int)), some (av_I v3), some (av_I v4), some (av_R (some v5)), some (av_I v6)] [] h' (fun r h' => r = some (av_I (wdt μ b)) ∧ hb s h' ∧ fr JWg hh h') := by
          intro hbl
          refine lp_Page_widthOf_45 H.1 up5 _ (fun _ _ _ v6 _ => (400 - v6).toNat) ?_
          rintro v3 v4 v5 v6 h' hv' hb' ⟨rfl, rfl, rfl, k, rfl, hk, rfl⟩
          have sv := sgV_b (b := b) GG hn' k (by omega)
          unfold B_Page_widthOf_45 B_Page_widthOf_75
          refine ⟨⟨by omega, by omega⟩, by omega, ?_⟩
          rw [show ((b : Int) + 1).toNat = b + 1 by omega]
          intro x3 e3 _ _
          obtain rfl := e3.trans (CV_b H hn' (b := b + 1) (by omega))
          refine ⟨fun q => nx ?_, fun q => ?_⟩
          · unfold sgT
            rw [if_pos hbl, show brE μ n (b + 1) - brE μ n b = k by omega]
          have r9 := row9_b GG hn' (e := brE μ n b + k) (by omega)
          refine con_mono (j_signs hb' H hn' (e := brE μ n b + k) (by omega)) ?_
          rintro r h5 ⟨rfl, hb5, rfl⟩
          exact ⟨_, rfl, hb5, ⟨by omega, by omega⟩, ⟨by omega, by omega⟩, ⟨rfl, rfl, rfl, k + 1, by omega, by omega, by rw [sgV, Int.add_assoc]⟩, by omega⟩
        by_cases hbl : (b : Int) < μ (10 + n) 1
        · refine b_Page_widthOf_5 H.1 up5 (in45 hbl) hbh ?_
          unfold B_Page_widthOf_5 B_Page_widthOf_75
          intro x1 ex1 _ _
          obtain rfl := ex1.trans H.2.1.1.1
          refine ⟨fun q => by omega, fun q => ?_⟩
          refine con_mono (t_Score_voiceAt hbh H.1 H.2.1) ?_
          rintro r h9 ⟨hb9, rfl, ⟨-, -, rfl⟩ | ⟨q1, -⟩⟩
          rotate_left
          · omega
          rw [tn_c]
          refine ⟨_, rfl, hb9, Or.inr ⟨_, rfl, hv, fun x12 e12 _ _ => ?_⟩⟩
          obtain rfl := e12.trans h16
          refine ⟨fun w => by omega, fun w => ⟨by omega, ?_⟩⟩
          rw [tn_c]
          intro x14 e14 _ _
          obtain rfl := e14.trans (CV_b H hn' (b := b) (Int.le_of_lt hbl))
          exact ⟨rfl, rfl, rfl, 0, rfl, em, by rw [sgV, Int.add_zero]⟩
        · refine b_Page_widthOf_5 (X45 := fun _ _ _ _ _ => False) H.1 up5 (fun _ _ _ _ _ _ _ x => x.elim) hbh ?_
          unfold B_Page_widthOf_5 B_Page_widthOf_75
          intro x1 ex1 _ _
          obtain rfl := ex1.trans H.2.1.1.1
          refine ⟨fun q => by omega, fun q => ?_⟩
          refine con_mono (t_Score_voiceAt hbh H.1 H.2.1) ?_
          rintro r h9 ⟨hb9, rfl, ⟨-, -, rfl⟩ | ⟨q1, -⟩⟩
          rotate_left
          · omega
          rw [tn_c]
          refine ⟨_, rfl, hb9, Or.inr ⟨_, rfl, hv, fun x12 e12 _ _ => ?_⟩⟩
          obtain rfl := e12.trans h16
          refine ⟨fun w => nx ?_, fun w => absurd (show (b : Int) < μ (10 + n) 1 by omega) hbl⟩
          unfold sgT
          rw [if_neg hbl, Int.add_zero]
      · refine b_Page_widthOf_5 (X45 := fun _ _ _ _ _ => False) H.1 up5 (fun _ _ _ _ _ _ _ x => x.elim) hbh ?_
        unfold B_Page_widthOf_5
        intro x1 ex1 _ _
        obtain rfl := ex1.trans H.2.1.1.1
        refine ⟨fun q => ?_, fun q => by omega⟩
        refine con_mono (t_Page_timesIn hbh H (by omega)) ?_
        rintro r h2 ⟨rfl, hb2, f2⟩
        refine ⟨_, rfl, hb2, by omega, by omega, by omega, by omega, ?_, hb2, f2⟩
        unfold wdt
        rw [show (μ 0 7).toNat = n by omega]
  refine c_Page_widthOf H.1 (X5 := fun v3 v4 hh => hh = h ∧ ∃ n : Nat, v4 = (n : Int) ∧ (n : Int) ≤ μ 0 7 ∧ v3 = sgA μ b n) (fun v3 v4 hh hb' x => key ((10 - v4).toNat + 1) v3 v4 hh hb' x (Nat.lt_succ_self _)) hb0 (fun _ => ?_)
  unfold B_Page_widthOf_0
  exact ⟨rfl, 0, rfl, b7.1, rfl⟩
end

/-! ===== page: width of the class; the first time, reference ===== -/
noncomputable def widv (μ : pm_T) (w : Int) : Int := dif (0 ≤ w ∧ w < mbr μ (μ 0 7).toNat) (wdt μ w.toNat) (-1)
theorem mbr_b {μ : pm_T} (GG : GM μ) : ∀ n : Nat, (n : Int) ≤ μ 0 7 → mbr μ n ≤ 101
  | 0, _ => by rw [mbr]; decide
  | n + 1, h => by
    have ih := mbr_b GG n (by omega)
    have := (GG.2.2 n (by omega)).2.1
    rw [mbr]
    split <;> omega
theorem t_PM_width {G : cx_T} {s : Nat} {h : ah_T} {μ : pm_T} {w : Int} (hb0 : hb s h) (H : CV μ (97 - s) h) : con G 5 0 0 m_PM_width [av_R (some 0), av_I w] h (fun r h' => r = some (av_I (widv μ w)) ∧ hb s h' ∧ fr JWg h h') := by
  have GG := H.2.2.1
  have b7 := GG.1.1
  have mb := mbr_b GG (μ 0 7).toNat (by omega)
  refine c_PM_width hb0 (fun _ => ?_)
  unfold B_PM_width_0 B_PM_width_15 widv
  refine ⟨fun q => ⟨by rw [dif_f (by omega)], hb0, fr_0⟩, fun q => ?_⟩
  refine con_mono (t_Score_mostBars hb0 H.1 H.2.1) ?_
  rintro r h2 ⟨hb2, rfl, rfl⟩
  refine ⟨_, rfl, hb2, fun q2 => ?_, fun q2 => ⟨by rw [dif_f (by omega)], hb2, fr_0⟩⟩
  obtain ⟨b, rfl⟩ : ∃ b : Nat, w = b := ⟨w.toNat, by omega⟩
  refine con_mono (t_Page_widthOf hb2 H (by omega)) ?_
  rintro r h7 ⟨rfl, hb7, f7⟩
  exact ⟨_, rfl, hb7, by rw [tn_c, dif_t ⟨by omega, q2⟩], hb7, f7⟩
/-- which events are of bar b -/
theorem bar_e {μ : pm_T} (GG : GM μ) {n e b : Nat} (hn : (n : Int) < μ 0 7) (he : (e : Int) < μ (10 + n) 0) : μ (100 + 40 * n + 6) e = (b : Int) ↔ ((b : Int) < μ (10 + n) 1 ∧ brE μ n b ≤ e ∧ e < brE μ n (b + 1)) := by
  have V := (GG.1.2 n hn).2.2
  have x := (V.2 e he).1
  have y := (V.2 e he).2
  have v1 := V.1
  unfold brE
  constructor
  · intro w
    have hb1 : (b : Int) < μ (10 + n) 1 := by omega
    rw [if_pos hb1]
    have y0 := (y b hb1).mpr (by omega)
    refine ⟨hb1, by omega, ?_⟩
    split
    · rename_i c
      have y1 := y (b + 1) c
      have : ¬ μ (100 + 40 * n + 30) (b + 1) ≤ (e : Int) := fun q => by have := y1.mp q; omega
      omega
    · omega
  · rintro ⟨hb1, h1, h2⟩
    rw [if_pos hb1] at h1
    have r0 := v1 b hb1
    have y0 := (y b hb1).mp (by omega)
    split at h2
    · rename_i c
      have y1 := y (b + 1) c
      have : ¬ ((b + 1 : Nat) : Int) ≤ μ (100 + 40 * n + 6) e := fun q => by
        have := y1.mpr q
        have := v1 (b + 1) c
        omega
      omega
    · omega
section
variable {G : cx_T} {s b : Nat} {h : ah_T} {μ : pm_T}
theorem m_since {n e : Nat} (hb0 : hb s h) (GG : GM μ) (hn : (n : Int) < μ 0 7) (hf : brE μ n b ≤ e) (he : (e : Int) ≤ μ (10 + n) 0) : con G 2 0 0 m_MD_sum [av_R (some 170), av_L (smT μ n e), av_L (smB μ n e), av_L (-smT μ n (brE μ n b)), av_L (smB μ n (brE μ n b))] h (fun r h' => r = none ∧ hb s h' ∧ fr JWs h h' ∧ h'.2.2.1 170 65 = tmT μ b n e ∧ h'.2.2.1 170 66 = tmB μ b n e ∧ h'.2.1 = h.2.1) := by
  have xy := xy_b GG hn hf he
  have b0 := GM_b GG hn (brE μ n b)
  have b1 := GM_b GG hn e
  have p1 := pr_b b1.1 b1.2 b0.2
  have p2 := pr_b b0.1 b0.2 b1.2
  have en : -smT μ n (brE μ n b) * smB μ n e = -(smT μ n (brE μ n b) * smB μ n e) := Int.neg_mul _ _
  have ex : smT μ n e * smB μ n (brE μ n b) + -smT μ n (brE μ n b) * smB μ n e = xBr μ n (brE μ n b) e := by rw [en]; unfold xBr; omega
  have ey : smB μ n e * smB μ n (brE μ n b) = yBr μ n (brE μ n b) e := rfl
  refine con_mono (t_MD_sum hb0 (by omega) (by rw [en]; omega) (by rw [ex]; omega) (by rw [ey]; omega)) ?_
  rintro r h' ⟨rfl, hb', f, t1, t2, t3⟩
  rw [ex, ey] at t1 t2
  exact ⟨rfl, hb', fr_w f (fun a k w => w), t1, t2, t3⟩
theorem m_firstTime {n e : Nat} (hb0 : hb s h) (H : MV μ h) (hn : (n : Int) < μ 0 7) (he : (e : Int) < μ (10 + n) 0) (hbe : μ (100 + 40 * n + 6) e = (b : Int)) : con G 3 0 0 m_MD_isFirstTime [av_R (some 170), av_I (n : Int), av_I (300 * (n : Int) + (e : Int)), av_I (b : Int)] h (fun r h' => ∃ z : Int, r = some (av_I z) ∧ hb s h' ∧ fr JWs h h' ∧ h'.2.1 = h.2.1 ∧ ((z = 0 ∧ ¬ Fst μ b n e) ∨ (z = 1 ∧ Fst μ b n e))) := by
  have GG := H.2.1
  obtain ⟨-, -, hE, hB, n4⟩ := MV_n H hn
  obtain ⟨hb1, hf, hf2⟩ := (bar_e GG hn he).mp hbe
  obtain ⟨-, ⟨w0, w1, -⟩, -⟩ := MV_e H hn he
  obtain ⟨c1, c2⟩ := MV_b H hn (b := b) (Int.le_of_lt hb1)
  have key : ∀ (N : Nat) (v4 v6 v8 : Int) (hh : ah_T), hb s hh → (fr JWs h hh ∧ hh.2.1 = h.2.1 ∧ v4 = tmT μ b n e ∧ v6 = tmB μ b n e ∧ ∃ o : Nat, v8 = (o : Int) ∧ o ≤ n ∧ ∀ o' f, o' < o → ¬ (act μ b o' f ∧ brE μ o' b ≤ f ∧ tmT μ b o' f = tmT μ b n e ∧ tmB μ b o' f = tmB μ b n e)) → (10 - v8).toNat < N → aw G (rm_R 3 0 0) m_MD_isFirstTime 0 0 54 [some (av_R (some 170)), some (av_I (n : Int)), none, some (av_I (b : Int)), some (av_L v4), none, some (av_L v6), none, some (av_I v8), none, none] [] hh (fun r h' => ∃ z : Int, r = some (av_I z) ∧ hb s h' ∧ fr JWs h h' ∧ h'.2.1 = h.2.1 ∧ ((z = 0 ∧ ¬ Fst μ b n e) ∨ (z = 1 ∧ Fst μ b n e))) := by
    intro N
    induction N with
    | zero => intro v4 v6 v8 hh _ _ q; omega
    | succ N ih =>
      rintro v4 v6 v8 hh hbh ⟨f, ei, rfl, rfl, o, rfl, hon, al⟩ hN
      by_cases ho : o < n
      · have ho7 : (o : Int) < μ 0 7 := by omega
        have in63 : ∀ (a4 a6 a8 a9 : Int) (h' : ah_T), hb s h' → (fr JWs h h' ∧ h'.2.1 = h.2.1 ∧ a4 = tmT μ b n e ∧ a6 = tmB μ b n e ∧ a8 = (o : Int) ∧ ∃ j : Nat, a9 = (j : Int) ∧ (j : Int) ≤ μ (10 + o) 0 ∧ ∀ f, f < j → ¬ (act μ b o f ∧ brE μ o b ≤ f ∧ tmT μ b o f = tmT μ b n e ∧ tmB μ b o f = tmB μ b n e)) → aw G (rm_R 3 0 0) m_MD_isFirstTime 0 0 63 [some (av_R (some 170)), some (av_I (n : Int)), none, some (av_I (b : Int)), some (av_L a4), none, some (av_L a6), none, some (av_I a8), some (av_I a9), none] [] h' (fun r h' => ∃ z : Int, r = some (av_I z) ∧ hb s h' ∧ fr JWs h h' ∧ h'.2.1 = h.2.1 ∧ ((z = 0 ∧ ¬ Fst μ b n e) ∨ (z = 1 ∧ Fst μ b n e))) := by
          refine lp_MD_isFirstTime_63 (a1 := (n : Int)) (a2 := 300 * (n : Int) + (e : Int)) (a3 := (b : Int)) (X54 := fun v4 v6 v8 hh => (fr JWs h hh ∧ hh.2.1 = h.2.1 ∧ v4 = tmT μ b n e ∧ v6 = tmB μ b n e ∧ ∃ o : Nat, v8 = (o : Int) ∧ o ≤ n ∧ ∀ o' f, o' < o → ¬ (act μ b o' f ∧ brE μ o' b ≤ f ∧ tmT μ b o' f = tmT μ b n e ∧ tmB μ b o' f = tmB μ b n e)) ∧ v8 = (o : Int) + 1) (fun v4 v6 v8 hh hb' x => ih v4 v6 v8 hh hb' x.1 (by have := x.2; omega)) _ (fun _ _ _ a9 _ => (400 - a9).toNat) ?_
          rintro a4 a6 a8 a9 h' hb' ⟨f', ei', rfl, rfl, rfl, j, rfl, hj, alj⟩
          have H' := MV_f H f' JWs_w
          obtain ⟨o1, -, oE, oB, -⟩ := MV_n H' ho7
          unfold B_MD_isFirstTime_63 B_MD_isFirstTime_165
          refine ⟨by omega, ?_⟩
          rw [tn_c]
          intro x2 e2 _ _
          obtain rfl := e2.trans o1
          refine ⟨fun q => ⟨⟨by omega, by omega⟩, ⟨f', ei', rfl, rfl, o + 1, by omega, by omega, fun o' f'' q1 => ?_⟩, rfl⟩, fun q => ⟨⟨by omega, by omega⟩, ⟨by omega, by omega⟩, by omega, ?_⟩⟩
          · by_cases co : o' = o
            · subst co
              intro w
              have := act_b GG w.1
              exact alj f'' (by omega) w
            · exact al o' f'' (by omega)
          have hj' : (j : Int) < μ (10 + o) 0 := by omega
          obtain ⟨⟨-, -, y6⟩, ⟨u0, u1, -⟩, -⟩ := MV_e H' ho7 hj'
          have be := bar_e (b := b) GG ho7 hj'
          have step : ∀ {h2 : ah_T}, fr JWs h h2 → h2.2.1 = h.2.1 → ¬ (act μ b o j ∧ brE μ o b ≤ j ∧ tmT μ b o j = tmT μ b n e ∧ tmB μ b o j = tmB μ b n e) → ((-2147483648) ≤ ((j : Int) + 1) ∧ ((j : Int) + 1) ≤ 2147483647) ∧ ((fr JWs h h2 ∧ h2.2.1 = h.2.1 ∧ tmT μ b n e = tmT μ b n e ∧ tmB μ b n e = tmB μ b n e ∧ (o : Int) = (o : Int) ∧ ∃ j' : Nat, (j : Int) + 1 = (j' : Int) ∧ (j' : Int) ≤ μ (10 + o) 0 ∧ ∀ f, f < j' → ¬ (act μ b o f ∧ brE μ o b ≤ f ∧ tmT μ b o f = tmT μ b n e ∧ tmB μ b o f = tmB μ b n e)) ∧ (400 - ((j : Int) + 1)).toNat < (400 - (j : Int)).toNat) := fun f2 i2 nj => ⟨⟨by omega, by omega⟩, ⟨f2, i2, rfl, rfl, rfl, j + 1, by omega, by omega, fun f'' q1 => by
            by_cases cf : f'' = j
            · subst cf; exact nj
            · exact alj f'' (by omega)⟩, by omega⟩
          rw [nx300]
          intro x8 e8 _ _
          obtain rfl := e8.trans y6
          refine ⟨fun q2 x11 e11 _ _ x13 e13 _ _ => ?_, fun q2 => step f' ei' (fun w => q2 (be.mpr ⟨w.1.2.1, w.2.1, w.1.2.2⟩))⟩
          obtain ⟨k1, k2, k3⟩ := be.mp q2
          obtain ⟨d1, d2⟩ := MV_b H' ho7 (b := b) (Int.le_of_lt k1)
          obtain rfl := e11.trans u0
          obtain rfl := e13.trans u1
          have b0 := GM_b GG ho7 (brE μ o b)
          refine ⟨⟨by omega, by omega⟩, ⟨by omega, by omega⟩, by omega, ?_⟩
          rw [show (102 * (o : Int) + (b : Int)).toNat = 102 * o + b by omega]
          intro x17 e17 _ _
          obtain rfl := e17.trans d1
          refine ⟨⟨by omega, by omega⟩, fun x21 e21 _ _ => ?_⟩
          obtain rfl := e21.trans d2
          refine con_mono (m_since hb' GG ho7 k2 (Int.le_of_lt hj')) ?_
          rintro r h22 ⟨rfl, hb22, f22, t1, t2, i22⟩
          have f22' := fr_t f' f22 (fun _ _ w => w)
          have i22' := i22.trans ei'
          refine ⟨rfl, hb22, fun x25 e25 _ _ => ⟨fun q3 x27 e27 _ _ => ⟨fun q4 => ⟨0, rfl, hb22, f22', i22', Or.inl ⟨rfl, fun w => w ⟨o, j, ho, ⟨ho7, k1, k3⟩, k2, ?_, ?_⟩⟩⟩, fun q4 => step f22' i22' (fun w => q4 ?_)⟩, fun q3 => step f22' i22' (fun w => q3 ?_)⟩⟩
          · rw [← t1, ← e25]; exact q3
          · rw [← t2, ← e27]; exact q4
          · rw [e27, t2]; exact w.2.2.2
          · rw [e25, t1]; exact w.2.2.1
        refine b_MD_isFirstTime_54 (a2 := 300 * (n : Int) + (e : Int)) in63 hbh ?_
        unfold B_MD_isFirstTime_54
        have oE := (GG.2.2 o ho7).1
        exact ⟨fun q => by omega, fun q => ⟨f, ei, rfl, rfl, rfl, 0, rfl, by omega, fun f'' q1 => by omega⟩⟩
      · refine b_MD_isFirstTime_54 (a2 := 300 * (n : Int) + (e : Int)) (X63 := fun _ _ _ _ _ => False) (fun _ _ _ _ _ _ x => x.elim) hbh ?_
        unfold B_MD_isFirstTime_54
        refine ⟨fun q => ⟨1, rfl, hbh, f, ei, Or.inr ⟨rfl, ?_⟩⟩, fun q => by omega⟩
        rintro ⟨o', f'', q1, q2⟩
        exact al o' f'' (by omega) q2
  refine c_MD_isFirstTime (X54 := fun v4 v6 v8 hh => fr JWs h hh ∧ hh.2.1 = h.2.1 ∧ v4 = tmT μ b n e ∧ v6 = tmB μ b n e ∧ ∃ o : Nat, v8 = (o : Int) ∧ o ≤ n ∧ ∀ o' f, o' < o → ¬ (act μ b o' f ∧ brE μ o' b ≤ f ∧ tmT μ b o' f = tmT μ b n e ∧ tmB μ b o' f = tmB μ b n e)) (fun v4 v6 v8 hh hb' x => key ((10 - v8).toNat + 1) v4 v6 v8 hh hb' x (Nat.lt_succ_self _)) hb0 (fun _ _ _ => ?_)
  unfold B_MD_isFirstTime_0
  have b0 := GM_b GG hn (brE μ n b)
  refine ⟨by omega, ?_⟩
  rw [nx300]
  intro x2 e2 _ _ x5 e5 _ _
  obtain rfl := e2.trans w0
  obtain rfl := e5.trans w1
  refine ⟨⟨by omega, by omega⟩, ⟨by omega, by omega⟩, by omega, ?_⟩
  rw [show (102 * (n : Int) + (b : Int)).toNat = 102 * n + b by omega]
  intro x9 e9 _ _
  obtain rfl := e9.trans c1
  refine ⟨⟨by omega, by omega⟩, fun x13 e13 _ _ => ?_⟩
  obtain rfl := e13.trans c2
  refine con_mono (m_since hb0 GG hn hf (Int.le_of_lt he)) ?_
  rintro r h14 ⟨rfl, hb14, f14, t1, t2, i14⟩
  exact ⟨rfl, hb14, fun x17 e17 _ _ x18 e18 _ _ => ⟨f14, i14, e17.trans t1, e18.trans t2, 0, rfl, Nat.zero_le _, fun o' f'' q1 => by omega⟩⟩
end

/-! ===== page, the reference: the width of a bar ===== -/
noncomputable def acN (μ : pm_T) (b : Nat) : Nat → Nat
  | 0 => 0
  | n + 1 => acN μ b n + Nf μ b n (ptr0 μ b n)
theorem acN_4 {μ : pm_T} {b : Nat} (GG : GM μ) : acN μ b (μ 0 7).toNat = Rem4 μ b (ptr0 μ b) := by
  have b7 := GG.1.1
  have z : ∀ v : Nat, ¬ (v : Int) < μ 0 7 → Nf μ b v (ptr0 μ b v) = 0 := fun v hv => Nf_0 (fun A => hv A.1)
  have e4 : Rem4 μ b (ptr0 μ b) = acN μ b 4 := by
    unfold Rem4
    simp only [acN]
    omega
  rw [e4]
  obtain e | e | e | e | e : μ 0 7 = 0 ∨ μ 0 7 = 1 ∨ μ 0 7 = 2 ∨ μ 0 7 = 3 ∨ μ 0 7 = 4 := by omega
  all_goals rw [e]
  all_goals have z0 := z 0
  all_goals have z1 := z 1
  all_goals have z2 := z 2
  all_goals have z3 := z 3
  all_goals rw [e] at z0 z1 z2 z3
  · have := z0 (by decide); have := z1 (by decide); have := z2 (by decide); have := z3 (by decide)
    show acN μ b 0 = _
    simp only [acN]; omega
  · have := z1 (by decide); have := z2 (by decide); have := z3 (by decide)
    show acN μ b 1 = _
    simp only [acN]; omega
  · have := z2 (by decide); have := z3 (by decide)
    show acN μ b 2 = _
    simp only [acN]; omega
  · have := z3 (by decide)
    show acN μ b 3 = _
    simp only [acN]; omega
  · rfl
theorem acN_b {μ : pm_T} {b : Nat} (GG : GM μ) : ∀ n, acN μ b n ≤ 300 * n
  | 0 => Nat.le_refl _
  | n + 1 => by
    have := acN_b (b := b) GG n
    have := Nf_b GG (b := b) (v := n) (i := ptr0 μ b n)
    rw [acN]; omega
/-- j, brought between x and t -/
def clp (x t j : Nat) : Nat := if j < x then x else if t < j then t else j
section
variable {G : cx_T} {s b : Nat} {h : ah_T} {μ : pm_T}
theorem t_MD_widthB (hb0 : hb s h) (H : MV μ h) (hb1 : (b : Int) < mbr μ (μ 0 7).toNat) (hb2 : b ≤ 100) : con G 4 0 0 m_MD_width [av_R (some 170), av_I (b : Int)] h (fun r h' => r = some (av_I (wdt μ b)) ∧ hb s h' ∧ fr JWs h h') := by
  have GG := H.2.1
  have b7 := GG.1.1
  have key : ∀ (N : Nat) (v2 v3 v4 : Int) (hh : ah_T), hb s hh → (fr JWs h hh ∧ ∃ n : Nat, v4 = (n : Int) ∧ (n : Int) ≤ μ 0 7 ∧ v2 = (acN μ b n : Int) ∧ v3 = sgA μ b n) → (10 - v4).toNat < N → aw G (rm_R 4 0 0) m_MD_width 0 0 21 [some (av_R (some 170)), some (av_I (b : Int)), some (av_I v2), some (av_I v3), some (av_I v4), none, none] [] hh (fun r h' => r = some (av_I (wdt μ b)) ∧ hb s h' ∧ fr JWs h h') := by
    intro N
    induction N with
    | zero => intro v2 v3 v4 hh _ _ q; omega
    | succ N ih =>
      rintro v2 v3 v4 hh hbh ⟨f, n, rfl, hn, rfl, rfl⟩ hN
      have H1 := MV_f H f JWs_w
      have sa := sgA_b (b := b) GG n hn
      have ab := acN_b (b := b) GG n
      by_cases hn' : (n : Int) < μ 0 7
      · have hE := (GG.2.2 n hn').1
        have e1 := brE_b GG (b := b + 1) hn'
        have em := brE_m GG (b := b) hn'
        have in35 : ∀ (a2 a3 a4 a5 : Int) (h' : ah_T), hb s h' → (fr JWs h h' ∧ a4 = (n : Int) ∧ ∃ j : Nat, a5 = (j : Int) ∧ (j : Int) ≤ μ (10 + n) 0 ∧ (((b : Int) < μ (10 + n) 1 ∧ (∃ x : Nat, a2 = (x : Int) ∧ x + Nf μ b n (clp (brE μ n b) (brE μ n (b + 1)) j) = acN μ b n + Nf μ b n (brE μ n b)) ∧ a3 = sgA μ b n + sgV μ b n (clp (brE μ n b) (brE μ n (b + 1)) j - brE μ n b)) ∨ (¬ (b : Int) < μ (10 + n) 1 ∧ a2 = (acN μ b n : Int) ∧ a3 = sgA μ b n))) → aw G (rm_R 4 0 0) m_MD_width 0 0 35 [some (av_R (some 170)), some (av_I (b : Int)), some (av_I a2), some (av_I a3), some (av_I a4), some (av_I a5), none] [] h' (fun r h' => r = some (av_I (wdt μ b)) ∧ hb s h' ∧ fr JWs h h') := by
          refine lp_MD_width_35 (X21 := fun v2 v3 v4 hh => (fr JWs h hh ∧ ∃ n : Nat, v4 = (n : Int) ∧ (n : Int) ≤ μ 0 7 ∧ v2 = (acN μ b n : Int) ∧ v3 = sgA μ b n) ∧ v4 = (n : Int) + 1) (fun v2 v3 v4 hh hb' x => ih v2 v3 v4 hh hb' x.1 (by have := x.2; omega)) _ (fun _ _ _ a5 _ => (400 - a5).toNat) ?_
          rintro a2 a3 a4 a5 h' hb' ⟨f', rfl, j, rfl, hj, st⟩
          have H' := MV_f H f' JWs_w
          obtain ⟨o1, -, -, -, n4⟩ := MV_n H' hn'
          unfold B_MD_width_35
          refine ⟨by omega, ?_⟩
          rw [tn_c]
          intro x2 e2 _ _
          obtain rfl := e2.trans o1
          refine ⟨fun q => ⟨⟨by omega, by omega⟩, ⟨f', n + 1, by omega, by omega, ?_, ?_⟩, rfl⟩, fun q => ?_⟩
          · rw [acN]
            rcases st with ⟨k1, ⟨x, rfl, k2⟩, -⟩ | ⟨k1, rfl, -⟩
            · have p0 : ptr0 μ b n = brE μ n b := by unfold ptr0; rw [if_pos ⟨hn', k1⟩]
              have z : Nf μ b n (clp (brE μ n b) (brE μ n (b + 1)) j) = 0 := Nf_0 (fun A => by have := A.2.2; unfold clp at this; split at this <;> (try split at this) <;> omega)
              rw [p0]
              omega
            · have z : Nf μ b n (ptr0 μ b n) = 0 := Nf_0 (fun A => k1 A.2.1)
              omega
          · rw [sgA]
            unfold sgT
            rcases st with ⟨k1, -, k3⟩ | ⟨k1, -, k3⟩
            · rw [if_pos k1, k3]
              have : clp (brE μ n b) (brE μ n (b + 1)) j = brE μ n (b + 1) := by unfold clp; split <;> (try split) <;> omega
              rw [this]
            · rw [if_neg k1, k3, Int.add_zero]
          have hj' : (j : Int) < μ (10 + n) 0 := by omega
          obtain ⟨⟨-, -, y6⟩, -⟩ := MV_e H' hn' hj'
          have y9 : h'.2.1 194 (300 * n + j) = μ (100 + 40 * n + 9) j := ((H'.1.2.2.2.2.2 n hn').2.2.1 j hj').1.2.2.2.2.2
          have be := bar_e (b := b) GG hn' hj'
          refine ⟨⟨by omega, by omega⟩, ⟨by omega, by omega⟩, by omega, ?_⟩
          rw [nx300]
          intro x8 e8 _ _
          obtain rfl := e8.trans y6
          refine ⟨fun q2 x11 e11 _ _ => ?_, fun q2 => ?_⟩
          · obtain rfl := e11.trans y9
            obtain ⟨k1, k2, k3⟩ := be.mp q2
            have r9 := row9_b GG hn' hj'
            rcases st with ⟨-, ⟨x, rfl, st2⟩, rfl⟩ | ⟨no, -⟩
            rotate_left
            · exact absurd k1 no
            have cj : clp (brE μ n b) (brE μ n (b + 1)) j = j := by unfold clp; rw [if_neg (by omega), if_neg (by omega)]
            have cj1 : clp (brE μ n b) (brE μ n (b + 1)) (j + 1) = j + 1 := by unfold clp; rw [if_neg (by omega), if_neg (by omega)]
            have sv := sgV_b (b := b) GG hn' (j - brE μ n b) (by omega)
            have A : act μ b n j := ⟨hn', k1, k3⟩
            have ns := Nf_s A
            rw [cj] at st2 ⊢
            have nb := Nf_b GG (b := b) (v := n) (i := brE μ n b)
            have sg1 : sgV μ b n (j + 1 - brE μ n b) = sgV μ b n (j - brE μ n b) + μ (100 + 40 * n + 9) j := by
              rw [show j + 1 - brE μ n b = (j - brE μ n b) + 1 by omega, sgV, show brE μ n b + (j - brE μ n b) = j by omega]
            have fin : ∀ (t1 : Nat) {h2 : ah_T}, t1 = dif (Fst μ b n j) 1 0 → fr JWs h h2 → B_MD_width_100 G s (b : Int) (sgA μ b n + sgV μ b n (j - brE μ n b) + μ (100 + 40 * n + 9) j) (n : Int) (j : Int) (x : Int) (t1 : Int) h2 (fun r h' => r = some (av_I (wdt μ b)) ∧ hb s h' ∧ fr JWs h h') (fun a2' a3' a4' a5' h'' => (fr JWs h h'' ∧ a4' = (n : Int) ∧ ∃ j : Nat, a5' = (j : Int) ∧ (j : Int) ≤ μ (10 + n) 0 ∧ (((b : Int) < μ (10 + n) 1 ∧ (∃ x : Nat, a2' = (x : Int) ∧ x + Nf μ b n (clp (brE μ n b) (brE μ n (b + 1)) j) = acN μ b n + Nf μ b n (brE μ n b)) ∧ a3' = sgA μ b n + sgV μ b n (clp (brE μ n b) (brE μ n (b + 1)) j - brE μ n b)) ∨ (¬ (b : Int) < μ (10 + n) 1 ∧ a2' = (acN μ b n : Int) ∧ a3' = sgA μ b n))) ∧ (400 - a5').toNat < (400 - (j : Int)).toNat) := by
              intro t1 h2 et f2
              rw [← et] at ns
              unfold B_MD_width_100 B_MD_width_102
              have t1b : t1 ≤ 1 := by
                rw [et]
                by_cases c : Fst μ b n j
                · rw [dif_t c]; omega
                · rw [dif_f c]; omega
              refine ⟨⟨by omega, by omega⟩, ⟨by omega, by omega⟩, ⟨f2, rfl, j + 1, by omega, by omega, Or.inl ⟨k1, ⟨x + t1, by omega, ?_⟩, ?_⟩⟩, by omega⟩
              · rw [cj1]; omega
              · rw [cj1, sg1]; omega
            refine ⟨⟨by omega, by omega⟩, ?_⟩
            refine con_mono (m_firstTime hb' H' hn' hj' q2) ?_
            rintro r h13 ⟨z, rfl, hb13, f13, i13, zz⟩
            have f13' := fr_t f' f13 (fun _ _ w => w)
            refine ⟨z, rfl, hb13, fun q3 => fin 0 ?_ f13', fun q3 => fin 1 ?_ f13'⟩
            · rcases zz with ⟨-, w⟩ | ⟨w, -⟩
              · rw [dif_f w]
              · omega
            · rcases zz with ⟨w, -⟩ | ⟨-, w⟩
              · exact absurd w q3
              · rw [dif_t w]
          · unfold B_MD_width_102
            refine ⟨⟨by omega, by omega⟩, ⟨f', rfl, j + 1, by omega, by omega, ?_⟩, by omega⟩
            rcases st with ⟨k1, st2, st3⟩ | st
            · have nb : ¬ (brE μ n b ≤ j ∧ j < brE μ n (b + 1)) := fun w => q2 (be.mpr ⟨k1, w⟩)
              have cc : clp (brE μ n b) (brE μ n (b + 1)) (j + 1) = clp (brE μ n b) (brE μ n (b + 1)) j := by
                unfold clp
                by_cases c1 : j < brE μ n b
                · rw [if_pos c1]
                  split
                  · rfl
                  · split <;> omega
                · have : brE μ n (b + 1) ≤ j := by omega
                  rw [if_neg c1, if_neg (by omega), if_pos (by omega)]
                  split <;> omega
              rw [cc]
              exact Or.inl ⟨k1, st2, st3⟩
            · exact Or.inr st
        refine b_MD_width_21 in35 hbh ?_
        unfold B_MD_width_21
        intro x2 e2 _ _
        obtain rfl := e2.trans H1.1.1.1
        refine ⟨fun q => by omega, fun q => ⟨f, rfl, 0, rfl, by omega, ?_⟩⟩
        by_cases k1 : (b : Int) < μ (10 + n) 1
        · have c0 : clp (brE μ n b) (brE μ n (b + 1)) 0 = brE μ n b := by
            unfold clp
            split
            · rfl
            · split <;> omega
          rw [c0, Nat.sub_self]
          exact Or.inl ⟨k1, ⟨acN μ b n, rfl, rfl⟩, by rw [sgV, Int.add_zero]⟩
        · exact Or.inr ⟨k1, rfl, rfl⟩
      · refine b_MD_width_21 (X35 := fun _ _ _ _ _ => False) (fun _ _ _ _ _ _ x => x.elim) hbh ?_
        unfold B_MD_width_21
        intro x2 e2 _ _
        obtain rfl := e2.trans H1.1.1.1
        have en : (μ 0 7).toNat = n := by omega
        have a4 := acN_4 (b := b) GG
        rw [en] at a4
        refine ⟨fun q => ⟨by omega, by omega, by omega, by omega, ?_, hbh, f⟩, fun q => by omega⟩
        unfold wdt
        rw [en, a4]
  refine c_MD_width (X21 := fun v2 v3 v4 hh => fr JWs h hh ∧ ∃ n : Nat, v4 = (n : Int) ∧ (n : Int) ≤ μ 0 7 ∧ v2 = (acN μ b n : Int) ∧ v3 = sgA μ b n) (fun v2 v3 v4 hh hb' x => key ((10 - v4).toNat + 1) v2 v3 v4 hh hb' x (Nat.lt_succ_self _)) hb0 (fun _ => ?_)
  unfold B_MD_width_0
  refine ⟨fun q => by omega, fun q => ?_⟩
  refine con_mono (t_MD_pageBars hb0 H.1) ?_
  rintro r h1 ⟨hb1', rfl, rfl⟩
  exact ⟨_, rfl, hb1', fun _ => ⟨fr_0, 0, rfl, b7.1, rfl, rfl⟩, fun w => absurd hb1 w⟩
end

/-! ===== page: THE BEST LINES, a spec of our own ===== -/
/-- what is left of w behind k bars from a on -/
def lefL (wd : Nat → Int) (w : Int) (a : Nat) : Nat → Int
  | 0 => w
  | k + 1 => lefL wd w a k - wd (a + k)
/-- the best over lines of 1 .. k + 1 bars, of the last r bars -/
def innL (wd : Nat → Int) (w : Int) (W : Nat → Int) (a r : Nat) : Nat → Int × Int
  | 0 => (W (r - 1) + lnC (lefL wd w a 1) (decide (r = 1)), 1)
  | k + 1 => if k + 2 ≤ r ∧ 0 ≤ lefL wd w a (k + 2) ∧ W (r - (k + 2)) + lnC (lefL wd w a (k + 2)) (decide (r = k + 2)) ≤ (innL wd w W a r k).1 then (W (r - (k + 2)) + lnC (lefL wd w a (k + 2)) (decide (r = k + 2)), ((k + 2 : Nat) : Int)) else innL wd w W a r k
def tabL (wd : Nat → Int) (w : Int) (z : Nat) : Nat → Nat → Int × Int
  | 0 => fun _ => (0, 1)
  | r + 1 => up1 (tabL wd w z r) (r + 1) (innL wd w (fun k => (tabL wd w z r k).1) (z - (r + 1)) (r + 1) 13)
def leaL (wd : Nat → Int) (w : Int) (z r : Nat) : Int := (tabL wd w z r r).1
def takL (wd : Nat → Int) (w : Int) (z r : Nat) : Int := (tabL wd w z r r).2
theorem tabL_k {wd : Nat → Int} {w : Int} {z k : Nat} : ∀ r : Nat, k ≤ r → tabL wd w z r k = tabL wd w z k k
  | 0, h => by
    have : k = 0 := by omega
    subst this; rfl
  | r + 1, h => by
    by_cases c : k = r + 1
    · subst c; rfl
    · have ih := tabL_k (wd := wd) (w := w) (z := z) (k := k) r (by omega)
      show up1 (tabL wd w z r) (r + 1) _ k = _
      unfold up1
      rw [if_neg c]
      exact ih
theorem innL_W {wd W W' : Nat → Int} {w : Int} {a r : Nat} (hr : 1 ≤ r) (h : ∀ k, k < r → W k = W' k) : ∀ k, innL wd w W a r k = innL wd w W' a r k
  | 0 => by rw [innL, innL, h _ (by omega)]
  | k + 1 => by
    rw [innL, innL, innL_W hr h k]
    by_cases c : k + 2 ≤ r
    · rw [h _ (show r - (k + 2) < r by omega)]
    · rw [if_neg (fun q => c q.1), if_neg (fun q => c q.1)]
theorem tabL_s {wd : Nat → Int} {w : Int} {z r : Nat} : tabL wd w z (r + 1) (r + 1) = innL wd w (leaL wd w z) (z - (r + 1)) (r + 1) 13 := by
  show up1 (tabL wd w z r) (r + 1) _ (r + 1) = _
  unfold up1
  rw [if_pos rfl]
  refine innL_W (by omega) (fun k hk => ?_) 13
  unfold leaL
  rw [tabL_k r (by omega)]
theorem innL_b {wd W : Nat → Int} {w : Int} {a r : Nat} (hr : 1 ≤ r) : ∀ k, 1 ≤ (innL wd w W a r k).2 ∧ (innL wd w W a r k).2 ≤ r ∧ (innL wd w W a r k).2 ≤ (k : Int) + 1
  | 0 => by
    rw [innL]
    refine ⟨?_, ?_, ?_⟩ <;> dsimp only <;> omega
  | k + 1 => by
    have ih := innL_b (wd := wd) (W := W) (w := w) (a := a) hr k
    rw [innL]
    split
    · rename_i c
      have := c.1
      refine ⟨?_, ?_, ?_⟩ <;> dsimp only <;> omega
    · omega
theorem takL_b {wd : Nat → Int} {w : Int} {z r : Nat} (hr : 1 ≤ r) : 1 ≤ takL wd w z r ∧ takL wd w z r ≤ r := by
  obtain ⟨q, rfl⟩ : ∃ q, r = q + 1 := ⟨r - 1, by omega⟩
  unfold takL
  rw [tabL_s]
  have := innL_b (wd := wd) (W := leaL wd w z) (w := w) (a := z - (q + 1)) (r := q + 1) (by omega) 13
  omega
/-- once there is no room left, or no bar, nothing changes -/
theorem lefL_m {wd : Nat → Int} {w : Int} {a : Nat} (h : ∀ i, 0 ≤ wd i) {k : Nat} : ∀ m, k ≤ m → lefL wd w a m ≤ lefL wd w a k
  | 0, q => by
    have : k = 0 := by omega
    subst this; exact Int.le_refl _
  | m + 1, q => by
    by_cases c : k = m + 1
    · subst c; exact Int.le_refl _
    · have := lefL_m (w := w) (a := a) h (k := k) m (by omega)
      have := h (a + m)
      rw [lefL]
      omega
theorem innL_e {wd W : Nat → Int} {w : Int} {a r k : Nat} (h : ∀ i, 0 ≤ wd i) : ∀ m, k ≤ m → (r < k + 2 ∨ lefL wd w a (k + 2) < 0) → innL wd w W a r m = innL wd w W a r k
  | 0, q, _ => by
    have : k = 0 := by omega
    subst this; rfl
  | m + 1, q, q2 => by
    by_cases c : k = m + 1
    · subst c; rfl
    · have mm := lefL_m (w := w) (a := a) h (k := k + 2) (m + 2) (by omega)
      rw [innL, if_neg (fun x => by have := x.1; have := x.2.1; omega)]
      exact innL_e h m (by omega) q2
/-! bounds of what lines cost: D tells how wide the bars ahead are at most -/
theorem sq_b {x m : Int} (h0 : 0 ≤ x) (h1 : x ≤ m) : 0 ≤ x * x ∧ x * x ≤ m * x := ⟨Int.mul_nonneg h0 h0, Int.mul_le_mul_of_nonneg_right h1 h0⟩
theorem lnC_b {l x : Int} {q : Bool} (h0 : 0 ≤ x) (h1 : x ≤ 40000) (h2 : -x ≤ l) (h3 : l ≤ 1000) : 0 ≤ lnC l q ∧ lnC l q ≤ 40000 * x + 1010000 := by
  unfold lnC
  by_cases c : l < 0
  · rw [if_pos c]
    have e : l * l = (-l) * (-l) := by rw [Int.neg_mul_neg]
    have s := sq_b (x := -l) (m := 40000) (by omega) (by omega)
    rw [e]
    omega
  · rw [if_neg c]
    have s := sq_b (x := l) (m := 1000) (by omega) h3
    split <;> omega
theorem lefL_le {wd : Nat → Int} {w : Int} {a : Nat} (h : ∀ i, 0 ≤ wd i) (k : Nat) : lefL wd w a k ≤ w := lefL_m h (k := 0) k (Nat.zero_le _)
theorem lefL_D {wd D : Nat → Int} {w : Int} {a : Nat} (hD : ∀ i, 0 ≤ wd i ∧ wd i ≤ D (i + 1) - D i) : ∀ k, w - (D (a + k) - D a) ≤ lefL wd w a k
  | 0 => by rw [lefL]; show w - (D a - D a) ≤ w; omega
  | k + 1 => by
    have ih := lefL_D (w := w) (a := a) hD k
    have := hD (a + k)
    have e : D (a + (k + 1)) = D (a + k + 1) := rfl
    rw [lefL, e]
    omega
theorem innL_c {wd D W : Nat → Int} {w : Int} {a r : Nat} (hr : 1 ≤ r) (hw : 0 ≤ w ∧ w ≤ 1000) (hD : ∀ i, 0 ≤ wd i ∧ wd i ≤ D (i + 1) - D i) (hx : D (a + 1) - D a ≤ 40000) (hW : ∀ k, k < r → 0 ≤ W k) : ∀ k, 0 ≤ (innL wd w W a r k).1 ∧ (innL wd w W a r k).1 ≤ W (r - 1) + 40000 * (D (a + 1) - D a) + 1010000
  | 0 => by
    have d := lefL_D (w := w) (a := a) hD 1
    have l := lefL_le (w := w) (a := a) (fun i => (hD i).1) 1
    have := hW (r - 1) (by omega)
    have := hD a
    have b := lnC_b (l := lefL wd w a 1) (x := D (a + 1) - D a) (q := decide (r = 1)) (by omega) hx (by omega) (by omega)
    rw [innL]
    dsimp only
    omega
  | k + 1 => by
    have ih := innL_c (w := w) hr hw hD hx hW k
    rw [innL]
    split
    · rename_i c
      obtain ⟨c1, c2, c3⟩ := c
      have l := lefL_le (w := w) (a := a) (fun i => (hD i).1) (k + 2)
      have := hW (r - (k + 2)) (by omega)
      have b := lnC_b (l := lefL wd w a (k + 2)) (x := 0) (q := decide (r = k + 2)) (by omega) (by omega) (by omega) (by omega)
      dsimp only
      omega
    · exact ih
theorem leaL_b {wd D : Nat → Int} {w : Int} {z : Nat} (hw : 0 ≤ w ∧ w ≤ 1000) (hD : ∀ i, 0 ≤ wd i ∧ wd i ≤ D (i + 1) - D i) (hz : ∀ i, 0 ≤ D i ∧ (i ≤ z → D i ≤ 39000)) : ∀ r : Nat, r ≤ z → 0 ≤ leaL wd w z r ∧ leaL wd w z r ≤ 40000 * (D z - D (z - r)) + 1010000 * (r : Int)
  | 0, _ => by
    show 0 ≤ (0 : Int) ∧ (0 : Int) ≤ 40000 * (D z - D (z - 0)) + 1010000 * ((0 : Nat) : Int)
    rw [Nat.sub_zero]
    omega
  | r + 1, hr => by
    have ih := leaL_b hw hD hz r (by omega)
    have e : leaL wd w z (r + 1) = (innL wd w (leaL wd w z) (z - (r + 1)) (r + 1) 13).1 := by
      show (tabL wd w z (r + 1) (r + 1)).1 = _
      rw [tabL_s]
    have z1 : z - (r + 1) + 1 = z - r := by omega
    have h0 := hz (z - r)
    have h1 := hz (z - (r + 1))
    have c := innL_c (w := w) (a := z - (r + 1)) (r := r + 1) (W := leaL wd w z) (by omega) hw hD (by rw [z1]; omega) (fun k hk => (leaL_b hw hD hz k (by omega)).1) 13
    rw [e]
    rw [z1, show r + 1 - 1 = r by omega] at c
    omega
/-- how many bars each line has, of the last r -/
def grpL (wd : Nat → Int) (w : Int) (z : Nat) : Nat → Nat → List Int
  | 0, _ => []
  | f + 1, r => if r = 0 then [] else takL wd w z r :: grpL wd w z f (r - (takL wd w z r).toNat)
theorem grpL_f {wd : Nat → Int} {w : Int} {z : Nat} : ∀ (f g r : Nat), r ≤ f → r ≤ g → grpL wd w z f r = grpL wd w z g r
  | 0, 0, _, _, _ => rfl
  | 0, g + 1, r, h, _ => by
    have : r = 0 := by omega
    subst this
    rw [grpL, grpL, if_pos rfl]
  | f + 1, 0, r, _, h => by
    have : r = 0 := by omega
    subst this
    rw [grpL, grpL, if_pos rfl]
  | f + 1, g + 1, r, h1, h2 => by
    rw [grpL, grpL]
    split
    · rfl
    · have := takL_b (wd := wd) (w := w) (z := z) (r := r) (by omega)
      rw [grpL_f f g _ (by omega) (by omega)]
theorem grpL_s {wd : Nat → Int} {w : Int} {z r : Nat} (hr : 1 ≤ r) : grpL wd w z r r = takL wd w z r :: grpL wd w z (r - (takL wd w z r).toNat) (r - (takL wd w z r).toNat) := by
  obtain ⟨q, rfl⟩ : ∃ q, r = q + 1 := ⟨r - 1, by omega⟩
  have := takL_b (wd := wd) (w := w) (z := z) (r := q + 1) (by omega)
  rw [grpL, if_neg (by omega), grpL_f q (q + 1 - (takL wd w z (q + 1)).toNat) _ (by omega) (Nat.le_refl _)]
theorem grpL_l {wd : Nat → Int} {w : Int} {z : Nat} : ∀ (f r : Nat), (grpL wd w z f r).length ≤ r
  | 0, _ => Nat.zero_le _
  | f + 1, r => by
    rw [grpL]
    split
    · exact Nat.zero_le _
    · have := takL_b (wd := wd) (w := w) (z := z) (r := r) (by omega)
      have := grpL_l (wd := wd) (w := w) (z := z) f (r - (takL wd w z r).toNat)
      show (grpL wd w z f (r - (takL wd w z r).toNat)).length + 1 ≤ r
      omega

/-! ===== a PITCH has at most two # or b: what a text's memory keeps of it ===== -/
theorem wh_sw {b : Int} (h0 : 65 ≤ b) (h1 : b ≤ 71) : (sw b + 2) % 7 + 65 = b := by unfold sw; split <;> omega
/-- facts of a table: a good token isn't the last one; a PITCH has at most two signs -/
def TG2 (t : tk_T) (m : Nat) : Prop := (∀ i, i < m → gk (tK t i) → i + 1 < m) ∧ ∀ i, i < m → tK t i = 258 → sgt t i ≤ 2
theorem XA_g2 {X : tx_T} (hA : XA X) : TG2 X.2.2.1 X.2.2.2.1 := by
  refine ⟨fun i hi hg => TkA_n hA hi hg, fun i hi hk => ?_⟩
  obtain ⟨h1, h2, h3, h4⟩ := hA.2.1 i hi
  have w : X.2.2.2.2.1 i < X.2.1 := by
    rcases Nat.lt_or_ge (X.2.2.2.2.1 i) X.2.1 with w | w
    · exact w
    · have := (h3 (by omega)).1; omega
  obtain ⟨⟨t1, t2, t3, t4⟩, -⟩ := h4 w
  generalize X.2.2.2.2.1 i = p at *
  by_cases c1 : 65 ≤ X.1 p ∧ X.1 p ≤ 71
  · obtain ⟨q1, q2⟩ := t1 c1
    by_cases d : 48 ≤ tb X.1 X.2.1 (p + 1 + mk X.1 X.2.1 p) ∧ tb X.1 X.2.1 (p + 1 + mk X.1 X.2.1 p) ≤ 56
    · obtain ⟨-, e2, e3, -⟩ := q1 d
      have m2 := mk_2 (T := X.1) (n := X.2.1) (p := p)
      have e4 : -2 ≤ (if tb X.1 X.2.1 (p + 1) = 35 then (mk X.1 X.2.1 p : Int) else -(mk X.1 X.2.1 p : Int)) ∧ (if tb X.1 X.2.1 (p + 1) = 35 then (mk X.1 X.2.1 p : Int) else -(mk X.1 X.2.1 p : Int)) ≤ 2 := by split <;> omega
      have sb := sw_b c1.1 c1.2
      have ws := wh_sw c1.1 c1.2
      have ed : (tS X.2.2.1 i) / 7 = tb X.1 X.2.1 (p + 1 + mk X.1 X.2.1 p) - 48 := by rw [e3]; omega
      have em : (tS X.2.2.1 i) % 7 = sw (X.1 p) := by rw [e3]; omega
      unfold sgt sgk
      rw [ed, em, ws, e2]
      generalize (if tb X.1 X.2.1 (p + 1) = 35 then (mk X.1 X.2.1 p : Int) else -(mk X.1 X.2.1 p : Int)) = y at *
      split <;> omega
    · have := q2 d; omega
  · by_cases c2 : isSm (X.1 p)
    · obtain ⟨-, s1, s2⟩ := t2 c2
      by_cases c : 8 < X.2.2.2.2.2 i - p
      · have := s1 c; omega
      · have := (s2 (by omega)).1; have := knm_b (x := lvl X.1 p (X.2.2.2.2.2 i - p)); omega
    · by_cases c3 : isDg (X.1 p)
      · obtain ⟨-, s1, s2⟩ := t3 c3
        by_cases c : 4 < X.2.2.2.2.2 i - p
        · have := s1 c; omega
        · have := (s2 (by omega)).1; omega
      · obtain ⟨-, a2, a3⟩ := t4 c1 c2 c3
        by_cases c : isSg (X.1 p)
        · have := a2 c; unfold isSg at c; omega
        · have := a3 c; omega
section
variable {t : tk_T} {m : Nat}
theorem nx_i {i : Nat} {k : Int} (hT : TG2 t m) (hi : i < m) (e : tK t i = k) (h1 : k ≠ 256) (h2 : k ≠ 257) : i + 1 < m := hT.1 i hi ⟨by omega, by omega⟩
theorem num_i {i : Nat} {a b : Int} {p : Bool} (e : sp_num t i a p = .inr b) : tK t i = 259 := by
  unfold sp_num at e
  split at e
  · assumption
  · cases e
theorem take_i {i : Nat} {k : Int} {u : Unit} (e : sp_take t i k = .inr u) : tK t i = k := by
  unfold sp_take at e
  split at e
  · assumption
  · cases e
theorem name_i {i : Nat} {μ : pm_T} {v : Int × pm_T} (e : sp_name t i μ = .inr v) : tK t i = 260 := by
  unfold sp_name at e
  split at e
  · assumption
  · cases e
theorem sgtime_i {i : Nat} {μ : pm_T} {q : Nat × pm_T} (hT : TG2 t m) (hi : i + 1 < m) (e : sp_time t i μ = .inr q) : q.1 < m := by
  unfold sp_time at e
  split at e
  · obtain ⟨a, ea, e⟩ := bnd_r e
    obtain ⟨b, eb, e⟩ := bnd_r e
    obtain ⟨c, ec, e⟩ := bnd_r e
    obtain ⟨d, ed, e⟩ := bnd_r e
    cases e
    have h2 := nx_i hT hi (num_i ea) (by decide) (by decide)
    have h3 := nx_i hT h2 (take_i eb) (by decide) (by decide)
    have h4 := nx_i hT h3 (num_i ec) (by decide) (by decide)
    exact nx_i hT h4 (take_i ed) (by decide) (by decide)
  · cases e
theorem sgpits_i (hT : TG2 t m) : ∀ (f i : Nat) (μ : pm_T) (q : Nat × pm_T), i < m → sp_pits t f i μ = .inr q → q.1 < m
  | 0, _, _, _, _, e => by rw [sp_pits] at e; cases e
  | f + 1, i, μ, q, hi, e => by
    rw [sp_pits] at e
    split at e
    · rename_i k1
      have h1 := nx_i hT hi k1 (by decide) (by decide)
      split at e
      · cases e
      · split at e
        · rename_i k2
          cases e
          exact nx_i hT h1 k2 (by decide) (by decide)
        · exact sgpits_i hT f _ _ q h1 e
    · cases e
theorem sgrows_i (hT : TG2 t m) : ∀ (f i : Nat) (μ : pm_T) (q : Nat × pm_T), i < m → sp_rows t f i μ = .inr q → q.1 < m
  | 0, _, _, _, _, e => by rw [sp_rows] at e; cases e
  | f + 1, i, μ, q, hi, e => by
    rw [sp_rows] at e
    split at e
    · rename_i k1
      have h1 := nx_i hT hi k1 (by decide) (by decide)
      split at e
      · obtain ⟨a, ea, e⟩ := bnd_r e
        split at e
        · rename_i k2
          cases e
          exact nx_i hT h1 k2 (by decide) (by decide)
        · exact sgrows_i hT f _ _ q h1 e
      · cases e
    · cases e
theorem sgrule_i {i : Nat} {μ : pm_T} {q : Nat × pm_T} (hT : TG2 t m) (hi : i + 1 < m) (e : sp_rule t i μ = .inr q) : q.1 < m := by
  unfold sp_rule at e
  split at e
  · obtain ⟨a, ea, e⟩ := bnd_r e
    obtain ⟨b, eb, e⟩ := bnd_r e
    obtain ⟨c, ec, e⟩ := bnd_r e
    have h2 := nx_i hT hi (name_i ea) (by decide) (by decide)
    have h3 := nx_i hT h2 (take_i eb) (by decide) (by decide)
    have h4 := nx_i hT h3 (name_i ec) (by decide) (by decide)
    split at e
    · rename_i k4
      have h5 := nx_i hT h4 k4 (by decide) (by decide)
      obtain ⟨d, ed, e⟩ := bnd_r e
      obtain ⟨f, ef, e⟩ := bnd_r e
      cases e
      exact nx_i hT h5 (take_i ef) (by decide) (by decide)
    · obtain ⟨d, ed, e⟩ := bnd_r e
      cases e
      exact nx_i hT h4 (take_i ed) (by decide) (by decide)
  · cases e
/-- signs of the sounds of a voice -/
def Sg (π : pm_T) : Prop := ∀ j, π 17 j ≤ 2 * π 5 j
theorem Sg_c {π π' : pm_T} (H : Sg π) (e : ∀ j, π' 17 j = π 17 j ∧ π' 5 j = π 5 j) : Sg π' := fun j => by
  rw [(e j).1, (e j).2]
  exact H j
theorem Sg_u {π : pm_T} {a k : Nat} {z : Int} (H : Sg π) (h1 : a ≠ 17) (h2 : a ≠ 5) : Sg (up2 π a k z) := Sg_c H (fun j => ⟨up2_o (by omega), up2_o (by omega)⟩)
theorem Sg_snd0 {π : pm_T} (H : Sg π) : Sg (snd0 π) := fun j => by
  unfold snd0
  by_cases c : j = sz π
  · subst c
    rw [up2_o (by omega), up2_at, up2_o (by omega), up2_o (by omega), up2_at]
    decide
  · rw [up2_o (by omega), up2_o (by omega), up2_o (by omega), up2_o (by omega), up2_o (by omega), up2_o (by omega)]
    exact H j
theorem Sg_adm {i : Nat} {π π' : pm_T} (H : Sg π) (e : sp_adm t i π = .inr π') : Sg π' ∧ sz π' = sz π ∧ ∀ k, π' 5 k = π 5 k := by
  unfold sp_adm at e
  split at e
  · cases e
    exact ⟨Sg_u H (by decide) (by decide), sz_up (by omega), fun k => up2_o (by omega)⟩
  · cases e
theorem Sg_pch {i n : Nat} {π : pm_T} (H : Sg π) (h5 : π 5 (sz π) = (n : Int)) (hn : n ≤ 3) (hg : sgt t i ≤ 2) : Sg (pch t i (sgt t i) π) := fun j => by
  by_cases c : j = sz π
  · subst c
    have := H (sz π)
    rw [pch_17, pch_5]
    omega
  · rw [pch_o h5 (by omega) (Or.inl c), pch_o h5 (by omega) (Or.inl c)]
    exact H j
theorem chord_i (hT : TG2 t m) : ∀ (f i n : Nat) (π : pm_T) (q : Nat × pm_T), i < m → Sg π → π 5 (sz π) = (n : Int) → n ≤ 4 → sp_chord t f i π = .inr q → q.1 < m ∧ Sg q.2
  | 0, _, _, _, _, _, _, _, _, e => by rw [sp_chord] at e; cases e
  | f + 1, i, n, π, q, hi, H, h5, hn, e => by
    rw [sp_chord] at e
    split at e
    · rename_i k1
      have h1 := nx_i hT hi k1 (by decide) (by decide)
      split at e
      · cases e
      · rename_i n4
        split at e
        · cases e
        · obtain ⟨π1, ea, e⟩ := bnd_r e
          obtain ⟨H1, s1, g1⟩ := Sg_adm H ea
          have h51 : π1 5 (sz π1) = (n : Int) := by rw [g1, s1]; exact h5
          have H2 := Sg_pch (t := t) (i := i) H1 h51 (by omega) (hT.2 i hi k1)
          split at e
          · rename_i k2
            cases e
            exact ⟨nx_i hT h1 k2 (by decide) (by decide), H2⟩
          · refine chord_i hT f (i + 1) (n + 1) _ q h1 H2 ?_ (by omega) e
            rw [sz_pch, pch_5, h51]
            omega
    · cases e
theorem sound_i {i : Nat} {π : pm_T} {q : Nat × pm_T} (hT : TG2 t m) (hi : i < m) (hk : tK t i = 258 ∨ tK t i = 266 ∨ tK t i = 60) (H : Sg π) (e : sp_sound t i π = .inr q) : q.1 < m ∧ Sg q.2 := by
  have h1 : i + 1 < m := hT.1 i hi ⟨by omega, by omega⟩
  have v5 : snd0 π 5 (sz (snd0 π)) = 0 := by
    have es : sz (snd0 π) = sz π := by unfold snd0; rw [sz_up (by omega), sz_up (by omega), sz_up (by omega)]
    rw [es]
    unfold snd0
    rw [up2_o (by omega), up2_o (by omega), up2_at]
  unfold sp_sound at e
  split at e
  · obtain ⟨π1, ea, e⟩ := bnd_r e
    cases e
    exact ⟨h1, (Sg_adm (Sg_snd0 H) ea).1⟩
  · split at e
    · rename_i k1
      obtain ⟨π1, ea, e⟩ := bnd_r e
      cases e
      obtain ⟨H1, s1, g1⟩ := Sg_adm (Sg_snd0 H) ea
      exact ⟨h1, Sg_pch (n := 0) H1 (by rw [g1, s1, v5]; rfl) (by decide) (hT.2 i hi k1)⟩
    · exact chord_i hT 5 (i + 1) 0 _ q h1 (Sg_snd0 H) (by rw [v5]; rfl) (by decide) e
theorem dots_i (hT : TG2 t m) : ∀ (f i : Nat) (d : Int) (q : Nat × Int), i < m → sp_dots t f i d = .inr q → q.1 < m
  | 0, _, _, _, _, e => by rw [sp_dots] at e; cases e
  | f + 1, i, d, q, hi, e => by
    rw [sp_dots] at e
    split at e
    · rename_i k1
      split at e
      · cases e
      · exact dots_i hT f _ _ q (nx_i hT hi k1 (by decide) (by decide)) e
    · cases e; exact hi
theorem Sg_addE {π : pm_T} {n d w : Int} (H : Sg π) : Sg (addE π n d w) := by
  unfold addE
  exact Sg_u (Sg_u (Sg_u (Sg_u (Sg_u (Sg_u (Sg_u (Sg_u H (by decide) (by decide)) (by decide) (by decide)) (by decide) (by decide)) (by decide) (by decide)) (by decide) (by decide)) (by decide) (by decide)) (by decide) (by decide)) (by decide) (by decide)
theorem Sg_addP {π : pm_T} {k a b : Int} (H : Sg π) : Sg (addP π k a b) := by
  unfold addP
  exact Sg_u (Sg_u (Sg_u (Sg_u (Sg_u H (by decide) (by decide)) (by decide) (by decide)) (by decide) (by decide)) (by decide) (by decide)) (by decide) (by decide)
theorem Sg_opn {π : pm_T} (H : Sg π) : Sg (opn π) := by
  unfold opn
  exact Sg_u (Sg_u (Sg_u H (by decide) (by decide)) (by decide) (by decide)) (by decide) (by decide)
theorem Sg_addM {π : pm_T} {k : Int} (H : Sg π) : Sg (addM π k) := by
  have H1 : Sg (mrk π) := by
    unfold mrk
    exact Sg_u (Sg_u H (by decide) (by decide)) (by decide) (by decide)
  unfold addM
  split
  · exact Sg_addP H1
  · exact Sg_u (Sg_addP H1) (by decide) (by decide)
theorem event_i {i : Nat} {π : pm_T} {q : Nat × pm_T} (hT : TG2 t m) (hi : i < m) (hk : tK t i = 258 ∨ tK t i = 266 ∨ tK t i = 60) (H : Sg π) (e : sp_event t i π = .inr q) : q.1 < m ∧ Sg q.2 := by
  unfold sp_event at e
  obtain ⟨a, ea, e⟩ := bnd_r e
  obtain ⟨n, en, e⟩ := bnd_r e
  obtain ⟨d, ed, e⟩ := bnd_r e
  obtain ⟨h1, H1⟩ := sound_i hT hi hk H ea
  have h2 := nx_i hT h1 (num_i en) (by decide) (by decide)
  have h3 := dots_i hT _ _ _ _ h2 ed
  split at e
  · rename_i k1
    split at e
    · cases e
    · cases e
      exact ⟨nx_i hT h3 k1 (by decide) (by decide), Sg_addE H1⟩
  · cases e
    exact ⟨h3, Sg_addE H1⟩
theorem mkb_k {π : pm_T} {K : Int} (h : mkb π K = true) : K = 58 ∨ K = 93 ∨ K = 125 := by
  unfold mkb at h
  simp only [Bool.and_eq_true, Bool.or_eq_true, beq_iff_eq, decide_eq_true_eq] at h
  omega
theorem part_i {i : Nat} {π : pm_T} {q : Nat × pm_T} (hT : TG2 t m) (hi : i < m) (H : Sg π) (e : sp_part t i π = .inr q) : q.1 < m ∧ Sg q.2 := by
  unfold sp_part at e
  split at e
  · rename_i k1
    cases e
    have := mkb_k k1
    exact ⟨hT.1 i hi ⟨by omega, by omega⟩, Sg_addM H⟩
  split at e
  · rename_i k1
    split at e
    · exact event_i hT hi k1 H e
    · cases e
  split at e
  · rename_i k1
    split at e
    · cases e
      exact ⟨nx_i hT hi k1 (by decide) (by decide), Sg_addP H⟩
    · cases e
  split at e
  · rename_i k1
    split at e
    · cases e
      exact ⟨nx_i hT hi k1 (by decide) (by decide), Sg_addP (Sg_opn H)⟩
    · cases e
  split at e
  · rename_i k1
    split at e
    · unfold sp_times at e
      obtain ⟨a, ea, e⟩ := bnd_r e
      obtain ⟨b, eb, e⟩ := bnd_r e
      obtain ⟨c, ec, e⟩ := bnd_r e
      obtain ⟨d, ed, e⟩ := bnd_r e
      cases e
      have h1 := nx_i hT hi k1 (by decide) (by decide)
      have h2 := nx_i hT h1 (num_i ea) (by decide) (by decide)
      have h3 := nx_i hT h2 (take_i eb) (by decide) (by decide)
      have h4 := nx_i hT h3 (num_i ec) (by decide) (by decide)
      exact ⟨nx_i hT h4 (take_i ed) (by decide) (by decide), Sg_addP (Sg_opn H)⟩
    · cases e
  · cases e
theorem sgparts_i (hT : TG2 t m) : ∀ (f i : Nat) (π : pm_T) (q : Nat × pm_T), i < m → Sg π → sp_parts t f i π = .inr q → (q.1 < m ∧ Sg q.2) ∧ tK t q.1 = 59
  | 0, _, _, _, _, _, e => by rw [sp_parts] at e; cases e
  | f + 1, i, π, q, hi, H, e => by
    rw [sp_parts] at e
    split at e
    · rename_i k1
      cases e
      exact ⟨⟨hi, H⟩, k1.1⟩
    · obtain ⟨a, ea, e⟩ := bnd_r e
      obtain ⟨h1, H1⟩ := part_i hT hi H ea
      exact sgparts_i hT f _ _ q h1 H1 e
/-- signs of the events of all voices -/
def SG (μ : pm_T) : Prop := ∀ n k : Nat, μ (100 + 40 * n + 9) k ≤ 2 * μ (100 + 40 * n + 4) k
theorem SG_k {μ μ' : pm_T} (H : SG μ) (k : kr μ μ') : SG μ' := fun n j => by
  rw [k.2.1 _ _ (by omega), k.2.1 _ _ (by omega)]
  exact H n j
theorem SG_new {μ π α : pm_T} (H : SG μ) (S : Sg π) (h4 : (μ 0 7).toNat ≤ 4) : SG (addV μ π α) := fun n k => by
  by_cases c : n = (μ 0 7).toNat
  · rw [addV_i c (by decide), addV_i c (by decide)]
    exact S _
  · have r : ∀ w, w < 40 → addV μ π α (100 + 40 * n + w) k = μ (100 + 40 * n + w) k := fun w hw => by
      unfold addV
      rw [if_neg (by omega), if_neg (by omega), if_neg (by omega), if_neg (by omega)]
    rw [r 9 (by decide), r 4 (by decide)]
    exact H n k
theorem sg_items (hT : TG2 t m) : ∀ (f i : Nat) (μ ν : pm_T), i < m → sp_items t f i μ = .inr ν → SG μ → SG ν
  | 0, _, _, _, _, h, _ => by rw [sp_items] at h; cases h
  | f + 1, i, μ, ν, hi, h, H => by
    rw [sp_items] at h
    split at h
    · cases h; exact H
    · obtain ⟨q, eq, h⟩ := bnd_r h
      suffices x : q.1 < m ∧ SG q.2 from sg_items hT f _ _ _ x.1 h x.2
      clear h
      split at eq
      · rename_i k1
        exact ⟨sgtime_i hT (nx_i hT hi k1 (by decide) (by decide)) eq, SG_k H (time_k eq)⟩
      · split at eq
        · rename_i k1
          have h1 := nx_i hT hi k1 (by decide) (by decide)
          unfold sp_voice at eq
          split at eq
          · rename_i c4
            obtain ⟨a, ea, eq⟩ := bnd_r eq
            obtain ⟨⟨h2, S⟩, k2⟩ := sgparts_i hT _ _ _ _ h1 (fun j => by show (0 : Int) ≤ 2 * 0; decide) ea
            split at eq
            · cases eq
            · split at eq
              · cases eq
                exact ⟨nx_i hT h2 k2 (by decide) (by decide), SG_new H S (by omega)⟩
              · cases eq
          · cases eq
        · split at eq
          · rename_i k1
            have h1 := nx_i hT hi k1 (by decide) (by decide)
            refine ⟨?_, SG_k H (line_k eq)⟩
            unfold sp_line at eq
            split at eq
            · exact sgpits_i hT _ _ _ _ h1 eq
            · cases eq
          · split at eq
            · rename_i k1
              exact ⟨sgrule_i hT (nx_i hT hi k1 (by decide) (by decide)) eq, SG_k H (rule_k eq)⟩
            · split at eq
              · rename_i k1
                have h1 := nx_i hT hi k1 (by decide) (by decide)
                refine ⟨?_, SG_k H (row_k eq)⟩
                unfold sp_row at eq
                split at eq
                · exact sgrows_i hT _ _ _ _ h1 eq
                · cases eq
              · cases eq
end
theorem SG_of {μ : pm_T} (H : OKm μ) : SG μ := by
  have h0 : SG sco0 := fun n k => by
    unfold sco0
    rw [up2_o (by omega), up2_o (by omega), up2_o (by omega), up2_o (by omega)]
    decide
  rcases H with ⟨X, hX, e⟩ | rfl
  · exact sg_items (XA_g2 hX) _ _ _ _ hX.2.2.2.2 e h0
  · exact h0

/-! ===== all widths of a page together ===== -/
def DA (μ : pm_T) (k : Nat) : Nat → Int
  | 0 => 0
  | n + 1 => DA μ k n + (brE μ n k : Int)
def DW (μ : pm_T) (k : Nat) : Int := 10 * (k : Int) + 32 * DA μ k (μ 0 7).toNat
section
variable {μ : pm_T} {b : Nat}
theorem DA_b (GG : GM μ) : ∀ n : Nat, (n : Int) ≤ μ 0 7 → 0 ≤ DA μ b n ∧ DA μ b n ≤ 300 * (n : Int) ∧ DA μ b n ≤ DA μ (b + 1) n
  | 0, _ => by rw [DA, DA]; omega
  | n + 1, h => by
    have ih := DA_b GG n (by omega)
    have e := brE_b GG (b := b) (n := n) (by omega)
    have em := brE_m GG (b := b) (n := n) (by omega)
    have m := (GG.2.2 n (by omega)).1
    rw [DA, DA]
    omega
theorem sgV_8 {n : Nat} (GG : GM μ) (S : SG μ) (hn : (n : Int) < μ 0 7) : ∀ k : Nat, ((brE μ n b + k : Nat) : Int) ≤ μ (10 + n) 0 → sgV μ b n k ≤ 8 * (k : Int)
  | 0, _ => by rw [sgV]; omega
  | k + 1, hk => by
    have ih := sgV_8 GG S hn k (by omega)
    have M := ((GG.2.2 n hn).2.2.2.1 (brE μ n b + k) (by omega)).1
    have := S n (brE μ n b + k)
    rw [sgV]
    omega
theorem sgT_8 {n : Nat} (GG : GM μ) (S : SG μ) (hn : (n : Int) < μ 0 7) : sgT μ b n ≤ 8 * ((brE μ n (b + 1) : Int) - brE μ n b) := by
  have e1 := brE_b GG (b := b + 1) hn
  have em := brE_m GG (b := b) hn
  unfold sgT
  split
  · have := sgV_8 GG S hn (b := b) (brE μ n (b + 1) - brE μ n b) (by omega)
    omega
  · omega
theorem Nf_1 {n : Nat} (GG : GM μ) (hn : (n : Int) < μ 0 7) : (Nf μ b n (ptr0 μ b n) : Int) ≤ (brE μ n (b + 1) : Int) - brE μ n b := by
  have em := brE_m GG (b := b) hn
  have l := rkC_l (F := Fst μ b n) (t := tnd μ b n) (tnd μ b n - ptr0 μ b n)
  unfold Nf
  by_cases c : (b : Int) < μ (10 + n) 1
  · have e1 : tnd μ b n = brE μ n (b + 1) := by unfold tnd; rw [dif_t ⟨hn, c⟩]
    have e2 : ptr0 μ b n = brE μ n b := by unfold ptr0; rw [if_pos ⟨hn, c⟩]
    rw [e1, e2] at l ⊢
    omega
  · have e1 : tnd μ b n = 0 := by unfold tnd; rw [dif_f (fun q => c q.2)]
    rw [e1] at l ⊢
    omega
theorem ac_8 (GG : GM μ) (S : SG μ) : ∀ n : Nat, (n : Int) ≤ μ 0 7 → 8 * (acN μ b n : Int) + 3 * sgA μ b n ≤ 32 * (DA μ (b + 1) n - DA μ b n)
  | 0, _ => by rw [acN, sgA, DA, DA]; decide
  | n + 1, h => by
    have ih := ac_8 GG S n (by omega)
    have a := Nf_1 GG (b := b) (n := n) (by omega)
    have t := sgT_8 GG S (b := b) (n := n) (by omega)
    have em := brE_m GG (b := b) (n := n) (by omega)
    rw [acN, sgA, DA, DA]
    omega
theorem wdt_D (GG : GM μ) (S : SG μ) : 0 ≤ wdt μ b ∧ wdt μ b ≤ DW μ (b + 1) - DW μ b := by
  have b7 := GG.1.1
  have x := ac_8 GG S (b := b) (μ 0 7).toNat (by omega)
  have y := sgA_b GG (b := b) (μ 0 7).toNat (by omega)
  rw [acN_4 GG] at x
  unfold wdt DW
  omega
theorem DW_b (GG : GM μ) : 0 ≤ DW μ b ∧ DW μ b ≤ 10 * (b : Int) + 38400 := by
  have b7 := GG.1.1
  have x := DA_b GG (b := b) (μ 0 7).toNat (by omega)
  unfold DW
  omega
end

/-! ===== page, the class: THE BEST LINES ===== -/
def GLp (l : List Int) (h : ah_T) : Prop := h.2.1 150 1 = (l.length : Int) ∧ ∀ (k : Nat) (v : Int), l[k]? = some v → h.2.1 151 k = v
abbrev JWp : Nat → Nat → Prop := fun a k => (a = 150 ∧ k = 1) ∨ (151 ≤ a ∧ a ≤ 157)
abbrev JWf : Nat → Nat → Prop := fun a _ => a = 153 ∨ a = 154
theorem JWp_43 : ∀ a k, JWp a k → 143 ≤ a := by
  intro a k w
  rcases w with w | w <;> omega
theorem JWg_p {h h' : ah_T} (f : fr JWg h h') : fr JWp h h' := fr_w f (fun a k w => by rcases w with w | w | w <;> omega)
theorem JWf_p {h h' : ah_T} (f : fr JWf h h') : fr JWp h h' := fr_w f (fun a k w => by rcases w with w | w <;> omega)
def BTl (wd : Nat → Int) (w : Int) (z r : Nat) (h : ah_T) : Prop := ∀ k, k ≤ r → h.2.2.1 153 (z - k) = leaL wd w z k ∧ (1 ≤ k → h.2.1 154 (z - k) = takL wd w z k)
/-- what is known of the widths -/
def WDs (wd D : Nat → Int) (z : Nat) : Prop := (∀ i, 0 ≤ wd i ∧ wd i ≤ D (i + 1) - D i) ∧ ∀ i, 0 ≤ D i ∧ (i ≤ z → D i ≤ 39000)
section
variable {G : cx_T} {s c : Nat} {h : ah_T} {μ : pm_T} {wd D : Nat → Int} {w : Int} {z r : Nat}
theorem j_from (hb0 : hb s h) (hw : 1 ≤ w ∧ w ≤ 1000) (hz : z ≤ 14) (hr : r < z) (hD : WDs wd D z) (Wd : ∀ b, b < z → h.2.1 152 b = wd b) (T : BTl wd w z r h) : con G 1 0 0 m_Page_findFrom [av_R (some 150), av_I ((z - (r + 1) : Nat) : Int), av_I (z : Int), av_I w] h (fun r' h' => r' = none ∧ hb s h' ∧ fr JWf h h' ∧ BTl wd w z (r + 1) h') := by
  generalize ha : z - (r + 1) = a
  have hW : ∀ k, k < r + 1 → 0 ≤ leaL wd w z k := fun k hk => (leaL_b ⟨by omega, hw.2⟩ hD.1 hD.2 k (by omega)).1
  have da := hD.2 a
  have da1 := hD.2 (a + 1)
  have ic := innL_c (wd := wd) (W := leaL wd w z) (w := w) (a := a) (r := r + 1) (by omega) ⟨by omega, hw.2⟩ hD.1 (by omega) hW
  have ib := innL_b (wd := wd) (W := leaL wd w z) (w := w) (a := a) (r := r + 1) (by omega)
  have lb : ∀ k, k ≤ r → 0 ≤ leaL wd w z k ∧ leaL wd w z k ≤ 2000000000 := fun k hk => by
    have x := leaL_b (w := w) ⟨by omega, hw.2⟩ hD.1 hD.2 k (by omega)
    have y := hD.2 z
    have y2 := hD.2 (z - k)
    omega
  have lr := lb r (Nat.le_refl _)
  have lef : ∀ k, a + k ≤ z → -40000 ≤ lefL wd w a k ∧ lefL wd w a k ≤ 1000 := fun k hk => by
    have x := lefL_D (w := w) (a := a) hD.1 k
    have y := lefL_le (w := w) (a := a) (fun i => (hD.1 i).1) k
    have y2 := hD.2 (a + k)
    omega
  have l53 : ∀ (v4 v6 : Int) (hh : ah_T), hb s hh → (fr JWf h hh ∧ BTl wd w z r hh ∧ ∃ k : Nat, v6 = (k : Int) + 2 ∧ k ≤ r ∧ v4 = lefL wd w a (k + 1) ∧ hh.2.2.1 153 a = (innL wd w (leaL wd w z) a (r + 1) k).1 ∧ hh.2.1 154 a = (innL wd w (leaL wd w z) a (r + 1) k).2) → aw G (rm_R 1 0 0) m_Page_findFrom 0 0 53 [some (av_R (some 150)), some (av_I (a : Int)), some (av_I (z : Int)), none, some (av_L v4), none, some (av_I v6), none, none] [] hh (fun r' h' => r' = none ∧ hb s h' ∧ fr JWf h h' ∧ BTl wd w z (r + 1) h') := by
    refine lp_Page_findFrom_53 (a3 := w) _ (fun _ v6 _ => (20 - v6).toNat) ?_
    rintro v4 v6 hh hb1 ⟨f, T1, k, rfl, kr, rfl, c3, c4⟩
    unfold B_Page_findFrom_53
    have out : innL wd w (leaL wd w z) a (r + 1) 13 = innL wd w (leaL wd w z) a (r + 1) k → (none : Option av_T) = none ∧ hb s hh ∧ fr JWf h hh ∧ BTl wd w z (r + 1) hh := fun eq => by
      refine ⟨rfl, hb1, f, fun k' hk' => ?_⟩
      by_cases ck : k' = r + 1
      · subst ck
        unfold leaL takL
        rw [tabL_s, ha, eq]
        exact ⟨c3, fun _ => c4⟩
      · exact T1 k' (by omega)
    refine ⟨⟨by omega, by omega⟩, fun q => out (innL_e (fun i => (hD.1 i).1) 13 (by omega) (Or.inl (by omega))), fun q => ⟨⟨by omega, by omega⟩, by omega, fun x4 e4 _ _ => ?_⟩⟩
    have ex : x4 = wd (a + (k + 1)) := by
      rw [e4, show ((a : Int) + ((k : Int) + 2) - 1).toNat = a + (k + 1) by omega, fr_g f (by omega)]
      exact Wd _ (by omega)
    subst ex
    have eS : lefL wd w a (k + 1) - wd (a + (k + 1)) = lefL wd w a (k + 2) := rfl
    rw [eS]
    have l2 := lef (k + 2) (by omega)
    refine ⟨⟨by omega, by omega⟩, fun q2 => ⟨by omega, fun x9 e9 _ _ => ?_⟩, fun q2 => out (innL_e (fun i => (hD.1 i).1) 13 (by omega) (Or.inr (by omega)))⟩
    have ex : x9 = leaL wd w z (r + 1 - (k + 2)) := by
      rw [e9, show ((a : Int) + ((k : Int) + 2)).toNat = z - (r + 1 - (k + 2)) by omega]
      exact (T1 _ (by omega)).1
    subst ex
    have wk := lb (r + 1 - (k + 2)) (by omega)
    have inS : innL wd w (leaL wd w z) a (r + 1) (k + 1) = if k + 2 ≤ r + 1 ∧ 0 ≤ lefL wd w a (k + 2) ∧ leaL wd w z (r + 1 - (k + 2)) + lnC (lefL wd w a (k + 2)) (decide (r + 1 = k + 2)) ≤ (innL wd w (leaL wd w z) a (r + 1) k).1 then (leaL wd w z (r + 1 - (k + 2)) + lnC (lefL wd w a (k + 2)) (decide (r + 1 = k + 2)), ((k + 2 : Nat) : Int)) else innL wd w (leaL wd w z) a (r + 1) k := rfl
    have tel : ∀ fl : Int, decide (fl ≠ 0) = decide (r + 1 = k + 2) → B_Page_findFrom_110 G s (a : Int) (z : Int) w (lefL wd w a (k + 2)) ((k : Int) + 2) (leaL wd w z (r + 1 - (k + 2))) (lefL wd w a (k + 2)) fl hh (fun r' h' => r' = none ∧ hb s h' ∧ fr JWf h h' ∧ BTl wd w z (r + 1) h') (fun v4' v6' h' => (fr JWf h h' ∧ BTl wd w z r h' ∧ ∃ k' : Nat, v6' = (k' : Int) + 2 ∧ k' ≤ r ∧ v4' = lefL wd w a (k' + 1) ∧ h'.2.2.1 153 a = (innL wd w (leaL wd w z) a (r + 1) k').1 ∧ h'.2.1 154 a = (innL wd w (leaL wd w z) a (r + 1) k').2) ∧ (20 - v6').toNat < (20 - ((k : Int) + 2)).toNat) := by
      intro fl efl
      have lc := lnC_b (l := lefL wd w a (k + 2)) (x := 0) (q := decide (r + 1 = k + 2)) (by omega) (by omega) (by omega) (by omega)
      unfold B_Page_findFrom_110 B_Page_findFrom_144
      refine con_mono (j_lineCost hb1 (by omega)) ?_
      rintro r2 h2 ⟨rfl, hb2, rfl⟩
      rw [efl]
      refine ⟨_, rfl, hb2, ⟨by omega, by omega⟩, by omega, fun x6 e6 _ _ => ?_⟩
      rw [tn_c] at e6
      obtain rfl := e6.trans c3
      refine ⟨fun q3 => ⟨⟨by omega, by omega⟩, ⟨f, T1, k + 1, by omega, by omega, rfl, ?_, ?_⟩, by omega⟩, fun q3 h10 e10 h13 e13 => ⟨⟨by omega, by omega⟩, ⟨?_, fun k' hk' => ?_, k + 1, by omega, by omega, rfl, ?_, ?_⟩, by omega⟩⟩
      · rw [inS, if_neg (fun x => by have := x.2.2; omega)]; exact c3
      · rw [inS, if_neg (fun x => by have := x.2.2; omega)]; exact c4
      · exact fr_l (fr_i f e10 (by omega)) e13 (by omega)
      · rw [tn_c] at e10 e13
        rw [mm_l e13 (by omega), mm_lo e13, mm_io e10, mm_i e10 (by omega)]
        exact T1 k' hk'
      · rw [inS, if_pos ⟨by omega, by omega, by omega⟩]
        rw [tn_c] at e13
        exact mv_l e13
      · rw [inS, if_pos ⟨by omega, by omega, by omega⟩]
        rw [tn_c] at e10
        rw [mm_lo e13, mv_i e10]
        dsimp only
        omega
    refine ⟨fun q3 => tel 1 ?_, fun q3 => tel 0 ?_⟩
    · rw [decide_eq_true (show (1 : Int) ≠ 0 by decide), decide_eq_true (show r + 1 = k + 2 by omega)]
    · rw [decide_eq_false (show ¬ (0 : Int) ≠ 0 by decide), decide_eq_false (show ¬ r + 1 = k + 2 by omega)]
  refine c_Page_findFrom l53 hb0 (fun _ _ _ => ?_)
  unfold B_Page_findFrom_0
  refine ⟨by omega, fun x2 e2 _ _ => ?_⟩
  rw [tn_c] at e2
  obtain rfl := e2.trans (Wd a (by omega))
  have e1 : w - wd a = lefL wd w a 1 := rfl
  have l1 := lef 1 (by omega)
  rw [e1]
  have in0 : innL wd w (leaL wd w z) a (r + 1) 0 = (leaL wd w z (r + 1 - 1) + lnC (lefL wd w a 1) (decide (r + 1 = 1)), 1) := rfl
  have lc := lnC_b (l := lefL wd w a 1) (x := 40000) (q := decide (r + 1 = 1)) (by omega) (by omega) (by omega) (by omega)
  refine ⟨⟨by omega, by omega⟩, by omega, fun h7 e7 => ⟨⟨by omega, by omega⟩, by omega, fun x12 e12 _ _ => ?_⟩⟩
  rw [tn_c] at e7
  have ex : x12 = leaL wd w z r := by
    rw [e12, mm_io e7, show ((a : Int) + 1).toNat = z - r by omega]
    exact (T r (Nat.le_refl _)).1
  subst ex
  have tel : ∀ fl : Int, decide (fl ≠ 0) = decide (r + 1 = 1) → B_Page_findFrom_45 G s (a : Int) (z : Int) w (lefL wd w a 1) (a : Int) (leaL wd w z r) (lefL wd w a 1) fl h7 (fun r' h' => r' = none ∧ hb s h' ∧ fr JWf h h' ∧ BTl wd w z (r + 1) h') (fun v4 v6 hh => fr JWf h hh ∧ BTl wd w z r hh ∧ ∃ k : Nat, v6 = (k : Int) + 2 ∧ k ≤ r ∧ v4 = lefL wd w a (k + 1) ∧ hh.2.2.1 153 a = (innL wd w (leaL wd w z) a (r + 1) k).1 ∧ hh.2.1 154 a = (innL wd w (leaL wd w z) a (r + 1) k).2) := by
    intro fl efl
    unfold B_Page_findFrom_45
    refine con_mono (j_lineCost (hb_i hb0 e7) (by omega)) ?_
    rintro r2 h2 ⟨rfl, hb2, rfl⟩
    rw [efl]
    refine ⟨_, rfl, hb2, ⟨by omega, by omega⟩, by omega, fun h6 e6 => ?_⟩
    rw [tn_c] at e6
    refine ⟨fr_l (fr_i fr_0 e7 (by omega)) e6 (by omega), fun k' hk' => ?_, 0, rfl, by omega, rfl, ?_, ?_⟩
    · rw [mm_l e6 (by omega), mm_lo e6, mm_io e7, mm_i e7 (by omega)]
      exact T k' hk'
    · rw [in0, mv_l e6]
      rfl
    · rw [in0, mm_lo e6, mv_i e7]
  refine ⟨fun q3 => tel 1 ?_, fun q3 => tel 0 ?_⟩
  · rw [decide_eq_true (show (1 : Int) ≠ 0 by decide), decide_eq_true (show r + 1 = 1 by omega)]
  · rw [decide_eq_false (show ¬ (0 : Int) ≠ 0 by decide), decide_eq_false (show ¬ r + 1 = 1 by omega)]
/-- what THE BEST LINES cost, and how many bars each has -/
noncomputable def lnv (μ : pm_T) (w : Int) : Int := dif (14 < mbr μ (μ 0 7).toNat) (-4) (leaL (wdt μ) w (mbr μ (μ 0 7).toNat).toNat (mbr μ (μ 0 7).toNat).toNat)
noncomputable def lnl (μ : pm_T) (w : Int) : List Int := grpL (wdt μ) w (mbr μ (μ 0 7).toNat).toNat (mbr μ (μ 0 7).toNat).toNat (mbr μ (μ 0 7).toNat).toNat
noncomputable def brkv (μ : pm_T) (w : Int) : Int := dif (1 ≤ w ∧ w ≤ 1000) (dif (μ 0 7 = 0) (-2) (lnv μ w)) (-1)
theorem WDs_of (GG : GM μ) (S : SG μ) (hz : z ≤ 14) : WDs (wdt μ) (DW μ) z := by
  refine ⟨fun i => wdt_D GG S, fun i => ?_⟩
  have := DW_b GG (b := i)
  omega
theorem t_Page_find (hb0 : hb s h) (H : CV μ c h) (S : SG μ) (hw : 1 ≤ w ∧ w ≤ 1000) : con G 5 0 0 m_Page_find [av_R (some 150), av_R (some c), av_I w] h (fun r h' => r = some (av_I (lnv μ w)) ∧ hb s h' ∧ fr JWp h h' ∧ (14 < mbr μ (μ 0 7).toNat → h' = h) ∧ (¬ 14 < mbr μ (μ 0 7).toNat → GLp (lnl μ w) h')) := by
  have GG := H.2.2.1
  have hc := H.1
  have m0 := mbr_0 (μ := μ) (μ 0 7).toNat
  by_cases big : 14 < mbr μ (μ 0 7).toNat
  · refine c_Page_find (X17 := fun _ _ _ => False) hc (fun _ _ _ _ x => x.elim) hb0 (fun _ => ?_)
    unfold B_Page_find_0
    refine con_mono (t_Score_mostBars hb0 hc H.2.1) ?_
    rintro r2 h2 ⟨hb2, rfl, rfl⟩
    exact ⟨_, rfl, hb2, fun q => by omega, fun _ => ⟨by unfold lnv; rw [dif_t big], hb2, fr_0, fun _ => rfl, fun x => absurd big x⟩⟩
  unfold lnv lnl
  rw [dif_f big]
  generalize eZ : (mbr μ (μ 0 7).toNat).toNat = Z
  have eM : mbr μ (μ 0 7).toNat = (Z : Int) := by omega
  rw [eM] at big ⊢
  have hZ : Z ≤ 14 := by omega
  have hD := WDs_of GG S hZ
  have lb : ∀ k, k ≤ Z → 0 ≤ leaL (wdt μ) w Z k ∧ leaL (wdt μ) w Z k ≤ 2000000000 := fun k hk => by
    have x := leaL_b (w := w) ⟨by omega, hw.2⟩ hD.1 hD.2 k (by omega)
    have y := hD.2 Z
    have y2 := hD.2 (Z - k)
    omega
  have l82 : ∀ (v3 v4 : Int) (hh : ah_T), hb s hh → (v3 = (Z : Int) ∧ fr JWp h hh ∧ BTl (wdt μ) w Z Z hh ∧ ∃ (q : Nat) (em : List Int), v4 = (Z : Int) - q ∧ q ≤ Z ∧ GLp em hh ∧ em ++ grpL (wdt μ) w Z q q = grpL (wdt μ) w Z Z Z ∧ em.length + q ≤ Z) → aw G (rm_R 5 0 0) m_Page_find 0 0 82 [some (av_R (some 150)), none, none, some (av_I v3), some (av_I v4)] [] hh (fun r h' => r = some (av_I (leaL (wdt μ) w Z Z)) ∧ hb s h' ∧ fr JWp h h' ∧ (14 < (Z : Int) → h' = h) ∧ (¬ 14 < (Z : Int) → GLp (grpL (wdt μ) w Z Z Z) h')) := by
    refine lp_Page_find_82 (a1 := c) (a2 := w) hc _ (fun _ v4 _ => (20 - v4).toNat) ?_
    rintro v3 v4 hh hb1 ⟨rfl, f, T, q, em, rfl, hq, J1, ee, el⟩
    unfold B_Page_find_82 B_Page_find_141
    have fin : q = 0 → ∀ x2 : Int, x2 = hh.2.2.1 153 0 → (-9223372036854775808) ≤ x2 → x2 ≤ 9223372036854775807 → ((-2147483648) ≤ x2 ∧ x2 ≤ 2147483647) ∧ some (av_I x2) = some (av_I (leaL (wdt μ) w Z Z)) ∧ hb s hh ∧ fr JWp h hh ∧ (14 < (Z : Int) → hh = h) ∧ (¬ 14 < (Z : Int) → GLp (grpL (wdt μ) w Z Z Z) hh) := by
      rintro rfl x2 e2 _ _
      have t := (T Z (Nat.le_refl _)).1
      rw [Nat.sub_self] at t
      have lz := lb Z (Nat.le_refl _)
      rw [e2, t]
      refine ⟨⟨by omega, by omega⟩, rfl, hb1, f, fun x => absurd x big, fun _ => ?_⟩
      rw [← ee, show grpL (wdt μ) w Z 0 0 = [] from rfl, List.append_nil]
      exact J1
    refine ⟨fun w => fin (by omega), fun w1 x1 e1 _ _ => ?_⟩
    obtain rfl := e1.trans J1.1
    have tb := takL_b (wd := wdt μ) (w := w) (z := Z) (r := q) (by omega)
    refine ⟨fun w2 => by omega, fun w2 => ⟨by omega, fun x6 e6 _ _ => ⟨by omega, fun h9 e9 => ⟨⟨by omega, by omega⟩, fun h13 e13 => ?_⟩⟩⟩⟩
    have ex6 : x6 = takL (wdt μ) w Z q := by
      rw [e6, show ((Z : Int) - q).toNat = Z - q by omega]
      exact (T q hq).2 (by omega)
    subst ex6
    rw [tn_c] at e9
    refine ⟨⟨by omega, by omega⟩, ⟨rfl, fr_i (fr_i f e9 (by omega)) e13 (by omega), fun k hk => ?_, q - (takL (wdt μ) w Z q).toNat, em ++ [takL (wdt μ) w Z q], by omega, by omega, ?_, ?_, ?_⟩, by omega⟩
    · rw [mm_io e13, mm_io e9, mm_i e13 (by omega), mm_i e9 (by omega)]
      exact T k hk
    · refine ⟨by rw [mv_i e13, List.length_append]; rfl, fun k v hk => ?_⟩
      rw [mm_i e13 (by omega)]
      by_cases ck : k = em.length
      · subst ck
        rw [List.getElem?_concat_length] at hk
        obtain rfl := Option.some.inj hk
        exact mv_i e9
      · have kl : k < em.length := by
          by_cases cc : k < em.length
          · exact cc
          · rw [List.getElem?_eq_none (by rw [List.length_append]; show em.length + 1 ≤ k; omega)] at hk
            cases hk
        rw [List.getElem?_append_left kl] at hk
        rw [mm_i e9 (by omega)]
        exact J1.2 k v hk
    · rw [List.append_assoc, ← ee, grpL_s (r := q) (by omega)]
      rfl
    · rw [List.length_append]
      show em.length + 1 + _ ≤ _
      omega
  have l55 : ∀ (v3 v4 : Int) (hh : ah_T), hb s hh → (v3 = (Z : Int) ∧ fr JWp h hh ∧ (∀ b, b < Z → hh.2.1 152 b = wdt μ b) ∧ ∃ r : Nat, r ≤ Z ∧ v4 = (Z : Int) - 1 - r ∧ BTl (wdt μ) w Z r hh) → aw G (rm_R 5 0 0) m_Page_find 0 0 55 [some (av_R (some 150)), none, some (av_I w), some (av_I v3), some (av_I v4)] [] hh (fun r h' => r = some (av_I (leaL (wdt μ) w Z Z)) ∧ hb s h' ∧ fr JWp h h' ∧ (14 < (Z : Int) → h' = h) ∧ (¬ 14 < (Z : Int) → GLp (grpL (wdt μ) w Z Z Z) h')) := by
    refine lp_Page_find_55 (a1 := c) hc l82 _ (fun _ v4 _ => (v4 + 1).toNat) ?_
    rintro v3 v4 hh hb1 ⟨rfl, f, Wd, r, hr, rfl, T⟩
    unfold B_Page_find_55
    refine ⟨fun q h1 e1 => ?_, fun q => ?_⟩
    · have : r = Z := by omega
      subst this
      refine ⟨rfl, fr_i f e1 (by omega), fun k hk => ?_, r, [], by omega, Nat.le_refl _, ⟨mv_i e1, fun k v hk => by cases hk⟩, rfl, by show 0 + _ ≤ _; omega⟩
      rw [mm_io e1, mm_i e1 (by omega)]
      exact T k hk
    · have jf := j_from (G := G) hb1 hw hZ (show r < Z by omega) hD Wd T
      rw [show ((Z - (r + 1) : Nat) : Int) = (Z : Int) - 1 - r by omega] at jf
      refine con_mono jf ?_
      rintro r2 h2 ⟨rfl, hb2, f2, T2⟩
      refine ⟨rfl, hb2, ⟨by omega, by omega⟩, ⟨rfl, fr_t f (JWf_p f2) (fun _ _ w => w), fun b hb' => ?_, r + 1, by omega, by omega, T2⟩, by omega⟩
      rw [fr_g f2 (by omega)]
      exact Wd b hb'
  refine c_Page_find (X17 := fun v3 v4 hh => v3 = (Z : Int) ∧ fr JWp h hh ∧ ∃ k : Nat, v4 = (k : Int) ∧ k ≤ Z ∧ ∀ b, b < k → hh.2.1 152 b = wdt μ b) hc ?_ hb0 (fun _ => ?_)
  · refine lp_Page_find_17 hc l55 _ (fun _ v4 _ => (20 - v4).toNat) ?_
    rintro v3 v4 hh hb1 ⟨rfl, f, k, rfl, hk, Wd⟩
    unfold B_Page_find_17
    refine ⟨fun q => ⟨by omega, fun h3 e3 => ⟨⟨by omega, by omega⟩, rfl, fr_l f e3 (by omega), fun b hb' => by rw [mm_lo e3]; exact Wd b (by omega), 0, Nat.zero_le _, by omega, fun k' hk' => ?_⟩⟩, fun q => ?_⟩
    · have : k' = 0 := by omega
      subst this
      rw [tn_c] at e3
      exact ⟨mv_l e3, fun x => by omega⟩
    · refine con_mono (t_Page_widthOf hb1 (CV_f H f JWp_43) (b := k) (by omega)) ?_
      rintro r2 h2 ⟨rfl, hb2, f2⟩
      refine ⟨_, rfl, hb2, by omega, fun h11 e11 => ⟨⟨by omega, by omega⟩, ⟨rfl, fr_i (fr_t f (JWg_p f2) (fun _ _ w => w)) e11 (by omega), k + 1, by omega, by omega, fun b hb' => ?_⟩, by omega⟩⟩
      rw [tn_c] at e11
      by_cases cb : b = k
      · subst cb
        exact mv_i e11
      · rw [mm_i e11 (by omega), fr_g f2 (by omega)]
        exact Wd b (by omega)
  · unfold B_Page_find_0
    refine con_mono (t_Score_mostBars hb0 hc H.2.1) ?_
    rintro r2 h2 ⟨hb2, rfl, rfl⟩
    rw [eM]
    exact ⟨_, rfl, hb2, fun _ => ⟨rfl, fr_0, 0, rfl, Nat.zero_le _, fun b hb' => by omega⟩, fun q => by omega⟩
theorem t_PM_breaks {s : Nat} {h : ah_T} (hb0 : hb s h) (H : CV μ (97 - s) h) (S : SG μ) : con G 6 0 0 m_PM_breaks [av_R (some 0), av_I w] h (fun r h' => r = some (av_I (brkv μ w)) ∧ hb s h' ∧ fr JWp h h' ∧ (brkv μ w < 0 → h' = h) ∧ (0 ≤ brkv μ w → GLp (lnl μ w) h')) := by
  have C := H.2.1
  have b7 := H.2.2.1.1.1
  have hl : ¬ 14 < mbr μ (μ 0 7).toNat → 1 ≤ w ∧ w ≤ 1000 → 0 ≤ lnv μ w := fun big hw => by
    have m0 := mbr_0 (μ := μ) (μ 0 7).toNat
    have hD := WDs_of H.2.2.1 S (z := (mbr μ (μ 0 7).toNat).toNat) (by omega)
    unfold lnv
    rw [dif_f big]
    exact (leaL_b (w := w) ⟨by omega, hw.2⟩ hD.1 hD.2 _ (Nat.le_refl _)).1
  refine c_PM_breaks hb0 (fun _ => ?_)
  unfold B_PM_breaks_0 B_PM_breaks_12
  have bad : ¬ (1 ≤ w ∧ w ≤ 1000) → some (av_I (-1)) = some (av_I (brkv μ w)) ∧ hb s h ∧ fr JWp h h ∧ (brkv μ w < 0 → h = h) ∧ (0 ≤ brkv μ w → GLp (lnl μ w) h) := fun q => by
    unfold brkv
    rw [dif_f q]
    exact ⟨rfl, hb0, fr_0, fun _ => rfl, fun x => absurd x (by decide)⟩
  refine ⟨fun q => bad (by omega), fun q => ⟨fun q2 x2 e2 _ _ => ?_, fun q2 => bad (by omega)⟩⟩
  obtain rfl := e2.trans C.1.1
  refine ⟨fun q3 => ?_, fun q3 => ?_⟩
  · unfold brkv
    rw [dif_t ⟨by omega, q2⟩, dif_t q3]
    exact ⟨rfl, hb0, fr_0, fun _ => rfl, fun x => absurd x (by decide)⟩
  · refine con_mono (t_Page_find hb0 H S (w := w) ⟨by omega, q2⟩) ?_
    rintro r2 h2 ⟨rfl, hb2, f2, k1, k2⟩
    have e : brkv μ w = lnv μ w := by unfold brkv; rw [dif_t ⟨by omega, q2⟩, dif_f q3]
    refine ⟨_, rfl, hb2, by rw [e], hb2, f2, fun x => k1 ?_, fun x => k2 (fun y => ?_)⟩
    · by_cases big : 14 < mbr μ (μ 0 7).toNat
      · exact big
      · have := hl big ⟨by omega, q2⟩
        omega
    · rw [e] at x
      unfold lnv at x
      rw [dif_t y] at x
      exact absurd x (by decide)
end

/-! ===== page, the reference: THE BEST LINES ===== -/
def GLq (l : List Int) (h : ah_T) : Prop := h.2.1 170 89 = (l.length : Int) ∧ ∀ (k : Nat) (v : Int), l[k]? = some v → h.2.1 228 k = v
abbrev JWq : Nat → Nat → Prop := fun a k => (a = 170 ∧ (k = 65 ∨ k = 66 ∨ k = 89)) ∨ (226 ≤ a ∧ a ≤ 228)
theorem JWq_w : ∀ a k, JWq a k → a = 170 ∨ 201 ≤ a := by
  intro a k w
  rcases w with w | w <;> omega
theorem fr_sq {h h' : ah_T} (f : fr JWs h h') : fr JWq h h' := fr_w f (fun a k w => by obtain ⟨w1, w2⟩ := w; omega)
def BTq (wd : Nat → Int) (w : Int) (z r : Nat) (h : ah_T) : Prop := ∀ k, k ≤ r → h.2.1 226 (z - k) = leaL wd w z k ∧ (1 ≤ k → h.2.1 227 (z - k) = takL wd w z k)
section
variable {G : cx_T} {s : Nat} {h : ah_T} {μ : pm_T} {w : Int}
theorem t_MD_breaks (hb0 : hb s h) (H : MV μ h) (S : SG μ) : con G 5 0 0 m_MD_breaks [av_R (some 170), av_I w] h (fun r h' => r = some (av_I (brkv μ w)) ∧ hb s h' ∧ fr JWq h h' ∧ (brkv μ w < 0 → h' = h) ∧ (0 ≤ brkv μ w → GLq (lnl μ w) h')) := by
  have GG := H.2.1
  have b7 := GG.1.1
  have m0 := mbr_0 (μ := μ) (μ 0 7).toNat
  have K0 := H.1.1.1
  have bad : ∀ v : Int, v < 0 → brkv μ w = v → some (av_I v) = some (av_I (brkv μ w)) ∧ hb s h ∧ fr JWq h h ∧ (brkv μ w < 0 → h = h) ∧ (0 ≤ brkv μ w → GLq (lnl μ w) h) := fun v q e => by
    rw [e]
    exact ⟨rfl, hb0, fr_0, fun _ => rfl, fun x => by omega⟩
  by_cases hw : 1 ≤ w ∧ w ≤ 1000
  rotate_left
  · have e1 : brkv μ w = -1 := by unfold brkv; rw [dif_f hw]
    refine c_MD_breaks (X51 := fun _ _ _ => False) (fun _ _ _ _ x => x.elim) hb0 (fun _ => ?_)
    unfold B_MD_breaks_0 B_MD_breaks_12
    exact ⟨fun _ => bad _ (by decide) e1, fun q => ⟨fun q2 => absurd ⟨by omega, q2⟩ hw, fun _ => bad _ (by decide) e1⟩⟩
  by_cases v0 : μ 0 7 = 0
  · have e1 : brkv μ w = -2 := by unfold brkv; rw [dif_t hw, dif_t v0]
    refine c_MD_breaks (X51 := fun _ _ _ => False) (fun _ _ _ _ x => x.elim) hb0 (fun _ => ?_)
    unfold B_MD_breaks_0 B_MD_breaks_12
    refine ⟨fun q => by omega, fun _ => ⟨fun _ x2 e2 _ _ => ⟨fun _ => bad _ (by decide) e1, fun q => ?_⟩, fun q => by omega⟩⟩
    exact absurd ((e2.trans K0).trans v0) q
  have e0 : brkv μ w = lnv μ w := by unfold brkv; rw [dif_t hw, dif_f v0]
  by_cases big : 14 < mbr μ (μ 0 7).toNat
  · have e1 : brkv μ w = -4 := by rw [e0]; unfold lnv; rw [dif_t big]
    refine c_MD_breaks (X51 := fun _ _ _ => False) (fun _ _ _ _ x => x.elim) hb0 (fun _ => ?_)
    unfold B_MD_breaks_0 B_MD_breaks_12
    refine ⟨fun q => by omega, fun _ => ⟨fun _ x2 e2 _ _ => ⟨fun q => absurd (e2.symm.trans q) (by rw [K0]; exact v0), fun _ => ?_⟩, fun q => by omega⟩⟩
    refine con_mono (t_MD_pageBars hb0 H.1) ?_
    rintro r2 h2 ⟨hb2, rfl, rfl⟩
    exact ⟨_, rfl, hb2, fun q => by omega, fun _ => bad _ (by decide) e1⟩
  have e1 : brkv μ w = leaL (wdt μ) w (mbr μ (μ 0 7).toNat).toNat (mbr μ (μ 0 7).toNat).toNat := by rw [e0]; unfold lnv; rw [dif_f big]
  rw [e1]
  unfold lnl
  have mb := mbr_b GG (μ 0 7).toNat (by omega)
  have wB : ∀ {hh : ah_T} {b : Nat}, hb s hh → MV μ hh → (b : Int) < mbr μ (μ 0 7).toNat → con G 4 0 0 m_MD_width [av_R (some 170), av_I (b : Int)] hh (fun r h' => r = some (av_I (wdt μ b)) ∧ hb s h' ∧ fr JWs hh h') := fun hb' H' hl => t_MD_widthB hb' H' hl (by omega)
  have pB := t_MD_pageBars (G := G) hb0 H.1
  generalize eM : mbr μ (μ 0 7).toNat = M at *
  obtain ⟨Z, rfl⟩ : ∃ Z : Nat, M = Z := ⟨M.toNat, by omega⟩
  rw [tn_c]
  have hZ : Z ≤ 14 := by omega
  have hD := WDs_of GG S hZ
  generalize wdt μ = wd at *
  generalize DW μ = D at *
  have lb : ∀ k, k ≤ Z → 0 ≤ leaL wd w Z k ∧ leaL wd w Z k ≤ 1600000000 := fun k hk => by
    have x := leaL_b (w := w) ⟨by omega, hw.2⟩ hD.1 hD.2 k (by omega)
    have y := hD.2 Z
    have y2 := hD.2 (Z - k)
    omega
  have fin0 : ∀ {hh : ah_T}, hb s hh → fr JWq h hh → hh.2.1 226 0 = leaL wd w Z Z → GLq (grpL wd w Z Z Z) hh → ∀ x2 : Int, x2 = hh.2.1 226 0 → some (av_I x2) = some (av_I (leaL wd w Z Z)) ∧ hb s hh ∧ fr JWq h hh ∧ (leaL wd w Z Z < 0 → hh = h) ∧ (0 ≤ leaL wd w Z Z → GLq (grpL wd w Z Z Z) hh) := fun hb' f t J x2 e2 => by
    have := lb Z (Nat.le_refl _)
    rw [e2, t]
    exact ⟨rfl, hb', f, fun x => by omega, fun _ => J⟩
  have l213 : ∀ (v2 v3 : Int) (hh : ah_T), hb s hh → (v2 = (Z : Int) ∧ fr JWq h hh ∧ BTq wd w Z Z hh ∧ ∃ (q : Nat) (em : List Int), v3 = (Z : Int) - q ∧ q ≤ Z ∧ GLq em hh ∧ em ++ grpL wd w Z q q = grpL wd w Z Z Z ∧ em.length + q ≤ Z) → aw G (rm_R 5 0 0) m_MD_breaks 0 0 213 [some (av_R (some 170)), none, some (av_I v2), some (av_I v3), none, none, none, none, none] [] hh (fun r h' => r = some (av_I (leaL wd w Z Z)) ∧ hb s h' ∧ fr JWq h h' ∧ (leaL wd w Z Z < 0 → h' = h) ∧ (0 ≤ leaL wd w Z Z → GLq (grpL wd w Z Z Z) h')) := by
    refine lp_MD_breaks_213 (a1 := w) _ (fun _ v3 _ => (20 - v3).toNat) ?_
    rintro v2 v3 hh hb1 ⟨rfl, f, T, q, em, rfl, hq, J1, ee, el⟩
    unfold B_MD_breaks_213
    refine ⟨fun w1 x2 e2 _ _ => ?_, fun w1 x4 e4 _ _ => ?_⟩
    · obtain rfl : q = 0 := by omega
      have t := (T Z (Nat.le_refl _)).1
      rw [Nat.sub_self] at t
      refine fin0 hb1 f t ?_ x2 e2
      rw [← ee, show grpL wd w Z 0 0 = [] from rfl, List.append_nil]
      exact J1
    obtain rfl := e4.trans J1.1
    have tb := takL_b (wd := wd) (w := w) (z := Z) (r := q) (by omega)
    refine ⟨by omega, fun x6 e6 _ _ => ⟨by omega, fun h9 e9 => ⟨⟨by omega, by omega⟩, fun h13 e13 => ?_⟩⟩⟩
    have ex6 : x6 = takL wd w Z q := by
      rw [e6, show ((Z : Int) - q).toNat = Z - q by omega]
      exact (T q hq).2 (by omega)
    subst ex6
    rw [tn_c] at e9
    refine ⟨⟨by omega, by omega⟩, ⟨rfl, fr_i (fr_i f e9 (by omega)) e13 (by omega), fun k hk => ?_, q - (takL wd w Z q).toNat, em ++ [takL wd w Z q], by omega, by omega, ?_, ?_, ?_⟩, by omega⟩
    · rw [mm_i e13 (by omega), mm_i e9 (by omega), mm_i e13 (by omega), mm_i e9 (by omega)]
      exact T k hk
    · refine ⟨by rw [mv_i e13, List.length_append]; rfl, fun k v hk => ?_⟩
      rw [mm_i e13 (by omega)]
      by_cases ck : k = em.length
      · subst ck
        rw [List.getElem?_concat_length] at hk
        obtain rfl := Option.some.inj hk
        exact mv_i e9
      · have kl : k < em.length := by
          by_cases cc : k < em.length
          · exact cc
          · rw [List.getElem?_eq_none (by rw [List.length_append]; show em.length + 1 ≤ k; omega)] at hk
            cases hk
        rw [List.getElem?_append_left kl] at hk
        rw [mm_i e9 (by omega)]
        exact J1.2 k v hk
    · rw [List.append_assoc, ← ee, grpL_s (r := q) (by omega)]
      rfl
    · rw [List.length_append]
      show em.length + 1 + _ ≤ _
      omega
  have key : ∀ (N : Nat) (v2 v3 : Int) (hh : ah_T), hb s hh → (v2 = (Z : Int) ∧ fr JWq h hh ∧ ∃ r : Nat, r ≤ Z ∧ v3 = (Z : Int) - 1 - r ∧ BTq wd w Z r hh) → (v3 + 1).toNat < N → aw G (rm_R 5 0 0) m_MD_breaks 0 0 51 [some (av_R (some 170)), some (av_I w), some (av_I v2), some (av_I v3), none, none, none, none, none] [] hh (fun r h' => r = some (av_I (leaL wd w Z Z)) ∧ hb s h' ∧ fr JWq h h' ∧ (leaL wd w Z Z < 0 → h' = h) ∧ (0 ≤ leaL wd w Z Z → GLq (grpL wd w Z Z Z) h')) := by
    intro N
    induction N with
    | zero => intro v2 v3 hh _ _ q; omega
    | succ N ih =>
      rintro v2 v3 hh hbh ⟨rfl, f, r, hr, rfl, T⟩ hN
      by_cases rL : r = Z
      · subst rL
        refine b_MD_breaks_51 (X65 := fun _ _ _ _ _ _ => False) (fun _ _ _ _ _ _ _ x => x.elim) l213 hbh ?_
        unfold B_MD_breaks_51
        refine ⟨fun _ h1 e1 => ⟨rfl, fr_i f e1 (by omega), fun k hk => ?_, r, [], by omega, Nat.le_refl _, ⟨mv_i e1, fun k v hk => by cases hk⟩, rfl, by show 0 + _ ≤ _; omega⟩, fun q => by omega⟩
        rw [mm_i e1 (by omega), mm_i e1 (by omega)]
        exact T k hk
      obtain ⟨a, ha⟩ : ∃ a : Nat, a = Z - (r + 1) := ⟨_, rfl⟩
      have hW : ∀ k, k < r + 1 → 0 ≤ leaL wd w Z k := fun k hk => (lb k (by omega)).1
      have da := hD.2 a
      have da1 := hD.2 (a + 1)
      have ic := innL_c (wd := wd) (W := leaL wd w Z) (w := w) (a := a) (r := r + 1) (by omega) ⟨by omega, hw.2⟩ hD.1 (by omega) hW
      have ib := innL_b (wd := wd) (W := leaL wd w Z) (w := w) (a := a) (r := r + 1) (by omega)
      have lr := lb r (by omega)
      have lr0 : (innL wd w (leaL wd w Z) a (r + 1) 0).1 ≤ 1600000000 := by
        have x := leaL_b (w := w) ⟨by omega, hw.2⟩ hD.1 hD.2 r (by omega)
        have y := hD.2 Z
        have y2 := (ic 0).2
        rw [show Z - r = a + 1 by omega] at x
        rw [show r + 1 - 1 = r by omega] at y2
        omega
      have in0 : innL wd w (leaL wd w Z) a (r + 1) 0 = (leaL wd w Z r + lnC (lefL wd w a 1) (decide (r + 1 = 1)), 1) := rfl
      have lef : ∀ k, a + k ≤ Z → -38999 ≤ lefL wd w a k ∧ lefL wd w a k ≤ 1000 := fun k hk => by
        have x := lefL_D (w := w) (a := a) hD.1 k
        have y := lefL_le (w := w) (a := a) (fun i => (hD.1 i).1) k
        have y2 := hD.2 (a + k)
        omega
      have e3 : (Z : Int) - 1 - r = (a : Int) := by omega
      rw [e3]
      have in65 : ∀ (v2 v3 v4 v5 v6 : Int) (h' : ah_T), hb s h' → (v2 = (Z : Int) ∧ v3 = (a : Int) ∧ fr JWq h h' ∧ BTq wd w Z r h' ∧ ∃ kk : Nat, v6 = (kk : Int) + 1 ∧ kk ≤ r + 1 ∧ v5 = w - lefL wd w a kk ∧ ((kk = 0 ∧ v4 = -2) ∨ ∃ k : Nat, kk = k + 1 ∧ h'.2.1 226 a = (innL wd w (leaL wd w Z) a (r + 1) k).1 ∧ v4 = (innL wd w (leaL wd w Z) a (r + 1) k).2)) → aw G (rm_R 5 0 0) m_MD_breaks 0 0 65 [some (av_R (some 170)), some (av_I w), some (av_I v2), some (av_I v3), some (av_I v4), some (av_I v5), some (av_I v6), none, none] [] h' (fun r h' => r = some (av_I (leaL wd w Z Z)) ∧ hb s h' ∧ fr JWq h h' ∧ (leaL wd w Z Z < 0 → h' = h) ∧ (0 ≤ leaL wd w Z Z → GLq (grpL wd w Z Z Z) h')) := by
        refine lp_MD_breaks_65 (X51 := fun v2 v3 hh => (v2 = (Z : Int) ∧ fr JWq h hh ∧ ∃ r : Nat, r ≤ Z ∧ v3 = (Z : Int) - 1 - r ∧ BTq wd w Z r hh) ∧ v3 = (a : Int) - 1) (fun v2 v3 hh hb' x => ih v2 v3 hh hb' x.1 (by have := x.2; omega)) _ (fun _ _ _ _ v6 _ => (20 - v6).toNat) ?_
        rintro v2 v3 v4 v5 v6 h' hb' ⟨rfl, rfl, f', T', kk, rfl, hkk, rfl, st⟩
        have H' := MV_f H f' JWq_w
        unfold B_MD_breaks_65
        refine ⟨⟨by omega, by omega⟩, fun q => ⟨by omega, fun h4 e4 => ⟨⟨by omega, by omega⟩, ⟨rfl, fr_i f' e4 (by omega), r + 1, by omega, by omega, fun k' hk' => ?_⟩, rfl⟩⟩, fun q => ⟨⟨by omega, by omega⟩, ?_⟩⟩
        · rw [tn_c] at e4
          rcases st with ⟨q0, -⟩ | ⟨k, qk, c8, c9⟩
          · omega
          have eq := innL_e (wd := wd) (w := w) (W := leaL wd w Z) (a := a) (r := r + 1) (k := k) (fun i => (hD.1 i).1) 13 (by omega) (Or.inl (by omega))
          by_cases ck : k' = r + 1
          · subst ck
            unfold leaL takL
            rw [tabL_s, ← ha, eq, mm_i e4 (by omega), mv_i e4]
            exact ⟨c8, fun _ => c9⟩
          · rw [mm_i e4 (by omega), mm_i e4 (by omega)]
            exact T' k' (by omega)
        rw [show (a : Int) + ((kk : Int) + 1) - 1 = ((a + kk : Nat) : Int) by omega]
        refine con_mono (wB hb' H' (b := a + kk) (by omega)) ?_
        rintro r2 h8 ⟨rfl, hb8, f8⟩
        have g8 : ∀ x k, 226 ≤ x → h8.2.1 x k = h'.2.1 x k := fun x k hx => fr_g f8 (by omega)
        have f8' : fr JWq h h8 := fr_t f' (fr_sq f8) (fun _ _ w => w)
        have T8 : BTq wd w Z r h8 := fun k' hk' => by rw [g8 _ _ (by decide), g8 _ _ (by decide)]; exact T' k' hk'
        have eL : lefL wd w a kk - wd (a + kk) = lefL wd w a (kk + 1) := rfl
        have l1 := lef (kk + 1) (by omega)
        have eV : w - (w - lefL wd w a kk) - wd (a + kk) = lefL wd w a (kk + 1) := by omega
        have eU : w - lefL wd w a kk + wd (a + kk) = w - lefL wd w a (kk + 1) := by omega
        refine ⟨_, rfl, hb8, ?_⟩
        rw [eV, eU]
        clear T' H' hb' eV eU eL
        -- the next turn, with what it found
        have nx : ∀ {v4' : Int} {h2 : ah_T}, fr JWq h h2 → BTq wd w Z r h2 → h2.2.1 226 a = (innL wd w (leaL wd w Z) a (r + 1) kk).1 → v4' = (innL wd w (leaL wd w Z) a (r + 1) kk).2 → B_MD_breaks_186 G s w (Z : Int) (a : Int) v4' (w - lefL wd w a (kk + 1)) ((kk : Int) + 1) h2 (fun r h' => r = some (av_I (leaL wd w Z Z)) ∧ hb s h' ∧ fr JWq h h' ∧ (leaL wd w Z Z < 0 → h' = h) ∧ (0 ≤ leaL wd w Z Z → GLq (grpL wd w Z Z Z) h')) (fun v2' v3' v4' v5' v6' h'' => (v2' = (Z : Int) ∧ v3' = (a : Int) ∧ fr JWq h h'' ∧ BTq wd w Z r h'' ∧ ∃ kk' : Nat, v6' = (kk' : Int) + 1 ∧ kk' ≤ r + 1 ∧ v5' = w - lefL wd w a kk' ∧ ((kk' = 0 ∧ v4' = -2) ∨ ∃ k : Nat, kk' = k + 1 ∧ h''.2.1 226 a = (innL wd w (leaL wd w Z) a (r + 1) k).1 ∧ v4' = (innL wd w (leaL wd w Z) a (r + 1) k).2)) ∧ (20 - v6').toNat < (20 - ((kk : Int) + 1)).toNat) := by
          intro v4' h2 f2 T2 c8 c9
          unfold B_MD_breaks_186
          exact ⟨⟨by omega, by omega⟩, ⟨rfl, rfl, f2, T2, kk + 1, by omega, by omega, rfl, Or.inr ⟨kk, rfl, c8, c9⟩⟩, by omega⟩
        have up : ∀ {v8 : Int}, v8 = (innL wd w (leaL wd w Z) a (r + 1) kk).1 → (kk : Int) + 1 = (innL wd w (leaL wd w Z) a (r + 1) kk).2 → B_MD_breaks_174 G s w (Z : Int) (a : Int) (w - lefL wd w a (kk + 1)) ((kk : Int) + 1) v8 h8 (fun r h' => r = some (av_I (leaL wd w Z Z)) ∧ hb s h' ∧ fr JWq h h' ∧ (leaL wd w Z Z < 0 → h' = h) ∧ (0 ≤ leaL wd w Z Z → GLq (grpL wd w Z Z Z) h')) (fun v2' v3' v4' v5' v6' h'' => (v2' = (Z : Int) ∧ v3' = (a : Int) ∧ fr JWq h h'' ∧ BTq wd w Z r h'' ∧ ∃ kk' : Nat, v6' = (kk' : Int) + 1 ∧ kk' ≤ r + 1 ∧ v5' = w - lefL wd w a kk' ∧ ((kk' = 0 ∧ v4' = -2) ∨ ∃ k : Nat, kk' = k + 1 ∧ h''.2.1 226 a = (innL wd w (leaL wd w Z) a (r + 1) k).1 ∧ v4' = (innL wd w (leaL wd w Z) a (r + 1) k).2)) ∧ (20 - v6').toNat < (20 - ((kk : Int) + 1)).toNat) := by
          intro v8 c8 c9
          unfold B_MD_breaks_174
          refine ⟨by omega, fun h3 e3 => nx (fr_i f8' e3 (by omega)) (fun k' hk' => ?_) ?_ c9⟩
          · rw [mm_i e3 (by omega), mm_i e3 (by omega)]; exact T8 k' hk'
          · rw [tn_c] at e3
            rw [mv_i e3]; exact c8
        have lk := lb (r + 1 - (kk + 1)) (by omega)
        have lc := lnC_b (l := lefL wd w a (kk + 1)) (x := 39000) (q := decide (r + 1 = kk + 1)) (by omega) (by omega) (by omega) (by omega)
        -- behind the cost of the line
        have t142 : ∀ t0 : Int, t0 = lnC (lefL wd w a (kk + 1)) (decide (r + 1 = kk + 1)) → (kk = 0 ∨ 0 ≤ lefL wd w a (kk + 1)) → B_MD_breaks_142 G s w (Z : Int) (a : Int) v4 (w - lefL wd w a (kk + 1)) ((kk : Int) + 1) t0 h8 (fun r h' => r = some (av_I (leaL wd w Z Z)) ∧ hb s h' ∧ fr JWq h h' ∧ (leaL wd w Z Z < 0 → h' = h) ∧ (0 ≤ leaL wd w Z Z → GLq (grpL wd w Z Z Z) h')) (fun v2' v3' v4' v5' v6' h'' => (v2' = (Z : Int) ∧ v3' = (a : Int) ∧ fr JWq h h'' ∧ BTq wd w Z r h'' ∧ ∃ kk' : Nat, v6' = (kk' : Int) + 1 ∧ kk' ≤ r + 1 ∧ v5' = w - lefL wd w a kk' ∧ ((kk' = 0 ∧ v4' = -2) ∨ ∃ k : Nat, kk' = k + 1 ∧ h''.2.1 226 a = (innL wd w (leaL wd w Z) a (r + 1) k).1 ∧ v4' = (innL wd w (leaL wd w Z) a (r + 1) k).2)) ∧ (20 - v6').toNat < (20 - ((kk : Int) + 1)).toNat) := by
          intro t0 et hk0
          unfold B_MD_breaks_142
          refine ⟨⟨by omega, by omega⟩, by omega, fun x3 e3 _ _ => ?_⟩
          have ex3 : x3 = leaL wd w Z (r + 1 - (kk + 1)) := by
            rw [e3, show ((a : Int) + ((kk : Int) + 1)).toNat = Z - (r + 1 - (kk + 1)) by omega]
            exact (T8 _ (by omega)).1
          subst ex3
          rcases st with ⟨rfl, rfl⟩ | ⟨k, rfl, c8, c9⟩
          · rw [show r + 1 - (0 + 1) = r by omega] at lk ⊢
            rw [show (0 : Nat) + 1 = 1 from rfl] at et
            have es : t0 + leaL wd w Z r = (innL wd w (leaL wd w Z) a (r + 1) 0).1 := by rw [in0, et]; dsimp only; omega
            have i0 := (ic 0).1
            exact ⟨⟨by omega, by omega⟩, fun _ => up es (by rw [in0]; rfl), fun q3 => absurd (show (-2 : Int) < 0 by decide) q3⟩
          · have nn : 0 ≤ lefL wd w a (k + 1 + 1) := hk0.elim (fun x => by omega) id
            have lc0 := lnC_b (l := lefL wd w a (k + 1 + 1)) (x := 0) (q := decide (r + 1 = k + 1 + 1)) (by omega) (by omega) (by omega) (by omega)
            have ibk := ib k
            have inS : innL wd w (leaL wd w Z) a (r + 1) (k + 1) = if k + 2 ≤ r + 1 ∧ 0 ≤ lefL wd w a (k + 2) ∧ leaL wd w Z (r + 1 - (k + 2)) + lnC (lefL wd w a (k + 2)) (decide (r + 1 = k + 2)) ≤ (innL wd w (leaL wd w Z) a (r + 1) k).1 then (leaL wd w Z (r + 1 - (k + 2)) + lnC (lefL wd w a (k + 2)) (decide (r + 1 = k + 2)), ((k + 2 : Nat) : Int)) else innL wd w (leaL wd w Z) a (r + 1) k := rfl
            rw [show k + 1 + 1 = k + 2 from rfl] at et lk nn lc0 ⊢
            refine ⟨⟨by omega, by omega⟩, fun q3 => by omega, fun q3 => ⟨by omega, fun x7 e7 _ _ => ?_⟩⟩
            rw [tn_c, g8 _ _ (by decide)] at e7
            obtain rfl := e7.trans c8
            refine ⟨fun q4 => nx f8' T8 ?_ ?_, fun q4 => up ?_ ?_⟩
            · rw [inS, if_neg (fun x => by have := x.2.2; omega), g8 _ _ (by decide)]; exact c8
            · rw [inS, if_neg (fun x => by have := x.2.2; omega)]; exact c9
            · rw [inS, if_pos ⟨by omega, nn, by omega⟩]; dsimp only; omega
            · rw [inS, if_pos ⟨by omega, nn, by omega⟩]; dsimp only; omega
        have t108 : (kk = 0 ∨ 0 ≤ lefL wd w a (kk + 1)) → B_MD_breaks_108 G s w (Z : Int) (a : Int) v4 (w - lefL wd w a (kk + 1)) ((kk : Int) + 1) (lefL wd w a (kk + 1)) h8 (fun r h' => r = some (av_I (leaL wd w Z Z)) ∧ hb s h' ∧ fr JWq h h' ∧ (leaL wd w Z Z < 0 → h' = h) ∧ (0 ≤ leaL wd w Z Z → GLq (grpL wd w Z Z Z) h')) (fun v2' v3' v4' v5' v6' h'' => (v2' = (Z : Int) ∧ v3' = (a : Int) ∧ fr JWq h h'' ∧ BTq wd w Z r h'' ∧ ∃ kk' : Nat, v6' = (kk' : Int) + 1 ∧ kk' ≤ r + 1 ∧ v5' = w - lefL wd w a kk' ∧ ((kk' = 0 ∧ v4' = -2) ∨ ∃ k : Nat, kk' = k + 1 ∧ h''.2.1 226 a = (innL wd w (leaL wd w Z) a (r + 1) k).1 ∧ v4' = (innL wd w (leaL wd w Z) a (r + 1) k).2)) ∧ (20 - v6').toNat < (20 - ((kk : Int) + 1)).toNat) := by
          intro hk0
          unfold B_MD_breaks_108
          refine ⟨fun q3 => ⟨⟨by omega, by omega⟩, fun q4 => t142 0 ?_ hk0, fun q4 x2 e2 => ?_⟩, fun q3 x4 e4 => ?_⟩
          · unfold lnC
            rw [if_neg (by omega), if_pos (by simp; omega)]
          · have e : x2 = lnC (lefL wd w a (kk + 1)) (decide (r + 1 = kk + 1)) := by
              unfold lnC
              rw [if_neg (by omega), if_neg (by simp; omega)]
              exact e2
            exact ⟨⟨by omega, by omega⟩, t142 x2 e hk0⟩
          · have e : x4 + 10000 = lnC (lefL wd w a (kk + 1)) (decide (r + 1 = kk + 1)) := by
              unfold lnC
              rw [if_pos (by omega), e4]
              omega
            exact ⟨⟨by omega, by omega⟩, ⟨by omega, by omega⟩, t142 _ e hk0⟩
        refine ⟨⟨by omega, by omega⟩, ⟨by omega, by omega⟩, fun q2 => t108 (Or.inr q2), fun q2 => ⟨fun q3 => t108 (Or.inl (by omega)), fun q3 => ?_⟩⟩
        rcases st with ⟨q0, -⟩ | ⟨k, rfl, c8, c9⟩
        · omega
        have inS : innL wd w (leaL wd w Z) a (r + 1) (k + 1) = innL wd w (leaL wd w Z) a (r + 1) k := by
          rw [innL, if_neg (fun x => q2 x.2.1)]
        refine nx f8' T8 ?_ ?_
        · rw [inS, g8 _ _ (by decide)]; exact c8
        · rw [inS]; exact c9
      refine b_MD_breaks_51 (X213 := fun _ _ _ => False) in65 (fun _ _ _ _ x => x.elim) hbh ?_
      unfold B_MD_breaks_51
      exact ⟨fun q => by omega, fun _ => ⟨rfl, rfl, f, T, 0, rfl, Nat.zero_le _, by show (0 : Int) = w - w; omega, Or.inl ⟨rfl, rfl⟩⟩⟩
  refine c_MD_breaks (X51 := fun v2 v3 hh => v2 = (Z : Int) ∧ fr JWq h hh ∧ ∃ r : Nat, r ≤ Z ∧ v3 = (Z : Int) - 1 - r ∧ BTq wd w Z r hh) (fun v2 v3 hh hb' x => key ((v3 + 1).toNat + 1) v2 v3 hh hb' x (Nat.lt_succ_self _)) hb0 (fun _ => ?_)
  unfold B_MD_breaks_0 B_MD_breaks_12
  refine ⟨fun q => by omega, fun _ => ⟨fun _ x2 e2 _ _ => ⟨fun q => absurd (e2.symm.trans q) (by rw [K0]; exact v0), fun _ => ?_⟩, fun q => by omega⟩⟩
  refine con_mono pB ?_
  rintro r2 h2 ⟨hb2, rfl, rfl⟩
  refine ⟨_, rfl, hb2, fun q => ⟨by omega, fun h8 e8 => ⟨⟨by omega, by omega⟩, rfl, fr_i fr_0 e8 (by omega), 0, Nat.zero_le _, by omega, fun k hk => ?_⟩⟩, fun q => by omega⟩
  have : k = 0 := by omega
  subst this
  rw [tn_c] at e8
  exact ⟨mv_i e8, fun x => by omega⟩
end

/-! ===== breaks of both ===== -/
theorem brkv_b {μ : pm_T} (GG : GM μ) (S : SG μ) {w : Int} : (-2147483648) ≤ brkv μ w ∧ brkv μ w ≤ 2147483647 := by
  unfold brkv
  by_cases c : 1 ≤ w ∧ w ≤ 1000
  · rw [dif_t c]
    by_cases c0 : μ 0 7 = 0
    · rw [dif_t c0]; decide
    · rw [dif_f c0]
      unfold lnv
      by_cases big : 14 < mbr μ (μ 0 7).toNat
      · rw [dif_t big]; decide
      · rw [dif_f big]
        have m0 := mbr_0 (μ := μ) (μ 0 7).toNat
        have hD := WDs_of GG S (z := (mbr μ (μ 0 7).toNat).toNat) (by omega)
        have x := leaL_b (w := w) ⟨by omega, c.2⟩ hD.1 hD.2 (mbr μ (μ 0 7).toNat).toNat (Nat.le_refl _)
        have y := hD.2 (mbr μ (μ 0 7).toNat).toNat
        have y2 := hD.2 ((mbr μ (μ 0 7).toNat).toNat - (mbr μ (μ 0 7).toNat).toNat)
        omega
  · rw [dif_f c]; decide
theorem e_PM_breaks {G : cx_T} {s : Nat} {h : ah_T} {μ : pm_T} {w : Int} (hx : xi s h) (hm : mi h) (C : CKn μ (97 - s) h) (R : SRq μ h) : con G 6 0 0 m_PM_breaks [av_R (some 0), av_I w] h (fun r h' => ∃ z, r = some (av_I z) ∧ ((-2147483648) ≤ z ∧ z ≤ 2147483647) ∧ kF FC s h h' ∧ z = brkv μ w ∧ SRq μ h') := by
  have hb0 := hb_xm hx hm
  have V := CV_of hx C R
  have S := SG_of R.2.2.2.1
  refine con_mono (con_conj (h2 := h) (s_PM_breaks hx) (t_PM_breaks hb0 V S)) ?_
  rintro r h' ⟨⟨z, rfl, q2, kc⟩, r2, h2, ⟨rfl, hb2, -⟩, er, -⟩
  exact ⟨z, rfl, q2, kc, cv_eq (cv_I er rfl) q2 (brkv_b V.2.2.1 S), SR_c R kc⟩
theorem e_MD_breaks {G : cx_T} {s : Nat} {h : ah_T} {μ : pm_T} {w : Int} (hx : xi s h) (hm : mi h) (hKS : KS h) (hKO : KO h) (GG : GM μ) (R : SRq μ h) : con G 5 0 0 m_MD_breaks [av_R (some 170), av_I w] h (fun r h' => ∃ z, r = some (av_I z) ∧ ((-2147483648) ≤ z ∧ z ≤ 2147483647) ∧ kM (pm [65, 66, 89] [226, 227, 228]) h h' ∧ z = brkv μ w) := by
  have hb0 := hb_xm hx hm
  have S := SG_of R.2.2.2.1
  refine con_mono (con_conj (h2 := h) (s_MD_breaks hm hKS hKO) (t_MD_breaks hb0 (MV_of GG R) S)) ?_
  rintro r h' ⟨⟨z, rfl, q2, kn⟩, r2, h2, ⟨rfl, hb2, -⟩, er, -⟩
  exact ⟨z, rfl, q2, kn, cv_eq (cv_I er rfl) q2 (brkv_b GG S)⟩

/-! ===== what holds between the law's calls ===== -/
theorem sem_eq {h h' : ah_T} (f : ∀ a, a < 170 → same3 h h' a) (H : sem h) : sem h' := by
  obtain ⟨h1, h2⟩ := H
  refine ⟨fun i hi hk => ?_, fun v hv e he => ?_⟩
  · rw [(f 9 (by decide)).1] at hi
    rw [(f 10 (by decide)).1] at hk
    rw [(f 12 (by decide)).1, (f 13 (by decide)).1]
    exact h1 i hi hk
  · have hv1 : v + 12 < 170 := by unfold isV at hv; omega
    rw [(f v (by omega)).1] at he
    rw [(f (v + 11) (by omega)).2.1, (f (v + 12) hv1).2.1]
    exact h2 v hv e he
theorem LX_m {P : Nat → Nat → Bool} {s : Nat} {h h' : ah_T} (hx : xi s h) (hk : kM P h h') : xi s h' := by
  obtain ⟨x1, x2, x3, x4, x5, x6, x7, x8⟩ := hx
  have f := hk.2.1
  refine ⟨hk.1.1, x2, ?_, ?_, ?_, fun q hq => ?_, fun a k ha => ?_, sem_eq f x8⟩
  · rw [(f 0 (by decide)).2.2]; exact x3
  · rw [(f 2 (by decide)).2.2]; exact x4
  · rw [(f 3 (by decide)).2.2]; exact x5
  · have hb : ∀ q ∈ rf_L, q.1 < 170 := by decide +kernel
    rw [(f q.1 (hb q hq)).2.2]; exact x6 q hq
  · rw [(f a ha).1]; exact x7 a k ha
theorem LM_x {s : Nat} {h h' : ah_T} (hm : mi h) (hp : PX h) (hx : xi s h') (f : ∀ a, 170 ≤ a → same3 h h' a) : mi h' ∧ PX h' ∧ h'.2.1 170 1 = h.2.1 170 1 := by
  have g : ∀ a k, 170 ≤ a → h'.2.1 a k = h.2.1 a k := fun a k ha => congrFun (f a ha).1 k
  have gl : ∀ a, 170 ≤ a → h'.2.2.1 a = h.2.2.1 a := fun a ha => (f a ha).2.1
  refine ⟨⟨hx.1, fun q hq => ?_, fun a k h1 h2 => ?_, fun a k h1 h2 => ?_⟩, PX_p hm hp ⟨LF_a ⟨fun a ha => gl a ?_, fun a ha => (f a ?_).1⟩, g 172 0 (by decide), fun k _ => ⟨g 178 k (by decide), g 179 k (by decide), g 180 k (by decide)⟩, g 177 0 (by decide), fun k _ => g 182 k (by decide), g 181 0 (by decide)⟩ (gl 231 (by decide)) (g 170 98 (by decide)) (g 170 80 (by decide)), g 170 1 (by decide)⟩
  · rw [(f 170 (by decide)).2.2]; exact hm.2.1 q hq
  · rw [g a k h1]; exact hm.2.2.1 a k h1 h2
  · rw [gl a h1]; exact hm.2.2.2 a k h1 h2
  · simp only [List.mem_cons, List.not_mem_nil, or_false] at ha; omega
  · simp only [List.mem_cons, List.not_mem_nil, or_false] at ha; omega
theorem PX_j {P : Nat → Nat → Bool} {q q' : ah_T} (H : PX q) (hx : mi q) (kn : kM P q q') (hP : SAP P) (hQ : ∀ a, a ∈ [172, 177, 178, 179, 180, 181, 182] → ∀ j, P a j = false) (p1 : ∀ j, P 231 j = false) (p2 : P 170 98 = false) (e80 : q'.2.1 170 80 ≤ 8000) : PX q' := by
  obtain ⟨h1, h2, h3, h4, -⟩ := H
  have pp := PP_k kn hP hQ
  obtain ⟨y1, y2, y3⟩ := PP_K hx pp h1 h2 h3
  exact ⟨y1, y2, y3, TP_e hx pp.2 (funext fun j => kn.2.2.2 231 j (p1 j)) (kn.2.2.1 170 98 p2) h4, e80⟩
theorem PX_r {P : Nat → Nat → Bool} {q q' : ah_T} (H : PX q) (hx : mi q) (kn : kM P q q') (hP : SAP P) (hQ : ∀ a, a ∈ [172, 177, 178, 179, 180, 181, 182] → ∀ j, P a j = false) (p3 : P 170 80 = false) (T : TP q') : PX q' := by
  obtain ⟨h1, h2, h3, -, h5⟩ := H
  obtain ⟨y1, y2, y3⟩ := PP_K hx (PP_k kn hP hQ) h1 h2 h3
  exact ⟨y1, y2, y3, T, by rw [kn.2.2.1 170 80 p3]; exact h5⟩
/-! ===== the start ===== -/
theorem hp0_s : hp_0.1 = sh_L := by decide +kernel
set_option maxRecDepth 100000 in
theorem hp0_i : hp_0.2.1 = up2 (up2 (up2 (up2 (up2 (up2 (up2 (fun _ _ => 0) 0 1 0) 17 2 4) 17 3 4) 80 2 4) 80 3 4) 0 4 (-2)) 170 13 (-2) := rfl
set_option maxRecDepth 100000 in
theorem hp0_l : hp_0.2.2.1 = fun _ _ => 0 := rfl
theorem hp0_m {a k : Nat} (ha : 170 ≤ a) : hp_0.2.1 a k = if a = 170 ∧ k = 13 then -2 else 0 := by
  rw [hp0_i]
  show (if a = 170 ∧ k = 13 then (-2 : Int) else up2 (up2 (up2 (up2 (up2 (up2 (fun _ _ => 0) 0 1 0) 17 2 4) 17 3 4) 80 2 4) 80 3 4) 0 4 (-2) a k) = _
  have e : up2 (up2 (up2 (up2 (up2 (up2 (fun _ _ => (0 : Int)) 0 1 0) 17 2 4) 17 3 4) 80 2 4) 80 3 4) 0 4 (-2) a k = 0 := by
    rw [up2_n (by omega), up2_n (by omega), up2_n (by omega), up2_n (by omega), up2_n (by omega), up2_n (by omega)]
  rw [e]
def okr (q : Int × Int) : Bool := decide (q.1 ≤ 0) && decide (0 ≤ q.2)
theorem okr_t {q : Int × Int} (h : okr q = true) : q.1 ≤ 0 ∧ 0 ≤ q.2 := by
  unfold okr at h
  simp only [Bool.and_eq_true, decide_eq_true_eq] at h
  exact h
def oko : Option (Int × Int) → Bool
  | some q => okr q
  | none => true
theorem mr_0 (a k : Nat) : (mr a k).1 ≤ 0 ∧ 0 ≤ (mr a k).2 := by
  have h1 : ma_L.all oko = true := by decide +kernel
  have h2 : mo_L.all (fun q => okr q.2) = true := by decide +kernel
  have hf : ∀ k, (match mo_L.find? (fun q : Nat × Int × Int => q.1 == k) with
    | some q => q.2
    | none => ((-2147483648 : Int), (2147483647 : Int))).1 ≤ 0 ∧ 0 ≤ (match mo_L.find? (fun q : Nat × Int × Int => q.1 == k) with
    | some q => q.2
    | none => ((-2147483648 : Int), (2147483647 : Int))).2 := by
    intro k
    cases e : mo_L.find? (fun q : Nat × Int × Int => q.1 == k) with
    | none => exact ⟨by decide, by decide⟩
    | some q => exact okr_t (List.all_eq_true.mp h2 q (List.mem_of_find?_eq_some e))
  unfold mr
  cases e : ma_L[a - 170]? with
  | none => exact hf k
  | some o =>
    cases o with
    | none => exact hf k
    | some q => exact okr_t (List.all_eq_true.mp h1 (some q) (List.mem_of_getElem? e))
theorem mq_0 (a k : Nat) : (mq a k).1 ≤ 0 ∧ 0 ≤ (mq a k).2 := by
  have h1 : mb_L.all oko = true := by decide +kernel
  have h2 : mp_L.all (fun q => okr q.2) = true := by decide +kernel
  have hf : ∀ k, (match mp_L.find? (fun q : Nat × Int × Int => q.1 == k) with
    | some q => q.2
    | none => ((-9223372036854775808 : Int), (9223372036854775807 : Int))).1 ≤ 0 ∧ 0 ≤ (match mp_L.find? (fun q : Nat × Int × Int => q.1 == k) with
    | some q => q.2
    | none => ((-9223372036854775808 : Int), (9223372036854775807 : Int))).2 := by
    intro k
    cases e : mp_L.find? (fun q : Nat × Int × Int => q.1 == k) with
    | none => exact ⟨by decide, by decide⟩
    | some q => exact okr_t (List.all_eq_true.mp h2 q (List.mem_of_find?_eq_some e))
  unfold mq
  cases e : mb_L[a - 170]? with
  | none => exact hf k
  | some o =>
    cases o with
    | none => exact hf k
    | some q => exact okr_t (List.all_eq_true.mp h1 (some q) (List.mem_of_getElem? e))
theorem mi_0 : mi hp_0 := by
  refine ⟨hp0_s, by decide +kernel, fun a k h1 _ => ?_, fun a k _ _ => ?_⟩
  · rw [hp0_m h1]
    split
    · rename_i e
      rw [e.1, e.2, show mr 170 13 = (-2, 2000) by decide +kernel]
      decide
    · exact mr_0 a k
  · rw [hp0_l]
    exact mq_0 a k
theorem rg_0 (a k : Nat) : (rg a k).1 ≤ 0 ∧ 0 ≤ (rg a k).2 := by
  have h1 : ra_L.all oko = true := by decide +kernel
  have h2 : ro_L.all (fun q => okr q.2.2) = true := by decide +kernel
  have hf : ∀ a k, (match ro_L.find? (fun q : Nat × Nat × Int × Int => q.1 == a && q.2.1 == k) with
    | some q => q.2.2
    | none => ((-2147483648 : Int), (2147483647 : Int))).1 ≤ 0 ∧ 0 ≤ (match ro_L.find? (fun q : Nat × Nat × Int × Int => q.1 == a && q.2.1 == k) with
    | some q => q.2.2
    | none => ((-2147483648 : Int), (2147483647 : Int))).2 := by
    intro a k
    cases e : ro_L.find? (fun q : Nat × Nat × Int × Int => q.1 == a && q.2.1 == k) with
    | none => exact ⟨by decide, by decide⟩
    | some q => exact okr_t (List.all_eq_true.mp h2 q (List.mem_of_find?_eq_some e))
  unfold rg
  cases e : ra_L[a]? with
  | none => exact hf a k
  | some o =>
    cases o with
    | none => exact hf a k
    | some q => exact okr_t (List.all_eq_true.mp h1 (some q) (List.mem_of_getElem? e))
theorem up2_r {f : Nat → Nat → Int} {a0 k0 : Nat} {z : Int} (h : ∀ a k, (rg a k).1 ≤ f a k ∧ f a k ≤ (rg a k).2) (hz : (rg a0 k0).1 ≤ z ∧ z ≤ (rg a0 k0).2) : ∀ a k, (rg a k).1 ≤ up2 f a0 k0 z a k ∧ up2 f a0 k0 z a k ≤ (rg a k).2 := by
  intro a k
  by_cases hc : a = a0 ∧ k = k0
  · obtain ⟨rfl, rfl⟩ := hc
    rw [up2_at]
    exact hz
  · rw [up2_o hc]
    exact h a k
theorem up2_q {f : Nat → Nat → Int} {z : Int} {a k : Nat} (h : (rg a k).1 ≤ f a k ∧ f a k ≤ (rg a k).2) (ha : a < 170) : (rg a k).1 ≤ up2 f 170 13 z a k ∧ up2 f 170 13 z a k ≤ (rg a k).2 := by
  rw [up2_n (by omega)]
  exact h
theorem xi_0 : xi 17 hp_0 := by
  refine ⟨hp0_s, Or.inl rfl, by decide +kernel, by decide +kernel, ?_, by decide +kernel, fun a k ha => ?_, fun i hi _ => ?_, fun v hv e he => ?_⟩
  · decide +kernel
  · rw [hp0_i]
    exact up2_q (up2_r (up2_r (up2_r (up2_r (up2_r (up2_r (fun a k => rg_0 a k) (by decide +kernel)) (by decide +kernel)) (by decide +kernel)) (by decide +kernel)) (by decide +kernel)) (by decide +kernel) a k) ha
  · have h0 : hp_0.2.1 9 4 = 0 := by decide +kernel
    omega
  · have h0 : hp_0.2.1 v 14 = 0 := by
      rcases hv with rfl | rfl | rfl | rfl | rfl | rfl | rfl | rfl <;> decide +kernel
    omega
theorem PX_0 : PX hp_0 := by
  have h1 : hp_0.2.1 172 0 = 0 := by decide +kernel
  have h2 : hp_0.2.1 177 0 = 0 := by decide +kernel
  have h3 : hp_0.2.1 170 98 = 0 := by decide +kernel
  have h4 : hp_0.2.1 170 80 = 0 := by decide +kernel
  exact ⟨fun w hw => by omega, fun w hw => by omega, fun r hr => by omega, fun h => by omega, by omega⟩

/-! ===== the start of what the law carries ===== -/
theorem hp0_g {a k : Nat} (h : ¬ (a = 0 ∧ k = 1)) (h1 : ¬ (a = 17 ∧ k = 2)) (h2 : ¬ (a = 17 ∧ k = 3)) (h3 : ¬ (a = 80 ∧ k = 2)) (h4 : ¬ (a = 80 ∧ k = 3)) (h5 : ¬ (a = 0 ∧ k = 4)) (h6 : ¬ (a = 170 ∧ k = 13)) : hp_0.2.1 a k = 0 := by
  rw [hp0_i, up2_o h6, up2_o h5, up2_o h4, up2_o h3, up2_o h2, up2_o h1, up2_o h]
theorem EX_0 : EX 17 hp_0 := by
  have g : ∀ a k, ¬ (a = 17 ∧ k = 2) → ¬ (a = 17 ∧ k = 3) → ¬ (a = 80 ∧ k = 2) → ¬ (a = 80 ∧ k = 3) → ¬ (a = 0 ∧ k = 4) → ¬ (a = 170 ∧ k = 13) → hp_0.2.1 a k = 0 := by
    intro a k h1 h2 h3 h4 h5 h6
    by_cases h : a = 0 ∧ k = 1
    · obtain ⟨rfl, rfl⟩ := h
      rw [hp0_i]; simp [up2]
    · exact hp0_g h h1 h2 h3 h4 h5 h6
  have m0 : ∀ a k, ¬ (a = 0 ∧ k = 1) → ¬ (a = 0 ∧ k = 2) → sco0 a k = 0 := fun a k q1 q2 => by
    unfold sco0
    rw [up2_o q2, up2_o q1]
  have m1 : sco0 0 1 = 4 := by unfold sco0; simp [up2]
  have m2 : sco0 0 2 = 4 := by unfold sco0; simp [up2]
  have z0 : ∀ k, k ≠ 1 → k ≠ 2 → sco0 0 k = 0 := fun k q1 q2 => m0 0 k (by omega) (by omega)
  refine ⟨⟨fun _ => 0, 0, by decide, ⟨g 0 1 (by decide) (by decide) (by decide) (by decide) (by decide) (by decide), fun j hj => by omega⟩, ⟨g 170 1 (by decide) (by decide) (by decide) (by decide) (by decide) (by decide), fun j hj => by omega⟩⟩, ?_, sco0, ?_, ?_, ?_, ?_, Or.inr rfl, fun q => ?_⟩
  · rw [hp0_i]; simp [up2]
  · refine ⟨⟨?_, ?_, ?_, ?_, ?_, ?_⟩, ?_, fun j hj => ?_, fun j hj => ?_, fun j hj => ?_, fun n hn => ?_⟩
    · rw [z0 7 (by decide) (by decide)]; exact g 80 1 (by decide) (by decide) (by decide) (by decide) (by decide) (by decide)
    · rw [m1, hp0_i]; simp [up2]
    · rw [m2, hp0_i]; simp [up2]
    · rw [z0 3 (by decide) (by decide)]; exact g 80 6 (by decide) (by decide) (by decide) (by decide) (by decide) (by decide)
    · rw [z0 4 (by decide) (by decide)]; exact g 80 10 (by decide) (by decide) (by decide) (by decide) (by decide) (by decide)
    · rw [z0 5 (by decide) (by decide)]; exact g 80 12 (by decide) (by decide) (by decide) (by decide) (by decide) (by decide)
    · rw [z0 3 (by decide) (by decide), z0 4 (by decide) (by decide), z0 5 (by decide) (by decide), z0 7 (by decide) (by decide)]; decide
    · rw [z0 3 (by decide) (by decide)] at hj; omega
    · rw [z0 4 (by decide) (by decide)] at hj; omega
    · rw [z0 5 (by decide) (by decide)] at hj; omega
    · rw [z0 7 (by decide) (by decide)] at hn; omega
  · refine ⟨⟨?_, ?_, ?_, ?_⟩, ?_, fun j hj => ?_, fun j hj => ?_, fun j hj => ?_, fun n hn => ?_⟩
    · rw [z0 7 (by decide) (by decide)]; exact g 172 0 (by decide) (by decide) (by decide) (by decide) (by decide) (by decide)
    · rw [z0 3 (by decide) (by decide)]; exact g 175 0 (by decide) (by decide) (by decide) (by decide) (by decide) (by decide)
    · rw [z0 4 (by decide) (by decide)]; exact g 177 0 (by decide) (by decide) (by decide) (by decide) (by decide) (by decide)
    · rw [z0 5 (by decide) (by decide)]; exact g 181 0 (by decide) (by decide) (by decide) (by decide) (by decide) (by decide)
    · rw [z0 3 (by decide) (by decide), z0 4 (by decide) (by decide), z0 5 (by decide) (by decide), z0 7 (by decide) (by decide)]; decide
    · rw [z0 3 (by decide) (by decide)] at hj; omega
    · rw [z0 4 (by decide) (by decide)] at hj; omega
    · rw [z0 5 (by decide) (by decide)] at hj; omega
    · rw [z0 7 (by decide) (by decide)] at hn; omega
  · rw [g 173 0 (by decide) (by decide) (by decide) (by decide) (by decide) (by decide), m1]; rfl
  · rw [g 174 0 (by decide) (by decide) (by decide) (by decide) (by decide) (by decide), m2]; rfl
  · rw [z0 7 (by decide) (by decide)] at q; omega
