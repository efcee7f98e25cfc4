/-! ===== page, the class: the width of a bar ===== -/
def sgV (μ : pm_T) (b v : Nat) : Nat → Int
  | 0 => 0
  | k + 1 => sgV μ b v k + μ (100 + 40 * v + 9) (brE μ v b + k)
def sgT (μ : pm_T) (b v : Nat) : Int := if (b : Int) < μ (10 + v) 1 then sgV μ b v (brE μ v (b + 1) - brE μ v b) else 0
def sgA (μ : pm_T) (b : Nat) : Nat → Int
  | 0 => 0
  | n + 1 => sgA μ b n + sgT μ b n
noncomputable def wdt (μ : pm_T) (b : Nat) : Int := 8 * (Rem4 μ b (ptr0 μ b) : Int) + 3 * sgA μ b (μ 0 7).toNat + 10
section
variable {G : cx_T} {s c b : Nat} {h : ah_T} {μ : pm_T}
theorem row9_b {n e : Nat} (GG : GM μ) (hn : (n : Int) < μ 0 7) (he : (e : Int) < μ (10 + n) 0) : 0 ≤ μ (100 + 40 * n + 9) e ∧ μ (100 + 40 * n + 9) e ≤ 800 := by
  have M := (GG.2.2 n hn).2.2.2.1 e he
  have hM := M.1
  have s := sgm_b M.2.2.2.2.2.2.1 (μ (100 + 40 * n + 4) e).toNat (by omega)
  rw [M.2.2.2.2.2.2.2]
  omega
theorem sgV_b {n : Nat} (GG : GM μ) (hn : (n : Int) < μ 0 7) : ∀ k : Nat, ((brE μ n b + k : Nat) : Int) ≤ μ (10 + n) 0 → 0 ≤ sgV μ b n k ∧ sgV μ b n k ≤ 800 * (k : Int)
  | 0, _ => by rw [sgV]; omega
  | k + 1, hk => by
    have ih := sgV_b GG hn k (by omega)
    have := row9_b GG hn (e := brE μ n b + k) (by omega)
    rw [sgV]
    omega
theorem sgT_b {n : Nat} (GG : GM μ) (hn : (n : Int) < μ 0 7) : 0 ≤ sgT μ b n ∧ sgT μ b n ≤ 240000 := by
  have m := (GG.2.2 n hn).1
  have e1 := brE_b GG (b := b + 1) hn
  have em := brE_m GG (b := b) hn
  unfold sgT
  split
  · have := sgV_b GG hn (b := b) (brE μ n (b + 1) - brE μ n b) (by omega)
    omega
  · omega
theorem sgA_b (GG : GM μ) : ∀ n : Nat, (n : Int) ≤ μ 0 7 → 0 ≤ sgA μ b n ∧ sgA μ b n ≤ 240000 * (n : Int)
  | 0, _ => by rw [sgA]; omega
  | n + 1, hn => by
    have ih := sgA_b GG n (by omega)
    have := sgT_b GG (b := b) (n := n) (by omega)
    rw [sgA]
    omega
theorem t_Page_widthOf (hb0 : hb s h) (H : CV μ c h) (hb1 : b ≤ 100) : con G 4 0 0 m_Page_widthOf [av_R (some 150), av_R (some c), av_I (b : Int)] h (fun r h' => r = some (av_I (wdt μ b)) ∧ hb s h' ∧ fr JWg h h') := by
  have GG := H.2.2.1
  have b7 := GG.1.1
  have rb := Rem4_b (b := b) (p := ptr0 μ b) GG
  have key : ∀ (N : Nat) (v3 v4 : Int) (hh : ah_T), hb s hh → (hh = h ∧ ∃ n : Nat, v4 = (n : Int) ∧ (n : Int) ≤ μ 0 7 ∧ v3 = sgA μ b n) → (10 - v4).toNat < N → aw G (rm_R 4 0 0) m_Page_widthOf 0 0 5 [some (av_R (some 150)), some (av_R (some c)), some (av_I (b : Int)), some (av_I v3), some (av_I v4), none, none] [] hh (fun r h' => r = some (av_I (wdt μ b)) ∧ hb s h' ∧ fr JWg h h') := by
    intro N
    induction N with
    | zero => intro v3 v4 hh _ _ q; omega
    | succ N ih =>
      rintro v3 v4 hh hbh ⟨rfl, n, rfl, hn, rfl⟩ hN
      have sa := sgA_b (b := b) GG n hn
      have up5 : ∀ (v3 v4 : Int) (h' : ah_T), hb s h' → ((h' = hh ∧ ∃ n' : Nat, v4 = (n' : Int) ∧ (n' : Int) ≤ μ 0 7 ∧ v3 = sgA μ b n') ∧ v4 = (n : Int) + 1) → aw G (rm_R 4 0 0) m_Page_widthOf 0 0 5 [some (av_R (some 150)), some (av_R (some c)), some (av_I (b : Int)), some (av_I v3), some (av_I v4), none, none] [] h' (fun r h' => r = some (av_I (wdt μ b)) ∧ hb s h' ∧ fr JWg hh h') := fun v3 v4 h' hb' x => ih v3 v4 h' hb' x.1 (by have := x.2; omega)
      by_cases hn' : (n : Int) < μ 0 7
      · obtain ⟨hv, h14, h16, hE, hB, n4⟩ := CV_v H hn'
        have e1 := brE_b GG (b := b + 1) hn'
        have em := brE_m GG (b := b) hn'
        have st := sgT_b (b := b) GG hn'
        have nx : ∀ {x : Int}, x = sgA μ b n + sgT μ b n → ((-2147483648) ≤ ((n : Int) + 1) ∧ ((n : Int) + 1) ≤ 2147483647) ∧ ((hh = hh ∧ ∃ n' : Nat, (n : Int) + 1 = (n' : Int) ∧ (n' : Int) ≤ μ 0 7 ∧ x = sgA μ b n') ∧ (n : Int) + 1 = (n : Int) + 1) := fun e => ⟨⟨by omega, by omega⟩, ⟨rfl, n + 1, by omega, by omega, by rw [e]; rfl⟩, rfl⟩
        have in45 : (b : Int) < μ (10 + n) 1 → ∀ (v3 v4 : Int) (v5 : Nat) (v6 : Int) (h' : ah_T), isV v5 → hb s h' → (h' = hh ∧ v4 = (n : Int) ∧ v5 = c + 7 + 14 * n ∧ ∃ k : Nat, v6 = ((brE μ n b + k : Nat) : Int) ∧ brE μ n b + k ≤ brE μ n (b + 1) ∧ v3 = sgA μ b n + sgV μ b n k) → aw G (rm_R 4 0 0) m_Page_widthOf 0 0 45 [some (av_R (some 150)), some (av_R (some c)), some (av_I (b : Int)), some (av_I v3), some (av_I v4), some (av_R (some v5)), some (av_I v6)] [] h' (fun r h' => r = some (av_I (wdt μ b)) ∧ hb s h' ∧ fr JWg hh h') := by
          intro hbl
          refine lp_Page_widthOf_45 H.1 up5 _ (fun _ _ _ v6 _ => (400 - v6).toNat) ?_
          rintro v3 v4 v5 v6 h' hv' hb' ⟨rfl, rfl, rfl, k, rfl, hk, rfl⟩
          have sv := sgV_b (b := b) GG hn' k (by omega)
          unfold B_Page_widthOf_45 B_Page_widthOf_75
          refine ⟨⟨by omega, by omega⟩, by omega, ?_⟩
          rw [show ((b : Int) + 1).toNat = b + 1 by omega]
          intro x3 e3 _ _
          obtain rfl := e3.trans (CV_b H hn' (b := b + 1) (by omega))
          refine ⟨fun q => nx ?_, fun q => ?_⟩
          · unfold sgT
            rw [if_pos hbl, show brE μ n (b + 1) - brE μ n b = k by omega]
          have r9 := row9_b GG hn' (e := brE μ n b + k) (by omega)
          refine con_mono (j_signs hb' H hn' (e := brE μ n b + k) (by omega)) ?_
          rintro r h5 ⟨rfl, hb5, rfl⟩
          exact ⟨_, rfl, hb5, ⟨by omega, by omega⟩, ⟨by omega, by omega⟩, ⟨rfl, rfl, rfl, k + 1, by omega, by omega, by rw [sgV, Int.add_assoc]⟩, by omega⟩
        by_cases hbl : (b : Int) < μ (10 + n) 1
        · refine b_Page_widthOf_5 H.1 up5 (in45 hbl) hbh ?_
          unfold B_Page_widthOf_5 B_Page_widthOf_75
          intro x1 ex1 _ _
          obtain rfl := ex1.trans H.2.1.1.1
          refine ⟨fun q => by omega, fun q => ?_⟩
          refine con_mono (t_Score_voiceAt hbh H.1 H.2.1) ?_
          rintro r h9 ⟨hb9, rfl, ⟨-, -, rfl⟩ | ⟨q1, -⟩⟩
          rotate_left
          · omega
          rw [tn_c]
          refine ⟨_, rfl, hb9, Or.inr ⟨_, rfl, hv, fun x12 e12 _ _ => ?_⟩⟩
          obtain rfl := e12.trans h16
          refine ⟨fun w => by omega, fun w => ⟨by omega, ?_⟩⟩
          rw [tn_c]
          intro x14 e14 _ _
          obtain rfl := e14.trans (CV_b H hn' (b := b) (Int.le_of_lt hbl))
          exact ⟨rfl, rfl, rfl, 0, rfl, em, by rw [sgV, Int.add_zero]⟩
        · refine b_Page_widthOf_5 (X45 := fun _ _ _ _ _ => False) H.1 up5 (fun _ _ _ _ _ _ _ x => x.elim) hbh ?_
          unfold B_Page_widthOf_5 B_Page_widthOf_75
          intro x1 ex1 _ _
          obtain rfl := ex1.trans H.2.1.1.1
          refine ⟨fun q => by omega, fun q => ?_⟩
          refine con_mono (t_Score_voiceAt hbh H.1 H.2.1) ?_
          rintro r h9 ⟨hb9, rfl, ⟨-, -, rfl⟩ | ⟨q1, -⟩⟩
          rotate_left
          · omega
          rw [tn_c]
          refine ⟨_, rfl, hb9, Or.inr ⟨_, rfl, hv, fun x12 e12 _ _ => ?_⟩⟩
          obtain rfl := e12.trans h16
          refine ⟨fun w => nx ?_, fun w => absurd (show (b : Int) < μ (10 + n) 1 by omega) hbl⟩
          unfold sgT
          rw [if_neg hbl, Int.add_zero]
      · refine b_Page_widthOf_5 (X45 := fun _ _ _ _ _ => False) H.1 up5 (fun _ _ _ _ _ _ _ x => x.elim) hbh ?_
        unfold B_Page_widthOf_5
        intro x1 ex1 _ _
        obtain rfl := ex1.trans H.2.1.1.1
        refine ⟨fun q => ?_, fun q => by omega⟩
        refine con_mono (t_Page_timesIn hbh H (by omega)) ?_
        rintro r h2 ⟨rfl, hb2, f2⟩
        refine ⟨_, rfl, hb2, by omega, by omega, by omega, by omega, ?_, hb2, f2⟩
        unfold wdt
        rw [show (μ 0 7).toNat = n by omega]
  refine c_Page_widthOf H.1 (X5 := fun v3 v4 hh => hh = h ∧ ∃ n : Nat, v4 = (n : Int) ∧ (n : Int) ≤ μ 0 7 ∧ v3 = sgA μ b n) (fun v3 v4 hh hb' x => key ((10 - v4).toNat + 1) v3 v4 hh hb' x (Nat.lt_succ_self _)) hb0 (fun _ => ?_)
  unfold B_Page_widthOf_0
  exact ⟨rfl, 0, rfl, b7.1, rfl⟩
end
