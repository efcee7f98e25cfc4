/-! ===== beam, the class: one event ===== -/
abbrev nmb (μ : pm_T) (n e : Nat) : Int := μ (100 + 40 * n + 7) e
abbrev sp0 (μ : pm_T) (n e : Nat) : Int := μ (100 + 40 * n + (20 + 0)) e
def Shr (μ : pm_T) (n e : Nat) : Prop := 1 ≤ pt μ n e ∧ 8 ≤ nmb μ n e
def xBr (μ : pm_T) (n f e : Nat) : Int := smT μ n e * smB μ n f - smT μ n f * smB μ n e
def yBr (μ : pm_T) (n f e : Nat) : Int := smB μ n e * smB μ n f
def absI (d : Int) : Int := if 0 ≤ d then d else -d
def jnC (μ : pm_T) (n f e : Nat) : Int := (if xBr μ n f e * μ 0 2 % yBr μ n f e = 0 then 2 else 0) + (if nmb μ n e = nmb μ n (e - 1) then 0 else 1) + (if 0 < absI (sp0 μ n e - sp0 μ n (e - 1)) - 4 then absI (sp0 μ n e - sp0 μ n (e - 1)) - 4 else 0)
theorem xy_b {μ : pm_T} (GG : GM μ) {n f e : Nat} (hn : (n : Int) < μ 0 7) (hf : f ≤ e) (he : (e : Int) ≤ μ (10 + n) 0) : (0 ≤ xBr μ n f e ∧ xBr μ n f e ≤ 1000000000000000) ∧ 1 ≤ yBr μ n f e ∧ yBr μ n f e ≤ 1000000000000 := by
  have b0 := GM_b GG hn f
  have b1 := GM_b GG hn e
  have p1 := pr_b b1.1 b1.2 b0.2
  have p2 := pr_b b0.1 b0.2 b1.2
  have m := GM_m GG hn (i := f) e hf he
  unfold SE at m
  unfold xBr yBr
  have h1 := Int.mul_le_mul b1.2.1 b0.2.1 (by omega) (by omega)
  have h2 : smB μ n e * smB μ n f ≤ 1000000 * 1000000 := Int.mul_le_mul b1.2.2 b0.2.2 (by omega) (by omega)
  omega
theorem sp_b {μ : pm_T} (GG : GM μ) {n e : Nat} (hn : (n : Int) < μ 0 7) (he : (e : Int) < μ (10 + n) 0) (hp : 1 ≤ pt μ n e) : 0 ≤ sp0 μ n e ∧ sp0 μ n e ≤ 62 :=
  (((GG.2.2 n hn).2.2.2.1 e he).2.2.2.2.2.2.1 0 (by unfold pt at hp; omega)).2
theorem jnC_b {μ : pm_T} (GG : GM μ) {n f e : Nat} (hn : (n : Int) < μ 0 7) (he : (e : Int) < μ (10 + n) 0) (h1 : 1 ≤ pt μ n e) (h2 : 1 ≤ pt μ n (e - 1)) : 0 ≤ jnC μ n f e ∧ jnC μ n f e ≤ 61 := by
  have a := sp_b GG hn he h1
  have b := sp_b GG hn (e := e - 1) (by omega) h2
  unfold jnC absI
  split <;> split <;> split <;> split <;> omega
section
variable {G : cx_T} {s c n e : Nat} {h : ah_T} {μ : pm_T}
theorem j_short (hb0 : hb s h) (H : CV μ c h) (hn : (n : Int) < μ 0 7) (he : (e : Int) < μ (10 + n) 0) : con G 2 0 0 m_Voice_isShort [av_R (some (c + 7 + 14 * n)), av_I (e : Int)] h (fun r h' => ∃ z : Int, r = some (av_I z) ∧ hb s h' ∧ h' = h ∧ ((z = 0 ∧ ¬ Shr μ n e) ∨ (z = 1 ∧ Shr μ n e))) := by
  have E := CV_e H hn he
  refine c_Voice_isShort E.1 hb0 (fun _ => ?_)
  unfold B_Voice_isShort_0 B_Voice_isShort_22 B_Voice_isShort_23
  refine con_mono (j_isRest hb0 H hn he) ?_
  rintro r h2 ⟨z, rfl, hb2, rfl, z1⟩
  refine ⟨z, rfl, hb2, fun q => ?_, fun q => ⟨Or.inl rfl, 0, rfl, hb2, rfl, Or.inl ⟨rfl, fun w => q (z1.mpr w.1)⟩⟩⟩
  refine con_mono (t_Voice_numberOf hb2 E) ?_
  rintro r h3 ⟨hb3, rfl, rfl⟩
  refine ⟨_, rfl, hb3, fun q2 => ⟨Or.inl rfl, 0, rfl, hb3, rfl, Or.inl ⟨rfl, fun w => by have := w.2; unfold nmb at this; omega⟩⟩, fun q2 => ⟨Or.inr rfl, 1, rfl, hb3, rfl, Or.inr ⟨rfl, z1.mp q, by unfold nmb; omega⟩⟩⟩
theorem j_sinceT {b : Nat} (hb0 : hb s h) (H : CV μ c h) (hn : (n : Int) < μ 0 7) (hb1 : (b : Int) < μ (10 + n) 1) (hf : brE μ n b ≤ e) (he : (e : Int) ≤ μ (10 + n) 0) : con G 0 0 0 m_Voice_sinceBarTop [av_R (some (c + 7 + 14 * n)), av_I (b : Int), av_I (e : Int)] h (fun r h' => r = some (av_L (xBr μ n (brE μ n b) e)) ∧ hb s h' ∧ h' = h) := by
  obtain ⟨hv, -, -, hE, hB, -⟩ := CV_v H hn
  have GG := H.2.2.1
  have f0 := CV_b H hn (b := b) (Int.le_of_lt hb1)
  obtain ⟨t1, t2⟩ := CV_t H hn (brE_b GG (b := b) hn)
  obtain ⟨t3, t4⟩ := CV_t H hn he
  have e0 := brE_b GG (b := b) hn
  have b0 := GM_b GG hn (brE μ n b)
  have b1 := GM_b GG hn e
  have p1 := pr_b b1.1 b1.2 b0.2
  have p2 := pr_b b0.1 b0.2 b1.2
  unfold xBr
  generalize brE μ n b = i at *
  refine c_Voice_sinceBarTop hv hb0 (fun _ _ => ?_)
  unfold B_Voice_sinceBarTop_0
  refine ⟨by omega, ?_⟩
  rw [tn_c, tn_c]
  intro x2 e2 _ _
  obtain rfl := e2.trans f0
  refine ⟨by omega, fun x5 e5 _ _ => ⟨by omega, ?_⟩⟩
  rw [tn_c]
  intro x8 e8 _ _ x10 e10
  obtain rfl := e5.trans t3
  obtain rfl := e8.trans t2
  refine ⟨by omega, fun x13 e13 _ _ x15 e15 _ _ x16 e16 => ?_⟩
  obtain rfl := e13.trans t1
  obtain rfl := e15.trans t4
  refine ⟨by omega, by omega, ?_, hb0, rfl⟩
  rw [e10, e16]
theorem j_sinceB {b : Nat} (hb0 : hb s h) (H : CV μ c h) (hn : (n : Int) < μ 0 7) (hb1 : (b : Int) < μ (10 + n) 1) (hf : brE μ n b ≤ e) (he : (e : Int) ≤ μ (10 + n) 0) : con G 0 0 0 m_Voice_sinceBarBottom [av_R (some (c + 7 + 14 * n)), av_I (b : Int), av_I (e : Int)] h (fun r h' => r = some (av_L (yBr μ n (brE μ n b) e)) ∧ hb s h' ∧ h' = h) := by
  obtain ⟨hv, -, -, hE, hB, -⟩ := CV_v H hn
  have GG := H.2.2.1
  have f0 := CV_b H hn (b := b) (Int.le_of_lt hb1)
  obtain ⟨t1, t2⟩ := CV_t H hn (brE_b GG (b := b) hn)
  obtain ⟨t3, t4⟩ := CV_t H hn he
  have e0 := brE_b GG (b := b) hn
  have xy := (xy_b GG hn hf he).2
  unfold yBr at xy ⊢
  generalize brE μ n b = i at *
  refine c_Voice_sinceBarBottom hv hb0 (fun _ _ => ?_)
  unfold B_Voice_sinceBarBottom_0
  refine ⟨by omega, ?_⟩
  rw [tn_c, tn_c]
  intro x2 e2 _ _
  obtain rfl := e2.trans t4
  refine ⟨by omega, fun x6 e6 _ _ => ?_⟩
  obtain rfl := e6.trans f0
  refine ⟨by omega, ?_⟩
  rw [tn_c]
  intro x8 e8 _ _ x10 e10
  obtain rfl := e8.trans t2
  refine ⟨by omega, ?_, hb0, rfl⟩
  rw [e10]
theorem j_join {b : Nat} (hb0 : hb s h) (H : CV μ c h) (hn : (n : Int) < μ 0 7) (hb1 : (b : Int) < μ (10 + n) 1) (hf : brE μ n b < e) (he : (e : Int) < μ (10 + n) 0) (hp1 : 1 ≤ pt μ n e) (hp2 : 1 ≤ pt μ n (e - 1)) : con G 1 0 0 m_Beams_joinCost [av_R (some (c + 7 + 14 * n)), av_I (b : Int), av_I (e : Int), av_I (μ 0 2)] h (fun r h' => r = some (av_I (jnC μ n (brE μ n b) e)) ∧ hb s h' ∧ h' = h) := by
  have GG := H.2.2.1
  have E := CV_e H hn he
  have he1 : ((e - 1 : Nat) : Int) < μ (10 + n) 0 := by omega
  have E1 := CV_e H hn he1
  have a := sp_b GG hn he hp1
  have b' := sp_b GG hn he1 hp2
  have T := GG.2.1
  obtain ⟨-, -, -, hE, -⟩ := CV_v H hn
  have xy := xy_b GG hn (Nat.le_of_lt hf) (Int.le_of_lt he)
  have tail : ∀ (v4 : Int) {h1 : ah_T}, hb s h1 → h1 = h → 0 ≤ v4 → v4 ≤ 3 → v4 + (if 0 < absI (sp0 μ n e - sp0 μ n (e - 1)) - 4 then absI (sp0 μ n e - sp0 μ n (e - 1)) - 4 else 0) = jnC μ n (brE μ n b) e → B_Beams_joinCost_56 G s (c + 7 + 14 * n) (b : Int) (e : Int) (μ 0 2) v4 h1 (fun r h' => r = some (av_I (jnC μ n (brE μ n b) e)) ∧ hb s h' ∧ h' = h) := by
    rintro v4 h1 hb1' rfl q1 q2 eq
    unfold B_Beams_joinCost_56
    refine con_mono (t_Voice_stepOf hb1' E (p := 0) (by unfold pt at hp1; omega)) ?_
    rintro r h5 ⟨hb5, rfl, rfl⟩
    refine ⟨_, rfl, hb5, ⟨by omega, by omega⟩, ?_⟩
    rw [show (e : Int) - 1 = ((e - 1 : Nat) : Int) by omega]
    refine con_mono (t_Voice_stepOf hb5 E1 (p := 0) (by unfold pt at hp2; omega)) ?_
    rintro r h6 ⟨hb6, rfl, rfl⟩
    have ab : ∀ x9 : Int, x9 = (if 0 ≤ (μ (100 + 40 * n + (20 + 0)) e - μ (100 + 40 * n + (20 + 0)) (e - 1)) then (μ (100 + 40 * n + (20 + 0)) e - μ (100 + 40 * n + (20 + 0)) (e - 1)) else w32 (0 - (μ (100 + 40 * n + (20 + 0)) e - μ (100 + 40 * n + (20 + 0)) (e - 1)))) → x9 = absI (sp0 μ n e - sp0 μ n (e - 1)) := by
      intro x9 e9
      rw [e9]
      unfold absI sp0
      split
      · rfl
      · rw [w32_id (by unfold i32; unfold sp0 at a b'; omega)]; omega
    refine ⟨_, rfl, hb6, by unfold sp0 at a b'; omega, fun x9 e9 _ _ => ?_⟩
    have e9' := ab x9 e9
    subst e9'
    have bb : 0 ≤ absI (sp0 μ n e - sp0 μ n (e - 1)) ∧ absI (sp0 μ n e - sp0 μ n (e - 1)) ≤ 62 := by unfold absI; split <;> omega
    refine ⟨by omega, fun x11 e11 _ _ => ?_⟩
    rw [e11, eq]
    have jb := jnC_b GG (f := brE μ n b) hn he hp1 hp2
    exact ⟨by omega, rfl, hb6, rfl⟩
  have mid : ∀ (v4 : Int) {h1 : ah_T}, hb s h1 → h1 = h → v4 = (if xBr μ n (brE μ n b) e * μ 0 2 % yBr μ n (brE μ n b) e = 0 then 2 else 0) → B_Beams_joinCost_38 G s (c + 7 + 14 * n) (b : Int) (e : Int) (μ 0 2) v4 h1 (fun r h' => r = some (av_I (jnC μ n (brE μ n b) e)) ∧ hb s h' ∧ h' = h) := by
    rintro v4 h1 hb1' rfl eq
    have v4b : v4 = 0 ∨ v4 = 2 := by
      rw [eq]
      split
      · exact Or.inr rfl
      · exact Or.inl rfl
    unfold B_Beams_joinCost_38
    refine con_mono (t_Voice_numberOf hb1' E) ?_
    rintro r h5 ⟨hb5, rfl, rfl⟩
    refine ⟨_, rfl, hb5, ⟨by omega, by omega⟩, ?_⟩
    rw [show (e : Int) - 1 = ((e - 1 : Nat) : Int) by omega]
    refine con_mono (t_Voice_numberOf hb5 E1) ?_
    rintro r h6 ⟨hb6, rfl, rfl⟩
    refine ⟨_, rfl, hb6, fun q => tail v4 hb6 rfl (by omega) (by omega) ?_, fun q => ⟨by omega, tail (v4 + 1) hb6 rfl (by omega) (by omega) ?_⟩⟩
    · unfold jnC
      rw [← eq, if_pos (show nmb μ n e = nmb μ n (e - 1) from q)]
      omega
    · unfold jnC
      rw [← eq, if_neg (show ¬ nmb μ n e = nmb μ n (e - 1) from q)]
  have hv := E.1
  refine c_Beams_joinCost hv hb0 (fun _ _ _ => ?_)
  unfold B_Beams_joinCost_0
  refine con_mono (j_sinceB hb0 H hn hb1 (Nat.le_of_lt hf) (Int.le_of_lt he)) ?_
  rintro r h3 ⟨rfl, hb3, rfl⟩
  refine ⟨_, rfl, hb3, fun q => by omega, fun q => ?_⟩
  refine con_mono (j_sinceT hb3 H hn hb1 (Nat.le_of_lt hf) (Int.le_of_lt he)) ?_
  rintro r h4 ⟨rfl, hb4, rfl⟩
  have p : 0 ≤ xBr μ n (brE μ n b) e * μ 0 2 ∧ xBr μ n (brE μ n b) e * μ 0 2 ≤ 1000000000000000 * 32 := ⟨Int.mul_nonneg xy.1.1 (by have := T.2.1; omega), Int.mul_le_mul xy.1.2 T.2.1.2 (by have := T.2.1; omega) (by omega)⟩
  refine ⟨_, rfl, hb4, fun x8 e8 => ⟨by omega, by omega, fun x10 e10 _ _ => ?_⟩⟩
  rw [e8, Int.tmod_eq_emod_of_nonneg p.1] at e10
  refine ⟨fun q2 => mid 2 hb4 rfl ?_, fun q2 => mid 0 hb4 rfl ?_⟩
  · rw [if_pos (by omega)]
  · rw [if_neg (by omega)]
end
