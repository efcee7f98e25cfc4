/-! ===== beam, the reference ===== -/
section
variable {G : cx_T} {s n b : Nat} {h : ah_T} {μ : pm_T}
theorem m_firstA (hb0 : hb s h) (H : MV μ h) (hn : (n : Int) < μ 0 7) (hb1 : (b : Int) ≤ μ (10 + n) 1) : con G 0 0 0 m_MD_firstOf [av_R (some 170), av_I (n : Int), av_I (b : Int)] h (fun r h' => r = some (av_I (brE μ n b : Int)) ∧ hb s h' ∧ h' = h) := by
  by_cases c : (b : Int) < μ (10 + n) 1
  · exact m_firstOf hb0 H hn c
  have GG := H.2.1
  obtain ⟨hN1, -, hN, -, n4⟩ := MV_n H hn
  have V := GG.1.2 n hn
  have eb : brE μ n b = (μ (10 + n) 0).toNat := by unfold brE; rw [if_neg c]
  refine c_MD_firstOf (X2 := fun v3 hh => hh = h ∧ ∃ k : Nat, v3 = (k : Int) ∧ (k : Int) ≤ μ (10 + n) 0) ?_ hb0 (fun _ _ => ?_)
  · refine lp_MD_firstOf_2 _ (fun v3 _ => (301 - v3).toNat) ?_
    rintro v3 hh hb2 ⟨rfl, k, rfl, hk⟩
    unfold B_MD_firstOf_2 B_MD_firstOf_34
    refine ⟨by omega, ?_⟩
    rw [tn_c]
    intro x2 e2 _ _
    have ex := e2.trans hN1
    subst ex
    refine ⟨fun q => ⟨?_, hb2, rfl⟩, fun q => ⟨⟨by omega, by omega⟩, ⟨by omega, by omega⟩, by omega, ?_⟩⟩
    · rw [show brE μ n b = k by omega]
    have hk' : (k : Int) < μ (10 + n) 0 := by omega
    rw [nx300]
    intro x7 e7 _ _
    have ex := e7.trans (MV_e H hn hk').1.2.2
    subst ex
    have lt := (V.2.2.2 k hk').1.2
    exact ⟨fun q2 => by omega, fun q2 => ⟨⟨by omega, by omega⟩, ⟨rfl, k + 1, by omega, by omega⟩, by omega⟩⟩
  · unfold B_MD_firstOf_0
    exact ⟨rfl, 0, rfl, by omega⟩
/-- what the reference knows between two runs -/
def BM6 (μ : pm_T) (n f t : Nat) (v6 : Int) (k : Nat) (h : ah_T) : Prop :=
  (f + k ≤ t ∧ (csC μ n f k).2.1 = f + k ∧ v6 = (csC μ n f k).1 ∧ GLm (csC μ n f k).2.2 h) ∨
  (f + k < t ∧ ¬ Shr μ n (f + k) ∧ (csC μ n f (k + 1)).2.1 = f + k + 1 ∧ v6 = (csC μ n f (k + 1)).1 ∧ GLm (csC μ n f (k + 1)).2.2 h) ∨
  (f + k = t ∧ v6 = (cutC μ n f t (csC μ n f (t - f))).1 ∧ GLm (cutC μ n f t (csC μ n f (t - f))).2 h)
theorem cut_0 {μ : pm_T} {n f z : Nat} {q : Int × Nat × List Int} (h : q.2.1 = z) : cutC μ n f z q = (q.1, q.2.2) := by
  unfold cutC
  rw [h, Nat.sub_self]
  show (q.1 + 0, q.2.2 ++ []) = _
  rw [List.append_nil, Int.add_zero]
theorem csC_s {μ : pm_T} {n f k : Nat} : ∀ m, k ≤ m → (∀ e, f + k ≤ e → e < f + m → Shr μ n e) → csC μ n f m = csC μ n f k
  | 0, h, _ => by
    have : k = 0 := by omega
    subst this; rfl
  | m + 1, h, hs => by
    by_cases c : k = m + 1
    · subst c; rfl
    · rw [csC, dif_t (hs (f + m) (by omega) (by omega))]
      exact csC_s m (by omega) (fun e q1 q2 => hs e q1 (by omega))
theorem t_MD_bar (hb0 : hb s h) (H : MV μ h) (hn : (n : Int) < μ 0 7) (hb1 : (b : Int) < μ (10 + n) 1) : con G 5 0 0 m_MD_beam [av_R (some 170), av_I (n : Int), av_I (b : Int)] h (fun r h' => r = some (av_I (bmC μ n b)) ∧ hb s h' ∧ fr JWr h h' ∧ (14 < cntS μ n (brE μ n b) (brE μ n (b + 1) - brE μ n b) → h' = h) ∧ (¬ 14 < cntS μ n (brE μ n b) (brE μ n (b + 1) - brE μ n b) → GLm (cutC μ n (brE μ n b) (brE μ n (b + 1)) (csC μ n (brE μ n b) (brE μ n (b + 1) - brE μ n b))).2 h')) := by
  obtain ⟨-, hN2, hE, hB, n4⟩ := MV_n H hn
  have GG := H.2.1
  have e1 := brE_b GG (b := b + 1) hn
  have em := brE_m GG (b := b) hn
  have eB : bmC μ n b = dif (14 < cntS μ n (brE μ n b) (brE μ n (b + 1) - brE μ n b)) (-4) (cutC μ n (brE μ n b) (brE μ n (b + 1)) (csC μ n (brE μ n b) (brE μ n (b + 1) - brE μ n b))).1 := rfl
  have first : ∀ {h1 : ah_T}, hb s h1 → h1 = h → con G 0 0 0 m_MD_firstOf [av_R (some 170), av_I (n : Int), av_I (b : Int)] h1 (fun r h' => r = some (av_I (brE μ n b : Int)) ∧ hb s h' ∧ h' = h) := by
    rintro h1 hbh rfl
    exact m_firstA hbh H hn (Int.le_of_lt hb1)
  have second : ∀ {h1 : ah_T}, hb s h1 → h1 = h → con G 0 0 0 m_MD_firstOf [av_R (some 170), av_I (n : Int), av_I ((b : Int) + 1)] h1 (fun r h' => r = some (av_I (brE μ n (b + 1) : Int)) ∧ hb s h' ∧ h' = h) := by
    rintro h1 hbh rfl
    exact m_firstA (b := b + 1) hbh H hn (by omega)
  generalize hf : brE μ n b = f at *
  generalize brE μ n (b + 1) = t at *
  have key : ¬ 14 < cntS μ n f (t - f) → ∀ (N : Nat) (v4 v6 v7 : Int) (hh : ah_T), hb s hh → (v4 = (t : Int) ∧ fr JWr h hh ∧ ∃ k : Nat, v7 = ((f + k : Nat) : Int) ∧ BM6 μ n f t v6 k hh) → (400 - v7).toNat < N → aw G (rm_R 5 0 0) m_MD_beam 0 0 106 [some (av_R (some 170)), some (av_I (n : Int)), some (av_I (b : Int)), none, some (av_I v4), none, some (av_I v6), some (av_I v7), none] [] hh (fun r h' => r = some (av_I (bmC μ n b)) ∧ hb s h' ∧ fr JWr h h' ∧ (14 < cntS μ n f (t - f) → h' = h) ∧ (¬ 14 < cntS μ n f (t - f) → GLm (cutC μ n f t (csC μ n f (t - f))).2 h')) := by
    intro big N
    induction N with
    | zero => intro v4 v6 v7 hh _ _ q; omega
    | succ N ih =>
      rintro v4 v6 v7 hh hbh ⟨rfl, fw, k, rfl, st⟩ hN
      have fin : f + k = t → v6 = (cutC μ n f t (csC μ n f (t - f))).1 ∧ GLm (cutC μ n f t (csC μ n f (t - f))).2 hh := by
        intro ek
        rcases st with ⟨-, a1, rfl, J⟩ | ⟨x, -⟩ | ⟨-, rfl, J⟩
        · have : t - f = k := by omega
          rw [this, ← ek, cut_0 a1]
          exact ⟨rfl, J⟩
        · omega
        · exact ⟨rfl, J⟩
      have kt : f + k ≤ t := by rcases st with ⟨x, -⟩ | ⟨x, -⟩ | ⟨x, -⟩ <;> omega
      by_cases end_ : f + k = t
      · obtain ⟨e6, J⟩ := fin end_
        refine b_MD_beam_106 (X117 := fun _ _ _ _ _ => False) (fun _ _ _ _ _ _ x => x.elim) hbh ?_
        unfold B_MD_beam_106
        exact ⟨fun _ => ⟨by rw [eB, dif_f big, e6], hbh, fw, fun x => absurd x big, fun _ => J⟩, fun w => by omega⟩
      have in117 : ∀ (a4 a6 a7 a8 : Int) (h' : ah_T), hb s h' → (h' = hh ∧ a4 = (t : Int) ∧ a6 = v6 ∧ a7 = ((f + k : Nat) : Int) ∧ ∃ m : Nat, a8 = ((f + m : Nat) : Int) ∧ k ≤ m ∧ f + m ≤ t ∧ ∀ e, f + k ≤ e → e < f + m → Shr μ n e) → aw G (rm_R 5 0 0) m_MD_beam 0 0 117 [some (av_R (some 170)), some (av_I (n : Int)), some (av_I (b : Int)), none, some (av_I a4), none, some (av_I a6), some (av_I a7), some (av_I a8)] [] h' (fun r h' => r = some (av_I (bmC μ n b)) ∧ hb s h' ∧ fr JWr h h' ∧ (14 < cntS μ n f (t - f) → h' = h) ∧ (¬ 14 < cntS μ n f (t - f) → GLm (cutC μ n f t (csC μ n f (t - f))).2 h')) := by
        refine lp_MD_beam_117 (X106 := fun a4 a6 a7 h' => (a4 = (t : Int) ∧ fr JWr h h' ∧ ∃ k' : Nat, a7 = ((f + k' : Nat) : Int) ∧ BM6 μ n f t a6 k' h') ∧ ((f + k : Nat) : Int) + 1 ≤ a7) (fun a4 a6 a7 h' hb' x => ih a4 a6 a7 h' hb' x.1 (by have := x.2; omega)) _ (fun _ _ _ a8 _ => (400 - a8).toNat) ?_
        rintro a4 a6 a7 a8 h' hb' ⟨rfl, rfl, rfl, rfl, m, rfl, km, mt, sh⟩
        have H' := MV_f H fw JWr_w
        unfold B_MD_beam_117 B_MD_beam_145 B_MD_beam_177
        have cut : (f + m < t → ¬ Shr μ n (f + m)) → ((((f + m : Nat) : Int) ≤ ((f + k : Nat) : Int) → ((-2147483648) ≤ (((f + k : Nat) : Int) + 1) ∧ (((f + k : Nat) : Int) + 1) ≤ 2147483647) ∧ (((t : Int) = (t : Int) ∧ fr JWr h h' ∧ ∃ k' : Nat, ((f + k : Nat) : Int) + 1 = ((f + k' : Nat) : Int) ∧ BM6 μ n f t a6 k' h') ∧ ((f + k : Nat) : Int) + 1 ≤ ((f + k : Nat) : Int) + 1)) ∧ (¬ ((f + m : Nat) : Int) ≤ ((f + k : Nat) : Int) → con G 4 0 0 m_MD_run [av_R (some 170), av_I (n : Int), av_I (b : Int), av_I ((f + k : Nat) : Int), av_I ((f + m : Nat) : Int)] h' (fun r h2 => ∃ z4 : Int, r = some (av_I z4) ∧ hb s h2 ∧ ((-2147483648) ≤ (a6 + z4) ∧ (a6 + z4) ≤ 2147483647) ∧ (((t : Int) = (t : Int) ∧ fr JWr h h2 ∧ ∃ k' : Nat, ((f + m : Nat) : Int) = ((f + k' : Nat) : Int) ∧ BM6 μ n f t (a6 + z4) k' h2) ∧ ((f + k : Nat) : Int) + 1 ≤ ((f + m : Nat) : Int))))) := by
          intro ns
          refine ⟨fun q => ⟨⟨by omega, by omega⟩, ⟨rfl, fw, k + 1, by omega, Or.inl ?_⟩, Int.le_refl _⟩, fun q => ?_⟩
          · obtain rfl : m = k := by omega
            have nsk := ns (by omega)
            rcases st with ⟨-, a1, rfl, J⟩ | ⟨-, -, b1, rfl, J⟩ | ⟨x, -⟩
            · have e : csC μ n f (m + 1) = ((csC μ n f m).1, f + m + 1, (csC μ n f m).2.2) := by rw [csC, dif_f nsk, cut_0 a1]
              rw [e]
              exact ⟨by omega, rfl, rfl, J⟩
            · exact ⟨by omega, b1, rfl, J⟩
            · omega
          · have shk := sh (f + k) (Nat.le_refl _) (by omega)
            rcases st with ⟨-, a1, rfl, J⟩ | ⟨-, b0, -⟩ | ⟨x, -⟩
            rotate_left
            · exact absurd shk b0
            · omega
            have es := csC_s (μ := μ) (n := n) (f := f) (k := k) m km sh
            obtain ⟨⟨i1, i2⟩, i3, i4, i5, i6⟩ := csC_b (f := f) GG hn m (by omega)
            have cm := cntS_m (μ := μ) (n := n) (f := f) (k := m) (t - f) (by omega)
            obtain ⟨⟨x1, x2⟩, x3⟩ := cut_b (f := f) GG hn (z := f + m) (q := csC μ n f m) (by omega) i2 i3
            have ea : (csC μ n f m).2.1 = f + k := by rw [es]; exact a1
            have J' : GLm (csC μ n f m).2.2 h' := by rw [es]; exact J
            have e6 : (csC μ n f k).1 = (csC μ n f m).1 := by rw [es]
            refine con_mono (m_run hb' H' hn hb1 (a0 := f + k) (z := f + m) (L := m - k) (by omega) (by omega) (by omega) (by omega) (fun e q1 q2 => (sh e q1 q2).1) J' (by omega)) ?_
            rintro r h2 ⟨rfl, hb2, f2, J2⟩
            rw [hf] at J2 ⊢
            have ec : cutC μ n f (f + m) (csC μ n f m) = ((csC μ n f m).1 + leaC (jnC μ n f) (f + m) (m - k), (csC μ n f m).2.2 ++ grpC (jnC μ n f) (f + m) (m - k) (m - k)) := by
              unfold cutC
              rw [ea, show f + m - (f + k) = m - k by omega]
            have ec1 : (csC μ n f k).1 + leaC (jnC μ n f) (f + m) (m - k) = (cutC μ n f (f + m) (csC μ n f m)).1 := by rw [ec, e6]
            have J3 : GLm (cutC μ n f (f + m) (csC μ n f m)).2 h2 := by rw [ec]; exact J2
            refine ⟨_, rfl, hb2, by rw [ec1]; omega, ⟨rfl, fr_t fw f2 (fun _ _ w => w), m, rfl, ?_⟩, by omega⟩
            rw [ec1]
            by_cases ct : f + m < t
            · have e : csC μ n f (m + 1) = ((cutC μ n f (f + m) (csC μ n f m)).1, f + m + 1, (cutC μ n f (f + m) (csC μ n f m)).2) := by rw [csC, dif_f (ns ct)]
              refine Or.inr (Or.inl ⟨ct, ns ct, ?_, ?_, ?_⟩)
              · rw [e]
              · rw [e]
              · rw [e]; exact J3
            · obtain rfl : t = f + m := by omega
              rw [show f + m - f = m by omega] at *
              exact Or.inr (Or.inr ⟨rfl, by rw [show f + m - f = m by omega], by rw [show f + m - f = m by omega]; exact J3⟩)
        refine ⟨fun q => cut (fun w => by omega), fun q => ⟨⟨by omega, by omega⟩, ⟨by omega, by omega⟩, ?_⟩⟩
        refine con_mono (m_short hb' H' hn (e := f + m) (by omega)) ?_
        rintro r h2 ⟨z, rfl, hb2, rfl, zz⟩
        refine ⟨z, rfl, hb2, fun q2 => cut (fun _ => ?_), fun q2 => ⟨⟨by omega, by omega⟩, ⟨rfl, rfl, rfl, rfl, m + 1, by omega, by omega, by omega, fun e h1 h2 => ?_⟩, by omega⟩⟩
        · rcases zz with ⟨-, x⟩ | ⟨x, -⟩
          · exact x
          · omega
        · by_cases ce : e = f + m
          · subst ce
            rcases zz with ⟨x, -⟩ | ⟨-, x⟩
            · exact absurd x q2
            · exact x
          · exact sh e h1 (by omega)
      refine b_MD_beam_106 in117 hbh ?_
      unfold B_MD_beam_106
      exact ⟨fun w => by omega, fun w => ⟨rfl, rfl, rfl, rfl, k, rfl, Nat.le_refl _, by omega, fun e h1 h2 => by omega⟩⟩
  refine c_MD_beam (X47 := fun v3 v4 v5 v6 hh => hh = h ∧ v3 = (f : Int) ∧ v4 = (t : Int) ∧ ∃ k : Nat, v6 = ((f + k : Nat) : Int) ∧ f + k ≤ t ∧ v5 = (cntS μ n f k : Int) ∧ cntS μ n f k ≤ k) ?_ hb0 (fun _ _ => ?_)
  · refine lp_MD_beam_47 (X106 := fun v4 v6 v7 hh => ¬ 14 < cntS μ n f (t - f) ∧ (v4 = (t : Int) ∧ fr JWr h hh ∧ ∃ k : Nat, v7 = ((f + k : Nat) : Int) ∧ BM6 μ n f t v6 k hh)) (fun v4 v6 v7 hh hb' x => key x.1 ((400 - v7).toNat + 1) v4 v6 v7 hh hb' x.2 (Nat.lt_succ_self _)) _ (fun _ _ _ v6 _ => (400 - v6).toNat) ?_
    rintro v3 v4 v5 v6 hh hb2 ⟨rfl, rfl, rfl, k, rfl, hk, rfl, ck⟩
    unfold B_MD_beam_47 B_MD_beam_76
    refine ⟨fun q => ?_, fun q => ⟨⟨by omega, by omega⟩, ⟨by omega, by omega⟩, ?_⟩⟩
    · have ek : cntS μ n f (t - f) = cntS μ n f k := by rw [show t - f = k by omega]
      refine ⟨fun q2 h1 e1' => ⟨by omega, rfl, fr_i fr_0 e1' (by omega), 0, by omega, Or.inl ⟨em, rfl, rfl, mv_i e1', fun k v hk => by cases hk⟩⟩, fun q2 => ⟨by rw [eB, dif_t (by omega)], hb2, fr_0, fun _ => rfl, fun x => absurd (show 14 < cntS μ n f (t - f) by omega) x⟩⟩
    refine con_mono (m_short hb2 H hn (e := f + k) (by omega)) ?_
    rintro r h2 ⟨z, rfl, hb3, rfl, zz⟩
    refine ⟨z, rfl, hb3, fun q2 => ⟨⟨by omega, by omega⟩, ⟨by omega, by omega⟩, ⟨rfl, rfl, rfl, k + 1, by omega, by omega, ?_, ?_⟩, by omega⟩, fun q2 => ⟨⟨by omega, by omega⟩, ⟨by omega, by omega⟩, ⟨rfl, rfl, rfl, k + 1, by omega, by omega, ?_, ?_⟩, by omega⟩⟩
    all_goals rw [cntS]
    · rw [dif_f (by rcases zz with ⟨-, x⟩ | ⟨x, -⟩; exact x; omega)]; omega
    · rw [dif_f (by rcases zz with ⟨-, x⟩ | ⟨x, -⟩; exact x; omega)]; omega
    · rw [dif_t (by rcases zz with ⟨x, -⟩ | ⟨-, x⟩; exact absurd x q2; exact x)]; omega
    · rw [dif_t (by rcases zz with ⟨x, -⟩ | ⟨-, x⟩; exact absurd x q2; exact x)]; omega
  · unfold B_MD_beam_0
    refine con_mono (t_MD_isVoice hb0 H.1) ?_
    rintro r h2 ⟨hb2, rfl, rfl⟩
    refine ⟨_, rfl, hb2, fun q => ?_, fun q => ⟨fun q2 => by omega, fun q2 => ⟨by omega, ?_⟩⟩⟩
    · rw [if_pos (by omega)] at q
      exact absurd q (by decide)
    rw [tn_c]
    intro x5 e5 _ _
    have ex := e5.trans hN2
    subst ex
    refine ⟨fun q3 => ?_, fun q3 => by omega⟩
    refine con_mono (first hb2 rfl) ?_
    rintro r h7 ⟨rfl, hb7, rfl⟩
    refine ⟨_, rfl, hb7, ⟨by omega, by omega⟩, ?_⟩
    refine con_mono (second hb7 rfl) ?_
    rintro r h11 ⟨rfl, hb11, rfl⟩
    exact ⟨_, rfl, hb11, rfl, rfl, rfl, 0, rfl, em, rfl, Nat.le_refl _⟩
end
