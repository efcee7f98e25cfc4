/-! ===== judge, the reference: all voices ===== -/
section
variable {G : cx_T} {s : Nat} {h : ah_T} {μ : pm_T}
def JG7 (μ : pm_T) (h : ah_T) (v1 : Int) (hh : ah_T) : Prop := ∃ n : Nat, v1 = (n : Int) ∧ (n : Int) ≤ μ 0 7 ∧ fr JWm h hh ∧ MLl (juF μ n) hh
def JG19 (μ : pm_T) (h : ah_T) (v1 v2 : Int) (hh : ah_T) : Prop := ∃ n i : Nat, v1 = (n : Int) ∧ v2 = (i : Int) ∧ (n : Int) < μ 0 7 ∧ (i : Int) ≤ μ (10 + n) 0 + 1 ∧ fr JWm h hh ∧ MLl (juF μ n ++ voF μ n i) hh
def JG31 (μ : pm_T) (h : ah_T) (v1 v2 v3 : Int) (hh : ah_T) : Prop := ∃ n i b : Nat, v1 = (n : Int) ∧ v2 = (i : Int) ∧ v3 = (b : Int) ∧ (n : Int) < μ 0 7 ∧ (i : Int) ≤ μ (10 + n) 0 ∧ (b : Int) ≤ μ (10 + n) 1 ∧ fr JWm h hh ∧ MLl (juF μ n ++ voF μ n i ++ barF μ n i b) hh
theorem JG_l {n i b : Nat} (GG : GM μ) (hn : (n : Int) < μ 0 7) (hi : (i : Int) ≤ μ (10 + n) 0) (hb1 : (b : Int) ≤ μ (10 + n) 1) : (juF μ n ++ voF μ n i ++ barF μ n i b).length + (2 + 2 * n) ≤ 7000 := by
  have m := GG.2.2 n hn
  have m1 := m.1
  have m2 := m.2.1
  have b4 := GG.1.1
  have j := juF_l GG n (by omega)
  have v := voF_l (μ := μ) (n := n) i
  have bc := barF_c (μ := μ) (n := n) (e := i) b
  have cl := cntb_l (μ := μ) (n := n) (e := i) (μ (10 + n) 1).toNat
  have cl2 := cntb_l (μ := μ) (n := n) (e := i + 1) b
  have w : (2 + 2 * n) * i ≤ (2 + 2 * n) * 300 := Nat.mul_le_mul_left _ (by omega)
  have lb := LBj_4 n (by omega)
  unfold wEv at lb
  rw [List.length_append, List.length_append]
  omega
theorem t_MD_judge (hb0 : hb s h) (H : MV μ h) : con G 6 0 0 m_MD_judge [av_R (some 170)] h (fun r h' => r = some (av_I ((juF μ (μ 0 7).toNat).length : Int)) ∧ hb s h' ∧ fr JWm h h' ∧ MLl (juF μ (μ 0 7).toNat) h') := by
  have GG := H.2.1
  have b4 := GG.1.1
  have key : ∀ (N : Nat) (v1 v2 : Int) (hh : ah_T), hb s hh → JG19 μ h v1 v2 hh → ((10 - v1) * 1000 - v2).toNat < N → aw G (rm_R 6 0 0) m_MD_judge 0 0 19 [some (av_R (some 170)), some (av_I v1), some (av_I v2), none] [] hh (fun r h' => r = some (av_I ((juF μ (μ 0 7).toNat).length : Int)) ∧ hb s h' ∧ fr JWm h h' ∧ MLl (juF μ (μ 0 7).toNat) h') := by
    intro N
    induction N with
    | zero => intro v1 v2 hh _ _ q; omega
    | succ N ih =>
      rintro v1 v2 hh hbh ⟨n, i, rfl, rfl, hn, hi, f, J⟩ hN'
      have H1 := MV_f H f JWm_w
      have m := GG.2.2 n hn
      have m1 := m.1
      have m2 := m.2.1
      have in31 : ∀ (a1 a2 a3 : Int) (h' : ah_T), hb s h' → (JG31 μ h a1 a2 a3 h' ∧ a1 = (n : Int) ∧ a2 = (i : Int)) → aw G (rm_R 6 0 0) m_MD_judge 0 0 31 [some (av_R (some 170)), some (av_I a1), some (av_I a2), some (av_I a3)] [] h' (fun r h' => r = some (av_I ((juF μ (μ 0 7).toNat).length : Int)) ∧ hb s h' ∧ fr JWm h h' ∧ MLl (juF μ (μ 0 7).toNat) h') := by
        refine lp_MD_judge_31 (X19 := fun a b h' => JG19 μ h a b h' ∧ a = (n : Int) ∧ b = (i : Int) + 1) (fun a b h' hb' x => ih a b h' hb' x.1 (by have := x.2; omega)) _ (fun _ _ a3 _ => (200 - a3).toNat) ?_
        rintro a1 a2 a3 h' hb' ⟨⟨n', i', b, rfl, rfl, rfl, -, hi', hb2, f', J'⟩, en, ei⟩
        obtain rfl : n' = n := by omega
        obtain rfl : i' = i := by omega
        have H' := MV_f H f' JWm_w
        obtain ⟨hN1, hN2, -⟩ := MV_n H' hn
        have ll := JG_l GG hn hi' hb2
        unfold B_MD_judge_31 B_MD_judge_68 B_MD_judge_90
        refine ⟨by omega, ?_⟩
        rw [tn_c]
        intro x2 e2 _ _
        have ex := e2.trans hN2
        subst ex
        refine ⟨fun q x5 e5 _ _ => ?_, fun q => ?_⟩
        · have ex := e5.trans hN1
          subst ex
          have eb : b = (μ (10 + n') 1).toNat := by omega
          have voS : juF μ n' ++ voF μ n' (i' + 1) = juF μ n' ++ voF μ n' i' ++ barF μ n' i' b ++ pif ((i' : Int) < μ (10 + n') 0) (evF μ n' i') := by
            show juF μ n' ++ (voF μ n' i' ++ (barF μ n' i' (μ (10 + n') 1).toNat ++ pif ((i' : Int) < μ (10 + n') 0) (evF μ n' i'))) = _
            rw [← eb, ← List.append_assoc, ← List.append_assoc]
          refine ⟨fun q2 => ⟨⟨by omega, by omega⟩, ⟨n', i' + 1, rfl, by omega, hn, by omega, f', ?_⟩, rfl, rfl⟩, fun q2 => ?_⟩
          · rw [voS, pif_f (by omega), List.append_nil]
            exact J'
          · have he : (i' : Int) < μ (10 + n') 0 := by omega
            refine con_mono (m_event hb' H' hn he J' (by omega)) ?_
            rintro r h3 ⟨rfl, hb3, f3, J3⟩
            refine ⟨rfl, hb3, ⟨by omega, by omega⟩, ⟨n', i' + 1, rfl, by omega, hn, by omega, fr_t f' f3 (fun _ _ w => w), ?_⟩, rfl, rfl⟩
            rw [voS, pif_t he]
            exact J3
        have hbl : (b : Int) < μ (10 + n') 1 := by omega
        have bS : ∀ X, barF μ n' i' (b + 1) = X ↔ barF μ n' i' b ++ pif (brE μ n' b = i' ∧ ¬ WHo μ n' b) [(1, (n' : Int), (i' : Int), (b : Int))] = X := fun X => Iff.rfl
        have nxt : ∀ {h2 : ah_T}, fr JWm h h2 → MLl (juF μ n' ++ voF μ n' i' ++ barF μ n' i' (b + 1)) h2 → ((-2147483648) ≤ ((b : Int) + 1) ∧ ((b : Int) + 1) ≤ 2147483647) ∧ ((JG31 μ h (n' : Int) (i' : Int) ((b : Int) + 1) h2 ∧ (n' : Int) = (n' : Int) ∧ (i' : Int) = (i' : Int)) ∧ (200 - ((b : Int) + 1)).toNat < (200 - (b : Int)).toNat) := fun f2 J2 => ⟨⟨by omega, by omega⟩, ⟨⟨n', i', b + 1, rfl, rfl, by omega, hn, hi', by omega, f2, J2⟩, rfl, rfl⟩, by omega⟩
        refine con_mono (m_firstOf hb' H' hn hbl) ?_
        rintro r h2 ⟨rfl, hb2', rfl⟩
        refine ⟨_, rfl, hb2', fun q2 => ?_, fun q2 => nxt f' ?_⟩
        rotate_left
        · have : barF μ n' i' (b + 1) = barF μ n' i' b := by rw [bS, pif_f (fun w => q2 (by rw [w.1])), List.append_nil]
          rw [this]
          exact J'
        refine con_mono (m_isWhole hb2' H' hn hbl) ?_
        rintro r h3 ⟨z, rfl, hb3, f3, i3, zz⟩
        have f3' := fr_t f' (fr_sm f3) (fun _ _ w => w)
        have J3 := MLl_f J' i3
        refine ⟨z, rfl, hb3, fun q3 => ?_, fun q3 => nxt f3' ?_⟩
        · have no : ¬ WHo μ n' b := by
            rcases zz with ⟨-, x⟩ | ⟨x, -⟩
            · exact x
            · omega
          refine con_mono (m_tell hb3 J3 (by omega)) ?_
          rintro r h4 ⟨rfl, hb4, f4, J4⟩
          refine ⟨rfl, hb4, nxt (fr_t f3' f4 (fun _ _ w => w)) ?_⟩
          have : barF μ n' i' (b + 1) = barF μ n' i' b ++ [(1, (n' : Int), (i' : Int), (b : Int))] := by rw [bS, pif_t ⟨by omega, no⟩]
          rw [this, ← List.append_assoc]
          exact J4
        · have yes : WHo μ n' b := by
            rcases zz with ⟨x, -⟩ | ⟨-, x⟩
            · exact absurd x q3
            · exact x
          have : barF μ n' i' (b + 1) = barF μ n' i' b := by rw [bS, pif_f (fun w => w.2 yes), List.append_nil]
          rw [this]
          exact J3
      refine b_MD_judge_19 (X7 := fun a h' => JG7 μ h a h' ∧ a = (n : Int) + 1) (X31 := fun a1 a2 a3 h' => JG31 μ h a1 a2 a3 h' ∧ a1 = (n : Int) ∧ a2 = (i : Int)) ?_ in31 hbh ?_
      · rintro a h' hb' ⟨⟨n', rfl, hn', f', J'⟩, en⟩
        refine b_MD_judge_7 (X19 := fun a b h' => JG19 μ h a b h' ∧ a = (n : Int) + 1 ∧ b = 0) (fun a b h' hb' x => ih a b h' hb' x.1 (by have := x.2; omega)) hb' ?_
        have H' := MV_f H f' JWm_w
        unfold B_MD_judge_7
        intro x2 e2 _ _
        have ex := e2.trans H'.1.1.1
        subst ex
        refine ⟨fun q x3 e3 _ _ => ?_, fun q => ⟨⟨n', 0, rfl, rfl, by omega, by have := (GG.2.2 n' (by omega)).1; omega, f', by show MLl (juF μ n' ++ []) h'; rw [List.append_nil]; exact J'⟩, en, rfl⟩⟩
        have en2 : (μ 0 7).toNat = n' := by omega
        rw [en2]
        obtain rfl := e3.trans J'.1
        exact ⟨rfl, hb', f', J'⟩
      · obtain ⟨hN1, hN2, -⟩ := MV_n H1 hn
        unfold B_MD_judge_19
        refine ⟨by omega, ?_⟩
        rw [tn_c]
        intro x2 e2 _ _
        have ex := e2.trans hN1
        subst ex
        refine ⟨fun q => ⟨⟨by omega, by omega⟩, ⟨n + 1, by omega, by omega, f, ?_⟩, rfl⟩, fun q => ⟨⟨n, i, 0, rfl, rfl, rfl, hn, by omega, by omega, f, ?_⟩, rfl, rfl⟩⟩
        · show MLl (juF μ n ++ voF μ n ((μ (10 + n) 0).toNat + 1)) hh
          rw [show (μ (10 + n) 0).toNat + 1 = i by omega]
          exact J
        · show MLl (juF μ n ++ voF μ n i ++ []) hh
          rw [List.append_nil]
          exact J
  refine c_MD_judge (X7 := fun a h' => JG7 μ h a h' ∧ a = 0) ?_ hb0 ?_
  · rintro a h' hb' ⟨⟨n', rfl, hn', f', J'⟩, en⟩
    refine b_MD_judge_7 (X19 := fun a b h' => JG19 μ h a b h' ∧ a = 0 ∧ b = 0) (fun a b h' hb' x => key 20000 a b h' hb' x.1 (by have := x.2; omega)) hb' ?_
    have H' := MV_f H f' JWm_w
    unfold B_MD_judge_7
    intro x2 e2 _ _
    have ex := e2.trans H'.1.1.1
    subst ex
    refine ⟨fun q x3 e3 _ _ => ?_, fun q => ⟨⟨n', 0, rfl, rfl, by omega, by have := (GG.2.2 n' (by omega)).1; omega, f', by show MLl (juF μ n' ++ []) h'; rw [List.append_nil]; exact J'⟩, en, rfl⟩⟩
    have en2 : (μ 0 7).toNat = n' := by omega
    rw [en2]
    obtain rfl := e3.trans J'.1
    exact ⟨rfl, hb', f', J'⟩
  · unfold B_MD_judge_0
    exact fun h1 e1 => ⟨⟨0, rfl, b4.1, fr_i fr_0 e1 (Or.inl ⟨rfl, Or.inr (Or.inr rfl)⟩), ⟨mv_i e1, fun k q hq => by cases hq⟩⟩, rfl⟩
end
