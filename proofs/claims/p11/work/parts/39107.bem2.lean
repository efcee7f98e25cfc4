/-! ===== beam, the class: a run ===== -/
def GLc (l : List Int) (h : ah_T) : Prop := h.2.1 146 1 = (l.length : Int) ∧ ∀ (k : Nat) (v : Int), l[k]? = some v → h.2.1 147 k = v
abbrev JWb : Nat → Nat → Prop := fun a k => (a = 146 ∧ k = 1) ∨ (147 ≤ a ∧ a ≤ 149)
theorem JWb_43 : ∀ a k, JWb a k → 143 ≤ a := by
  intro a k w
  rcases w with w | w <;> omega
/-- the last r of L places are told -/
def BTc (jc : Nat → Int) (z L r : Nat) (h : ah_T) : Prop := ∀ k, k ≤ r → h.2.1 148 (L - k) = leaC jc z k ∧ (1 ≤ k → h.2.1 149 (L - k) = takC jc z k)
section
variable {G : cx_T} {s c n b : Nat} {h : ah_T} {μ : pm_T} {l : List Int}
theorem j_cut {a0 z L : Nat} (hb0 : hb s h) (H : CV μ c h) (hn : (n : Int) < μ 0 7) (hb1 : (b : Int) < μ (10 + n) 1) (hf : brE μ n b ≤ a0) (hz : (z : Int) ≤ μ (10 + n) 0) (hL : z = a0 + L) (hs : ∀ e, a0 ≤ e → e < z → 1 ≤ pt μ n e) (J : GLc l h) (hl : l.length + L ≤ 14) :
    con G 2 0 0 m_Beams_cutRun [av_R (some 146), av_R (some (c + 7 + 14 * n)), av_I (b : Int), av_I (a0 : Int), av_I (z : Int), av_I (μ 0 2)] h (fun r h' => r = some (av_I (leaC (jnC μ n (brE μ n b)) z L)) ∧ hb s h' ∧ fr JWb h h' ∧ GLc (l ++ grpC (jnC μ n (brE μ n b)) z L L) h') := by
  obtain ⟨hv, -, -, hE, hB, n4⟩ := CV_v H hn
  have GG := H.2.2.1
  have hj : ∀ e, z - L < e → e < z → 0 ≤ jnC μ n (brE μ n b) e ∧ jnC μ n (brE μ n b) e ≤ 61 := fun e h1 h2 => jnC_b GG hn (by omega) (hs e (by omega) h2) (hs (e - 1) (by omega) (by omega))
  have lb := leaC_b (jc := jnC μ n (brE μ n b)) (z := z) (r := L) (by omega) hj
  have l174 : ∀ (v6 v7 : Int) (hh : ah_T), hb s hh → (v6 = (L : Int) ∧ fr JWb h hh ∧ BTc (jnC μ n (brE μ n b)) z L L hh ∧ ∃ (q : Nat) (em : List Int), v7 = (L : Int) - q ∧ q ≤ L ∧ GLc (l ++ em) hh ∧ em ++ grpC (jnC μ n (brE μ n b)) z q q = grpC (jnC μ n (brE μ n b)) z L L ∧ em.length + q ≤ L) → aw G (rm_R 2 0 0) m_Beams_cutRun 0 0 174 [some (av_R (some 146)), none, none, none, none, none, some (av_I v6), some (av_I v7), none, none] [] hh (fun r h' => r = some (av_I (leaC (jnC μ n (brE μ n b)) z L)) ∧ hb s h' ∧ fr JWb h h' ∧ GLc (l ++ grpC (jnC μ n (brE μ n b)) z L L) h') := by
    refine lp_Beams_cutRun_174 (a1 := c + 7 + 14 * n) (a2 := (b : Int)) (a3 := (a0 : Int)) (a4 := (z : Int)) (a5 := μ 0 2) hv _ (fun _ v7 _ => (20 - v7).toNat) ?_
    rintro v6 v7 hh hb1' ⟨rfl, f, T, q, em, rfl, hq, J1, ee, el⟩
    unfold B_Beams_cutRun_174 B_Beams_cutRun_234
    have fin : q = 0 → ∀ x2 : Int, x2 = hh.2.1 148 0 → (-2147483648) ≤ x2 → x2 ≤ 2147483647 → some (av_I x2) = some (av_I (leaC (jnC μ n (brE μ n b)) z L)) ∧ hb s hh ∧ fr JWb h hh ∧ GLc (l ++ grpC (jnC μ n (brE μ n b)) z L L) hh := by
      rintro rfl x2 e2 _ _
      have t := (T L (Nat.le_refl _)).1
      rw [Nat.sub_self] at t
      rw [e2, t]
      refine ⟨rfl, hb1', f, ?_⟩
      rw [← ee, show grpC (jnC μ n (brE μ n b)) z 0 0 = [] from rfl, List.append_nil]
      exact J1
    refine ⟨fun w => fin (by omega), fun w x1 e1 _ _ => ?_⟩
    obtain rfl := e1.trans J1.1
    have ll : (l ++ em).length = l.length + em.length := List.length_append
    have tb := takC_b (jc := jnC μ n (brE μ n b)) (z := z) (r := q) (by omega)
    refine ⟨fun w2 => by omega, fun w2 => ⟨by omega, fun x6 e6 _ _ => ⟨by omega, fun h9 e9 => ⟨⟨by omega, by omega⟩, fun h13 e13 => ?_⟩⟩⟩⟩
    have ex6 : x6 = takC (jnC μ n (brE μ n b)) z q := by
      rw [e6, show ((L : Int) - q).toNat = L - q by omega]
      exact (T q hq).2 (by omega)
    subst ex6
    rw [tn_c] at e9
    refine ⟨⟨by omega, by omega⟩, ⟨rfl, fr_i (fr_i f e9 (by omega)) e13 (by omega), fun k hk => ?_, q - (takC (jnC μ n (brE μ n b)) z q).toNat, em ++ [takC (jnC μ n (brE μ n b)) z q], by omega, by omega, ?_, ?_, ?_⟩, by omega⟩
    · rw [mm_i e13 (by omega), mm_i e9 (by omega), mm_i e13 (by omega), mm_i e9 (by omega)]
      exact T k hk
    · rw [← List.append_assoc]
      refine ⟨by rw [mv_i e13]; simp only [List.length_append, List.length_cons, List.length_nil] at *; omega, fun k v hk => ?_⟩
      rw [mm_i e13 (by omega)]
      by_cases ck : k = (l ++ em).length
      · subst ck
        rw [List.getElem?_concat_length] at hk
        obtain rfl := Option.some.inj hk
        exact mv_i e9
      · have kl : k < (l ++ em).length := by
          by_cases cc : k < (l ++ em).length
          · exact cc
          · rw [List.getElem?_eq_none (by rw [List.length_append]; show (l ++ em).length + 1 ≤ k; omega)] at hk
            cases hk
        rw [List.getElem?_append_left kl] at hk
        rw [mm_i e9 (by omega)]
        exact J1.2 k v hk
    · rw [List.append_assoc, ← ee, grpC_s (r := q) (by omega)]
      rfl
    · rw [List.length_append]
      show em.length + 1 + _ ≤ _
      omega
  have key : ∀ (N : Nat) (v6 v7 : Int) (hh : ah_T), hb s hh → (v6 = (L : Int) ∧ fr JWb h hh ∧ GLc l hh ∧ ∃ r : Nat, r ≤ L ∧ v7 = (L : Int) - 1 - r ∧ BTc (jnC μ n (brE μ n b)) z L r hh) → (v7 + 1).toNat < N → aw G (rm_R 2 0 0) m_Beams_cutRun 0 0 32 [some (av_R (some 146)), some (av_R (some (c + 7 + 14 * n))), some (av_I (b : Int)), some (av_I (a0 : Int)), none, some (av_I (μ 0 2)), some (av_I v6), some (av_I v7), none, none] [] hh (fun r h' => r = some (av_I (leaC (jnC μ n (brE μ n b)) z L)) ∧ hb s h' ∧ fr JWb h h' ∧ GLc (l ++ grpC (jnC μ n (brE μ n b)) z L L) h') := by
    intro N
    induction N with
    | zero => intro v6 v7 hh _ _ q; omega
    | succ N ih =>
      rintro v6 v7 hh hbh ⟨rfl, f, J1, r, hr, rfl, T⟩ hN
      by_cases rL : r = L
      · subst rL
        refine b_Beams_cutRun_32 (a4 := (z : Int)) (X69 := fun _ _ _ _ _ => False) hv (fun _ _ _ _ _ _ x => x.elim) l174 hbh ?_
        unfold B_Beams_cutRun_32
        exact ⟨fun _ => ⟨rfl, f, T, r, [], by omega, Nat.le_refl _, by rw [List.append_nil]; exact J1, rfl, by show 0 + _ ≤ _; omega⟩, fun w => by omega⟩
      have W : ∀ k, k < r + 1 → 0 ≤ leaC (jnC μ n (brE μ n b)) z k ∧ leaC (jnC μ n (brE μ n b)) z k ≤ 3 * (k : Int) := fun k hk => lb k (by omega)
      have ic := innC_c (jc := jnC μ n (brE μ n b)) (W := leaC (jnC μ n (brE μ n b)) z) (a := z - (r + 1)) (r := r + 1) (by omega) (fun e h1 h2 => hj e (by omega) (by omega)) W
      have tgb := togC_b (jc := jnC μ n (brE μ n b)) (a := z - (r + 1)) (M := r) (fun k hk => hj _ (by omega) (by omega))
      have in69 : ∀ (v6 v7 v8 v9 : Int) (h' : ah_T), hb s h' → (v6 = (L : Int) ∧ v7 = (L : Int) - 1 - r ∧ fr JWb h h' ∧ GLc l h' ∧ BTc (jnC μ n (brE μ n b)) z L r h' ∧ ∃ k : Nat, v9 = (k : Int) + 2 ∧ k ≤ 5 ∧ k ≤ r ∧ v8 = togC (jnC μ n (brE μ n b)) (z - (r + 1)) k ∧ h'.2.1 148 (L - (r + 1)) = (innC (jnC μ n (brE μ n b)) (leaC (jnC μ n (brE μ n b)) z) (z - (r + 1)) (r + 1) k).1 ∧ h'.2.1 149 (L - (r + 1)) = (innC (jnC μ n (brE μ n b)) (leaC (jnC μ n (brE μ n b)) z) (z - (r + 1)) (r + 1) k).2) → aw G (rm_R 2 0 0) m_Beams_cutRun 0 0 69 [some (av_R (some 146)), some (av_R (some (c + 7 + 14 * n))), some (av_I (b : Int)), some (av_I (a0 : Int)), none, some (av_I (μ 0 2)), some (av_I v6), some (av_I v7), some (av_I v8), some (av_I v9)] [] h' (fun r h' => r = some (av_I (leaC (jnC μ n (brE μ n b)) z L)) ∧ hb s h' ∧ fr JWb h h' ∧ GLc (l ++ grpC (jnC μ n (brE μ n b)) z L L) h') := by
        refine lp_Beams_cutRun_69 (a4 := (z : Int)) (X32 := fun v6 v7 hh => (v6 = (L : Int) ∧ fr JWb h hh ∧ GLc l hh ∧ ∃ r : Nat, r ≤ L ∧ v7 = (L : Int) - 1 - r ∧ BTc (jnC μ n (brE μ n b)) z L r hh) ∧ v7 = (L : Int) - 1 - r - 1) hv (fun v6 v7 hh hb' x => ih v6 v7 hh hb' x.1 (by have := x.2; omega)) _ (fun _ _ _ v9 _ => (10 - v9).toNat) ?_
        rintro v6 v7 v8 v9 h' hb' ⟨rfl, rfl, f', J', T', k, rfl, k5, kr, rfl, c8, c9⟩
        have H' := CV_f H f' JWb_43
        unfold B_Beams_cutRun_69 B_Beams_cutRun_165 B_Beams_cutRun_159
        have out : innC (jnC μ n (brE μ n b)) (leaC (jnC μ n (brE μ n b)) z) (z - (r + 1)) (r + 1) 5 = innC (jnC μ n (brE μ n b)) (leaC (jnC μ n (brE μ n b)) z) (z - (r + 1)) (r + 1) k → ((-2147483648) ≤ ((L : Int) - 1 - r - 1) ∧ ((L : Int) - 1 - r - 1) ≤ 2147483647) ∧ (((L : Int) = (L : Int) ∧ fr JWb h h' ∧ GLc l h' ∧ ∃ r' : Nat, r' ≤ L ∧ (L : Int) - 1 - r - 1 = (L : Int) - 1 - r' ∧ BTc (jnC μ n (brE μ n b)) z L r' h') ∧ (L : Int) - 1 - r - 1 = (L : Int) - 1 - r - 1) := fun eq => by
          refine ⟨⟨by omega, by omega⟩, ⟨rfl, f', J', r + 1, by omega, by omega, fun k' hk' => ?_⟩, rfl⟩
          by_cases ck : k' = r + 1
          · subst ck
            unfold leaC takC
            rw [tab_s, eq]
            exact ⟨c8, fun _ => c9⟩
          · exact T' k' (by omega)
        refine ⟨fun w => out ?_, fun w => ⟨⟨by omega, by omega⟩, fun w2 => out (innC_e 5 k5 (by omega)), fun w2 => ⟨⟨by omega, by omega⟩, ⟨by omega, by omega⟩, ⟨by omega, by omega⟩, ?_⟩⟩⟩
        · have : k = 5 := by omega
          rw [this]
        have ee : (a0 : Int) + ((L : Int) - 1 - r) + ((k : Int) + 2) - 1 = ((z - (r + 1) + k + 1 : Nat) : Int) := by omega
        have tk := tgb k (by omega)
        have tk1 := tgb (k + 1) (by omega)
        have icS := ic (k + 1)
        have ick := ic k
        rw [ee]
        refine con_mono (j_join hb' H' hn hb1 (e := z - (r + 1) + k + 1) (by omega) (by omega) (hs _ (by omega) (by omega)) (hs _ (by omega) (by omega))) ?_
        rintro r5 h5 ⟨rfl, hb5, rfl⟩
        refine ⟨_, rfl, hb5, ?_, by omega, fun x10 e10 _ _ => ?_⟩
        · show (-2147483648) ≤ togC (jnC μ n (brE μ n b)) (z - (r + 1)) (k + 1) ∧ togC (jnC μ n (brE μ n b)) (z - (r + 1)) (k + 1) ≤ 2147483647
          omega
        have ts : togC (jnC μ n (brE μ n b)) (z - (r + 1)) k + jnC μ n (brE μ n b) (z - (r + 1) + k + 1) = togC (jnC μ n (brE μ n b)) (z - (r + 1)) (k + 1) := rfl
        rw [ts]
        have ex : x10 = leaC (jnC μ n (brE μ n b)) z (r + 1 - (k + 2)) := by
          rw [e10, show ((L : Int) - 1 - r + ((k : Int) + 2)).toNat = L - (r + 1 - (k + 2)) by omega]
          exact (T' _ (by omega)).1
        subst ex
        have wk := W (r + 1 - (k + 2)) (by omega)
        refine ⟨⟨by omega, by omega⟩, by omega, fun x14 e14 _ _ => ?_⟩
        rw [show ((L : Int) - 1 - r).toNat = L - (r + 1) by omega] at e14
        have ex := e14.trans c8
        subst ex
        have inS : innC (jnC μ n (brE μ n b)) (leaC (jnC μ n (brE μ n b)) z) (z - (r + 1)) (r + 1) (k + 1) = (if k + 2 ≤ r + 1 ∧ togC (jnC μ n (brE μ n b)) (z - (r + 1)) (k + 1) + leaC (jnC μ n (brE μ n b)) z (r + 1 - (k + 2)) ≤ (innC (jnC μ n (brE μ n b)) (leaC (jnC μ n (brE μ n b)) z) (z - (r + 1)) (r + 1) k).1 then (togC (jnC μ n (brE μ n b)) (z - (r + 1)) (k + 1) + leaC (jnC μ n (brE μ n b)) z (r + 1 - (k + 2)), ((k + 2 : Nat) : Int)) else innC (jnC μ n (brE μ n b)) (leaC (jnC μ n (brE μ n b)) z) (z - (r + 1)) (r + 1) k) := rfl
        by_cases k6 : k = 5
        · subst k6; omega
        refine ⟨fun w3 => ⟨⟨by omega, by omega⟩, ⟨rfl, rfl, f', J', T', k + 1, by omega, by omega, by omega, rfl, ?_, ?_⟩, by omega⟩, fun w3 h17 e17 h22 e22 => ⟨⟨by omega, by omega⟩, ⟨rfl, rfl, fr_i (fr_i f' e17 (by omega)) e22 (by omega), ⟨?_, fun k' v hk => ?_⟩, fun k' hk' => ?_, k + 1, by omega, by omega, by omega, rfl, ?_, ?_⟩, by omega⟩⟩
        · rw [inS, if_neg (fun w => by have := w.2; omega)]; exact c8
        · rw [inS, if_neg (fun w => by have := w.2; omega)]; exact c9
        · rw [mm_i e22 (by omega), mm_i e17 (by omega)]; exact J'.1
        · rw [mm_i e22 (by omega), mm_i e17 (by omega)]; exact J'.2 k' v hk
        · rw [mm_i e22 (by omega), mm_i e17 (by omega), mm_i e22 (by omega), mm_i e17 (by omega)]; exact T' k' hk'
        · rw [inS, if_pos ⟨by omega, by omega⟩]
          rw [show ((L : Int) - 1 - r).toNat = L - (r + 1) by omega] at e22
          exact mv_i e22
        · rw [inS, if_pos ⟨by omega, by omega⟩, mm_i e22 (by omega)]
          rw [show ((L : Int) - 1 - r).toNat = L - (r + 1) by omega] at e17
          rw [mv_i e17]
          dsimp only
          omega
      refine b_Beams_cutRun_32 (a4 := (z : Int)) (X174 := fun _ _ _ => False) hv in69 (fun _ _ _ _ x => x.elim) hbh ?_
      unfold B_Beams_cutRun_32
      refine ⟨fun w => by omega, fun w => ⟨by omega, fun h3 e3 => ⟨⟨by omega, by omega⟩, by omega, fun x8 e8 _ _ => ?_⟩⟩⟩
      rw [show ((L : Int) - 1 - r + 1).toNat = L - r by omega, mm_i e3 (by omega)] at e8
      have ex := e8.trans (T r (Nat.le_refl _)).1
      subst ex
      have wr := lb r hr
      refine ⟨⟨by omega, by omega⟩, fun h11 e11 => ?_⟩
      rw [show ((L : Int) - 1 - r).toNat = L - (r + 1) by omega] at e3 e11
      refine ⟨rfl, rfl, fr_i (fr_i f e3 (by omega)) e11 (by omega), ⟨by rw [mm_i e11 (by omega), mm_i e3 (by omega)]; exact J1.1, fun k v hk => by rw [mm_i e11 (by omega), mm_i e3 (by omega)]; exact J1.2 k v hk⟩, fun k' hk' => ?_, 0, rfl, by omega, by omega, rfl, ?_, ?_⟩
      · rw [mm_i e11 (by omega), mm_i e3 (by omega), mm_i e11 (by omega), mm_i e3 (by omega)]; exact T k' hk'
      · rw [mv_i e11]
        show _ = 3 + leaC (jnC μ n (brE μ n b)) z (r + 1 - 1)
        rw [show r + 1 - 1 = r by omega]
        omega
      · rw [mm_i e11 (by omega), mv_i e3]
        rfl
  refine c_Beams_cutRun (X32 := fun v6 v7 hh => (v6 = (L : Int) ∧ fr JWb h hh ∧ GLc l hh ∧ ∃ r : Nat, r ≤ L ∧ v7 = (L : Int) - 1 - r ∧ BTc (jnC μ n (brE μ n b)) z L r hh)) hv (fun v6 v7 hh hb' x => key ((v7 + 1).toNat + 1) v6 v7 hh hb' x (Nat.lt_succ_self _)) hb0 (fun _ _ _ _ => ?_)
  unfold B_Beams_cutRun_0
  refine ⟨⟨by omega, by omega⟩, fun x2 e2 _ _ => ?_⟩
  have ex : x2 = (L : Int) := by
    rw [e2]
    split <;> omega
  subst ex
  refine ⟨fun w => ⟨by omega, fun h5 e5 => ⟨⟨by omega, by omega⟩, rfl, fr_i fr_0 e5 (by omega), ⟨by rw [mm_i e5 (by omega)]; exact J.1, fun k v hk => by rw [mm_i e5 (by omega)]; exact J.2 k v hk⟩, 0, Nat.zero_le _, by omega, fun k hk => ?_⟩⟩, fun w => ?_⟩
  · have : k = 0 := by omega
    subst this
    rw [tn_c] at e5
    exact ⟨mv_i e5, fun q => by omega⟩
  · have : L = 0 := by omega
    subst this
    refine ⟨rfl, hb0, fr_0, ?_⟩
    show GLc (l ++ []) h
    rw [List.append_nil]
    exact J
end
