/-! ===== page, the reference: THE BEST LINES ===== -/
def GLq (l : List Int) (h : ah_T) : Prop := h.2.1 170 89 = (l.length : Int) ∧ ∀ (k : Nat) (v : Int), l[k]? = some v → h.2.1 228 k = v
abbrev JWq : Nat → Nat → Prop := fun a k => (a = 170 ∧ (k = 65 ∨ k = 66 ∨ k = 89)) ∨ (226 ≤ a ∧ a ≤ 228)
theorem JWq_w : ∀ a k, JWq a k → a = 170 ∨ 201 ≤ a := by
  intro a k w
  rcases w with w | w <;> omega
theorem fr_sq {h h' : ah_T} (f : fr JWs h h') : fr JWq h h' := fr_w f (fun a k w => by obtain ⟨w1, w2⟩ := w; omega)
def BTq (wd : Nat → Int) (w : Int) (z r : Nat) (h : ah_T) : Prop := ∀ k, k ≤ r → h.2.1 226 (z - k) = leaL wd w z k ∧ (1 ≤ k → h.2.1 227 (z - k) = takL wd w z k)
section
variable {G : cx_T} {s : Nat} {h : ah_T} {μ : pm_T} {w : Int}
theorem t_MD_breaks (hb0 : hb s h) (H : MV μ h) (S : SG μ) : con G 5 0 0 m_MD_breaks [av_R (some 170), av_I w] h (fun r h' => r = some (av_I (brkv μ w)) ∧ hb s h' ∧ fr JWq h h' ∧ (brkv μ w < 0 → h' = h) ∧ (0 ≤ brkv μ w → GLq (lnl μ w) h')) := by
  have GG := H.2.1
  have b7 := GG.1.1
  have m0 := mbr_0 (μ := μ) (μ 0 7).toNat
  have K0 := H.1.1.1
  have bad : ∀ v : Int, v < 0 → brkv μ w = v → some (av_I v) = some (av_I (brkv μ w)) ∧ hb s h ∧ fr JWq h h ∧ (brkv μ w < 0 → h = h) ∧ (0 ≤ brkv μ w → GLq (lnl μ w) h) := fun v q e => by
    rw [e]
    exact ⟨rfl, hb0, fr_0, fun _ => rfl, fun x => by omega⟩
  by_cases hw : 1 ≤ w ∧ w ≤ 1000
  rotate_left
  · have e1 : brkv μ w = -1 := by unfold brkv; rw [dif_f hw]
    refine c_MD_breaks (X51 := fun _ _ _ => False) (fun _ _ _ _ x => x.elim) hb0 (fun _ => ?_)
    unfold B_MD_breaks_0 B_MD_breaks_12
    exact ⟨fun _ => bad _ (by decide) e1, fun q => ⟨fun q2 => absurd ⟨by omega, q2⟩ hw, fun _ => bad _ (by decide) e1⟩⟩
  by_cases v0 : μ 0 7 = 0
  · have e1 : brkv μ w = -2 := by unfold brkv; rw [dif_t hw, dif_t v0]
    refine c_MD_breaks (X51 := fun _ _ _ => False) (fun _ _ _ _ x => x.elim) hb0 (fun _ => ?_)
    unfold B_MD_breaks_0 B_MD_breaks_12
    refine ⟨fun q => by omega, fun _ => ⟨fun _ x2 e2 _ _ => ⟨fun _ => bad _ (by decide) e1, fun q => ?_⟩, fun q => by omega⟩⟩
    exact absurd ((e2.trans K0).trans v0) q
  have e0 : brkv μ w = lnv μ w := by unfold brkv; rw [dif_t hw, dif_f v0]
  by_cases big : 14 < mbr μ (μ 0 7).toNat
  · have e1 : brkv μ w = -4 := by rw [e0]; unfold lnv; rw [dif_t big]
    refine c_MD_breaks (X51 := fun _ _ _ => False) (fun _ _ _ _ x => x.elim) hb0 (fun _ => ?_)
    unfold B_MD_breaks_0 B_MD_breaks_12
    refine ⟨fun q => by omega, fun _ => ⟨fun _ x2 e2 _ _ => ⟨fun q => absurd (e2.symm.trans q) (by rw [K0]; exact v0), fun _ => ?_⟩, fun q => by omega⟩⟩
    refine con_mono (t_MD_pageBars hb0 H.1) ?_
    rintro r2 h2 ⟨hb2, rfl, rfl⟩
    exact ⟨_, rfl, hb2, fun q => by omega, fun _ => bad _ (by decide) e1⟩
  have e1 : brkv μ w = leaL (wdt μ) w (mbr μ (μ 0 7).toNat).toNat (mbr μ (μ 0 7).toNat).toNat := by rw [e0]; unfold lnv; rw [dif_f big]
  rw [e1]
  unfold lnl
  have mb := mbr_b GG (μ 0 7).toNat (by omega)
  have wB : ∀ {hh : ah_T} {b : Nat}, hb s hh → MV μ hh → (b : Int) < mbr μ (μ 0 7).toNat → con G 4 0 0 m_MD_width [av_R (some 170), av_I (b : Int)] hh (fun r h' => r = some (av_I (wdt μ b)) ∧ hb s h' ∧ fr JWs hh h') := fun hb' H' hl => t_MD_widthB hb' H' hl (by omega)
  have pB := t_MD_pageBars (G := G) hb0 H.1
  generalize eM : mbr μ (μ 0 7).toNat = M at *
  obtain ⟨Z, rfl⟩ : ∃ Z : Nat, M = Z := ⟨M.toNat, by omega⟩
  rw [tn_c]
  have hZ : Z ≤ 14 := by omega
  have hD := WDs_of GG S hZ
  generalize wdt μ = wd at *
  generalize DW μ = D at *
  have lb : ∀ k, k ≤ Z → 0 ≤ leaL wd w Z k ∧ leaL wd w Z k ≤ 1600000000 := fun k hk => by
    have x := leaL_b (w := w) ⟨by omega, hw.2⟩ hD.1 hD.2 k (by omega)
    have y := hD.2 Z
    have y2 := hD.2 (Z - k)
    omega
  have fin0 : ∀ {hh : ah_T}, hb s hh → fr JWq h hh → hh.2.1 226 0 = leaL wd w Z Z → GLq (grpL wd w Z Z Z) hh → ∀ x2 : Int, x2 = hh.2.1 226 0 → some (av_I x2) = some (av_I (leaL wd w Z Z)) ∧ hb s hh ∧ fr JWq h hh ∧ (leaL wd w Z Z < 0 → hh = h) ∧ (0 ≤ leaL wd w Z Z → GLq (grpL wd w Z Z Z) hh) := fun hb' f t J x2 e2 => by
    have := lb Z (Nat.le_refl _)
    rw [e2, t]
    exact ⟨rfl, hb', f, fun x => by omega, fun _ => J⟩
  have l213 : ∀ (v2 v3 : Int) (hh : ah_T), hb s hh → (v2 = (Z : Int) ∧ fr JWq h hh ∧ BTq wd w Z Z hh ∧ ∃ (q : Nat) (em : List Int), v3 = (Z : Int) - q ∧ q ≤ Z ∧ GLq em hh ∧ em ++ grpL wd w Z q q = grpL wd w Z Z Z ∧ em.length + q ≤ Z) → aw G (rm_R 5 0 0) m_MD_breaks 0 0 213 [some (av_R (some 170)), none, some (av_I v2), some (av_I v3), none, none, none, none, none] [] hh (fun r h' => r = some (av_I (leaL wd w Z Z)) ∧ hb s h' ∧ fr JWq h h' ∧ (leaL wd w Z Z < 0 → h' = h) ∧ (0 ≤ leaL wd w Z Z → GLq (grpL wd w Z Z Z) h')) := by
    refine lp_MD_breaks_213 (a1 := w) _ (fun _ v3 _ => (20 - v3).toNat) ?_
    rintro v2 v3 hh hb1 ⟨rfl, f, T, q, em, rfl, hq, J1, ee, el⟩
    unfold B_MD_breaks_213
    refine ⟨fun w1 x2 e2 _ _ => ?_, fun w1 x4 e4 _ _ => ?_⟩
    · obtain rfl : q = 0 := by omega
      have t := (T Z (Nat.le_refl _)).1
      rw [Nat.sub_self] at t
      refine fin0 hb1 f t ?_ x2 e2
      rw [← ee, show grpL wd w Z 0 0 = [] from rfl, List.append_nil]
      exact J1
    obtain rfl := e4.trans J1.1
    have tb := takL_b (wd := wd) (w := w) (z := Z) (r := q) (by omega)
    refine ⟨by omega, fun x6 e6 _ _ => ⟨by omega, fun h9 e9 => ⟨⟨by omega, by omega⟩, fun h13 e13 => ?_⟩⟩⟩
    have ex6 : x6 = takL wd w Z q := by
      rw [e6, show ((Z : Int) - q).toNat = Z - q by omega]
      exact (T q hq).2 (by omega)
    subst ex6
    rw [tn_c] at e9
    refine ⟨⟨by omega, by omega⟩, ⟨rfl, fr_i (fr_i f e9 (by omega)) e13 (by omega), fun k hk => ?_, q - (takL wd w Z q).toNat, em ++ [takL wd w Z q], by omega, by omega, ?_, ?_, ?_⟩, by omega⟩
    · rw [mm_i e13 (by omega), mm_i e9 (by omega), mm_i e13 (by omega), mm_i e9 (by omega)]
      exact T k hk
    · refine ⟨by rw [mv_i e13, List.length_append]; rfl, fun k v hk => ?_⟩
      rw [mm_i e13 (by omega)]
      by_cases ck : k = em.length
      · subst ck
        rw [List.getElem?_concat_length] at hk
        obtain rfl := Option.some.inj hk
        exact mv_i e9
      · have kl : k < em.length := by
          by_cases cc : k < em.length
          · exact cc
          · rw [List.getElem?_eq_none (by rw [List.length_append]; show em.length + 1 ≤ k; omega)] at hk
            cases hk
        rw [List.getElem?_append_left kl] at hk
        rw [mm_i e9 (by omega)]
        exact J1.2 k v hk
    · rw [List.append_assoc, ← ee, grpL_s (r := q) (by omega)]
      rfl
    · rw [List.length_append]
      show em.length + 1 + _ ≤ _
      omega
  have key : ∀ (N : Nat) (v2 v3 : Int) (hh : ah_T), hb s hh → (v2 = (Z : Int) ∧ fr JWq h hh ∧ ∃ r : Nat, r ≤ Z ∧ v3 = (Z : Int) - 1 - r ∧ BTq wd w Z r hh) → (v3 + 1).toNat < N → aw G (rm_R 5 0 0) m_MD_breaks 0 0 51 [some (av_R (some 170)), some (av_I w), some (av_I v2), some (av_I v3), none, none, none, none, none] [] hh (fun r h' => r = some (av_I (leaL wd w Z Z)) ∧ hb s h' ∧ fr JWq h h' ∧ (leaL wd w Z Z < 0 → h' = h) ∧ (0 ≤ leaL wd w Z Z → GLq (grpL wd w Z Z Z) h')) := by
    intro N
    induction N with
    | zero => intro v2 v3 hh _ _ q; omega
    | succ N ih =>
      rintro v2 v3 hh hbh ⟨rfl, f, r, hr, rfl, T⟩ hN
      by_cases rL : r = Z
      · subst rL
        refine b_MD_breaks_51 (X65 := fun _ _ _ _ _ _ => False) (fun _ _ _ _ _ _ _ x => x.elim) l213 hbh ?_
        unfold B_MD_breaks_51
        refine ⟨fun _ h1 e1 => ⟨rfl, fr_i f e1 (by omega), fun k hk => ?_, r, [], by omega, Nat.le_refl _, ⟨mv_i e1, fun k v hk => by cases hk⟩, rfl, by show 0 + _ ≤ _; omega⟩, fun q => by omega⟩
        rw [mm_i e1 (by omega), mm_i e1 (by omega)]
        exact T k hk
      obtain ⟨a, ha⟩ : ∃ a : Nat, a = Z - (r + 1) := ⟨_, rfl⟩
      have hW : ∀ k, k < r + 1 → 0 ≤ leaL wd w Z k := fun k hk => (lb k (by omega)).1
      have da := hD.2 a
      have da1 := hD.2 (a + 1)
      have ic := innL_c (wd := wd) (W := leaL wd w Z) (w := w) (a := a) (r := r + 1) (by omega) ⟨by omega, hw.2⟩ hD.1 (by omega) hW
      have ib := innL_b (wd := wd) (W := leaL wd w Z) (w := w) (a := a) (r := r + 1) (by omega)
      have lr := lb r (by omega)
      have lr0 : (innL wd w (leaL wd w Z) a (r + 1) 0).1 ≤ 1600000000 := by
        have x := leaL_b (w := w) ⟨by omega, hw.2⟩ hD.1 hD.2 r (by omega)
        have y := hD.2 Z
        have y2 := (ic 0).2
        rw [show Z - r = a + 1 by omega] at x
        rw [show r + 1 - 1 = r by omega] at y2
        omega
      have in0 : innL wd w (leaL wd w Z) a (r + 1) 0 = (leaL wd w Z r + lnC (lefL wd w a 1) (decide (r + 1 = 1)), 1) := rfl
      have lef : ∀ k, a + k ≤ Z → -38999 ≤ lefL wd w a k ∧ lefL wd w a k ≤ 1000 := fun k hk => by
        have x := lefL_D (w := w) (a := a) hD.1 k
        have y := lefL_le (w := w) (a := a) (fun i => (hD.1 i).1) k
        have y2 := hD.2 (a + k)
        omega
      have e3 : (Z : Int) - 1 - r = (a : Int) := by omega
      rw [e3]
      have in65 : ∀ (v2 v3 v4 v5 v6 : Int) (h' : ah_T), hb s h' → (v2 = (Z : Int) ∧ v3 = (a : Int) ∧ fr JWq h h' ∧ BTq wd w Z r h' ∧ ∃ kk : Nat, v6 = (kk : Int) + 1 ∧ kk ≤ r + 1 ∧ v5 = w - lefL wd w a kk ∧ ((kk = 0 ∧ v4 = -2) ∨ ∃ k : Nat, kk = k + 1 ∧ h'.2.1 226 a = (innL wd w (leaL wd w Z) a (r + 1) k).1 ∧ v4 = (innL wd w (leaL wd w Z) a (r + 1) k).2)) → aw G (rm_R 5 0 0) m_MD_breaks 0 0 65 [some (av_R (some 170)), some (av_I w), some (av_I v2), some (av_I v3), some (av_I v4), some (av_I v5), some (av_I v6), none, none] [] h' (fun r h' => r = some (av_I (leaL wd w Z Z)) ∧ hb s h' ∧ fr JWq h h' ∧ (leaL wd w Z Z < 0 → h' = h) ∧ (0 ≤ leaL wd w Z Z → GLq (grpL wd w Z Z Z) h')) := by
        refine lp_MD_breaks_65 (X51 := fun v2 v3 hh => (v2 = (Z : Int) ∧ fr JWq h hh ∧ ∃ r : Nat, r ≤ Z ∧ v3 = (Z : Int) - 1 - r ∧ BTq wd w Z r hh) ∧ v3 = (a : Int) - 1) (fun v2 v3 hh hb' x => ih v2 v3 hh hb' x.1 (by have := x.2; omega)) _ (fun _ _ _ _ v6 _ => (20 - v6).toNat) ?_
        rintro v2 v3 v4 v5 v6 h' hb' ⟨rfl, rfl, f', T', kk, rfl, hkk, rfl, st⟩
        have H' := MV_f H f' JWq_w
        unfold B_MD_breaks_65
        refine ⟨⟨by omega, by omega⟩, fun q => ⟨by omega, fun h4 e4 => ⟨⟨by omega, by omega⟩, ⟨rfl, fr_i f' e4 (by omega), r + 1, by omega, by omega, fun k' hk' => ?_⟩, rfl⟩⟩, fun q => ⟨⟨by omega, by omega⟩, ?_⟩⟩
        · rw [tn_c] at e4
          rcases st with ⟨q0, -⟩ | ⟨k, qk, c8, c9⟩
          · omega
          have eq := innL_e (wd := wd) (w := w) (W := leaL wd w Z) (a := a) (r := r + 1) (k := k) (fun i => (hD.1 i).1) 13 (by omega) (Or.inl (by omega))
          by_cases ck : k' = r + 1
          · subst ck
            unfold leaL takL
            rw [tabL_s, ← ha, eq, mm_i e4 (by omega), mv_i e4]
            exact ⟨c8, fun _ => c9⟩
          · rw [mm_i e4 (by omega), mm_i e4 (by omega)]
            exact T' k' (by omega)
        rw [show (a : Int) + ((kk : Int) + 1) - 1 = ((a + kk : Nat) : Int) by omega]
        refine con_mono (wB hb' H' (b := a + kk) (by omega)) ?_
        rintro r2 h8 ⟨rfl, hb8, f8⟩
        have g8 : ∀ x k, 226 ≤ x → h8.2.1 x k = h'.2.1 x k := fun x k hx => fr_g f8 (by omega)
        have f8' : fr JWq h h8 := fr_t f' (fr_sq f8) (fun _ _ w => w)
        have T8 : BTq wd w Z r h8 := fun k' hk' => by rw [g8 _ _ (by decide), g8 _ _ (by decide)]; exact T' k' hk'
        have eL : lefL wd w a kk - wd (a + kk) = lefL wd w a (kk + 1) := rfl
        have l1 := lef (kk + 1) (by omega)
        have eV : w - (w - lefL wd w a kk) - wd (a + kk) = lefL wd w a (kk + 1) := by omega
        have eU : w - lefL wd w a kk + wd (a + kk) = w - lefL wd w a (kk + 1) := by omega
        refine ⟨_, rfl, hb8, ?_⟩
        rw [eV, eU]
        clear T' H' hb' eV eU eL
        -- the next turn, with what it found
        have nx : ∀ {v4' : Int} {h2 : ah_T}, fr JWq h h2 → BTq wd w Z r h2 → h2.2.1 226 a = (innL wd w (leaL wd w Z) a (r + 1) kk).1 → v4' = (innL wd w (leaL wd w Z) a (r + 1) kk).2 → B_MD_breaks_186 G s w (Z : Int) (a : Int) v4' (w - lefL wd w a (kk + 1)) ((kk : Int) + 1) h2 (fun r h' => r = some (av_I (leaL wd w Z Z)) ∧ hb s h' ∧ fr JWq h h' ∧ (leaL wd w Z Z < 0 → h' = h) ∧ (0 ≤ leaL wd w Z Z → GLq (grpL wd w Z Z Z) h')) (fun v2' v3' v4' v5' v6' h'' => (v2' = (Z : Int) ∧ v3' = (a : Int) ∧ fr JWq h h'' ∧ BTq wd w Z r h'' ∧ ∃ kk' : Nat, v6' = (kk' : Int) + 1 ∧ kk' ≤ r + 1 ∧ v5' = w - lefL wd w a kk' ∧ ((kk' = 0 ∧ v4' = -2) ∨ ∃ k : Nat, kk' = k + 1 ∧ h''.2.1 226 a = (innL wd w (leaL wd w Z) a (r + 1) k).1 ∧ v4' = (innL wd w (leaL wd w Z) a (r + 1) k).2)) ∧ (20 - v6').toNat < (20 - ((kk : Int) + 1)).toNat) := by
          intro v4' h2 f2 T2 c8 c9
          unfold B_MD_breaks_186
          exact ⟨⟨by omega, by omega⟩, ⟨rfl, rfl, f2, T2, kk + 1, by omega, by omega, rfl, Or.inr ⟨kk, rfl, c8, c9⟩⟩, by omega⟩
        have up : ∀ {v8 : Int}, v8 = (innL wd w (leaL wd w Z) a (r + 1) kk).1 → (kk : Int) + 1 = (innL wd w (leaL wd w Z) a (r + 1) kk).2 → B_MD_breaks_174 G s w (Z : Int) (a : Int) (w - lefL wd w a (kk + 1)) ((kk : Int) + 1) v8 h8 (fun r h' => r = some (av_I (leaL wd w Z Z)) ∧ hb s h' ∧ fr JWq h h' ∧ (leaL wd w Z Z < 0 → h' = h) ∧ (0 ≤ leaL wd w Z Z → GLq (grpL wd w Z Z Z) h')) (fun v2' v3' v4' v5' v6' h'' => (v2' = (Z : Int) ∧ v3' = (a : Int) ∧ fr JWq h h'' ∧ BTq wd w Z r h'' ∧ ∃ kk' : Nat, v6' = (kk' : Int) + 1 ∧ kk' ≤ r + 1 ∧ v5' = w - lefL wd w a kk' ∧ ((kk' = 0 ∧ v4' = -2) ∨ ∃ k : Nat, kk' = k + 1 ∧ h''.2.1 226 a = (innL wd w (leaL wd w Z) a (r + 1) k).1 ∧ v4' = (innL wd w (leaL wd w Z) a (r + 1) k).2)) ∧ (20 - v6').toNat < (20 - ((kk : Int) + 1)).toNat) := by
          intro v8 c8 c9
          unfold B_MD_breaks_174
          refine ⟨by omega, fun h3 e3 => nx (fr_i f8' e3 (by omega)) (fun k' hk' => ?_) ?_ c9⟩
          · rw [mm_i e3 (by omega), mm_i e3 (by omega)]; exact T8 k' hk'
          · rw [tn_c] at e3
            rw [mv_i e3]; exact c8
        have lk := lb (r + 1 - (kk + 1)) (by omega)
        have lc := lnC_b (l := lefL wd w a (kk + 1)) (x := 39000) (q := decide (r + 1 = kk + 1)) (by omega) (by omega) (by omega) (by omega)
        -- behind the cost of the line
        have t142 : ∀ t0 : Int, t0 = lnC (lefL wd w a (kk + 1)) (decide (r + 1 = kk + 1)) → (kk = 0 ∨ 0 ≤ lefL wd w a (kk + 1)) → B_MD_breaks_142 G s w (Z : Int) (a : Int) v4 (w - lefL wd w a (kk + 1)) ((kk : Int) + 1) t0 h8 (fun r h' => r = some (av_I (leaL wd w Z Z)) ∧ hb s h' ∧ fr JWq h h' ∧ (leaL wd w Z Z < 0 → h' = h) ∧ (0 ≤ leaL wd w Z Z → GLq (grpL wd w Z Z Z) h')) (fun v2' v3' v4' v5' v6' h'' => (v2' = (Z : Int) ∧ v3' = (a : Int) ∧ fr JWq h h'' ∧ BTq wd w Z r h'' ∧ ∃ kk' : Nat, v6' = (kk' : Int) + 1 ∧ kk' ≤ r + 1 ∧ v5' = w - lefL wd w a kk' ∧ ((kk' = 0 ∧ v4' = -2) ∨ ∃ k : Nat, kk' = k + 1 ∧ h''.2.1 226 a = (innL wd w (leaL wd w Z) a (r + 1) k).1 ∧ v4' = (innL wd w (leaL wd w Z) a (r + 1) k).2)) ∧ (20 - v6').toNat < (20 - ((kk : Int) + 1)).toNat) := by
          intro t0 et hk0
          unfold B_MD_breaks_142
          refine ⟨⟨by omega, by omega⟩, by omega, fun x3 e3 _ _ => ?_⟩
          have ex3 : x3 = leaL wd w Z (r + 1 - (kk + 1)) := by
            rw [e3, show ((a : Int) + ((kk : Int) + 1)).toNat = Z - (r + 1 - (kk + 1)) by omega]
            exact (T8 _ (by omega)).1
          subst ex3
          rcases st with ⟨rfl, rfl⟩ | ⟨k, rfl, c8, c9⟩
          · rw [show r + 1 - (0 + 1) = r by omega] at lk ⊢
            rw [show (0 : Nat) + 1 = 1 from rfl] at et
            have es : t0 + leaL wd w Z r = (innL wd w (leaL wd w Z) a (r + 1) 0).1 := by rw [in0, et]; dsimp only; omega
            have i0 := (ic 0).1
            exact ⟨⟨by omega, by omega⟩, fun _ => up es (by rw [in0]; rfl), fun q3 => absurd (show (-2 : Int) < 0 by decide) q3⟩
          · have nn : 0 ≤ lefL wd w a (k + 1 + 1) := hk0.elim (fun x => by omega) id
            have lc0 := lnC_b (l := lefL wd w a (k + 1 + 1)) (x := 0) (q := decide (r + 1 = k + 1 + 1)) (by omega) (by omega) (by omega) (by omega)
            have ibk := ib k
            have inS : innL wd w (leaL wd w Z) a (r + 1) (k + 1) = if k + 2 ≤ r + 1 ∧ 0 ≤ lefL wd w a (k + 2) ∧ leaL wd w Z (r + 1 - (k + 2)) + lnC (lefL wd w a (k + 2)) (decide (r + 1 = k + 2)) ≤ (innL wd w (leaL wd w Z) a (r + 1) k).1 then (leaL wd w Z (r + 1 - (k + 2)) + lnC (lefL wd w a (k + 2)) (decide (r + 1 = k + 2)), ((k + 2 : Nat) : Int)) else innL wd w (leaL wd w Z) a (r + 1) k := rfl
            rw [show k + 1 + 1 = k + 2 from rfl] at et lk nn lc0 ⊢
            refine ⟨⟨by omega, by omega⟩, fun q3 => by omega, fun q3 => ⟨by omega, fun x7 e7 _ _ => ?_⟩⟩
            rw [tn_c, g8 _ _ (by decide)] at e7
            obtain rfl := e7.trans c8
            refine ⟨fun q4 => nx f8' T8 ?_ ?_, fun q4 => up ?_ ?_⟩
            · rw [inS, if_neg (fun x => by have := x.2.2; omega), g8 _ _ (by decide)]; exact c8
            · rw [inS, if_neg (fun x => by have := x.2.2; omega)]; exact c9
            · rw [inS, if_pos ⟨by omega, nn, by omega⟩]; dsimp only; omega
            · rw [inS, if_pos ⟨by omega, nn, by omega⟩]; dsimp only; omega
        have t108 : (kk = 0 ∨ 0 ≤ lefL wd w a (kk + 1)) → B_MD_breaks_108 G s w (Z : Int) (a : Int) v4 (w - lefL wd w a (kk + 1)) ((kk : Int) + 1) (lefL wd w a (kk + 1)) h8 (fun r h' => r = some (av_I (leaL wd w Z Z)) ∧ hb s h' ∧ fr JWq h h' ∧ (leaL wd w Z Z < 0 → h' = h) ∧ (0 ≤ leaL wd w Z Z → GLq (grpL wd w Z Z Z) h')) (fun v2' v3' v4' v5' v6' h'' => (v2' = (Z : Int) ∧ v3' = (a : Int) ∧ fr JWq h h'' ∧ BTq wd w Z r h'' ∧ ∃ kk' : Nat, v6' = (kk' : Int) + 1 ∧ kk' ≤ r + 1 ∧ v5' = w - lefL wd w a kk' ∧ ((kk' = 0 ∧ v4' = -2) ∨ ∃ k : Nat, kk' = k + 1 ∧ h''.2.1 226 a = (innL wd w (leaL wd w Z) a (r + 1) k).1 ∧ v4' = (innL wd w (leaL wd w Z) a (r + 1) k).2)) ∧ (20 - v6').toNat < (20 - ((kk : Int) + 1)).toNat) := by
          intro hk0
          unfold B_MD_breaks_108
          refine ⟨fun q3 => ⟨⟨by omega, by omega⟩, fun q4 => t142 0 ?_ hk0, fun q4 x2 e2 => ?_⟩, fun q3 x4 e4 => ?_⟩
          · unfold lnC
            rw [if_neg (by omega), if_pos (by simp; omega)]
          · have e : x2 = lnC (lefL wd w a (kk + 1)) (decide (r + 1 = kk + 1)) := by
              unfold lnC
              rw [if_neg (by omega), if_neg (by simp; omega)]
              exact e2
            exact ⟨⟨by omega, by omega⟩, t142 x2 e hk0⟩
          · have e : x4 + 10000 = lnC (lefL wd w a (kk + 1)) (decide (r + 1 = kk + 1)) := by
              unfold lnC
              rw [if_pos (by omega), e4]
              omega
            exact ⟨⟨by omega, by omega⟩, ⟨by omega, by omega⟩, t142 _ e hk0⟩
        refine ⟨⟨by omega, by omega⟩, ⟨by omega, by omega⟩, fun q2 => t108 (Or.inr q2), fun q2 => ⟨fun q3 => t108 (Or.inl (by omega)), fun q3 => ?_⟩⟩
        rcases st with ⟨q0, -⟩ | ⟨k, rfl, c8, c9⟩
        · omega
        have inS : innL wd w (leaL wd w Z) a (r + 1) (k + 1) = innL wd w (leaL wd w Z) a (r + 1) k := by
          rw [innL, if_neg (fun x => q2 x.2.1)]
        refine nx f8' T8 ?_ ?_
        · rw [inS, g8 _ _ (by decide)]; exact c8
        · rw [inS]; exact c9
      refine b_MD_breaks_51 (X213 := fun _ _ _ => False) in65 (fun _ _ _ _ x => x.elim) hbh ?_
      unfold B_MD_breaks_51
      exact ⟨fun q => by omega, fun _ => ⟨rfl, rfl, f, T, 0, rfl, Nat.zero_le _, by show (0 : Int) = w - w; omega, Or.inl ⟨rfl, rfl⟩⟩⟩
  refine c_MD_breaks (X51 := fun v2 v3 hh => v2 = (Z : Int) ∧ fr JWq h hh ∧ ∃ r : Nat, r ≤ Z ∧ v3 = (Z : Int) - 1 - r ∧ BTq wd w Z r hh) (fun v2 v3 hh hb' x => key ((v3 + 1).toNat + 1) v2 v3 hh hb' x (Nat.lt_succ_self _)) hb0 (fun _ => ?_)
  unfold B_MD_breaks_0 B_MD_breaks_12
  refine ⟨fun q => by omega, fun _ => ⟨fun _ x2 e2 _ _ => ⟨fun q => absurd (e2.symm.trans q) (by rw [K0]; exact v0), fun _ => ?_⟩, fun q => by omega⟩⟩
  refine con_mono pB ?_
  rintro r2 h2 ⟨hb2, rfl, rfl⟩
  refine ⟨_, rfl, hb2, fun q => ⟨by omega, fun h8 e8 => ⟨⟨by omega, by omega⟩, rfl, fr_i fr_0 e8 (by omega), 0, Nat.zero_le _, by omega, fun k hk => ?_⟩⟩, fun q => by omega⟩
  have : k = 0 := by omega
  subst this
  rw [tn_c] at e8
  exact ⟨mv_i e8, fun x => by omega⟩
end
