/-! ===== beam, the reference: a run ===== -/
def GLm (l : List Int) (h : ah_T) : Prop := h.2.1 170 85 = (l.length : Int) ∧ ∀ (k : Nat) (v : Int), l[k]? = some v → h.2.1 225 k = v
abbrev JWr : Nat → Nat → Prop := fun a k => (a = 170 ∧ (k = 65 ∨ k = 66 ∨ k = 85)) ∨ (225 ≤ a ∧ a ≤ 227)
theorem JWr_w : ∀ a k, JWr a k → a = 170 ∨ 201 ≤ a := by
  intro a k w
  rcases w with w | w <;> omega
theorem fr_sr {h h' : ah_T} (f : fr JWs h h') : fr JWr h h' := fr_w f (fun a k w => by obtain ⟨w1, w2⟩ := w; omega)
def BTm (jc : Nat → Int) (z L r : Nat) (h : ah_T) : Prop := ∀ k, k ≤ r → h.2.1 226 (L - k) = leaC jc z k ∧ (1 ≤ k → h.2.1 227 (L - k) = takC jc z k)
section
variable {G : cx_T} {s n b : Nat} {h : ah_T} {μ : pm_T} {l : List Int}
theorem m_run {a0 z L : Nat} (hb0 : hb s h) (H : MV μ h) (hn : (n : Int) < μ 0 7) (hb1 : (b : Int) < μ (10 + n) 1) (hf : brE μ n b ≤ a0) (hz : (z : Int) ≤ μ (10 + n) 0) (hL : z = a0 + L) (hL1 : 1 ≤ L) (hs : ∀ e, a0 ≤ e → e < z → 1 ≤ pt μ n e) (J : GLm l h) (hl : l.length + L ≤ 14) :
    con G 4 0 0 m_MD_run [av_R (some 170), av_I (n : Int), av_I (b : Int), av_I (a0 : Int), av_I (z : Int)] h (fun r h' => r = some (av_I (leaC (jnC μ n (brE μ n b)) z L)) ∧ hb s h' ∧ fr JWr h h' ∧ GLm (l ++ grpC (jnC μ n (brE μ n b)) z L L) h') := by
  obtain ⟨-, -, hE, hB, n4⟩ := MV_n H hn
  have GG := H.2.1
  have hj : ∀ e, z - L < e → e < z → 0 ≤ jnC μ n (brE μ n b) e ∧ jnC μ n (brE μ n b) e ≤ 61 := fun e h1 h2 => jnC_b GG hn (by omega) (hs e (by omega) h2) (hs (e - 1) (by omega) (by omega))
  have lb := leaC_b (jc := jnC μ n (brE μ n b)) (z := z) (r := L) (by omega) hj
  have l131 : ∀ (v5 : Int) (hh : ah_T), hb s hh → (fr JWr h hh ∧ BTm (jnC μ n (brE μ n b)) z L L hh ∧ ∃ (q : Nat) (em : List Int), v5 = (z : Int) - q ∧ q ≤ L ∧ GLm (l ++ em) hh ∧ em ++ grpC (jnC μ n (brE μ n b)) z q q = grpC (jnC μ n (brE μ n b)) z L L ∧ em.length + q ≤ L) → aw G (rm_R 4 0 0) m_MD_run 0 0 131 [some (av_R (some 170)), none, none, some (av_I (a0 : Int)), some (av_I (z : Int)), some (av_I v5), none, none, none] [] hh (fun r h' => r = some (av_I (leaC (jnC μ n (brE μ n b)) z L)) ∧ hb s h' ∧ fr JWr h h' ∧ GLm (l ++ grpC (jnC μ n (brE μ n b)) z L L) h') := by
    refine lp_MD_run_131 (a1 := (n : Int)) (a2 := (b : Int)) _ (fun v5 _ => (400 - v5).toNat) ?_
    rintro v5 hh hb1' ⟨f, T, q, em, rfl, hq, J1, ee, el⟩
    unfold B_MD_run_131
    refine ⟨fun w x2 e2 _ _ => ?_, fun w x4 e4 _ _ => ?_⟩
    · obtain rfl : q = 0 := by omega
      have t := (T L (Nat.le_refl _)).1
      rw [Nat.sub_self] at t
      rw [e2, t]
      refine ⟨rfl, hb1', f, ?_⟩
      rw [← ee, show grpC (jnC μ n (brE μ n b)) z 0 0 = [] from rfl, List.append_nil]
      exact J1
    obtain rfl := e4.trans J1.1
    have ll : (l ++ em).length = l.length + em.length := List.length_append
    have tb := takC_b (jc := jnC μ n (brE μ n b)) (z := z) (r := q) (by omega)
    refine ⟨⟨by omega, by omega⟩, by omega, fun x7 e7 _ _ => ⟨by omega, fun h10 e10 => ⟨⟨by omega, by omega⟩, fun h14 e14 => ?_⟩⟩⟩
    have ex7 : x7 = takC (jnC μ n (brE μ n b)) z q := by
      rw [e7, show ((z : Int) - q - (a0 : Int)).toNat = L - q by omega]
      exact (T q hq).2 (by omega)
    subst ex7
    rw [tn_c] at e10
    refine ⟨⟨by omega, by omega⟩, ⟨fr_i (fr_i f e10 (by omega)) e14 (by omega), fun k hk => ?_, q - (takC (jnC μ n (brE μ n b)) z q).toNat, em ++ [takC (jnC μ n (brE μ n b)) z q], by omega, by omega, ?_, ?_, ?_⟩, by omega⟩
    · rw [mm_i e14 (by omega), mm_i e10 (by omega), mm_i e14 (by omega), mm_i e10 (by omega)]
      exact T k hk
    · rw [← List.append_assoc]
      refine ⟨by rw [mv_i e14]; simp only [List.length_append, List.length_cons, List.length_nil] at *; omega, fun k v hk => ?_⟩
      rw [mm_i e14 (by omega)]
      by_cases ck : k = (l ++ em).length
      · subst ck
        rw [List.getElem?_concat_length] at hk
        obtain rfl := Option.some.inj hk
        exact mv_i e10
      · have kl : k < (l ++ em).length := by
          by_cases cc : k < (l ++ em).length
          · exact cc
          · rw [List.getElem?_eq_none (by rw [List.length_append]; show (l ++ em).length + 1 ≤ k; omega)] at hk
            cases hk
        rw [List.getElem?_append_left kl] at hk
        rw [mm_i e10 (by omega)]
        exact J1.2 k v hk
    · rw [List.append_assoc, ← ee, grpC_s (r := q) (by omega)]
      rfl
    · rw [List.length_append]
      show em.length + 1 + _ ≤ _
      omega
  have key : ∀ (N : Nat) (v5 : Int) (hh : ah_T), hb s hh → (fr JWr h hh ∧ GLm l hh ∧ ∃ r : Nat, r ≤ L ∧ v5 = (z : Int) - 1 - r ∧ BTm (jnC μ n (brE μ n b)) z L r hh) → (v5 + 1 - (a0 : Int)).toNat < N → aw G (rm_R 4 0 0) m_MD_run 0 0 16 [some (av_R (some 170)), some (av_I (n : Int)), some (av_I (b : Int)), some (av_I (a0 : Int)), some (av_I (z : Int)), some (av_I v5), none, none, none] [] hh (fun r h' => r = some (av_I (leaC (jnC μ n (brE μ n b)) z L)) ∧ hb s h' ∧ fr JWr h h' ∧ GLm (l ++ grpC (jnC μ n (brE μ n b)) z L L) h') := by
    intro N
    induction N with
    | zero => intro v5 hh _ _ q; omega
    | succ N ih =>
      rintro v5 hh hbh ⟨f, J1, r, hr, rfl, T⟩ hN
      by_cases rL : r = L
      · subst rL
        refine b_MD_run_16 (X29 := fun _ _ _ _ => False) (fun _ _ _ _ _ x => x.elim) l131 hbh ?_
        unfold B_MD_run_16
        exact ⟨fun _ => ⟨f, T, r, [], by omega, Nat.le_refl _, by rw [List.append_nil]; exact J1, rfl, by show 0 + _ ≤ _; omega⟩, fun w => by omega⟩
      have W : ∀ k, k < r + 1 → 0 ≤ leaC (jnC μ n (brE μ n b)) z k ∧ leaC (jnC μ n (brE μ n b)) z k ≤ 3 * (k : Int) := fun k hk => lb k (by omega)
      have ic := innC_c (jc := jnC μ n (brE μ n b)) (W := leaC (jnC μ n (brE μ n b)) z) (a := z - (r + 1)) (r := r + 1) (by omega) (fun e h1 h2 => hj e (by omega) (by omega)) W
      have ib := innC_b (jc := jnC μ n (brE μ n b)) (W := leaC (jnC μ n (brE μ n b)) z) (a := z - (r + 1)) (r := r + 1) (by omega)
      have tgb := togC_b (jc := jnC μ n (brE μ n b)) (a := z - (r + 1)) (M := r) (fun k hk => hj _ (by omega) (by omega))
      have in29 : ∀ (v5 v6 v7 : Int) (h' : ah_T), hb s h' → (v5 = (z : Int) - 1 - r ∧ fr JWr h h' ∧ GLm l h' ∧ BTm (jnC μ n (brE μ n b)) z L r h' ∧ ((v6 = -2 ∧ v7 = 1) ∨ ∃ k : Nat, v7 = (k : Int) + 2 ∧ k ≤ 5 ∧ k ≤ r ∧ h'.2.1 226 (L - (r + 1)) = (innC (jnC μ n (brE μ n b)) (leaC (jnC μ n (brE μ n b)) z) (z - (r + 1)) (r + 1) k).1 ∧ v6 = (innC (jnC μ n (brE μ n b)) (leaC (jnC μ n (brE μ n b)) z) (z - (r + 1)) (r + 1) k).2)) → aw G (rm_R 4 0 0) m_MD_run 0 0 29 [some (av_R (some 170)), some (av_I (n : Int)), some (av_I (b : Int)), some (av_I (a0 : Int)), some (av_I (z : Int)), some (av_I v5), some (av_I v6), some (av_I v7), none] [] h' (fun r h' => r = some (av_I (leaC (jnC μ n (brE μ n b)) z L)) ∧ hb s h' ∧ fr JWr h h' ∧ GLm (l ++ grpC (jnC μ n (brE μ n b)) z L L) h') := by
        refine lp_MD_run_29 (X16 := fun v5 hh => (fr JWr h hh ∧ GLm l hh ∧ ∃ r : Nat, r ≤ L ∧ v5 = (z : Int) - 1 - r ∧ BTm (jnC μ n (brE μ n b)) z L r hh) ∧ v5 = (z : Int) - 1 - r - 1) (fun v5 hh hb' x => ih v5 hh hb' x.1 (by have := x.2; omega)) _ (fun _ _ v7 _ => (10 - v7).toNat) ?_
        rintro v5 v6 v7 h' hb' ⟨rfl, f', J', T', st⟩
        have H' := MV_f H f' JWr_w
        unfold B_MD_run_29 B_MD_run_111
        have tel : ∀ {h2 : ah_T} {k : Nat} {sz c : Int}, hb s h2 → fr JWr h h2 → GLm l h2 → BTm (jnC μ n (brE μ n b)) z L r h2 → k ≤ 5 → k ≤ r → c = (innC (jnC μ n (brE μ n b)) (leaC (jnC μ n (brE μ n b)) z) (z - (r + 1)) (r + 1) k).1 → sz = (innC (jnC μ n (brE μ n b)) (leaC (jnC μ n (brE μ n b)) z) (z - (r + 1)) (r + 1) k).2 → sz = (k : Int) + 1 → (10 - ((k : Int) + 2)).toNat < (10 - v7).toNat → B_MD_run_90 G s (n : Int) (b : Int) (a0 : Int) (z : Int) ((z : Int) - 1 - r) sz c h2 (fun r h' => r = some (av_I (leaC (jnC μ n (brE μ n b)) z L)) ∧ hb s h' ∧ fr JWr h h' ∧ GLm (l ++ grpC (jnC μ n (brE μ n b)) z L L) h') (fun v5' v6' v7' h'' => (v5' = (z : Int) - 1 - r ∧ fr JWr h h'' ∧ GLm l h'' ∧ BTm (jnC μ n (brE μ n b)) z L r h'' ∧ ((v6' = -2 ∧ v7' = 1) ∨ ∃ k : Nat, v7' = (k : Int) + 2 ∧ k ≤ 5 ∧ k ≤ r ∧ h''.2.1 226 (L - (r + 1)) = (innC (jnC μ n (brE μ n b)) (leaC (jnC μ n (brE μ n b)) z) (z - (r + 1)) (r + 1) k).1 ∧ v6' = (innC (jnC μ n (brE μ n b)) (leaC (jnC μ n (brE μ n b)) z) (z - (r + 1)) (r + 1) k).2)) ∧ (10 - v7').toNat < (10 - v7).toNat) := by
          intro h2 k sz c hb2 f2 J2 T2 k5 kr ec es es2 me
          unfold B_MD_run_90 B_MD_run_105
          refine ⟨⟨by omega, by omega⟩, by omega, fun h4 e4 => ⟨⟨by omega, by omega⟩, ⟨rfl, fr_i f2 e4 (by omega), ⟨by rw [mm_i e4 (by omega)]; exact J2.1, fun k v hk => by rw [mm_i e4 (by omega)]; exact J2.2 k v hk⟩, fun k' hk' => ?_, Or.inr ⟨k, by omega, k5, kr, ?_, es⟩⟩, by omega⟩⟩
          · rw [mm_i e4 (by omega), mm_i e4 (by omega)]; exact T2 k' hk'
          · rw [show ((z : Int) - 1 - r - (a0 : Int)).toNat = L - (r + 1) by omega] at e4
            rw [mv_i e4]; exact ec
        have out : ∀ k : Nat, h'.2.1 226 (L - (r + 1)) = (innC (jnC μ n (brE μ n b)) (leaC (jnC μ n (brE μ n b)) z) (z - (r + 1)) (r + 1) k).1 → v6 = (innC (jnC μ n (brE μ n b)) (leaC (jnC μ n (brE μ n b)) z) (z - (r + 1)) (r + 1) k).2 → innC (jnC μ n (brE μ n b)) (leaC (jnC μ n (brE μ n b)) z) (z - (r + 1)) (r + 1) 5 = innC (jnC μ n (brE μ n b)) (leaC (jnC μ n (brE μ n b)) z) (z - (r + 1)) (r + 1) k → ((-2147483648) ≤ ((z : Int) - 1 - r - (a0 : Int)) ∧ ((z : Int) - 1 - r - (a0 : Int)) ≤ 2147483647) ∧ (0 ≤ ((z : Int) - 1 - r - (a0 : Int)) ∧ ((z : Int) - 1 - r - (a0 : Int)) < 340) ∧ ∀ h4 : ah_T, h4 = st_i h' 227 ((z : Int) - 1 - r - (a0 : Int)).toNat v6 → ((-2147483648) ≤ ((z : Int) - 1 - r - 1) ∧ ((z : Int) - 1 - r - 1) ≤ 2147483647) ∧ ((fr JWr h h4 ∧ GLm l h4 ∧ ∃ r' : Nat, r' ≤ L ∧ (z : Int) - 1 - r - 1 = (z : Int) - 1 - r' ∧ BTm (jnC μ n (brE μ n b)) z L r' h4) ∧ (z : Int) - 1 - r - 1 = (z : Int) - 1 - r - 1) := by
          intro k c8 c9 eq
          refine ⟨⟨by omega, by omega⟩, by omega, fun h4 e4 => ⟨⟨by omega, by omega⟩, ⟨fr_i f' e4 (by omega), ⟨by rw [mm_i e4 (by omega)]; exact J'.1, fun k v hk => by rw [mm_i e4 (by omega)]; exact J'.2 k v hk⟩, r + 1, by omega, by omega, fun k' hk' => ?_⟩, rfl⟩⟩
          rw [show ((z : Int) - 1 - r - (a0 : Int)).toNat = L - (r + 1) by omega] at e4
          by_cases ck : k' = r + 1
          · subst ck
            unfold leaC takC
            rw [tab_s, eq, mm_i e4 (by omega), mv_i e4]
            exact ⟨c8, fun _ => c9⟩
          · rw [mm_i e4 (by omega), mm_i e4 (by omega)]
            exact T' k' (by omega)
        rcases st with ⟨rfl, rfl⟩ | ⟨k, rfl, k5, kr, c8, c9⟩
        · refine ⟨fun w => by omega, fun w => ⟨⟨by omega, by omega⟩, fun w2 => by omega, fun w2 => ?_⟩⟩
          have gg := m_group (G := G) (a := z - (r + 1)) (k := 0) hb' H' hn hb1 (by omega) (by omega) (fun e q1 q2 => hs e (by omega) (by omega)) (by decide)
          rw [show ((z - (r + 1) : Nat) : Int) = (z : Int) - 1 - r by omega] at gg
          refine con_mono gg ?_
          rintro rr h2 ⟨rfl, hb2, f2, i2⟩
          have wr := W r (by omega)
          refine ⟨_, rfl, hb2, ⟨by omega, by omega⟩, by omega, fun x7 e7 _ _ => ?_⟩
          rw [show ((z : Int) - 1 - r + 1 - (a0 : Int)).toNat = L - r by omega, i2] at e7
          obtain rfl := e7.trans (T' r (Nat.le_refl _)).1
          rw [if_pos rfl]
          have e0 : innC (jnC μ n (brE μ n b)) (leaC (jnC μ n (brE μ n b)) z) (z - (r + 1)) (r + 1) 0 = (3 + leaC (jnC μ n (brE μ n b)) z r, 1) := rfl
          refine ⟨⟨by omega, by omega⟩, fun _ => tel (k := 0) hb2 (fr_t f' (fr_sr f2) (fun _ _ w => w)) ⟨by rw [i2]; exact J'.1, fun k v hk => by rw [i2]; exact J'.2 k v hk⟩ (fun k' hk' => by rw [i2]; exact T' k' hk') (by decide) (Nat.zero_le _) (by rw [e0]) (by rw [e0]) rfl (by omega), fun w3 => absurd (show (-2 : Int) < 0 by decide) w3⟩
        · have ibk := ib k
          refine ⟨fun w => out k c8 c9 (by rw [show k = 5 by omega]), fun w => ⟨⟨by omega, by omega⟩, fun w2 => out k c8 c9 (innC_e 5 k5 (by omega)), fun w2 => ?_⟩⟩
          have gg := m_group (G := G) (a := z - (r + 1)) (k := k + 1) hb' H' hn hb1 (by omega) (by omega) (fun e q1 q2 => hs e (by omega) (by omega)) (by omega)
          rw [show ((z - (r + 1) : Nat) : Int) = (z : Int) - 1 - r by omega, show ((k + 1 : Nat) : Int) + 1 = (k : Int) + 2 by omega, if_neg (by omega)] at gg
          refine con_mono gg ?_
          rintro rr h2 ⟨rfl, hb2, f2, i2⟩
          have tk1 := tgb (k + 1) (by omega)
          have wk := W (r + 1 - (k + 2)) (by omega)
          have ick := ic k
          refine ⟨_, rfl, hb2, ⟨by omega, by omega⟩, by omega, fun x7 e7 _ _ => ?_⟩
          rw [show ((z : Int) - 1 - r + ((k : Int) + 2) - (a0 : Int)).toNat = L - (r + 1 - (k + 2)) by omega, i2] at e7
          obtain rfl := e7.trans (T' _ (by omega)).1
          have inS : innC (jnC μ n (brE μ n b)) (leaC (jnC μ n (brE μ n b)) z) (z - (r + 1)) (r + 1) (k + 1) = (if k + 2 ≤ r + 1 ∧ togC (jnC μ n (brE μ n b)) (z - (r + 1)) (k + 1) + leaC (jnC μ n (brE μ n b)) z (r + 1 - (k + 2)) ≤ (innC (jnC μ n (brE μ n b)) (leaC (jnC μ n (brE μ n b)) z) (z - (r + 1)) (r + 1) k).1 then (togC (jnC μ n (brE μ n b)) (z - (r + 1)) (k + 1) + leaC (jnC μ n (brE μ n b)) z (r + 1 - (k + 2)), ((k + 2 : Nat) : Int)) else innC (jnC μ n (brE μ n b)) (leaC (jnC μ n (brE μ n b)) z) (z - (r + 1)) (r + 1) k) := rfl
          have f2' := fr_t f' (fr_sr f2) (fun _ _ w => w)
          have J2 : GLm l h2 := ⟨by rw [i2]; exact J'.1, fun k v hk => by rw [i2]; exact J'.2 k v hk⟩
          have T2 : BTm (jnC μ n (brE μ n b)) z L r h2 := fun k' hk' => by rw [i2]; exact T' k' hk'
          by_cases k6 : k = 5
          · subst k6; omega
          refine ⟨⟨by omega, by omega⟩, fun w3 => by omega, fun w3 => ⟨⟨by omega, by omega⟩, by omega, fun x12 e12 _ _ => ?_⟩⟩
          rw [show ((z : Int) - 1 - r - (a0 : Int)).toNat = L - (r + 1) by omega, i2] at e12
          obtain rfl := e12.trans c8
          refine ⟨fun w4 => ?_, fun w4 => tel (k := k + 1) hb2 f2' J2 T2 (by omega) (by omega) (by rw [inS, if_pos ⟨by omega, by omega⟩]) (by rw [inS, if_pos ⟨by omega, by omega⟩]; dsimp only; omega) (by omega) (by omega)⟩
          unfold B_MD_run_105
          refine ⟨⟨by omega, by omega⟩, ⟨rfl, f2', J2, T2, Or.inr ⟨k + 1, by omega, by omega, by omega, ?_, ?_⟩⟩, by omega⟩
          · rw [inS, if_neg (fun w => by have := w.2; omega), i2]; exact c8
          · rw [inS, if_neg (fun w => by have := w.2; omega)]; exact c9
      refine b_MD_run_16 (X131 := fun _ _ => False) in29 (fun _ _ _ x => x.elim) hbh ?_
      unfold B_MD_run_16
      exact ⟨fun w => by omega, fun w => ⟨rfl, f, J1, T, Or.inl ⟨rfl, rfl⟩⟩⟩
  refine c_MD_run (X16 := fun v5 hh => fr JWr h hh ∧ GLm l hh ∧ ∃ r : Nat, r ≤ L ∧ v5 = (z : Int) - 1 - r ∧ BTm (jnC μ n (brE μ n b)) z L r hh) (fun v5 hh hb' x => key ((v5 + 1 - (a0 : Int)).toNat + 1) v5 hh hb' x (Nat.lt_succ_self _)) hb0 (fun _ _ _ _ => ?_)
  unfold B_MD_run_0
  refine ⟨⟨by omega, by omega⟩, by omega, fun h4 e4 => ⟨⟨by omega, by omega⟩, fr_i fr_0 e4 (by omega), ⟨by rw [mm_i e4 (by omega)]; exact J.1, fun k v hk => by rw [mm_i e4 (by omega)]; exact J.2 k v hk⟩, 0, Nat.zero_le _, by omega, fun k hk => ?_⟩⟩
  have : k = 0 := by omega
  subst this
  rw [show ((z : Int) - (a0 : Int)).toNat = L - 0 by omega] at e4
  exact ⟨mv_i e4, fun q => by omega⟩
end
