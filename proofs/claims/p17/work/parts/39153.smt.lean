/-! ===== second voices, the reference: going through all rows ===== -/
section
variable (low : Int) (sp n : Nat) (P : Int → List Int → Prop)
/-- what is still to come at a place whose latest key is x -/
noncomputable def tlF (f : Nat) (q : List Int) (x : Int) : List (Option Nat) := catF (stp low sp P f q) (sp - (x + 1 - low).toNat) (x + 1 - low).toNat ++ [none]
noncomputable def rmF : List Int → List (Option Nat)
  | [] => []
  | x :: q => tlF low sp P (n - 1 - q.length) q x ++ rmF q
end
abbrev JWth : Nat → Nat → Prop := fun a _ => a = 230
section
variable {G : cx_T} {s : Nat} {h : ah_T} {low : Int} {sp n : Nat} {R : Int} {ln : Nat → Int}
theorem PRr_f {W : Nat → Nat → Prop} {h' : ah_T} (H : PRr low sp n R ln h) (f : fr W h h') (hW : ∀ a k, W a k → a ≠ 229 ∧ ¬ (a = 170 ∧ 93 ≤ k ∧ k ≤ 96)) : PRr low sp n R ln h' := by
  obtain ⟨⟨h1, h2, h3, h4⟩, h5⟩ := H
  have g : ∀ a k, a = 229 ∨ (a = 170 ∧ 93 ≤ k ∧ k ≤ 96) → h'.2.1 a k = h.2.1 a k := fun a k q => fr_g f (fun w => by have := hW a k w; omega)
  exact ⟨⟨(g _ _ (by omega)).trans h1, (g _ _ (by omega)).trans h2, (g _ _ (by omega)).trans h3, (g _ _ (by omega)).trans h4⟩, fun j hj => (g _ _ (by omega)).trans (h5 j hj)⟩
theorem m_through {k : Int} (hb0 : hb s h) (H : PRr low sp n R ln h) (hg : PRg low sp n ln) (hN : sp ^ n ≤ 100000) : con G 2 0 0 m_MD_through [av_R (some 170), av_I k] h (fun r h' => hb s h' ∧ fr JWth h h' ∧ ∃ z : Int, r = some (av_I z) ∧ ((∃ p : List Int, z = k ∧ 0 ≤ k ∧ p.length = n ∧ KLs 230 p h' ∧ KRg low sp p ∧ (rws (tvF low sp (fP R ln n) (n - 1) []))[k.toNat]? = some (rowL low sp p)) ∨ (z = ((rws (tvF low sp (fP R ln n) (n - 1) [])).length : Int) ∧ ¬ (0 ≤ k ∧ k < ((rws (tvF low sp (fP R ln n) (n - 1) [])).length : Int))))) := by
  obtain ⟨⟨g1, g2⟩, g3, ⟨g4, g5⟩, g6⟩ := id hg
  have wl : (rws (tvF low sp (fP R ln n) (n - 1) [])).length ≤ 100000 := by
    have := rwF_l (low := low) (sp := sp) (P := fP R ln n) n []
    obtain ⟨m, rfl⟩ : ∃ m, n = m + 1 := ⟨n - 1, by omega⟩
    exact Nat.le_trans this hN
  have key : ∀ (N : Nat) (v2 v3 : Int) (hh : ah_T), hb s hh → (∃ (p : List Int) (E : List (Option Nat)), v3 = (p.length : Int) - 1 ∧ p.length ≤ n ∧ fr JWth h hh ∧ KLs 230 p hh ∧ (∀ x q, p = x :: q → low - 1 ≤ x ∧ x < low + sp ∧ KRg low sp q) ∧ tvF low sp (fP R ln n) (n - 1) [] = E ++ rmF low sp n (fP R ln n) p ∧ v2 = ((rws E).length : Int) ∧ ¬ (0 ≤ k ∧ k < v2) ∧ (rmF low sp n (fP R ln n) p).length < N) → aw G (rm_R 2 0 0) m_MD_through 0 0 16 [some (av_R (some 170)), some (av_I k), some (av_I v2), some (av_I v3)] [] hh (fun r h' => hb s h' ∧ fr JWth h h' ∧ ∃ z : Int, r = some (av_I z) ∧ ((∃ p : List Int, z = k ∧ 0 ≤ k ∧ p.length = n ∧ KLs 230 p h' ∧ KRg low sp p ∧ (rws (tvF low sp (fP R ln n) (n - 1) []))[k.toNat]? = some (rowL low sp p)) ∨ (z = ((rws (tvF low sp (fP R ln n) (n - 1) [])).length : Int) ∧ ¬ (0 ≤ k ∧ k < ((rws (tvF low sp (fP R ln n) (n - 1) [])).length : Int))))) := by
    intro N
    induction N with
    | zero => rintro v2 v3 hh _ ⟨p, E, -, -, -, -, -, -, -, -, q⟩; omega
    | succ N ih =>
      rintro v2 v3 hh hbh ⟨p, E, rfl, hp, fw, K, vp, ew, rfl, hk, hl⟩
      have H1 := PRr_f H fw (fun a k w => by omega)
      refine b_MD_through_16 (X16 := fun v2 v3 hh => ∃ (p : List Int) (E : List (Option Nat)), v3 = (p.length : Int) - 1 ∧ p.length ≤ n ∧ fr JWth h hh ∧ KLs 230 p hh ∧ (∀ x q, p = x :: q → low - 1 ≤ x ∧ x < low + sp ∧ KRg low sp q) ∧ tvF low sp (fP R ln n) (n - 1) [] = E ++ rmF low sp n (fP R ln n) p ∧ v2 = ((rws E).length : Int) ∧ ¬ (0 ≤ k ∧ k < v2) ∧ (rmF low sp n (fP R ln n) p).length < N) (fun v2 v3 hh hb' x => ih v2 v3 hh hb' x) hbh ?_
      have el : (rws E).length ≤ 100000 := by
        have : (rws (tvF low sp (fP R ln n) (n - 1) [])).length = (rws E).length + (rws (rmF low sp n (fP R ln n) p)).length := by rw [ew, rws_a, List.length_append]
        omega
      unfold B_MD_through_16
      cases p with
      | nil =>
        refine ⟨fun _ => ⟨hbh, fw, _, rfl, Or.inr ?_⟩, fun q => absurd (show (([] : List Int).length : Int) - 1 < 0 by decide) q⟩
        have : tvF low sp (fP R ln n) (n - 1) [] = E := by rw [ew]; exact List.append_nil E
        rw [this]
        exact ⟨rfl, hk⟩
      | cons x q =>
      obtain ⟨x1, x2, kq⟩ := vp x q rfl
      have hq : q.length < n := hp
      rw [show (((x :: q).length : Int) - 1) = (q.length : Int) from by show ((q.length + 1 : Nat) : Int) - 1 = _; omega]
      refine ⟨fun w => by omega, fun _ => ⟨by omega, fun x2' e2 _ _ => ?_⟩⟩
      rw [tn_c] at e2
      have ex : x2' = x := e2.trans K.1
      rw [ex]
      refine ⟨⟨by omega, by omega⟩, fun h5 e5 x9 e9 _ _ => ?_⟩
      rw [tn_c] at e5
      have hb5 := hb_i hbh e5
      have f5 : fr JWth h h5 := fr_i fw e5 rfl
      have H5 := PRr_f H f5 (fun a k w => by omega)
      have ex9 : x9 = low + (sp : Int) - 1 := e9.trans H5.1.2.1
      rw [ex9]
      have Kq : KLs 230 q h5 := KLs_e q K.2 (fun j hj => mm_i e5 (by omega))
      have er : rmF low sp n (fP R ln n) (x :: q) = tlF low sp (fP R ln n) (n - 1 - q.length) q x ++ rmF low sp n (fP R ln n) q := rfl
      refine ⟨fun w => ?_, fun w => ⟨⟨by omega, by omega⟩, q, E ++ [none], by omega, by omega, f5, Kq, fun y q2 e => ?_, ?_, ?_, hk, ?_⟩⟩
      rotate_left
      · subst e
        have := KRg_h kq
        exact ⟨by omega, by omega, KRg_t kq⟩
      · rw [ew, er, List.append_assoc]
        unfold tlF
        rw [show sp - (x + 1 - low).toNat = 0 by omega]
        rfl
      · rw [rws_a]
        show _ = (((rws E) ++ []).length : Int)
        rw [List.append_nil]
      · rw [er, List.length_append] at hl
        unfold tlF at hl
        rw [List.length_append] at hl
        have : ([none] : List (Option Nat)).length = 1 := rfl
        omega
      -- the next key
      have ev : low + (((x + 1 - low).toNat : Nat) : Int) = x + 1 := by omega
      have et : tlF low sp (fP R ln n) (n - 1 - q.length) q x = stp low sp (fP R ln n) (n - 1 - q.length) q (x + 1 - low).toNat ++ tlF low sp (fP R ln n) (n - 1 - q.length) q (x + 1) := by
        unfold tlF
        rw [show sp - (x + 1 - low).toNat = (sp - (x + 1 + 1 - low).toNat) + 1 by omega, show (x + 1 + 1 - low).toNat = (x + 1 - low).toNat + 1 by omega]
        show (stp low sp (fP R ln n) (n - 1 - q.length) q (x + 1 - low).toNat ++ _) ++ [none] = _
        rw [List.append_assoc]
      have kr5 : KRg low sp ((x + 1) :: q) := KRg_c ⟨by omega, by omega⟩ kq
      have K5 : KLs 230 ((x + 1) :: q) h5 := ⟨mv_i e5, Kq⟩
      refine con_mono (t_MD_goes hb5 H5 hg hq K5 kr5) ?_
      rintro r h6 ⟨z, rfl, hb6, rfl, zz⟩
      refine ⟨z, rfl, hb6, fun w0 => ?_, fun w0 x13 e13 _ _ => ?_⟩
      · have sn : stp low sp (fP R ln n) (n - 1 - q.length) q (x + 1 - low).toNat = [none] := by
          unfold stp
          rw [ev, dif_f (Tld_0 zz w0)]
        refine ⟨(x + 1) :: q, E ++ [none], by show (q.length : Int) = ((q.length + 1 : Nat) : Int) - 1; omega, hp, f5, K5, fun y q2 e => ?_, ?_, ?_, hk, ?_⟩
        · obtain ⟨rfl, rfl⟩ := List.cons.inj e
          exact ⟨by omega, by omega, kq⟩
        · rw [ew, er, et, sn, List.append_assoc, List.append_assoc]
          rfl
        · rw [rws_a]
          show _ = (((rws E) ++ []).length : Int)
          rw [List.append_nil]
        · rw [er, et, sn] at hl
          show (tlF low sp (fP R ln n) (n - 1 - q.length) q (x + 1) ++ rmF low sp n (fP R ln n) q).length < N
          rw [List.length_append, List.length_append] at hl
          rw [List.length_append]
          have : ([none] : List (Option Nat)).length = 1 := rfl
          omega
      have yf := Tld_1 zz w0
      have ex13 : x13 = (n : Int) := e13.trans H5.1.2.2.1
      rw [ex13]
      refine ⟨⟨by omega, by omega⟩, fun w1 => ?_, fun w1 => ⟨⟨by omega, by omega⟩, fun x17 e17 _ _ => ?_⟩⟩
      · have sn : stp low sp (fP R ln n) (n - 1 - q.length) q (x + 1 - low).toNat = [some (rowL low sp ((x + 1) :: q))] := by
          unfold stp
          rw [ev, dif_t yf, show n - 1 - q.length = 0 by omega]
          try rfl
        refine ⟨fun w2 => ⟨hb6, f5, _, rfl, Or.inl ⟨(x + 1) :: q, w2, by omega, by show q.length + 1 = n; omega, K5, kr5, ?_⟩⟩, fun w2 => ⟨⟨by omega, by omega⟩, (x + 1) :: q, E ++ [some (rowL low sp ((x + 1) :: q))], by show (q.length : Int) = ((q.length + 1 : Nat) : Int) - 1; omega, hp, f5, K5, fun y q2 e => ?_, ?_, ?_, by omega, ?_⟩⟩
        · have e1 : rws (tvF low sp (fP R ln n) (n - 1) []) = rws E ++ (rowL low sp ((x + 1) :: q) :: rws (tlF low sp (fP R ln n) (n - 1 - q.length) q (x + 1) ++ rmF low sp n (fP R ln n) q)) := by
            rw [ew, er, et, sn, rws_a, List.append_assoc]
            rfl
          rw [e1, List.getElem?_append_right (by omega), show k.toNat - (rws E).length = 0 by omega]
          try rfl
        · obtain ⟨rfl, rfl⟩ := List.cons.inj e
          exact ⟨by omega, by omega, kq⟩
        · rw [ew, er, et, sn, List.append_assoc, List.append_assoc]
          rfl
        · rw [rws_a, List.length_append]
          rfl
        · rw [er, et, sn] at hl
          show (tlF low sp (fP R ln n) (n - 1 - q.length) q (x + 1) ++ rmF low sp n (fP R ln n) q).length < N
          rw [List.length_append, List.length_append] at hl
          rw [List.length_append]
          have : ([some (rowL low sp ((x + 1) :: q))] : List (Option Nat)).length = 1 := rfl
          omega
      · obtain ⟨f, ef⟩ : ∃ f, n - 1 - q.length = f + 1 := ⟨n - 1 - q.length - 1, by omega⟩
        have sn : stp low sp (fP R ln n) (n - 1 - q.length) q (x + 1 - low).toNat = none :: tvF low sp (fP R ln n) f ((x + 1) :: q) := by
          unfold stp
          rw [ev, dif_t yf, ef]
          try rfl
        have ex17 : x17 = low := e17.trans H5.1.1
        rw [ex17]
        refine ⟨⟨by omega, by omega⟩, by omega, fun h20 e20 => ?_⟩
        rw [show ((q.length : Int) + 1).toNat = q.length + 1 by omega] at e20
        have tv : tlF low sp (fP R ln n) (n - 1 - (q.length + 1)) ((x + 1) :: q) (low - 1) = tvF low sp (fP R ln n) f ((x + 1) :: q) := by
          unfold tlF
          rw [show (low - 1 + 1 - low).toNat = 0 by omega, show n - 1 - (q.length + 1) = f by omega, Nat.sub_zero, tvF_e]
        have er2 : rmF low sp n (fP R ln n) ((low - 1) :: (x + 1) :: q) = tvF low sp (fP R ln n) f ((x + 1) :: q) ++ (tlF low sp (fP R ln n) (n - 1 - q.length) q (x + 1) ++ rmF low sp n (fP R ln n) q) := by
          show tlF low sp (fP R ln n) (n - 1 - (q.length + 1)) ((x + 1) :: q) (low - 1) ++ (tlF low sp (fP R ln n) (n - 1 - q.length) q (x + 1) ++ rmF low sp n (fP R ln n) q) = _
          rw [tv]
        refine ⟨(low - 1) :: (x + 1) :: q, E ++ [none], by show (q.length : Int) + 1 = ((q.length + 1 + 1 : Nat) : Int) - 1; omega, by show q.length + 1 + 1 ≤ n; omega, fr_i f5 e20 rfl, ⟨mv_i e20, KLs_e _ K5 (fun j hj => mm_i e20 (by have : j < q.length + 1 := hj; omega))⟩, fun y q2 e => ?_, ?_, ?_, hk, ?_⟩
        · obtain ⟨rfl, rfl⟩ := List.cons.inj e
          exact ⟨by omega, by omega, kr5⟩
        · rw [ew, er, et, sn, er2, List.append_assoc, List.append_assoc]
          rfl
        · rw [rws_a]
          show _ = (((rws E) ++ []).length : Int)
          rw [List.append_nil]
        · rw [er, et, sn] at hl
          rw [er2, List.length_append, List.length_append]
          rw [List.length_append, List.length_append, List.length_cons] at hl
          omega
  refine c_MD_through (X16 := fun v2 v3 hh => ∃ (p : List Int) (E : List (Option Nat)), v3 = (p.length : Int) - 1 ∧ p.length ≤ n ∧ fr JWth h hh ∧ KLs 230 p hh ∧ (∀ x q, p = x :: q → low - 1 ≤ x ∧ x < low + sp ∧ KRg low sp q) ∧ tvF low sp (fP R ln n) (n - 1) [] = E ++ rmF low sp n (fP R ln n) p ∧ v2 = ((rws E).length : Int) ∧ ¬ (0 ≤ k ∧ k < v2)) (fun v2 v3 hh hb' x => ?_) hb0 (fun _ => ?_)
  · obtain ⟨p, E, q1, q2, q3, q4, q5, q6, q7, q8⟩ := x
    exact key ((rmF low sp n (fP R ln n) p).length + 1) v2 v3 hh hb' ⟨p, E, q1, q2, q3, q4, q5, q6, q7, q8, Nat.lt_succ_self _⟩
  · unfold B_MD_through_0
    intro x2 e2 _ _
    have ex : x2 = low := e2.trans H.1.1
    rw [ex]
    refine ⟨⟨by omega, by omega⟩, fun h4 e4 => ⟨[low - 1], [], rfl, by show 1 ≤ n; omega, fr_i fr_0 e4 rfl, ⟨mv_i e4, trivial⟩, fun y q2 e => ?_, ?_, rfl, by omega⟩⟩
    · obtain ⟨rfl, rfl⟩ := List.cons.inj e
      exact ⟨by omega, by omega, fun x hx => by cases hx⟩
    · show _ = [] ++ (tlF low sp (fP R ln n) (n - 1 - 0) [] (low - 1) ++ [])
      rw [List.append_nil, List.nil_append]
      unfold tlF
      rw [show (low - 1 + 1 - low).toNat = 0 by omega, Nat.sub_zero, Nat.sub_zero, ← tvF_e]
abbrev JWL : Nat → Nat → Prop := fun a k => (a = 170 ∧ (k = 91 ∨ (93 ≤ k ∧ k ≤ 96))) ∨ a = 229 ∨ a = 230
theorem JWth_L {h h' : ah_T} (f : fr JWth h h') : fr JWL h h' := fr_w f (fun a k w => Or.inr (Or.inr w))
theorem t_MD_lines {μ : pm_T} {high : Int} (hb0 : hb s h) (K : KSn μ h) (L : LNg μ) : con G 3 0 0 m_MD_lines [av_R (some 170), av_I low, av_I high, av_I R] h (fun r h' => r = some (av_I (linv μ low high R)) ∧ hb s h' ∧ fr JWL h h' ∧ (linv μ low high R < 0 → h' = h) ∧ (0 ≤ linv μ low high R → PRr low (spn low high) (μ 0 3).toNat R (μ 1) h' ∧ h'.2.1 170 91 = ((lnR μ low high R).length : Int))) := by
  obtain ⟨⟨k7, k3, -⟩, ⟨b3, -⟩, kl, -⟩ := K
  have no : ∀ {v : Int}, v < 0 → linv μ low high R = v → some (av_I v) = some (av_I (linv μ low high R)) ∧ hb s h ∧ fr JWL h h ∧ (linv μ low high R < 0 → h = h) ∧ (0 ≤ linv μ low high R → PRr low (spn low high) (μ 0 3).toNat R (μ 1) h ∧ h.2.1 170 91 = ((lnR μ low high R).length : Int)) := fun q e => by
    rw [e]
    exact ⟨rfl, hb0, fr_0, fun _ => rfl, fun x => by omega⟩
  have bad : ¬ okl low high R → linv μ low high R = -1 := fun q => by unfold linv; rw [dif_f q]
  by_cases ok : okl low high R
  rotate_left
  · refine c_MD_lines (X46 := fun _ _ _ => False) (fun _ _ _ _ x => x.elim) hb0 (fun _ _ _ => ?_)
    unfold B_MD_lines_0 B_MD_lines_26
    have n1 := no (v := -1) (by decide) (bad ok)
    exact ⟨fun _ => n1, fun q1 => ⟨fun _ => n1, fun q2 => ⟨fun _ => n1, fun q3 => ⟨fun _ => n1, fun q4 => ⟨fun q5 => absurd ⟨⟨by omega, by omega, by omega⟩, by omega, by omega⟩ ok, fun _ => n1⟩⟩⟩⟩⟩
  obtain ⟨⟨o1, o2, o3⟩, o4, o5⟩ := id ok
  by_cases z3 : μ 0 3 = 0
  · refine c_MD_lines (X46 := fun _ _ _ => False) (fun _ _ _ _ x => x.elim) hb0 (fun _ _ _ => ?_)
    unfold B_MD_lines_0 B_MD_lines_26
    have n2 := no (v := -2) (by decide) (by unfold linv; rw [dif_t ok, dif_t z3])
    refine ⟨fun q => by omega, fun q1 => ⟨fun q => by omega, fun q2 => ⟨fun q => by omega, fun q3 => ⟨fun q => by omega, fun q4 => ⟨fun q5 x2 e2 _ _ => ⟨fun _ => n2, fun q => absurd (e2.trans (k3.trans z3)) q⟩, fun q => by omega⟩⟩⟩⟩⟩
  have e0 : linv μ low high R = dif (100000 < spn low high ^ (μ 0 3).toNat) (-4) ((lnR μ low high R).length : Int) := by unfold linv; rw [dif_t ok, dif_f z3]
  have eR : lnR μ low high R = rws (tvF low (spn low high) (fP R (μ 1) (μ 0 3).toNat) ((μ 0 3).toNat - 1) []) := rfl
  obtain ⟨sp, esp⟩ : ∃ q, q = spn low high := ⟨_, rfl⟩
  obtain ⟨n, en⟩ : ∃ q, q = (μ 0 3).toNat := ⟨_, rfl⟩
  have e3 : μ 0 3 = (n : Int) := by omega
  have spI : high - low + 1 = (sp : Int) := by rw [esp]; unfold spn; omega
  rw [← esp, ← en] at e0 eR no ⊢
  have hg : PRg low sp n (μ 1) := ⟨⟨by omega, by omega⟩, by omega, ⟨by omega, by omega⟩, fun j hj => L j (by omega)⟩
  have l114 : ¬ 100000 < sp ^ n → ∀ (v6 : Int) (hh : ah_T), hb s hh → (fr JWL h hh ∧ (hh.2.1 170 94 = low ∧ hh.2.1 170 95 = low + (sp : Int) - 1 ∧ hh.2.1 170 93 = (n : Int) ∧ hh.2.1 170 96 = R) ∧ ∃ k : Nat, v6 = (k : Int) ∧ k ≤ 8 ∧ ∀ i, i < k → i < n → hh.2.1 229 i = μ 1 i) → aw G (rm_R 3 0 0) m_MD_lines 0 0 114 [some (av_R (some 170)), none, none, none, none, none, some (av_I v6)] [] hh (fun r h' => r = some (av_I (linv μ low high R)) ∧ hb s h' ∧ fr JWL h h' ∧ (linv μ low high R < 0 → h' = h) ∧ (0 ≤ linv μ low high R → PRr low sp n R (μ 1) h' ∧ h'.2.1 170 91 = ((lnR μ low high R).length : Int))) := fun hN => by
    refine lp_MD_lines_114 (a1 := low) (a2 := high) (a3 := R) _ (fun v6 _ => (20 - v6).toNat) ?_
    rintro v6 hh hb1 ⟨f, H, k, rfl, hk, Z⟩
    unfold B_MD_lines_114
    refine ⟨fun q => ?_, fun q => ⟨by omega, fun x9 e9 _ _ => ⟨by omega, fun h12 e12 => ⟨⟨by omega, by omega⟩, ⟨fr_i f e12 (by omega), ?_, k + 1, by omega, by omega, fun i hi hin => ?_⟩, by omega⟩⟩⟩⟩
    · have H1 : PRr low sp n R (μ 1) hh := ⟨H, fun j hj => Z j (by omega) hj⟩
      refine con_mono (m_through (k := -2) hb1 H1 hg (by omega)) ?_
      rintro r h2 ⟨hb2, f2, z, rfl, ⟨p, -, w, -⟩ | ⟨rfl, -⟩⟩
      · exact absurd w (by decide)
      refine ⟨_, rfl, hb2, fun h4 e4 => ?_⟩
      rw [e0, dif_f hN, eR]
      refine ⟨rfl, hb_i hb2 e4, fr_i (fr_t f (JWth_L f2) (fun _ _ w => w)) e4 (by omega), fun x => by omega, fun _ => ⟨?_, mv_i e4⟩⟩
      exact PRr_f (PRr_f H1 f2 (fun a k w => by omega)) (fr_i (W := fun a k => a = 170 ∧ k = 91) fr_0 e4 ⟨rfl, rfl⟩) (fun a k w => by omega)
    · rw [mm_i e12 (by omega), mm_i e12 (by omega), mm_i e12 (by omega), mm_i e12 (by omega)]
      exact H
    · rw [tn_c] at e9 e12
      by_cases ci : i = k
      · subst ci
        rw [mv_i e12, e9, fr_g f (by omega)]
        exact kl i (by omega)
      · rw [mm_i e12 (by omega)]; exact Z i (by omega) hin
  refine c_MD_lines (X46 := fun v4 v6 hh => hh = h ∧ ∃ i : Nat, v6 = (i : Int) ∧ i ≤ n ∧ v4 = ((sp ^ i : Nat) : Int) ∧ sp ^ i ≤ 100000) ?_ hb0 (fun _ _ _ => ?_)
  · refine lp_MD_lines_46 (X114 := fun v6 hh => ¬ 100000 < sp ^ n ∧ fr JWL h hh ∧ (hh.2.1 170 94 = low ∧ hh.2.1 170 95 = low + (sp : Int) - 1 ∧ hh.2.1 170 93 = (n : Int) ∧ hh.2.1 170 96 = R) ∧ ∃ k : Nat, v6 = (k : Int) ∧ k ≤ 8 ∧ ∀ i, i < k → i < n → hh.2.1 229 i = μ 1 i) (fun v6 hh hb' x => l114 x.1 v6 hh hb' x.2) _ (fun _ v6 _ => (20 - v6).toNat) ?_
    rintro v4 v6 hh hb1 ⟨ehh, i, rfl, hi, rfl, hs⟩
    subst ehh
    unfold B_MD_lines_46
    intro x2 e2 _ _
    have ex : x2 = (n : Int) := e2.trans (k3.trans e3)
    rw [ex, spI]
    refine ⟨fun q h3 e3' h5 e5 h7 e7 h11 e11 => ?_, fun q => ⟨⟨by omega, by omega⟩, ⟨by omega, by omega⟩, fun x15 e15 => ?_⟩⟩
    · have : i = n := by omega
      subst this
      refine ⟨by omega, fr_i (fr_i (fr_i (fr_i fr_0 e3' (by omega)) e5 (by omega)) e7 (by omega)) e11 (by omega), ⟨?_, ?_, mv_i e11, ?_⟩, 0, rfl, Nat.zero_le _, fun j hj => by omega⟩
      · rw [mm_i e11 (by omega), mm_i e7 (by omega), mm_i e5 (by omega), mv_i e3']
      · rw [mm_i e11 (by omega), mm_i e7 (by omega), mv_i e5]; omega
      · rw [mm_i e11 (by omega), mv_i e7]
    · have ep : sp ^ (i + 1) = sp ^ i * sp := Nat.pow_succ ..
      have ex : x15 = ((sp ^ (i + 1) : Nat) : Int) := by rw [e15, ep, Int.natCast_mul]
      have bd : sp ^ i * sp ≤ 100000 * sp := Nat.mul_le_mul_right _ hs
      subst ex
      refine ⟨⟨by omega, by omega⟩, fun q2 => ⟨⟨by omega, by omega⟩, ⟨rfl, i + 1, by omega, by omega, rfl, by omega⟩, by omega⟩, fun q2 => ?_⟩
      have pw : sp ^ (i + 1) ≤ sp ^ n := Nat.pow_le_pow_right (by omega) (by omega)
      exact no (v := -4) (by decide) (by rw [e0, dif_t (show 100000 < sp ^ n by omega)])
  · unfold B_MD_lines_0 B_MD_lines_26
    refine ⟨fun q => by omega, fun q1 => ⟨fun q => by omega, fun q2 => ⟨fun q => by omega, fun q3 => ⟨fun q => by omega, fun q4 => ⟨fun q5 x2 e2 _ _ => ⟨fun q => absurd (e2.symm.trans q) (by rw [k3]; exact z3), fun _ => ⟨rfl, 0, rfl, Nat.zero_le _, rfl, by show 1 ≤ 100000; decide⟩⟩, fun q => by omega⟩⟩⟩⟩⟩
end
