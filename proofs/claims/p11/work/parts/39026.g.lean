/-! ===== parts of a voice: a part more ===== -/
theorem PW_add {π π' : pm_T} (H : PW π) (e0 : π' 0 0 = π 0 0 + 1) (e1 : 0 ≤ π' 0 1 ∧ π' 0 1 ≤ 7) (e2 : π' 0 2 = π 0 2) (e3 : π 0 3 ≤ π' 0 3 ∧ π' 0 3 ≤ π 0 2) (e4 : π' 0 4 = π 0 4) (hd : ∀ d : Nat, (d : Int) < π' 0 1 → PD π' d) (ho : ∀ a j, j < sz π → (1 ≤ a ∧ a ≤ 13) ∨ (17 ≤ a ∧ a ≤ 19) → π' a j = π a j) (h14 : ∀ j : Nat, (j : Int) < π 0 0 → 0 ≤ π' 14 j ∧ π' 14 j < π' 0 0) (hn : PJ π' (sz π)) : PW π' := by
  obtain ⟨⟨p0, p1, p2, p3, p4⟩, pd, pj⟩ := H
  refine ⟨⟨by omega, e1, by omega, by omega, by omega⟩, hd, fun j hj => ?_⟩
  by_cases hc : j = sz π
  · subst hc; exact hn
  · have hj' : (j : Int) < π 0 0 := by unfold sz at hc; omega
    exact PJ_c (pj j hj') (fun a q => ho a j (by unfold sz; omega) q) (h14 j hj') (by omega) (by omega)
theorem PD_c {π π' : pm_T} {d : Nat} (H : PD π d) (h0 : π 0 0 ≤ π' 0 0) (h15 : π' 15 d = π 15 d) (h16 : π' 16 d = π 16 d) : PD π' d := by
  unfold PD at H ⊢; omega
theorem addE_o {π : pm_T} {n d w : Int} {a k : Nat} (q0 : ¬ (a = 0 ∧ (k = 3 ∨ k = 0))) (q : k ≠ sz π ∨ ¬ (a = 1 ∨ a = 2 ∨ a = 3 ∨ a = 4 ∨ a = 14 ∨ a = 18)) : addE π n d w a k = π a k := by
  unfold addE
  rw [up2_o (by omega), up2_o (by omega), up2_o (by omega), up2_o (by omega), up2_o (by omega), up2_o (by omega), up2_o (by omega), up2_o (by omega)]
theorem addE_0 {π : pm_T} {n d w : Int} : addE π n d w 0 0 = π 0 0 + 1 ∧ addE π n d w 0 3 = π 0 3 + 1 := by
  unfold addE
  exact ⟨by rw [up2_at], by rw [up2_o (by omega), up2_at]⟩
theorem addE_v {π : pm_T} {n d w : Int} : addE π n d w 1 (sz π) = 256 ∧ addE π n d w 2 (sz π) = n ∧ addE π n d w 3 (sz π) = d ∧ addE π n d w 4 (sz π) = w ∧ addE π n d w 14 (sz π) = π 0 0 ∧ addE π n d w 18 (sz π) = π 0 3 := by
  unfold addE
  refine ⟨?_, ?_, ?_, ?_, ?_, ?_⟩
  · rw [up2_o (by omega), up2_o (by omega), up2_o (by omega), up2_o (by omega), up2_o (by omega), up2_o (by omega), up2_o (by omega), up2_at]
  · rw [up2_o (by omega), up2_o (by omega), up2_o (by omega), up2_o (by omega), up2_o (by omega), up2_o (by omega), up2_at]
  · rw [up2_o (by omega), up2_o (by omega), up2_o (by omega), up2_o (by omega), up2_o (by omega), up2_at]
  · rw [up2_o (by omega), up2_o (by omega), up2_o (by omega), up2_o (by omega), up2_at]
  · rw [up2_o (by omega), up2_o (by omega), up2_o (by omega), up2_at]
  · rw [up2_o (by omega), up2_o (by omega), up2_at]
theorem PW_addE {π : pm_T} {n d w : Int} (H : PW π) (S : PS π) (h3 : π 0 3 < π 0 2) (hn : 1 ≤ n ∧ n ≤ 64) (hd : 0 ≤ d ∧ d ≤ 3) (hw : w = 0 ∨ w = 1) : PW (addE π n d w) := by
  obtain ⟨p0, p1, p2, p3, p4⟩ := H.1
  obtain ⟨v1, v2, v3, v4, v14, v18⟩ := addE_v (π := π) (n := n) (d := d) (w := w)
  obtain ⟨z0, z3⟩ := addE_0 (π := π) (n := n) (d := d) (w := w)
  have o1 : addE π n d w 0 1 = π 0 1 := addE_o (by omega) (by omega)
  have o2 : addE π n d w 0 2 = π 0 2 := addE_o (by omega) (by omega)
  have o4 : addE π n d w 0 4 = π 0 4 := addE_o (by omega) (by omega)
  have o5 : addE π n d w 5 (sz π) = π 5 (sz π) := addE_o (by omega) (by omega)
  have o19 : addE π n d w 19 (sz π) = π 19 (sz π) := addE_o (by omega) (by omega)
  refine PW_add H z0 (by rw [o1]; exact p1) o2 (by rw [z3]; omega) o4 (fun d' hd' => ?_) (fun a j hj q => addE_o (by omega) (by omega)) (fun j hj => ?_) ⟨?_, fun _ => ⟨?_, ?_, ?_, ?_⟩, fun q => by omega⟩
  · exact PD_c (H.2.1 d' (by omega)) (by omega) (addE_o (by omega) (by omega)) (addE_o (by omega) (by omega))
  · have := (H.2.2 j hj).1
    have hz : j ≠ sz π := by unfold sz; omega
    rw [addE_o (by omega) (by omega), z0]; omega
  · rw [v14, z0]; omega
  · rw [v2, v3, v4]; exact ⟨hn, hd, hw⟩
  · rw [v18, z3]; omega
  · rw [o19, o5, o4]; have := S.2.1; omega
  · exact SO_c S.1 (fun a q => addE_o (by omega) (by omega))
theorem addP_o {π : pm_T} {c x y : Int} {a k : Nat} (q0 : ¬ (a = 0 ∧ k = 0)) (q : k ≠ sz π ∨ ¬ (a = 1 ∨ a = 2 ∨ a = 3 ∨ a = 14)) : addP π c x y a k = π a k := by
  unfold addP
  rw [up2_o (by omega), up2_o (by omega), up2_o (by omega), up2_o (by omega), up2_o (by omega)]
theorem addP_v {π : pm_T} {c x y : Int} : addP π c x y 0 0 = π 0 0 + 1 ∧ addP π c x y 1 (sz π) = c ∧ addP π c x y 2 (sz π) = x ∧ addP π c x y 3 (sz π) = y ∧ addP π c x y 14 (sz π) = π 0 0 := by
  unfold addP
  refine ⟨by rw [up2_at], ?_, ?_, ?_, ?_⟩
  · rw [up2_o (by omega), up2_o (by omega), up2_o (by omega), up2_o (by omega), up2_at]
  · rw [up2_o (by omega), up2_o (by omega), up2_o (by omega), up2_at]
  · rw [up2_o (by omega), up2_o (by omega), up2_at]
  · rw [up2_o (by omega), up2_at]
theorem PW_addP {π : pm_T} {c x y : Int} (H : PW π) (hc : c ≠ 256 ∧ c ≠ 123) : PW (addP π c x y) := by
  obtain ⟨p0, p1, p2, p3, p4⟩ := H.1
  obtain ⟨z0, v1, v2, v3, v14⟩ := addP_v (π := π) (c := c) (x := x) (y := y)
  have o1 : addP π c x y 0 1 = π 0 1 := addP_o (by omega) (by omega)
  have o2 : addP π c x y 0 2 = π 0 2 := addP_o (by omega) (by omega)
  have o3 : addP π c x y 0 3 = π 0 3 := addP_o (by omega) (by omega)
  have o4 : addP π c x y 0 4 = π 0 4 := addP_o (by omega) (by omega)
  refine PW_add H z0 (by rw [o1]; exact p1) o2 (by rw [o3]; omega) o4 (fun d' hd' => ?_) (fun a j hj q => addP_o (by omega) (by omega)) (fun j hj => ?_) ⟨?_, fun q => by omega, fun q => by omega⟩
  · exact PD_c (H.2.1 d' (by omega)) (by omega) (addP_o (by omega) (by omega)) (addP_o (by omega) (by omega))
  · have := (H.2.2 j hj).1
    have hz : j ≠ sz π := by unfold sz; omega
    rw [addP_o (by omega) (by omega), z0]; omega
  · rw [v14, z0]; omega
theorem opn_o {π : pm_T} {a k : Nat} (q0 : ¬ (a = 0 ∧ k = 1)) (q : k ≠ dp π ∨ ¬ (a = 15 ∨ a = 16)) : opn π a k = π a k := by
  unfold opn
  rw [up2_o (by omega), up2_o (by omega), up2_o (by omega)]
theorem opn_v {π : pm_T} : opn π 0 1 = π 0 1 + 1 ∧ opn π 15 (dp π) = π 0 0 ∧ opn π 16 (dp π) = π 0 0 := by
  unfold opn
  exact ⟨by rw [up2_at], by rw [up2_o (by omega), up2_o (by omega), up2_at], by rw [up2_o (by omega), up2_at]⟩
theorem sz_opn {π : pm_T} : sz (opn π) = sz π := by unfold sz; rw [opn_o (by omega) (by omega)]
theorem PW_addO {π : pm_T} {c x y : Int} (H : PW π) (h6 : π 0 1 ≤ 6) (hc : c = 91 ∨ (c = 123 ∧ (1 ≤ x ∧ x ≤ 16) ∧ 1 ≤ y ∧ y ≤ 16)) : PW (addP (opn π) c x y) := by
  obtain ⟨p0, p1, p2, p3, p4⟩ := H.1
  obtain ⟨z0, v1, v2, v3, v14⟩ := addP_v (π := opn π) (c := c) (x := x) (y := y)
  obtain ⟨w1, w15, w16⟩ := opn_v (π := π)
  rw [sz_opn] at v1 v2 v3 v14
  have oo : ∀ k, k ≠ 1 → opn π 0 k = π 0 k := fun k hk => opn_o (by omega) (by omega)
  have o1 : addP (opn π) c x y 0 1 = π 0 1 + 1 := by rw [addP_o (by omega) (by omega), w1]
  have o2 : addP (opn π) c x y 0 2 = π 0 2 := by rw [addP_o (by omega) (by omega), oo _ (by omega)]
  have o3 : addP (opn π) c x y 0 3 = π 0 3 := by rw [addP_o (by omega) (by omega), oo _ (by omega)]
  have o4 : addP (opn π) c x y 0 4 = π 0 4 := by rw [addP_o (by omega) (by omega), oo _ (by omega)]
  rw [oo _ (by omega)] at z0 v14
  have g : ∀ a k, (1 ≤ a ∧ a ≤ 14) ∨ 17 ≤ a → k ≠ sz π → addP (opn π) c x y a k = π a k := fun a k q hk => by
    rw [addP_o (by omega) (by rw [sz_opn]; omega), opn_o (by omega) (by omega)]
  refine PW_add H z0 (by rw [o1]; omega) o2 (by rw [o3]; omega) o4 (fun d' hd' => ?_) (fun a j hj q => g a j (by omega) (by omega)) (fun j hj => ?_) ⟨?_, fun q => by omega, fun q => by omega⟩
  · by_cases hc : d' = dp π
    · subst hc
      unfold PD
      have r15 : addP (opn π) c x y 15 (dp π) = π 0 0 := by rw [addP_o (by omega) (by omega), w15]
      have r16 : addP (opn π) c x y 16 (dp π) = π 0 0 := by rw [addP_o (by omega) (by omega), w16]
      rw [r15, r16, z0]; omega
    · have : d' < dp π := by unfold dp at hc ⊢; omega
      exact PD_c (H.2.1 d' (by unfold dp at this; omega)) (by omega) (by rw [addP_o (by omega) (by omega), opn_o (by omega) (by omega)]) (by rw [addP_o (by omega) (by omega), opn_o (by omega) (by omega)])
  · have := (H.2.2 j hj).1
    have hz : j ≠ sz π := by unfold sz; omega
    rw [g _ _ (by omega) hz, z0]; omega
  · rw [v14, z0]; omega
theorem mrk_o {π : pm_T} {a k : Nat} (q : ¬ (a = 14 ∧ k = (π 16 (dp π - 1)).toNat)) (q2 : ¬ (a = 16 ∧ k = dp π - 1)) : mrk π a k = π a k := by
  unfold mrk
  rw [up2_o (by omega), up2_o (by omega)]
theorem mrk_v {π : pm_T} : mrk π 14 (π 16 (dp π - 1)).toNat = π 0 0 ∧ mrk π 16 (dp π - 1) = π 0 0 := by
  unfold mrk
  exact ⟨by rw [up2_o (by omega), up2_at], by rw [up2_at]⟩
theorem sz_mrk {π : pm_T} : sz (mrk π) = sz π := by unfold sz; rw [mrk_o (by omega) (by omega)]
/-- what a mark makes -/
theorem addM_o {π : pm_T} {K : Int} {a k : Nat} (q0 : ¬ (a = 0 ∧ (k = 0 ∨ k = 1))) (q : k ≠ sz π ∨ ¬ (a = 1 ∨ a = 2 ∨ a = 3 ∨ a = 14)) (q1 : ¬ (a = 14 ∧ k = (π 16 (dp π - 1)).toNat)) (q2 : ¬ (a = 16 ∧ k = dp π - 1)) : addM π K a k = π a k := by
  unfold addM
  split
  · rw [addP_o (by omega) (by rw [sz_mrk]; omega), mrk_o q1 q2]
  · rw [up2_o (by omega), addP_o (by omega) (by rw [sz_mrk]; omega), mrk_o q1 q2]
theorem addM_v {π : pm_T} {K : Int} (hl : (π 16 (dp π - 1)).toNat ≠ sz π) : addM π K 0 0 = π 0 0 + 1 ∧ addM π K 0 1 = (if K = 58 then π 0 1 else π 0 1 - 1) ∧ addM π K 1 (sz π) = K ∧ addM π K 14 (sz π) = π 0 0 ∧ addM π K 14 (π 16 (dp π - 1)).toNat = π 0 0 ∧ addM π K 16 (dp π - 1) = π 0 0 := by
  obtain ⟨z0, v1, -, -, v14⟩ := addP_v (π := mrk π) (c := K) (x := 0) (y := 0)
  obtain ⟨w14, w16⟩ := mrk_v (π := π)
  rw [sz_mrk] at v1 v14
  have m0 : mrk π 0 0 = π 0 0 := mrk_o (by omega) (by omega)
  have m1 : mrk π 0 1 = π 0 1 := mrk_o (by omega) (by omega)
  have a1 : addP (mrk π) K 0 0 0 1 = π 0 1 := by rw [addP_o (by omega) (by omega), m1]
  have a14 : addP (mrk π) K 0 0 14 (π 16 (dp π - 1)).toNat = π 0 0 := by rw [addP_o (by omega) (by rw [sz_mrk]; omega), w14]
  have a16 : addP (mrk π) K 0 0 16 (dp π - 1) = π 0 0 := by rw [addP_o (by omega) (by omega), w16]
  rw [m0] at z0 v14
  unfold addM
  split
  · exact ⟨z0, a1, v1, v14, a14, a16⟩
  · refine ⟨?_, ?_, ?_, ?_, ?_, ?_⟩
    · rw [up2_o (by omega)]; exact z0
    · rw [up2_at]
    · rw [up2_o (by omega)]; exact v1
    · rw [up2_o (by omega)]; exact v14
    · rw [up2_o (by omega)]; exact a14
    · rw [up2_o (by omega)]; exact a16
theorem PW_addM {π : pm_T} {K : Int} (H : PW π) (h1 : 0 < π 0 1) (hK : K = 58 ∨ K = 93 ∨ K = 125) : PW (addM π K) := by
  obtain ⟨p0, p1, p2, p3, p4⟩ := H.1
  have hd := H.2.1 (dp π - 1) (by unfold dp; omega)
  unfold PD at hd
  have hl : (π 16 (dp π - 1)).toNat ≠ sz π := by unfold sz; omega
  obtain ⟨z0, z1, v1, v14, l14, l16⟩ := addM_v (K := K) hl
  have o2 : addM π K 0 2 = π 0 2 := addM_o (by omega) (by omega) (by omega) (by omega)
  have o3 : addM π K 0 3 = π 0 3 := addM_o (by omega) (by omega) (by omega) (by omega)
  have o4 : addM π K 0 4 = π 0 4 := addM_o (by omega) (by omega) (by omega) (by omega)
  refine PW_add H z0 (by rw [z1]; split <;> omega) o2 (by rw [o3]; omega) o4 (fun d' hd' => ?_) (fun a j hj q => addM_o (by omega) (by omega) (by omega) (by omega)) (fun j hj => ?_) ⟨?_, fun q => by omega, fun q => by omega⟩
  · have hd2 : (d' : Int) < π 0 1 := by rw [z1] at hd'; split at hd' <;> omega
    have := H.2.1 d' hd2
    unfold PD at this ⊢
    by_cases hc : d' = dp π - 1
    · have r15 : addM π K 15 (dp π - 1) = π 15 (dp π - 1) := addM_o (by omega) (by omega) (by omega) (by omega)
      rw [hc, l16, r15, z0]; omega
    · have r15 : addM π K 15 d' = π 15 d' := addM_o (by omega) (by omega) (by omega) (by omega)
      have r16 : addM π K 16 d' = π 16 d' := addM_o (by omega) (by omega) (by omega) (by omega)
      rw [r15, r16, z0]; omega
  · have := (H.2.2 j hj).1
    have hz : j ≠ sz π := by unfold sz; omega
    by_cases hc : j = (π 16 (dp π - 1)).toNat
    · rw [hc, l14, z0]; omega
    · rw [addM_o (by omega) (by omega) (by omega) (by omega), z0]; omega
  · rw [v14, z0]; omega

/-! ===== the class: a part more ===== -/
theorem RPc_add {π π' : pm_T} {v : Nat} {h h' : ah_T} {W : Nat → Nat → Prop} (H : RPc π v h) (P : PW π) (f : fr W h h') (hW : ∀ a k, W a k → (a ≤ 8 ∧ (a = 2 → 5 ≤ k)) ∨ a = 9 ∨ ((a = 10 ∨ a = 12 ∨ a = 13) ∧ k = sz π) ∨ a = 11 ∨ a = 14 ∨ a = 15 ∨ (a = v ∧ k = 7) ∨ (a = v + 3 ∧ π 0 3 < k) ∨ ((a = v + 4 ∨ a = v + 5 ∨ a = v + 6) ∧ π 0 3 ≤ k)) (v24 : 24 ≤ v) (e0 : π' 0 0 = π 0 0 + 1) (h94 : h'.2.1 9 4 = π' 0 0) (h97 : h'.2.1 9 7 = π' 0 1) (e2 : π' 0 2 = π 0 2) (h7 : h'.2.1 v 7 = π' 0 3) (e4 : π' 0 4 = π 0 4) (hd : ∀ d : Nat, (d : Int) < π' 0 1 → h'.2.1 14 d = π' 15 d ∧ h'.2.1 15 d = π' 16 d) (ho : ∀ a j, j < sz π → (1 ≤ a ∧ a ≤ 13) ∨ (17 ≤ a ∧ a ≤ 19) → π' a j = π a j) (h11 : ∀ j : Nat, (j : Int) < π 0 0 → h'.2.1 11 j = π' 14 j) (hn : RPj π' v (sz π) h') : RPc π' v h' := by
  obtain ⟨⟨a1, a2, a3, a4, a5⟩, -, hj⟩ := H
  have g : ∀ (a k : Nat), ¬ ((a ≤ 8 ∧ (a = 2 → 5 ≤ k)) ∨ a = 9 ∨ ((a = 10 ∨ a = 12 ∨ a = 13) ∧ k = sz π) ∨ a = 11 ∨ a = 14 ∨ a = 15 ∨ (a = v ∧ k = 7) ∨ (a = v + 3 ∧ π 0 3 < k) ∨ ((a = v + 4 ∨ a = v + 5 ∨ a = v + 6) ∧ π 0 3 ≤ k)) → h'.2.1 a k = h.2.1 a k := fun a k q => fr_g f (fun w => q (hW a k w))
  refine ⟨⟨h94, h97, ?_, h7, ?_⟩, hd, fun j hj' => ?_⟩
  · rw [g _ _ (by omega), e2]; exact a3
  · rw [g _ _ (by omega), e4]; exact a5
  · by_cases hc : j = sz π
    · subst hc; exact hn
    · have hlt : (j : Int) < π 0 0 := by unfold sz at hc; have := P.1.1; omega
      exact RPj_c (hj j hlt) (P.2.2 j hlt) (Int.le_refl _) (Int.le_refl _) (fun a q => ho a j (by unfold sz; omega) (by omega)) (g _ _ (by omega)) (h11 j hlt) ⟨g _ _ (by omega), g _ _ (by omega)⟩ (fun k hk => ⟨g _ _ (by omega), g _ _ (by omega), g _ _ (by omega)⟩) (fun k hk => g _ _ (by omega)) (fun k hk => ⟨g _ _ (by omega), g _ _ (by omega)⟩)
/-- what reading keeps from part to part -/
def VE (t : tk_T) (m i : Nat) (μ : pm_T) (s : Nat) (π : pm_T) (v : Nat) (h : ah_T) : Prop := VSp t m i μ s π v h ∧ PW π ∧ h.2.1 (v + 3) (π 0 3).toNat = π 0 4 ∧ π 0 0 + 1 ≤ i
theorem RPc_addE {π : pm_T} {v b k : Nat} {n d w : Int} {h h2 h' : ah_T} (v24 : 24 ≤ v) (R : RSp π v h) (h3 : π 0 3 < π 0 2) (hb : π 0 3 = (b : Int)) (hk : π 0 0 = (k : Int)) (f1 : fr (fun x k => (x = v ∧ k = 7) ∨ (x = v + 3 ∧ k = b + 1) ∨ ((x = v + 4 ∨ x = v + 5 ∨ x = v + 6) ∧ k = b)) h h2) (g1 : h2.2.1 v 7 = (b : Int) + 1 ∧ h2.2.1 (v + 4) b = n ∧ h2.2.1 (v + 5) b = d ∧ h2.2.1 (v + 6) b = w ∧ h2.2.1 (v + 3) (b + 1) = h.2.1 v 2) (f2 : fr (fun x j => (x = 9 ∧ j = 4) ∨ ((x = 10 ∨ x = 11 ∨ x = 12 ∨ x = 13) ∧ j = k)) h2 h') (g2 : h'.2.1 9 4 = (k : Int) + 1 ∧ h'.2.1 10 k = 256 ∧ h'.2.1 12 k = (b : Int) ∧ h'.2.1 13 k = 0 ∧ h'.2.1 11 k = (k : Int)) : RPc (addE π n d w) v h' ∧ h'.2.1 (v + 3) (addE π n d w 0 3).toNat = addE π n d w 0 4 := by
  obtain ⟨H, P, S, C⟩ := R
  obtain ⟨p0, p1, p2, p3, p4⟩ := P.1
  obtain ⟨v1, v2, v3, v4, v14, v18⟩ := addE_v (π := π) (n := n) (d := d) (w := w)
  obtain ⟨z0, z3⟩ := addE_0 (π := π) (n := n) (d := d) (w := w)
  have hsz : sz π = k := by unfold sz; omega
  have o1 : addE π n d w 0 1 = π 0 1 := addE_o (by omega) (by omega)
  have o4 : addE π n d w 0 4 = π 0 4 := addE_o (by omega) (by omega)
  have o5 : addE π n d w 5 (sz π) = π 5 (sz π) := addE_o (by omega) (by omega)
  have o19 : addE π n d w 19 (sz π) = π 19 (sz π) := addE_o (by omega) (by omega)
  have f := fr_t (W := fun x j => ((x = v ∧ j = 7) ∨ (x = v + 3 ∧ j = b + 1) ∨ ((x = v + 4 ∨ x = v + 5 ∨ x = v + 6) ∧ j = b)) ∨ (x = 9 ∧ j = 4) ∨ ((x = 10 ∨ x = 11 ∨ x = 12 ∨ x = 13) ∧ j = k)) (fr_w f1 (fun a k w => Or.inl w)) f2 (fun a k w => Or.inr w)
  have eb : (b : Int).toNat = b := tn_c b
  have e1 : (addE π n d w 0 3).toNat = b + 1 := by rw [z3]; omega
  have hl : h'.2.1 (v + 3) (b + 1) = π 0 4 := by rw [fr_g f2 (by omega), g1.2.2.2.2]; exact H.1.2.2.2.2
  refine ⟨RPc_add H P f (fun a k w => by omega) v24 z0 (by rw [z0, g2.1]; omega) ?_ (addE_o (by omega) (by omega)) ?_ o4 (fun d' hd' => ?_) (fun a j hj q => addE_o (by omega) (by omega)) (fun j hj => ?_) ?_, by rw [e1, o4]; exact hl⟩
  · rw [fr_g f (by omega), o1]; exact H.1.2.1
  · rw [fr_g f2 (by omega), g1.1, z3]; omega
  · have := H.2.1 d' (by omega)
    rw [fr_g f (by omega), fr_g f (by omega), addE_o (by omega) (by omega), addE_o (by omega) (by omega)]; exact this
  · rw [fr_g f (by omega), addE_o (by omega) (by unfold sz; omega)]; exact (H.2.2 j hj).1.2
  · refine ⟨⟨by rw [hsz, g2.2.1, ← hsz, v1], by rw [v14, hsz, g2.2.2.2.2]; omega⟩, fun _ => ⟨⟨?_, ?_, ?_, ?_⟩, ?_, ?_⟩, fun q => by omega⟩
    · rw [v18, hsz, g2.2.2.1]; omega
    · rw [v18, v2, hb, eb, fr_g f2 (by omega)]; exact g1.2.1
    · rw [v18, v3, hb, eb, fr_g f2 (by omega)]; exact g1.2.2.1
    · rw [v18, v4, hb, eb, fr_g f2 (by omega)]; exact g1.2.2.2.1
    · rw [v18, hb, eb, o19, o5, hl, S.2.1]
    · rw [v18]
      exact SC_c C S.1 (n := π 0 4) (by have := S.2.1; omega) (fun a q => addE_o (by omega) (by omega)) (fr_g f (by omega)) (fun q _ => ⟨fr_g f (by omega), fr_g f (by omega)⟩)
theorem RPc_addP {π : pm_T} {v k : Nat} {c x y : Int} {h h' : ah_T} (v24 : 24 ≤ v) (H : RPc π v h) (P : PW π) (hB : h.2.1 (v + 3) (π 0 3).toNat = π 0 4) (hc : c ≠ 256 ∧ c ≠ 123) (hk : π 0 0 = (k : Int)) (f : fr (fun x j => (x = 9 ∧ j = 4) ∨ ((x = 10 ∨ x = 11 ∨ x = 12 ∨ x = 13) ∧ j = k)) h h') (g : h'.2.1 9 4 = (k : Int) + 1 ∧ h'.2.1 10 k = c ∧ h'.2.1 12 k = x ∧ h'.2.1 13 k = y ∧ h'.2.1 11 k = (k : Int)) : RPc (addP π c x y) v h' ∧ h'.2.1 (v + 3) (addP π c x y 0 3).toNat = addP π c x y 0 4 := by
  obtain ⟨p0, p1, p2, p3, p4⟩ := P.1
  obtain ⟨z0, v1, v2, v3, v14⟩ := addP_v (π := π) (c := c) (x := x) (y := y)
  have hsz : sz π = k := by unfold sz; omega
  have o : ∀ j, j ≠ 0 → addP π c x y 0 j = π 0 j := fun j hj => addP_o (by omega) (by omega)
  refine ⟨RPc_add H P f (fun a k w => by omega) v24 z0 (by rw [z0, g.1]; omega) ?_ (o _ (by omega)) ?_ (o _ (by omega)) (fun d' hd' => ?_) (fun a j hj q => addP_o (by omega) (by omega)) (fun j hj => ?_) ⟨⟨by rw [hsz, g.2.1, ← hsz, v1], by rw [v14, hsz, g.2.2.2.2]; omega⟩, fun q => by omega, fun q => by omega⟩, ?_⟩
  · rw [fr_g f (by omega), o _ (by omega)]; exact H.1.2.1
  · rw [fr_g f (by omega), o _ (by omega)]; exact H.1.2.2.2.1
  · rw [o _ (by omega)] at hd'
    have := H.2.1 d' hd'
    rw [fr_g f (by omega), fr_g f (by omega), addP_o (by omega) (by omega), addP_o (by omega) (by omega)]; exact this
  · rw [fr_g f (by omega), addP_o (by omega) (by unfold sz; omega)]; exact (H.2.2 j hj).1.2
  · rw [o _ (by omega), o _ (by omega), fr_g f (by omega)]; exact hB
theorem RPc_addO {π : pm_T} {v k d : Nat} {c x y : Int} {h h' : ah_T} (v24 : 24 ≤ v) (H : RPc π v h) (P : PW π) (hB : h.2.1 (v + 3) (π 0 3).toNat = π 0 4) (hc : c = 91 ∨ c = 123) (hk : π 0 0 = (k : Int)) (hd : π 0 1 = (d : Int)) (f : fr (fun x j => (x = 9 ∧ (j = 4 ∨ j = 7)) ∨ ((x = 10 ∨ x = 11 ∨ x = 12 ∨ x = 13) ∧ j = k) ∨ ((x = 14 ∨ x = 15) ∧ j = d)) h h') (g : h'.2.1 9 4 = (k : Int) + 1 ∧ h'.2.1 10 k = c ∧ h'.2.1 12 k = x ∧ h'.2.1 13 k = y ∧ h'.2.1 11 k = (k : Int) ∧ h'.2.1 9 7 = (d : Int) + 1 ∧ h'.2.1 14 d = (k : Int) ∧ h'.2.1 15 d = (k : Int)) : RPc (addP (opn π) c x y) v h' ∧ h'.2.1 (v + 3) (addP (opn π) c x y 0 3).toNat = addP (opn π) c x y 0 4 := by
  obtain ⟨p0, p1, p2, p3, p4⟩ := P.1
  obtain ⟨z0, v1, v2, v3, v14⟩ := addP_v (π := opn π) (c := c) (x := x) (y := y)
  obtain ⟨w1, w15, w16⟩ := opn_v (π := π)
  rw [sz_opn] at v1 v2 v3 v14
  have oo : ∀ j, j ≠ 1 → opn π 0 j = π 0 j := fun j hj => opn_o (by omega) (by omega)
  rw [oo _ (by omega)] at z0 v14
  have hsz : sz π = k := by unfold sz; omega
  have hdp : dp π = d := by unfold dp; omega
  have o1 : addP (opn π) c x y 0 1 = π 0 1 + 1 := by rw [addP_o (by omega) (by omega), w1]
  have o : ∀ j, j ≠ 0 → j ≠ 1 → addP (opn π) c x y 0 j = π 0 j := fun j hj hj1 => by rw [addP_o (by omega) (by omega), oo _ hj1]
  have g1 : ∀ a k, (1 ≤ a ∧ a ≤ 14) ∨ 17 ≤ a → k ≠ sz π → addP (opn π) c x y a k = π a k := fun a k q hk => by
    rw [addP_o (by omega) (by rw [sz_opn]; omega), opn_o (by omega) (by omega)]
  refine ⟨RPc_add H P f (fun a k w => by omega) v24 z0 (by rw [z0, g.1]; omega) (by rw [o1, g.2.2.2.2.2.1]; omega) (o _ (by omega) (by omega)) ?_ (o _ (by omega) (by omega)) (fun d' hd' => ?_) (fun a j hj q => g1 a j (by omega) (by omega)) (fun j hj => ?_) ⟨⟨by rw [hsz, g.2.1, ← hsz, v1], by rw [v14, hsz, g.2.2.2.2.1]; omega⟩, fun q => by omega, fun q => by rw [hsz, g.2.2.1, g.2.2.2.1, ← hsz, v2, v3]; exact ⟨rfl, rfl⟩⟩, ?_⟩
  · rw [fr_g f (by omega), o _ (by omega) (by omega)]; exact H.1.2.2.2.1
  · have r : ∀ a, a = 15 ∨ a = 16 → addP (opn π) c x y a d' = opn π a d' := fun a ha => addP_o (by omega) (by omega)
    rw [r _ (Or.inl rfl), r _ (Or.inr rfl)]
    by_cases hc : d' = d
    · subst hc
      rw [← hdp, w15, w16, hdp, g.2.2.2.2.2.2.1, g.2.2.2.2.2.2.2, hk]; exact ⟨rfl, rfl⟩
    · have hlt : (d' : Int) < π 0 1 := by omega
      have := H.2.1 d' hlt
      rw [fr_g f (by omega), fr_g f (by omega), opn_o (by omega) (by omega), opn_o (by omega) (by omega)]; exact this
  · rw [fr_g f (by omega), g1 _ _ (by omega) (by unfold sz; omega)]; exact (H.2.2 j hj).1.2
  · rw [o _ (by omega) (by omega), o _ (by omega) (by omega), fr_g f (by omega)]; exact hB
theorem RPc_addM {π : pm_T} {v k d l : Nat} {K : Int} {h h' : ah_T} (v24 : 24 ≤ v) (H : RPc π v h) (P : PW π) (hB : h.2.1 (v + 3) (π 0 3).toNat = π 0 4) (hK : K ≠ 256 ∧ K ≠ 123) (h1 : 0 < π 0 1) (hk : π 0 0 = (k : Int)) (hd : π 0 1 = (d : Int)) (hl : π 16 (d - 1) = (l : Int)) (f : fr (fun x j => (x = 9 ∧ (j = 4 ∨ j = 7)) ∨ ((x = 10 ∨ x = 11 ∨ x = 12 ∨ x = 13) ∧ j = k) ∨ (x = 11 ∧ j = l) ∨ (x = 15 ∧ j = d - 1)) h h') (g : h'.2.1 9 4 = (k : Int) + 1 ∧ h'.2.1 10 k = K ∧ h'.2.1 11 k = (k : Int) ∧ h'.2.1 11 l = (k : Int) ∧ h'.2.1 15 (d - 1) = (k : Int) ∧ h'.2.1 9 7 = addM π K 0 1) : RPc (addM π K) v h' ∧ h'.2.1 (v + 3) (addM π K 0 3).toNat = addM π K 0 4 := by
  obtain ⟨p0, p1, p2, p3, p4⟩ := P.1
  have hsz : sz π = k := by unfold sz; omega
  have hdp : dp π = d := by unfold dp; omega
  have hD := P.2.1 (d - 1) (by omega)
  unfold PD at hD
  have el : (π 16 (dp π - 1)).toNat = l := by rw [hdp]; omega
  obtain ⟨z0, z1, v1, v14, l14, l16⟩ := addM_v (π := π) (K := K) (by rw [el, hsz]; omega)
  replace z1 : addM π K 0 1 ≤ π 0 1 := by rw [z1]; split <;> omega
  obtain ⟨g1, g2, g3, g4, g5, g6⟩ := g
  have gf : ∀ (x j : Nat), ¬ ((x = 9 ∧ (j = 4 ∨ j = 7)) ∨ ((x = 10 ∨ x = 11 ∨ x = 12 ∨ x = 13) ∧ j = k) ∨ (x = 11 ∧ j = l) ∨ (x = 15 ∧ j = d - 1)) → h'.2.1 x j = h.2.1 x j := fun x j q => fr_g f q
  have mo : ∀ (a j : Nat), ¬ (a = 0 ∧ (j = 0 ∨ j = 1)) → (j ≠ k ∨ ¬ (a = 1 ∨ a = 2 ∨ a = 3 ∨ a = 14)) → ¬ (a = 14 ∧ j = l) → ¬ (a = 16 ∧ j = d - 1) → addM π K a j = π a j := fun a j q0 q q1 q2 => addM_o q0 (by rw [hsz]; exact q) (by rw [el]; exact q1) (by rw [hdp]; exact q2)
  rw [el] at l14
  clear el p1 p2 p3 p4
  have o : ∀ j, j ≠ 0 → j ≠ 1 → addM π K 0 j = π 0 j := fun j hj hj1 => addM_o (by omega) (by omega) (by omega) (by omega)
  rw [hdp] at l16
  have hlk : l < k := by omega
  have hd0 : 0 < d := by omega
  clear hD h1 p0
  refine ⟨RPc_add H P f ?_ v24 z0 (by rw [z0, g1, hk]) g6 (o _ (by decide) (by decide)) ?_ (o _ (by decide) (by decide)) ?_ ?_ ?_ ⟨⟨by rw [hsz, g2, ← hsz, v1], by rw [v14, hsz, g3, hk]⟩, fun q => absurd (v1.symm.trans q) hK.1, fun q => absurd (v1.symm.trans q) hK.2⟩, ?_⟩
  · rintro a j (⟨rfl, -⟩ | ⟨q, rfl⟩ | ⟨rfl, -⟩ | ⟨rfl, -⟩)
    · exact Or.inr (Or.inl rfl)
    · rw [hsz]
      rcases q with q | q | q | q
      · exact Or.inr (Or.inr (Or.inl ⟨Or.inl q, rfl⟩))
      · exact Or.inr (Or.inr (Or.inr (Or.inl q)))
      · exact Or.inr (Or.inr (Or.inl ⟨Or.inr (Or.inl q), rfl⟩))
      · exact Or.inr (Or.inr (Or.inl ⟨Or.inr (Or.inr q), rfl⟩))
    · exact Or.inr (Or.inr (Or.inr (Or.inl rfl)))
    · exact Or.inr (Or.inr (Or.inr (Or.inr (Or.inr (Or.inl rfl)))))
  · rw [gf _ _ (by omega), o _ (by decide) (by decide)]; exact H.1.2.2.2.1
  · intro d' hd'
    have hd2 : (d' : Int) < π 0 1 := by omega
    obtain ⟨q1, q2⟩ := H.2.1 d' hd2
    have r15 : addM π K 15 d' = π 15 d' := mo _ _ (by omega) (by omega) (by omega) (by omega)
    refine ⟨by rw [gf _ _ (by omega), r15]; exact q1, ?_⟩
    by_cases hc : d' = d - 1
    · have : addM π K 16 d' = π 0 0 := by rw [hc]; exact l16
      rw [this, hc, g5, hk]
    · rw [gf _ _ (by omega), mo _ _ (by omega) (by omega) (by omega) (by omega)]; exact q2
  · intro a j hj q
    rw [hsz] at hj
    exact mo a j (by omega) (by omega) (by omega) (by omega)
  · intro j hj
    by_cases hc : j = l
    · rw [hc, g4, l14, hk]
    · have hjk : j ≠ k := by omega
      rw [gf _ _ (by omega), mo _ _ (by omega) (by omega) (by omega) (by omega)]; exact (H.2.2 j hj).1.2
  · rw [o _ (by decide) (by decide), o _ (by decide) (by decide), gf _ _ (by omega)]; exact hB
