/-! ===== parts of a voice: a part more ===== -/
theorem PW_add {π π' : pm_T} (H : PW π) (e0 : π' 0 0 = π 0 0 + 1) (e1 : 0 ≤ π' 0 1 ∧ π' 0 1 ≤ 7) (e2 : π' 0 2 = π 0 2) (e3 : π 0 3 ≤ π' 0 3 ∧ π' 0 3 ≤ π 0 2) (e4 : π' 0 4 = π 0 4) (hd : ∀ d : Nat, (d : Int) < π' 0 1 → PD π' d) (ho : ∀ a j, j < sz π → (1 ≤ a ∧ a ≤ 13) ∨ (17 ≤ a ∧ a ≤ 19) → π' a j = π a j) (h14 : ∀ j : Nat, (j : Int) < π 0 0 → 0 ≤ π' 14 j ∧ π' 14 j < π' 0 0) (hn : PJ π' (sz π)) : PW π' := by
  obtain ⟨⟨p0, p1, p2, p3, p4⟩, pd, pj⟩ := H
  refine ⟨⟨by omega, e1, by omega, by omega, by omega⟩, hd, fun j hj => ?_⟩
  by_cases hc : j = sz π
  · subst hc; exact hn
  · have hj' : (j : Int) < π 0 0 := by unfold sz at hc; omega
    exact PJ_c (pj j hj') (fun a q => ho a j (by unfold sz; omega) q) (h14 j hj') (by omega) (by omega)
theorem PD_c {π π' : pm_T} {d : Nat} (H : PD π d) (h0 : π 0 0 ≤ π' 0 0) (h15 : π' 15 d = π 15 d) (h16 : π' 16 d = π 16 d) : PD π' d := by
  unfold PD at H ⊢; omega
theorem addE_o {π : pm_T} {n d w : Int} {a k : Nat} (q0 : ¬ (a = 0 ∧ (k = 3 ∨ k = 0))) (q : k ≠ sz π ∨ ¬ (a = 1 ∨ a = 2 ∨ a = 3 ∨ a = 4 ∨ a = 14 ∨ a = 18)) : addE π n d w a k = π a k := by
  unfold addE
  rw [up2_o (by omega), up2_o (by omega), up2_o (by omega), up2_o (by omega), up2_o (by omega), up2_o (by omega), up2_o (by omega), up2_o (by omega)]
theorem addE_0 {π : pm_T} {n d w : Int} : addE π n d w 0 0 = π 0 0 + 1 ∧ addE π n d w 0 3 = π 0 3 + 1 := by
  unfold addE
  exact ⟨by rw [up2_at], by rw [up2_o (by omega), up2_at]⟩
theorem addE_v {π : pm_T} {n d w : Int} : addE π n d w 1 (sz π) = 256 ∧ addE π n d w 2 (sz π) = n ∧ addE π n d w 3 (sz π) = d ∧ addE π n d w 4 (sz π) = w ∧ addE π n d w 14 (sz π) = π 0 0 ∧ addE π n d w 18 (sz π) = π 0 3 := by
  unfold addE
  refine ⟨?_, ?_, ?_, ?_, ?_, ?_⟩
  · rw [up2_o (by omega), up2_o (by omega), up2_o (by omega), up2_o (by omega), up2_o (by omega), up2_o (by omega), up2_o (by omega), up2_at]
  · rw [up2_o (by omega), up2_o (by omega), up2_o (by omega), up2_o (by omega), up2_o (by omega), up2_o (by omega), up2_at]
  · rw [up2_o (by omega), up2_o (by omega), up2_o (by omega), up2_o (by omega), up2_o (by omega), up2_at]
  · rw [up2_o (by omega), up2_o (by omega), up2_o (by omega), up2_o (by omega), up2_at]
  · rw [up2_o (by omega), up2_o (by omega), up2_o (by omega), up2_at]
  · rw [up2_o (by omega), up2_o (by omega), up2_at]
theorem PW_addE {π : pm_T} {n d w : Int} (H : PW π) (S : PS π) (h3 : π 0 3 < π 0 2) (hn : 1 ≤ n ∧ n ≤ 64) (hd : 0 ≤ d ∧ d ≤ 3) (hw : w = 0 ∨ w = 1) : PW (addE π n d w) := by
  obtain ⟨p0, p1, p2, p3, p4⟩ := H.1
  obtain ⟨v1, v2, v3, v4, v14, v18⟩ := addE_v (π := π) (n := n) (d := d) (w := w)
  obtain ⟨z0, z3⟩ := addE_0 (π := π) (n := n) (d := d) (w := w)
  have o1 : addE π n d w 0 1 = π 0 1 := addE_o (by omega) (by omega)
  have o2 : addE π n d w 0 2 = π 0 2 := addE_o (by omega) (by omega)
  have o4 : addE π n d w 0 4 = π 0 4 := addE_o (by omega) (by omega)
  have o5 : addE π n d w 5 (sz π) = π 5 (sz π) := addE_o (by omega) (by omega)
  have o19 : addE π n d w 19 (sz π) = π 19 (sz π) := addE_o (by omega) (by omega)
  refine PW_add H z0 (by rw [o1]; exact p1) o2 (by rw [z3]; omega) o4 (fun d' hd' => ?_) (fun a j hj q => addE_o (by omega) (by omega)) (fun j hj => ?_) ⟨?_, fun _ => ⟨?_, ?_, ?_, ?_⟩, fun q => by omega⟩
  · exact PD_c (H.2.1 d' (by omega)) (by omega) (addE_o (by omega) (by omega)) (addE_o (by omega) (by omega))
  · have := (H.2.2 j hj).1
    have hz : j ≠ sz π := by unfold sz; omega
    rw [addE_o (by omega) (by omega), z0]; omega
  · rw [v14, z0]; omega
  · rw [v2, v3, v4]; exact ⟨hn, hd, hw⟩
  · rw [v18, z3]; omega
  · rw [o19, o5, o4]; have := S.2.1; omega
  · exact SO_c S.1 (fun a q => addE_o (by omega) (by omega))
theorem addP_o {π : pm_T} {c x y : Int} {a k : Nat} (q0 : ¬ (a = 0 ∧ k = 0)) (q : k ≠ sz π ∨ ¬ (a = 1 ∨ a = 2 ∨ a = 3 ∨ a = 14)) : addP π c x y a k = π a k := by
  unfold addP
  rw [up2_o (by omega), up2_o (by omega), up2_o (by omega), up2_o (by omega), up2_o (by omega)]
theorem addP_v {π : pm_T} {c x y : Int} : addP π c x y 0 0 = π 0 0 + 1 ∧ addP π c x y 1 (sz π) = c ∧ addP π c x y 2 (sz π) = x ∧ addP π c x y 3 (sz π) = y ∧ addP π c x y 14 (sz π) = π 0 0 := by
  unfold addP
  refine ⟨by rw [up2_at], ?_, ?_, ?_, ?_⟩
  · rw [up2_o (by omega), up2_o (by omega), up2_o (by omega), up2_o (by omega), up2_at]
  · rw [up2_o (by omega), up2_o (by omega), up2_o (by omega), up2_at]
  · rw [up2_o (by omega), up2_o (by omega), up2_at]
  · rw [up2_o (by omega), up2_at]
theorem PW_addP {π : pm_T} {c x y : Int} (H : PW π) (hc : c ≠ 256 ∧ c ≠ 123) : PW (addP π c x y) := by
  obtain ⟨p0, p1, p2, p3, p4⟩ := H.1
  obtain ⟨z0, v1, v2, v3, v14⟩ := addP_v (π := π) (c := c) (x := x) (y := y)
  have o1 : addP π c x y 0 1 = π 0 1 := addP_o (by omega) (by omega)
  have o2 : addP π c x y 0 2 = π 0 2 := addP_o (by omega) (by omega)
  have o3 : addP π c x y 0 3 = π 0 3 := addP_o (by omega) (by omega)
  have o4 : addP π c x y 0 4 = π 0 4 := addP_o (by omega) (by omega)
  refine PW_add H z0 (by rw [o1]; exact p1) o2 (by rw [o3]; omega) o4 (fun d' hd' => ?_) (fun a j hj q => addP_o (by omega) (by omega)) (fun j hj => ?_) ⟨?_, fun q => by omega, fun q => by omega⟩
  · exact PD_c (H.2.1 d' (by omega)) (by omega) (addP_o (by omega) (by omega)) (addP_o (by omega) (by omega))
  · have := (H.2.2 j hj).1
    have hz : j ≠ sz π := by unfold sz; omega
    rw [addP_o (by omega) (by omega), z0]; omega
  · rw [v14, z0]; omega
theorem opn_o {π : pm_T} {a k : Nat} (q0 : ¬ (a = 0 ∧ k = 1)) (q : k ≠ dp π ∨ ¬ (a = 15 ∨ a = 16)) : opn π a k = π a k := by
  unfold opn
  rw [up2_o (by omega), up2_o (by omega), up2_o (by omega)]
theorem opn_v {π : pm_T} : opn π 0 1 = π 0 1 + 1 ∧ opn π 15 (dp π) = π 0 0 ∧ opn π 16 (dp π) = π 0 0 := by
  unfold opn
  exact ⟨by rw [up2_at], by rw [up2_o (by omega), up2_o (by omega), up2_at], by rw [up2_o (by omega), up2_at]⟩
theorem sz_opn {π : pm_T} : sz (opn π) = sz π := by unfold sz; rw [opn_o (by omega) (by omega)]
theorem PW_addO {π : pm_T} {c x y : Int} (H : PW π) (h6 : π 0 1 ≤ 6) (hc : c = 91 ∨ (c = 123 ∧ (1 ≤ x ∧ x ≤ 16) ∧ 1 ≤ y ∧ y ≤ 16)) : PW (addP (opn π) c x y) := by
  obtain ⟨p0, p1, p2, p3, p4⟩ := H.1
  obtain ⟨z0, v1, v2, v3, v14⟩ := addP_v (π := opn π) (c := c) (x := x) (y := y)
  obtain ⟨w1, w15, w16⟩ := opn_v (π := π)
  rw [sz_opn] at v1 v2 v3 v14
  have oo : ∀ k, k ≠ 1 → opn π 0 k = π 0 k := fun k hk => opn_o (by omega) (by omega)
  have o1 : addP (opn π) c x y 0 1 = π 0 1 + 1 := by rw [addP_o (by omega) (by omega), w1]
  have o2 : addP (opn π) c x y 0 2 = π 0 2 := by rw [addP_o (by omega) (by omega), oo _ (by omega)]
  have o3 : addP (opn π) c x y 0 3 = π 0 3 := by rw [addP_o (by omega) (by omega), oo _ (by omega)]
  have o4 : addP (opn π) c x y 0 4 = π 0 4 := by rw [addP_o (by omega) (by omega), oo _ (by omega)]
  rw [oo _ (by omega)] at z0 v14
  have g : ∀ a k, (1 ≤ a ∧ a ≤ 14) ∨ 17 ≤ a → k ≠ sz π → addP (opn π) c x y a k = π a k := fun a k q hk => by
    rw [addP_o (by omega) (by rw [sz_opn]; omega), opn_o (by omega) (by omega)]
  refine PW_add H z0 (by rw [o1]; omega) o2 (by rw [o3]; omega) o4 (fun d' hd' => ?_) (fun a j hj q => g a j (by omega) (by omega)) (fun j hj => ?_) ⟨?_, fun q => by omega, fun q => by omega⟩
  · by_cases hc : d' = dp π
    · subst hc
      unfold PD
      have r15 : addP (opn π) c x y 15 (dp π) = π 0 0 := by rw [addP_o (by omega) (by omega), w15]
      have r16 : addP (opn π) c x y 16 (dp π) = π 0 0 := by rw [addP_o (by omega) (by omega), w16]
      rw [r15, r16, z0]; omega
    · have : d' < dp π := by unfold dp at hc ⊢; omega
      exact PD_c (H.2.1 d' (by unfold dp at this; omega)) (by omega) (by rw [addP_o (by omega) (by omega), opn_o (by omega) (by omega)]) (by rw [addP_o (by omega) (by omega), opn_o (by omega) (by omega)])
  · have := (H.2.2 j hj).1
    have hz : j ≠ sz π := by unfold sz; omega
    rw [g _ _ (by omega) hz, z0]; omega
  · rw [v14, z0]; omega
theorem mrk_o {π : pm_T} {a k : Nat} (q : ¬ (a = 14 ∧ k = (π 16 (dp π - 1)).toNat)) (q2 : ¬ (a = 16 ∧ k = dp π - 1)) : mrk π a k = π a k := by
  unfold mrk
  rw [up2_o (by omega), up2_o (by omega)]
theorem mrk_v {π : pm_T} : mrk π 14 (π 16 (dp π - 1)).toNat = π 0 0 ∧ mrk π 16 (dp π - 1) = π 0 0 := by
  unfold mrk
  exact ⟨by rw [up2_o (by omega), up2_at], by rw [up2_at]⟩
theorem sz_mrk {π : pm_T} : sz (mrk π) = sz π := by unfold sz; rw [mrk_o (by omega) (by omega)]
/-- what a mark makes -/
theorem addM_o {π : pm_T} {K : Int} {a k : Nat} (q0 : ¬ (a = 0 ∧ (k = 0 ∨ k = 1))) (q : k ≠ sz π ∨ ¬ (a = 1 ∨ a = 2 ∨ a = 3 ∨ a = 14)) (q1 : ¬ (a = 14 ∧ k = (π 16 (dp π - 1)).toNat)) (q2 : ¬ (a = 16 ∧ k = dp π - 1)) : addM π K a k = π a k := by
  unfold addM
  split
  · rw [addP_o (by omega) (by rw [sz_mrk]; omega), mrk_o q1 q2]
  · rw [up2_o (by omega), addP_o (by omega) (by rw [sz_mrk]; omega), mrk_o q1 q2]
theorem addM_v {π : pm_T} {K : Int} (hl : (π 16 (dp π - 1)).toNat ≠ sz π) : addM π K 0 0 = π 0 0 + 1 ∧ addM π K 0 1 = (if K = 58 then π 0 1 else π 0 1 - 1) ∧ addM π K 1 (sz π) = K ∧ addM π K 14 (sz π) = π 0 0 ∧ addM π K 14 (π 16 (dp π - 1)).toNat = π 0 0 ∧ addM π K 16 (dp π - 1) = π 0 0 := by
  obtain ⟨z0, v1, -, -, v14⟩ := addP_v (π := mrk π) (c := K) (x := 0) (y := 0)
  obtain ⟨w14, w16⟩ := mrk_v (π := π)
  rw [sz_mrk] at v1 v14
  have m0 : mrk π 0 0 = π 0 0 := mrk_o (by omega) (by omega)
  have m1 : mrk π 0 1 = π 0 1 := mrk_o (by omega) (by omega)
  have a1 : addP (mrk π) K 0 0 0 1 = π 0 1 := by rw [addP_o (by omega) (by omega), m1]
  have a14 : addP (mrk π) K 0 0 14 (π 16 (dp π - 1)).toNat = π 0 0 := by rw [addP_o (by omega) (by rw [sz_mrk]; omega), w14]
  have a16 : addP (mrk π) K 0 0 16 (dp π - 1) = π 0 0 := by rw [addP_o (by omega) (by omega), w16]
  rw [m0] at z0 v14
  unfold addM
  split
  · exact ⟨z0, a1, v1, v14, a14, a16⟩
  · refine ⟨?_, ?_, ?_, ?_, ?_, ?_⟩
    · rw [up2_o (by omega)]; exact z0
    · rw [up2_at]
    · rw [up2_o (by omega)]; exact v1
    · rw [up2_o (by omega)]; exact v14
    · rw [up2_o (by omega)]; exact a14
    · rw [up2_o (by omega)]; exact a16
theorem PW_addM {π : pm_T} {K : Int} (H : PW π) (h1 : 0 < π 0 1) (hK : K = 58 ∨ K = 93 ∨ K = 125) : PW (addM π K) := by
  obtain ⟨p0, p1, p2, p3, p4⟩ := H.1
  have hd := H.2.1 (dp π - 1) (by unfold dp; omega)
  unfold PD at hd
  have hl : (π 16 (dp π - 1)).toNat ≠ sz π := by unfold sz; omega
  obtain ⟨z0, z1, v1, v14, l14, l16⟩ := addM_v (K := K) hl
  have o2 : addM π K 0 2 = π 0 2 := addM_o (by omega) (by omega) (by omega) (by omega)
  have o3 : addM π K 0 3 = π 0 3 := addM_o (by omega) (by omega) (by omega) (by omega)
  have o4 : addM π K 0 4 = π 0 4 := addM_o (by omega) (by omega) (by omega) (by omega)
  refine PW_add H z0 (by rw [z1]; split <;> omega) o2 (by rw [o3]; omega) o4 (fun d' hd' => ?_) (fun a j hj q => addM_o (by omega) (by omega) (by omega) (by omega)) (fun j hj => ?_) ⟨?_, fun q => by omega, fun q => by omega⟩
  · have hd2 : (d' : Int) < π 0 1 := by rw [z1] at hd'; split at hd' <;> omega
    have := H.2.1 d' hd2
    unfold PD at this ⊢
    by_cases hc : d' = dp π - 1
    · have r15 : addM π K 15 (dp π - 1) = π 15 (dp π - 1) := addM_o (by omega) (by omega) (by omega) (by omega)
      rw [hc, l16, r15, z0]; omega
    · have r15 : addM π K 15 d' = π 15 d' := addM_o (by omega) (by omega) (by omega) (by omega)
      have r16 : addM π K 16 d' = π 16 d' := addM_o (by omega) (by omega) (by omega) (by omega)
      rw [r15, r16, z0]; omega
  · have := (H.2.2 j hj).1
    have hz : j ≠ sz π := by unfold sz; omega
    by_cases hc : j = (π 16 (dp π - 1)).toNat
    · rw [hc, l14, z0]; omega
    · rw [addM_o (by omega) (by omega) (by omega) (by omega), z0]; omega
  · rw [v14, z0]; omega
