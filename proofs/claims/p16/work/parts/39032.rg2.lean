/-! ===== brackets through the reading of parts ===== -/
def WC (π : pm_T) : Prop := 0 ≤ π 0 0 ∧ (0 ≤ π 0 1 ∧ π 0 1 ≤ 7) ∧ WBp π
/-- what a sound leaves -/
def sk (π π' : pm_T) : Prop := ∀ a k, (a = 0 ∧ k ≤ 1) ∨ a = 1 ∨ (14 ≤ a ∧ a ≤ 16) → π' a k = π a k
theorem sk_t {π π' π'' : pm_T} (h : sk π π') (h2 : sk π' π'') : sk π π'' := fun a k q => (h2 a k q).trans (h a k q)
theorem sk_adm {π : pm_T} : sk π (adm π) := fun a k q => adm_o (by omega)
theorem sk_pch {t : tk_T} {i : Nat} {g : Int} {π : pm_T} (h : 0 ≤ π 5 (sz π) ∧ π 5 (sz π) ≤ 3) : sk π (pch t i g π) := fun a k q => by
  obtain ⟨n, en⟩ : ∃ n : Nat, π 5 (sz π) = (n : Int) := ⟨(π 5 (sz π)).toNat, by omega⟩
  exact pch_o en (by omega) (by omega)
theorem sk_snd0 {π : pm_T} : sk π (snd0 π) := fun a k q => by
  unfold snd0; rw [up2_o (by omega), up2_o (by omega), up2_o (by omega)]
theorem sp_chord_s {t : tk_T} : ∀ (f i : Nat) (π : pm_T) (q : Nat × pm_T), 0 ≤ π 5 (sz π) → π 5 (sz π) ≤ 4 → sp_chord t f i π = .inr q → sk π q.2
  | 0, _, _, _, _, _, e => by rw [sp_chord] at e; cases e
  | f + 1, i, π, q, h0, h4, e => by
    rw [sp_chord] at e
    split at e
    · split at e
      · cases e
      · rename_i n4
        split at e
        · cases e
        · by_cases h : π 0 2 < 300
          · rw [sp_adm_a h] at e
            simp only [bnd] at e
            have a5 : adm π 5 (sz (adm π)) = π 5 (sz π) := by rw [sz_adm, adm_o (by omega)]
            have s1 : sk π (pch t i (sgt t i) (adm π)) := sk_t sk_adm (sk_pch (by rw [a5]; omega))
            have b5 : pch t i (sgt t i) (adm π) 5 (sz (pch t i (sgt t i) (adm π))) = π 5 (sz π) + 1 := by rw [sz_pch, pch_5, a5]
            split at e
            · cases e; exact s1
            · exact sk_t s1 (sp_chord_s f (i + 1) _ q (by rw [b5]; omega) (by rw [b5]; omega) e)
          · rw [sp_adm_n h] at e; cases e
    · cases e
theorem sp_sound_s {t : tk_T} {i : Nat} {π : pm_T} {q : Nat × pm_T} (e : sp_sound t i π = .inr q) : sk π q.2 := by
  have es : sz (snd0 π) = sz π := by unfold snd0; rw [sz_up (by omega), sz_up (by omega), sz_up (by omega)]
  have e5 : snd0 π 5 (sz (snd0 π)) = 0 := by rw [es]; unfold snd0; rw [up2_o (by omega), up2_o (by omega), up2_at]
  have a5 : adm (snd0 π) 5 (sz (adm (snd0 π))) = 0 := by rw [sz_adm, adm_o (by omega)]; exact e5
  rw [sp_sound] at e
  split at e
  · obtain ⟨b, eb, e⟩ := bnd_r e
    cases e
    by_cases h : snd0 π 0 2 < 300
    · rw [sp_adm_a h] at eb; cases eb; exact sk_t sk_snd0 sk_adm
    · rw [sp_adm_n h] at eb; cases eb
  · split at e
    · obtain ⟨b, eb, e⟩ := bnd_r e
      cases e
      by_cases h : snd0 π 0 2 < 300
      · rw [sp_adm_a h] at eb; cases eb
        exact sk_t (sk_t sk_snd0 sk_adm) (sk_pch (by rw [a5]; omega))
      · rw [sp_adm_n h] at eb; cases eb
    · exact sk_t sk_snd0 (sp_chord_s _ _ _ _ (by rw [e5]; omega) (by rw [e5]; omega) e)
theorem WC_addE {π ρ : pm_T} {n d w : Int} (H : WC π) (s : sk π ρ) : WC (addE ρ n d w) := by
  obtain ⟨h0, h1, W⟩ := H
  have r0 : ρ 0 0 = π 0 0 := s _ _ (by omega)
  have r1 : ρ 0 1 = π 0 1 := s _ _ (by omega)
  have o1 : addE ρ n d w 0 1 = π 0 1 := by rw [addE_o (by omega) (by omega), r1]
  have z : sz ρ = sz π := by unfold sz; rw [r0]
  have k0 : addE ρ n d w 0 0 = π 0 0 + 1 := by rw [addE_0.1, r0]
  refine ⟨by omega, by omega, WB_add W (by unfold sz; omega) (by unfold dp; rw [o1]) (fun a k hk ha => ?_) (fun d' => ⟨?_, ?_⟩) (Or.inl (by rw [← z]; exact addE_v.1))⟩
  · rw [addE_o (by omega) (by omega)]; exact s _ _ (by omega)
  · rw [addE_o (by omega) (by omega)]; exact s _ _ (by omega)
  · rw [addE_o (by omega) (by omega)]; exact s _ _ (by omega)
theorem WC_addL {π : pm_T} (H : WC π) : WC (addP π 124 0 0) := by
  obtain ⟨h0, h1, W⟩ := H
  have o1 : addP π 124 0 0 0 1 = π 0 1 := addP_o (by omega) (by omega)
  have k0 := (addP_v (π := π) (c := 124) (x := 0) (y := 0)).1
  exact ⟨by omega, by omega, WB_add W (by unfold sz; omega) (by unfold dp; rw [o1]) (fun a k hk ha => addP_o (by omega) (by omega)) (fun d' => ⟨addP_o (by omega) (by omega), addP_o (by omega) (by omega)⟩) (Or.inr addP_v.2.1)⟩
theorem WC_addO {π : pm_T} {c x y : Int} (H : WC π) (h6 : π 0 1 ≤ 6) (hc : c = 91 ∨ c = 123) : WC (addP (opn π) c x y) := by
  obtain ⟨h0, h1, W⟩ := H
  obtain ⟨z0, v1, v2, v3, v14⟩ := addP_v (π := opn π) (c := c) (x := x) (y := y)
  obtain ⟨w1, w15, w16⟩ := opn_v (π := π)
  rw [sz_opn] at v1
  rw [opn_o (by omega) (by omega)] at z0
  have o1 : addP (opn π) c x y 0 1 = π 0 1 + 1 := by rw [addP_o (by omega) (by omega), w1]
  have r : ∀ a d, a = 15 ∨ a = 16 → addP (opn π) c x y a d = opn π a d := fun a d ha => addP_o (by omega) (by omega)
  refine ⟨by omega, by omega, WB_opn W (by unfold sz; omega) (by unfold dp; omega) (fun a k hk ha => ?_) (fun d hd => ⟨?_, ?_⟩) ⟨?_, ?_⟩ (by rw [v1]; exact hc)⟩
  · rw [addP_o (by omega) (by rw [sz_opn]; omega), opn_o (by omega) (by omega)]
  · rw [r _ _ (Or.inl rfl), opn_o (by omega) (by omega)]
  · rw [r _ _ (Or.inr rfl), opn_o (by omega) (by omega)]
  · unfold oo; rw [r _ _ (Or.inl rfl), w15]; rfl
  · unfold ll; rw [r _ _ (Or.inr rfl), w16]; rfl
theorem WC_addM {π : pm_T} {K : Int} (H : WC π) (hm : mkb π K = true) : WC (addM π K) := by
  obtain ⟨h0, h1, W⟩ := H
  have hK : K = 58 ∨ K = 93 ∨ K = 125 := by
    by_cases c : K = 58 ∨ K = 93 ∨ K = 125
    · exact c
    · exact absurd hm (mkb_f c)
  obtain ⟨m1, m2⟩ := (mkb_t hK).mp hm
  have hD : 0 < dp π ∧ dp π ≤ 7 := by unfold dp; omega
  have hl := (W.1 (dp π - 1) (by omega)).1.2
  obtain ⟨z0, z1, v1, v14, l14, l16⟩ := addM_v (π := π) (K := K) (show ll π (dp π - 1) ≠ sz π by omega)
  have ez : sz (addM π K) = sz π + 1 := by unfold sz; omega
  have a1 : ∀ k, k ≠ sz π → addM π K 1 k = π 1 k := fun k hk => addM_o (by omega) (by omega) (by omega) (by omega)
  have a14 : ∀ k, k ≠ sz π → k ≠ ll π (dp π - 1) → addM π K 14 k = π 14 k := fun k hk hk2 => addM_o (by omega) (by omega) (by unfold ll at hk2; omega) (by omega)
  have a15 : ∀ d, d < dp π → addM π K 15 d = π 15 d := fun d _ => addM_o (by omega) (by omega) (by omega) (by omega)
  have a16 : ∀ d, d < dp π - 1 → addM π K 16 d = π 16 d := fun d hd => addM_o (by omega) (by omega) (by omega) (by omega)
  have lk14 : lk (addM π K) (ll π (dp π - 1)) = sz π := by unfold lk ll; rw [l14]; rfl
  by_cases c : K = 58
  · rw [if_pos c] at z1
    refine ⟨by omega, by omega, WB_col W hD ez (by unfold dp; rw [z1]) a1 a14 lk14 a15 a16 (by unfold ll; rw [l16]; rfl) (by rw [v1]; exact c) ?_⟩
    rw [if_neg (by omega)] at m2; exact m2
  · rw [if_neg c] at z1
    refine ⟨by omega, by omega, WB_end W hD ez (by unfold dp; omega) a1 a14 lk14 a15 a16 ?_⟩
    rw [v1]
    by_cases c2 : K = 125
    · rw [if_pos c2] at m2; exact Or.inr ⟨c2, m2⟩
    · rw [if_neg c2] at m2; exact Or.inl ⟨by omega, m2⟩
theorem sp_part_WC {t : tk_T} {i : Nat} {π : pm_T} {q : Nat × pm_T} (H : WC π) (e : sp_part t i π = .inr q) : WC q.2 := by
  unfold sp_part at e
  split at e
  · rename_i hm; cases e; exact WC_addM H hm
  split at e
  · split at e
    · rw [sp_event_e] at e
      obtain ⟨a, ea, e⟩ := bnd_r e
      obtain ⟨n, -, e⟩ := bnd_r e
      obtain ⟨d, ed, e⟩ := bnd_r e
      have s := sp_sound_s ea
      unfold sp_tie at e
      split at e
      · split at e
        · cases e
        · cases e; exact WC_addE H s
      · cases e; exact WC_addE H s
    · cases e
  split at e
  · split at e
    · cases e; exact WC_addL H
    · cases e
  split at e
  · split at e
    · rename_i h6; cases e; exact WC_addO H h6 (Or.inl rfl)
    · cases e
  split at e
  · split at e
    · rename_i h6
      unfold sp_times at e
      obtain ⟨a, -, e⟩ := bnd_r e
      obtain ⟨b, -, e⟩ := bnd_r e
      obtain ⟨c, -, e⟩ := bnd_r e
      obtain ⟨d, -, e⟩ := bnd_r e
      cases e; exact WC_addO H h6 (Or.inr rfl)
    · cases e
  · cases e
theorem sp_parts_WC {t : tk_T} : ∀ (f i : Nat) (π : pm_T) (q : Nat × pm_T), WC π → sp_parts t f i π = .inr q → WC q.2 ∧ q.2 0 1 ≤ 0
  | 0, _, _, _, _, e => by rw [sp_parts] at e; cases e
  | f + 1, i, π, q, H, e => by
    rw [sp_parts] at e
    split at e
    · rename_i h; cases e; exact ⟨H, h.2⟩
    · obtain ⟨b, eb, e⟩ := bnd_r e
      exact sp_parts_WC f b.1 b.2 q (sp_part_WC H eb) e
theorem WC_0 : WC par0 := ⟨Int.le_refl _, ⟨Int.le_refl _, by decide⟩, fun d hd => absurd hd (Nat.not_lt_zero d), Nat.le_refl _, RG.nil _ _⟩
/-- a voice's parts are well nested -/
theorem sp_parts_RG {t : tk_T} {f i : Nat} {q : Nat × pm_T} (e : sp_parts t f i par0 = .inr q) : RG q.2 true 7 0 (sz q.2) ∧ 0 ≤ q.2 0 0 := by
  obtain ⟨⟨h0, h1, W⟩, h2⟩ := sp_parts_WC f i par0 q WC_0 e
  have e0 : dp q.2 = 0 := by unfold dp; omega
  have := W.2.2
  rw [e0] at this
  exact ⟨this, h0⟩
