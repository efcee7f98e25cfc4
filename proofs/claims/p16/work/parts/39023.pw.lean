/-! ===== parts of a voice: what always holds of them ===== -/
def sgs (π : pm_T) (j : Nat) : Nat → Int
  | 0 => 0
  | n + 1 => sgs π j n + sgk (π (6 + n) j) (π (10 + n) j)
def SO (π : pm_T) (j : Nat) : Prop := (0 ≤ π 5 j ∧ π 5 j ≤ 4) ∧ 0 ≤ π 19 j ∧ (∀ p : Nat, (p : Int) < π 5 j → (-2 ≤ π (6 + p) j ∧ π (6 + p) j ≤ 109) ∧ 0 ≤ π (10 + p) j ∧ π (10 + p) j ≤ 62) ∧ π 17 j = sgs π j (π 5 j).toNat
def EVp (π : pm_T) (j : Nat) : Prop := ((1 ≤ π 2 j ∧ π 2 j ≤ 64) ∧ (0 ≤ π 3 j ∧ π 3 j ≤ 3) ∧ (π 4 j = 0 ∨ π 4 j = 1)) ∧ (0 ≤ π 18 j ∧ π 18 j < π 0 3) ∧ π 19 j + π 5 j ≤ π 0 4 ∧ SO π j
def PJ (π : pm_T) (j : Nat) : Prop := (0 ≤ π 14 j ∧ π 14 j < π 0 0) ∧ (π 1 j = 256 → EVp π j) ∧ (π 1 j = 123 → (1 ≤ π 2 j ∧ π 2 j ≤ 16) ∧ 1 ≤ π 3 j ∧ π 3 j ≤ 16)
def PD (π : pm_T) (d : Nat) : Prop := (0 ≤ π 15 d ∧ π 15 d < π 0 0) ∧ 0 ≤ π 16 d ∧ π 16 d < π 0 0
def PW (π : pm_T) : Prop := (0 ≤ π 0 0 ∧ (0 ≤ π 0 1 ∧ π 0 1 ≤ 7) ∧ (0 ≤ π 0 2 ∧ π 0 2 ≤ 300) ∧ (0 ≤ π 0 3 ∧ π 0 3 ≤ π 0 2) ∧ 0 ≤ π 0 4 ∧ π 0 4 ≤ π 0 2) ∧ (∀ d : Nat, (d : Int) < π 0 1 → PD π d) ∧ ∀ j : Nat, (j : Int) < π 0 0 → PJ π j
/-- a sound is being read -/
def PS (π : pm_T) : Prop := SO π (sz π) ∧ π 19 (sz π) + π 5 (sz π) = π 0 4 ∧ π 0 3 + π 5 (sz π) ≤ π 0 2
theorem sgs_c {π π' : pm_T} {j : Nat} : ∀ n, n ≤ 4 → (∀ a, 6 ≤ a → a ≤ 13 → π' a j = π a j) → sgs π' j n = sgs π j n
  | 0, _, _ => rfl
  | n + 1, hn, h => by rw [sgs, sgs, sgs_c n (by omega) h, h _ (by omega) (by omega), h _ (by omega) (by omega)]
theorem SO_c {π π' : pm_T} {j : Nat} (H : SO π j) (h : ∀ a, (5 ≤ a ∧ a ≤ 13) ∨ a = 17 ∨ a = 19 → π' a j = π a j) : SO π' j := by
  obtain ⟨h1, h2, h3, h4⟩ := H
  have e5 := h 5 (by omega)
  refine ⟨by rw [e5]; exact h1, by rw [h 19 (by omega)]; exact h2, fun p hp => ?_, ?_⟩
  · rw [e5] at hp
    rw [h (6 + p) (by omega), h (10 + p) (by omega)]
    exact h3 p hp
  · rw [h 17 (by omega), e5, h4]
    exact (sgs_c _ (by omega) (fun a _ _ => h a (by omega))).symm
theorem EVp_c {π π' : pm_T} {j : Nat} (H : EVp π j) (h : ∀ a, (2 ≤ a ∧ a ≤ 13) ∨ (17 ≤ a ∧ a ≤ 19) → π' a j = π a j) (h3 : π 0 3 ≤ π' 0 3) (h4 : π 0 4 ≤ π' 0 4) : EVp π' j := by
  obtain ⟨a1, a2, a3, a4⟩ := H
  refine ⟨by rw [h 2 (by omega), h 3 (by omega), h 4 (by omega)]; exact a1, by rw [h 18 (by omega)]; omega, by rw [h 19 (by omega), h 5 (by omega)]; omega, SO_c a4 (fun a q => h a (by omega))⟩
theorem PJ_c {π π' : pm_T} {j : Nat} (H : PJ π j) (h : ∀ a, (1 ≤ a ∧ a ≤ 13) ∨ (17 ≤ a ∧ a ≤ 19) → π' a j = π a j) (h14 : 0 ≤ π' 14 j ∧ π' 14 j < π' 0 0) (h3 : π 0 3 ≤ π' 0 3) (h4 : π 0 4 ≤ π' 0 4) : PJ π' j := by
  obtain ⟨a1, a2, a3⟩ := H
  refine ⟨h14, fun q => EVp_c (a2 (by rw [← h 1 (by omega)]; exact q)) (fun a w => h a (by omega)) h3 h4, fun q => ?_⟩
  rw [h 2 (by omega), h 3 (by omega)]
  exact a3 (by rw [← h 1 (by omega)]; exact q)
/-- rows that only a sound being read has -/
theorem PW_c {π π' : pm_T} (H : PW π) (h : ∀ a k, (k ≠ sz π ∧ (a ≠ 0 ∨ (k ≠ 2 ∧ k ≠ 4))) ∨ (14 ≤ a ∧ a ≤ 16) → π' a k = π a k) (h0 : π' 0 0 = π 0 0 ∧ π' 0 1 = π 0 1 ∧ π' 0 3 = π 0 3) (h2 : π 0 2 ≤ π' 0 2 ∧ π' 0 2 ≤ 300) (h4 : π 0 4 ≤ π' 0 4 ∧ π' 0 4 ≤ π' 0 2) : PW π' := by
  obtain ⟨⟨p0, p1, p2, p3, p4⟩, pd, pj⟩ := H
  obtain ⟨e0, e1, e3⟩ := h0
  refine ⟨⟨by omega, by omega, by omega, by omega, by omega⟩, fun d hd => ?_, fun j hj => ?_⟩
  · have := pd d (by omega)
    unfold PD at this ⊢
    rw [h 15 d (by omega), h 16 d (by omega), e0]; exact this
  · have hj' : (j : Int) < π 0 0 := by omega
    have nz : j ≠ sz π := by unfold sz; omega
    refine PJ_c (pj j hj') (fun a q => h a j (Or.inl ⟨nz, Or.inl (by omega)⟩)) ?_ (by omega) (by omega)
    rw [h 14 j (by omega), e0]; exact (pj j hj').1
theorem sz_up {π : pm_T} {a k : Nat} {z : Int} (h : ¬ (a = 0 ∧ k = 0)) : sz (up2 π a k z) = sz π := by
  unfold sz; rw [up2_o (fun q => h ⟨q.1.symm, q.2.symm⟩)]
theorem PW_snd0 {π : pm_T} (H : PW π) : PW (snd0 π) ∧ PS (snd0 π) ∧ sz (snd0 π) = sz π := by
  have es : sz (snd0 π) = sz π := by unfold snd0; rw [sz_up (by omega), sz_up (by omega), sz_up (by omega)]
  have g : ∀ a k, a ≠ 5 ∧ a ≠ 17 ∧ a ≠ 19 ∨ k ≠ sz π → snd0 π a k = π a k := fun a k q => by
    unfold snd0; rw [up2_o (by omega), up2_o (by omega), up2_o (by omega)]
  obtain ⟨p0, p1, p2, p3, p4⟩ := H.1
  have v5 : snd0 π 5 (sz π) = 0 := by unfold snd0; rw [up2_o (by omega), up2_o (by omega), up2_at]
  have v17 : snd0 π 17 (sz π) = 0 := by unfold snd0; rw [up2_o (by omega), up2_at]
  have v19 : snd0 π 19 (sz π) = π 0 4 := by unfold snd0; rw [up2_at]
  refine ⟨PW_c H (fun a k q => g a k (by omega)) ⟨g _ _ (by omega), g _ _ (by omega), g _ _ (by omega)⟩ ?_ ?_, ?_, es⟩
  · rw [g _ _ (by omega)]; omega
  · rw [g 0 4 (by omega), g 0 2 (by omega)]; omega
  · unfold PS SO
    rw [es, v5, v17, v19, g 0 4 (by omega), g 0 2 (by omega), g 0 3 (by omega)]
    exact ⟨⟨by omega, by omega, fun p hp => by omega, rfl⟩, by omega, by omega⟩
/-- one more admitted -/
def adm (π : pm_T) : pm_T := up2 π 0 2 (π 0 2 + 1)
theorem adm_o {π : pm_T} {a k : Nat} (h : ¬ (a = 0 ∧ k = 2)) : adm π a k = π a k := up2_o h
theorem sp_adm_a {t : tk_T} {i : Nat} {π : pm_T} (h : π 0 2 < 300) : sp_adm t i π = .inr (adm π) := by unfold sp_adm adm; rw [if_pos h]
theorem sp_adm_n {t : tk_T} {i : Nat} {π : pm_T} (h : ¬ π 0 2 < 300) : sp_adm t i π = .inl (3, tP t i) := by unfold sp_adm; rw [if_neg h]
theorem adm_2 {π : pm_T} : adm π 0 2 = π 0 2 + 1 := up2_at
theorem sz_adm {π : pm_T} : sz (adm π) = sz π := sz_up (by omega)
theorem PW_adm {π : pm_T} (H : PW π) (S : PS π) (h : π 0 2 < 300) : PW (adm π) ∧ PS (adm π) := by
  obtain ⟨p0, p1, p2, p3, p4⟩ := H.1
  refine ⟨PW_c H (fun a k q => adm_o (by omega)) ⟨adm_o (by omega), adm_o (by omega), adm_o (by omega)⟩ ?_ ?_, ?_⟩
  · rw [adm_2]; omega
  · rw [adm_2, adm_o (by omega)]; omega
  · obtain ⟨s1, s2, s3⟩ := S
    unfold PS
    rw [sz_adm, adm_o (by omega), adm_o (by omega), adm_o (by omega), adm_o (by omega), adm_2]
    exact ⟨SO_c s1 (fun a q => adm_o (by omega)), s2, by omega⟩
theorem pch_5 {t : tk_T} {i : Nat} {g : Int} {π : pm_T} : pch t i g π 5 (sz π) = π 5 (sz π) + 1 := by unfold pch; rw [up2_o (by omega), up2_at]
theorem pch_4 {t : tk_T} {i : Nat} {g : Int} {π : pm_T} : pch t i g π 0 4 = π 0 4 + 1 := by unfold pch; rw [up2_at]
theorem pch_17 {t : tk_T} {i : Nat} {g : Int} {π : pm_T} : pch t i g π 17 (sz π) = π 17 (sz π) + g := by unfold pch; rw [up2_o (by omega), up2_o (by omega), up2_at]
theorem pch_k {t : tk_T} {i : Nat} {g : Int} {π : pm_T} {n : Nat} (h : π 5 (sz π) = (n : Int)) (hn : n ≤ 3) : pch t i g π (6 + n) (sz π) = tV' t i ∧ pch t i g π (10 + n) (sz π) = tS t i := by
  unfold pch
  have e : (π 5 (sz π)).toNat = n := by omega
  rw [e]
  refine ⟨?_, ?_⟩
  · rw [up2_o (by omega), up2_o (by omega), up2_o (by omega), up2_o (by omega), up2_at]
  · rw [up2_o (by omega), up2_o (by omega), up2_o (by omega), up2_at]
theorem pch_o {t : tk_T} {i : Nat} {g : Int} {π : pm_T} {a k n : Nat} (h : π 5 (sz π) = (n : Int)) (q0 : ¬ (a = 0 ∧ k = 4)) (q : k ≠ sz π ∨ (a ≠ 5 ∧ a ≠ 17 ∧ a ≠ 6 + n ∧ a ≠ 10 + n)) : pch t i g π a k = π a k := by
  unfold pch
  have e : (π 5 (sz π)).toNat = n := by omega
  rw [e, up2_o (by omega), up2_o (by omega), up2_o (by omega), up2_o (by omega), up2_o (by omega)]
theorem sz_pch {t : tk_T} {i : Nat} {g : Int} {π : pm_T} : sz (pch t i g π) = sz π := by
  unfold pch; rw [sz_up (by omega), sz_up (by omega), sz_up (by omega), sz_up (by omega), sz_up (by omega)]
/-- a PITCH more; it is admitted already -/
theorem PW_pch {t : tk_T} {i : Nat} {π : pm_T} (H : PW π) (S : PS π) (h5 : π 5 (sz π) < 4) (ha : π 0 3 + π 5 (sz π) < π 0 2) (h4 : π 0 4 < π 0 2) (hk : (-2 ≤ tV' t i ∧ tV' t i ≤ 109) ∧ 0 ≤ tS t i ∧ tS t i ≤ 62) : PW (pch t i (sgt t i) π) ∧ PS (pch t i (sgt t i) π) := by
  obtain ⟨p0, p1, p2, p3, p4⟩ := H.1
  obtain ⟨⟨s1, s2, s3, s4⟩, s5, s6⟩ := S
  obtain ⟨n, en⟩ : ∃ n : Nat, π 5 (sz π) = (n : Int) := ⟨(π 5 (sz π)).toNat, by omega⟩
  have hn : n ≤ 3 := by omega
  refine ⟨PW_c H (fun a k q => pch_o en (by omega) (by omega)) ⟨pch_o en (by omega) (by omega), pch_o en (by omega) (by omega), pch_o en (by omega) (by omega)⟩ ?_ ?_, ?_⟩
  · rw [pch_o en (by omega) (by omega)]; omega
  · rw [pch_4, pch_o en (by omega) (by omega)]; omega
  · unfold PS SO
    rw [sz_pch, pch_5, pch_17, pch_4, pch_o en (by omega) (by omega), pch_o en (by omega) (by omega), pch_o en (by omega) (by omega)]
    refine ⟨⟨by omega, s2, fun p hp => ?_, ?_⟩, by omega, by omega⟩
    · by_cases hc : p = n
      · subst hc
        rw [(pch_k en hn).1, (pch_k en hn).2]; exact hk
      · rw [pch_o en (by omega) (by omega), pch_o en (by omega) (by omega)]
        exact s3 p (by omega)
    · have e1 : (π 5 (sz π) + 1).toNat = n + 1 := by omega
      have e2 : (π 5 (sz π)).toNat = n := by omega
      rw [e1, sgs, (pch_k en hn).1, (pch_k en hn).2, s4, e2]
      congr 1
      have : ∀ k, k ≤ n → sgs (pch t i (sgt t i) π) (sz π) k = sgs π (sz π) k := by
        intro k
        induction k with
        | zero => intro _; rfl
        | succ k ih => intro hk'; rw [sgs, sgs, ih (by omega), pch_o en (by omega) (by omega), pch_o en (by omega) (by omega)]
      exact (this n (Nat.le_refl n)).symm
