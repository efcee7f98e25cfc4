/-! ===== the reference: parts of a voice in its cells ===== -/
def mkd (K : Int) : Int := if K = 256 then 0 else if K = 124 then 1 else if K = 91 then 2 else if K = 58 then 3 else if K = 93 then 4 else if K = 123 then 5 else 6
/-- pitches of a sound -/
def ESm (π : pm_T) (j : Nat) (h : ah_T) : Prop := h.2.1 204 j = π 5 j ∧ h.2.1 207 j = π 17 j ∧ ∀ p : Nat, (p : Int) < π 5 j → h.2.1 205 (4 * j + p) = π (6 + p) j ∧ h.2.1 206 (4 * j + p) = π (10 + p) j
def EMj (π : pm_T) (j : Nat) (h : ah_T) : Prop := (h.2.1 202 j = π 2 j ∧ h.2.1 209 j = π 3 j ∧ h.2.1 208 j = π 4 j) ∧ ESm π j h
def RMj (π : pm_T) (j : Nat) (h : ah_T) : Prop := h.2.1 201 j = mkd (π 1 j) ∧ (π 1 j = 256 → EMj π j h) ∧ (π 1 j = 123 → h.2.1 202 j = π 2 j ∧ h.2.1 203 j = π 3 j)
/-- the parts but the count of them -/
def RPx (π : pm_T) (h : ah_T) : Prop := (h.2.1 170 63 = π 0 1 ∧ h.2.1 170 64 = π 0 2) ∧ (∀ d : Nat, (d : Int) < π 0 1 → h.2.1 215 d = π 15 d ∧ h.2.1 216 d = (if π 1 (π 15 d).toNat = 91 then 2 else 5)) ∧ ∀ j : Nat, (j : Int) < π 0 0 → RMj π j h
def RPm (π : pm_T) (h : ah_T) : Prop := h.2.1 170 43 = π 0 0 ∧ RPx π h
/-- what reading parts writes -/
abbrev WVm : Nat → Nat → Prop := fun a k => (a = 170 ∧ ((3 ≤ k ∧ k ≤ 12) ∨ k = 43 ∨ k = 63 ∨ k = 64)) ∨ (201 ≤ a ∧ a ≤ 216)
theorem WK_V : ∀ a k, WK a k → WVm a k := fun a k q => Or.inl ⟨q.1, Or.inl q.2⟩
theorem WM_V : ∀ a k, WM a k → WVm a k := fun a k q => WK_V a k (WM_K a k q)
/-- what reading any item writes -/
abbrev WJb : Nat → Nat → Prop := fun a k => WJ a k ∨ ((a = 185 ∨ a = 186) ∧ 4 ≤ k) ∨ ((187 ≤ a ∧ a ≤ 198 ∧ a ≠ 192 ∧ a ≠ 193) ∧ 1200 ≤ k) ∨ ((a = 192 ∨ a = 193) ∧ 4800 ≤ k) ∨ ((a = 199 ∨ a = 200) ∧ 408 ≤ k) ∨ (201 ≤ a ∧ a ≤ 220)
theorem WJ_b : ∀ a k, WJ a k → WJb a k := fun _ _ q => Or.inl q
theorem WV_J : ∀ a k, WVm a k → WJb a k := fun a k q => q.elim (fun w => Or.inl (Or.inl ⟨w.1, by omega⟩)) (fun w => Or.inr (Or.inr (Or.inr (Or.inr (Or.inr ⟨by omega, by omega⟩)))))
theorem WJ_c : ∀ a k, WJ a k → a ≤ 184 ∨ 201 ≤ a := by
  intro a k q
  rcases q with q | q | q | q | q | q <;> omega
theorem RMs_V {X : tx_T} {i : Nat} {μ : pm_T} {W : Nat → Nat → Prop} {h h' : ah_T} (H : RMs X i μ h) (f : fr W h h') (hW : ∀ a k, W a k → (a = 170 ∧ 12 < k) ∨ 201 ≤ a) : RMs X i μ h' :=
  ⟨RMt_f H.1 f (fun a k w => by have := hW a k w; omega), RSn_f H.2.1 f (fun a k w => by have := hW a k w; omega), (fr_g f (fun w => by have := hW _ _ w; omega)).trans H.2.2⟩
theorem ESm_c {π π' : pm_T} {j : Nat} {h h' : ah_T} (H : ESm π j h) (h5 : π 5 j ≤ 4) (e : ∀ a, (5 ≤ a ∧ a ≤ 13) ∨ a = 17 → π' a j = π a j) (g : h'.2.1 204 j = h.2.1 204 j ∧ h'.2.1 207 j = h.2.1 207 j) (g2 : ∀ k, 4 * j ≤ k → k < 4 * j + 4 → h'.2.1 205 k = h.2.1 205 k ∧ h'.2.1 206 k = h.2.1 206 k) : ESm π' j h' := by
  obtain ⟨a1, a2, a3⟩ := H
  refine ⟨by rw [g.1, e 5 (by omega)]; exact a1, by rw [g.2, e 17 (by omega)]; exact a2, fun p hp => ?_⟩
  rw [e 5 (by omega)] at hp
  rw [(g2 _ (by omega) (by omega)).1, (g2 _ (by omega) (by omega)).2, e (6 + p) (by omega), e (10 + p) (by omega)]
  exact a3 p hp
theorem RMj_c {π π' : pm_T} {j : Nat} {h h' : ah_T} (H : RMj π j h) (P : PJ π j) (e : ∀ a, (1 ≤ a ∧ a ≤ 13) ∨ a = 17 → π' a j = π a j) (g : ∀ a, (201 ≤ a ∧ a ≤ 204) ∨ (207 ≤ a ∧ a ≤ 209) → h'.2.1 a j = h.2.1 a j) (g2 : ∀ k, 4 * j ≤ k → k < 4 * j + 4 → h'.2.1 205 k = h.2.1 205 k ∧ h'.2.1 206 k = h.2.1 206 k) : RMj π' j h' := by
  obtain ⟨a1, a2, a3⟩ := H
  have e1 := e 1 (by omega)
  refine ⟨by rw [g 201 (by omega), e1]; exact a1, fun q => ?_, fun q => ?_⟩
  · rw [e1] at q
    obtain ⟨b1, b2⟩ := a2 q
    have S := (P.2.1 q).2.2.2
    exact ⟨by rw [g 202 (by omega), g 209 (by omega), g 208 (by omega), e 2 (by omega), e 3 (by omega), e 4 (by omega)]; exact b1, ESm_c b2 S.1.2 (fun a w => e a (by omega)) ⟨g _ (by omega), g _ (by omega)⟩ g2⟩
  · rw [e1] at q
    rw [g 202 (by omega), g 203 (by omega), e 2 (by omega), e 3 (by omega)]; exact a3 q
/-- the parts stay; the count of admitted and the sound being read may change -/
theorem RPx_s {π π' : pm_T} {h h' : ah_T} {W : Nat → Nat → Prop} (H : RPx π h) (P : PW π) (f : fr W h h') (hW : ∀ a k, W a k → (a ≤ 170 ∧ (a = 170 → k ≠ 63)) ∨ ((a = 205 ∨ a = 206) ∧ 4 * sz π ≤ k) ∨ ((201 ≤ a ∧ a ≤ 204 ∨ 207 ≤ a ∧ a ≤ 214) ∧ sz π ≤ k)) (e : ∀ a k, (k ≠ sz π ∧ (a ≠ 0 ∨ (k ≠ 2 ∧ k ≠ 4))) ∨ (14 ≤ a ∧ a ≤ 16) → π' a k = π a k) (e0 : π' 0 0 = π 0 0 ∧ π' 0 1 = π 0 1) (e2 : h'.2.1 170 64 = π' 0 2) : RPx π' h' := by
  obtain ⟨⟨a1, a2⟩, hd, hj⟩ := H
  obtain ⟨c0, c1⟩ := e0
  have p0 := P.1.1
  have hz : (sz π : Int) = π 0 0 := by unfold sz; omega
  have g : ∀ (a k : Nat), ¬ ((a ≤ 170 ∧ (a = 170 → k ≠ 63)) ∨ ((a = 205 ∨ a = 206) ∧ 4 * sz π ≤ k) ∨ ((201 ≤ a ∧ a ≤ 204 ∨ 207 ≤ a ∧ a ≤ 214) ∧ sz π ≤ k)) → h'.2.1 a k = h.2.1 a k := fun a k q => fr_g f (fun w => q (hW a k w))
  refine ⟨⟨by rw [g _ _ (by omega), c1]; exact a1, e2⟩, fun d hd' => ?_, fun j hj' => ?_⟩
  · rw [c1] at hd'
    have pd := P.2.1 d hd'
    have : (π 15 d).toNat ≠ sz π := by have := pd.1; omega
    rw [g _ _ (by omega), g _ _ (by omega), e 15 d (by omega), e 1 _ (Or.inl ⟨this, by omega⟩)]; exact hd d hd'
  · rw [c0] at hj'
    have nz : j ≠ sz π := by omega
    exact RMj_c (hj j hj') (P.2.2 j hj') (fun a q => e a j (Or.inl ⟨nz, by omega⟩)) (fun a q => g _ _ (by omega)) (fun k h1 h2 => ⟨g _ _ (by omega), g _ _ (by omega)⟩)
theorem RPx_t {π : pm_T} {h h' : ah_T} {W : Nat → Nat → Prop} (H : RPx π h) (P : PW π) (f : fr W h h') (hW : ∀ a k, W a k → a = 170 ∧ k ≠ 63 ∧ k ≠ 64) : RPx π h' :=
  RPx_s H P f (fun a k w => by have := hW a k w; omega) (fun _ _ _ => rfl) ⟨rfl, rfl⟩ ((fr_g f (fun w => by have := hW _ _ w; omega)).trans H.1.2)
theorem t_MD_put {G : cx_T} {s p : Nat} {h : ah_T} {a1 : Int} (hb0 : hb s h) (hp : h.2.1 170 43 = (p : Int)) (hp2 : p < 2100) : con G 0 0 0 m_MD_put [av_R (some 170), av_I a1] h (fun r h' => r = none ∧ hb s h' ∧ fr (fun a k => (a = 201 ∧ k = p) ∨ (a = 170 ∧ k = 43)) h h' ∧ h'.2.1 201 p = a1 ∧ h'.2.1 170 43 = (p : Int) + 1) := by
  refine c_MD_put hb0 (fun _ => ?_)
  unfold B_MD_put_0
  intro x2 e2 _ _
  obtain rfl : x2 = (p : Int) := e2.trans hp
  refine ⟨⟨by omega, by omega⟩, ?_⟩
  rw [tn_c]
  intro h4 e4
  refine ⟨⟨by omega, by omega⟩, fun h8 e8 => ⟨rfl, hb_i (hb_i hb0 e4) e8, fr_i (fr_i fr_0 e4 (Or.inl ⟨rfl, rfl⟩)) e8 (Or.inr ⟨rfl, rfl⟩), ?_, mv_i e8⟩⟩
  rw [mm_i e8 (by omega), mv_i e4]
theorem sg_sw : ∀ b : Nat, 65 ≤ b → b ≤ 71 → 0 ≤ sw b ∧ sw b ≤ 6 ∧ (sw b % 7 + 2) % 7 + 65 = b := by
  intro b h1 h2
  have : b = 65 ∨ b = 66 ∨ b = 67 ∨ b = 68 ∨ b = 69 ∨ b = 70 ∨ b = 71 := by omega
  rcases this with rfl | rfl | rfl | rfl | rfl | rfl | rfl <;> decide
/-- the signs of a PITCH by its KEY and STEP -/
theorem sg_mk {X : tx_T} {i : Nat} (hA : XA X) (hi : i < X.2.2.2.1) (hk : tK X.2.2.1 i = 258) : sgt X.2.2.1 i = (mk X.1 X.2.1 (X.2.2.2.2.1 i) : Int) := by
  obtain ⟨h1, h2, h3, h4⟩ := hA.2.1 i hi
  have hlt : X.2.2.2.2.1 i < X.2.1 := by
    rcases Nat.lt_or_ge (X.2.2.2.2.1 i) X.2.1 with w | w
    · exact w
    · have := (h3 (by omega)).1; omega
  obtain ⟨⟨t1, t2, t3, t4⟩, -⟩ := h4 hlt
  generalize X.1 = T at *
  generalize X.2.1 = n at *
  generalize X.2.2.2.2.1 i = p at *
  have cP : 65 ≤ T p ∧ T p ≤ 71 := by
    refine Classical.byContradiction fun c1 => ?_
    by_cases c2 : isSm (T p)
    · obtain ⟨-, s1, s2⟩ := t2 c2
      by_cases c : 8 < X.2.2.2.2.2 i - p
      · have := s1 c; omega
      · have := (s2 (by omega)).1; have := knm_b (x := lvl T p (X.2.2.2.2.2 i - p)); omega
    · by_cases c3 : isDg (T p)
      · obtain ⟨-, s1, s2⟩ := t3 c3
        by_cases c : 4 < X.2.2.2.2.2 i - p
        · have := s1 c; omega
        · have := (s2 (by omega)).1; omega
      · obtain ⟨-, a2, a3⟩ := t4 c1 c2 c3
        by_cases c : isSg (T p)
        · have := a2 c; unfold isSg at c; omega
        · have := a3 c; omega
  obtain ⟨q1, q2⟩ := t1 cP
  by_cases d : 48 ≤ tb T n (p + 1 + mk T n p) ∧ tb T n (p + 1 + mk T n p) ≤ 56
  · obtain ⟨-, v, st, -⟩ := q1 d
    obtain ⟨b, eb⟩ : ∃ b : Nat, T p = (b : Int) := ⟨(T p).toNat, by omega⟩
    obtain ⟨w1, w2, w3⟩ := sg_sw b (by omega) (by omega)
    have hm := mk_2 (T := T) (n := n) (p := p)
    unfold sgt sgk
    rw [v, st, eb]
    generalize tb T n (p + 1 + mk T n p) = D at d ⊢
    have e1 : (7 * (D - 48) + sw b) / 7 = D - 48 := by omega
    have e2 : (7 * (D - 48) + sw b) % 7 = sw b % 7 := by omega
    rw [e1, e2, w3]
    have e0 : 12 * (D - 48) + wh b + (if tb T n (p + 1) = 35 then (mk T n p : Int) else -(mk T n p : Int)) - (12 * (D - 48) + wh b) = (if tb T n (p + 1) = 35 then (mk T n p : Int) else -(mk T n p : Int)) := by omega
    rw [e0]
    split <;> split <;> omega
  · have := q2 d; omega
