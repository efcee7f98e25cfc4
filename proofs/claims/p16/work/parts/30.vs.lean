/-! ===== the parts of a voice, as the reference holds them ===== -/
abbrev fn_T : Type := Nat → Int
/-- at place k: what opens, goes on, closes -/
def v_step (pt mt : fn_T) (stk : Nat → List Nat) (k : Nat) : Prop :=
  ((pt k = 0 ∨ pt k = 1) ∧ stk (k + 1) = stk k) ∨ ((pt k = 2 ∨ pt k = 5) ∧ stk (k + 1) = k :: stk k) ∨ (pt k = 3 ∧ stk (k + 1) = stk k ∧ ∃ p r, stk k = p :: r ∧ pt p = 2) ∨
  (pt k = 4 ∧ ∃ p r, stk k = p :: r ∧ pt p = 2 ∧ stk (k + 1) = r ∧ mt p = (k : Int)) ∨ (pt k = 6 ∧ ∃ p r, stk k = p :: r ∧ pt p = 5 ∧ stk (k + 1) = r ∧ mt k = (p : Int))
/-- the j-th : of p -/
def col (fc nc : fn_T) (p : Nat) : Nat → Nat
  | 0 => (fc p).toNat
  | j + 1 => (nc (col fc nc p j)).toNat
def v_col (pt fc nc lc cc : fn_T) (stk : Nat → List Nat) (n p : Nat) : Prop :=
  (∀ j : Nat, (j : Int) < cc p → col fc nc p j < n ∧ pt (col fc nc p j) = 3 ∧ (∃ r, stk (col fc nc p j) = p :: r) ∧ 0 ≤ fc p ∧ (∀ i, j = i + 1 → 0 ≤ nc (col fc nc p i) ∧ col fc nc p i < col fc nc p j)) ∧
  (1 ≤ cc p → lc p = (col fc nc p (cc p - 1).toNat : Int))
def VS (pt mt fc nc lc cc pT pL : fn_T) (n : Nat) (stk : Nat → List Nat) : Prop :=
  stk 0 = [] ∧ (∀ k, k < n → v_step pt mt stk k) ∧ (∀ p, p < n → pt p = 2 → 0 ≤ cc p ∧ v_col pt fc nc lc cc stk n p) ∧ (∀ c, c < n → pt c = 3 → ∀ p r, stk c = p :: r → 1 ≤ cc p) ∧
  (∀ k, k < n → pt k = 0 → 1 ≤ pT k ∧ pT k ≤ 64) ∧ (∀ k, k < n → pt k = 5 → (1 ≤ pT k ∧ pT k ≤ 16) ∧ 1 ≤ pL k ∧ pL k ≤ 16) ∧ ∀ k, k ≤ n → (stk k).length ≤ 7
/-- the open ones -/
def VO (pt op ok : fn_T) : List Nat → Prop
  | [] => True
  | p :: r => op r.length = (p : Int) ∧ ((ok r.length = 2 ∧ pt p = 2) ∨ (ok r.length = 5 ∧ pt p = 5)) ∧ VO pt op ok r
section VSL
variable {pt mt fc nc lc cc pT pL : fn_T} {n : Nat} {stk : Nat → List Nat}
theorem vs_chain (h0 : stk 0 = []) (hV : ∀ k, k < n → v_step pt mt stk k) : ∀ k, k ≤ n → ∀ p r, stk k = p :: r → p < k ∧ r = stk p ∧ (pt p = 2 ∨ pt p = 5) := by
  intro k
  induction k using Nat.strongRecOn with
  | _ k ih =>
    intro hk p r h
    cases k with
    | zero => rw [h0] at h; cases h
    | succ k =>
      have ihk := ih k (Nat.lt_succ_self k) (by omega)
      have pop : ∀ q r', stk k = q :: r' → stk (k + 1) = r' → p < k + 1 ∧ r = stk p ∧ (pt p = 2 ∨ pt p = 5) := by
        intro q r' e1 e
        have h1 := ihk q r' e1
        rw [e, h1.2.1] at h
        have h2 := ih q (by omega) (by omega) p r h
        exact ⟨by omega, h2.2⟩
      rcases hV k (by omega) with ⟨-, e⟩ | ⟨e2, e⟩ | ⟨-, e, -⟩ | ⟨-, q, r', e1, -, e, -⟩ | ⟨-, q, r', e1, -, e, -⟩
      · rw [e] at h; have h1 := ihk p r h; exact ⟨by omega, h1.2⟩
      · rw [e] at h; cases h; exact ⟨by omega, rfl, e2⟩
      · rw [e] at h; have h1 := ihk p r h; exact ⟨by omega, h1.2⟩
      · exact pop q r' e1 e
      · exact pop q r' e1 e
theorem vs_mem (h0 : stk 0 = []) (hV : ∀ k, k < n → v_step pt mt stk k) : ∀ k, k ≤ n → ∀ p, p ∈ stk k → p < k ∧ (pt p = 2 ∨ pt p = 5) := by
  intro k
  induction k using Nat.strongRecOn with
  | _ k ih =>
    intro hk p hp
    cases hs : stk k with
    | nil => rw [hs] at hp; cases hp
    | cons q r =>
      have h1 := vs_chain h0 hV k hk q r hs
      rw [hs] at hp
      rcases List.mem_cons.mp hp with rfl | hp
      · exact ⟨h1.1, h1.2.2⟩
      · rw [h1.2.1] at hp
        have h2 := ih q h1.1 (by omega) p hp
        exact ⟨by omega, h2.2⟩
/-- an open [ is closed further on -/
theorem vs_close (h0 : stk 0 = []) (hV : ∀ k, k < n → v_step pt mt stk k) (hn : stk n = []) : ∀ d k, k + d = n → ∀ p, p ∈ stk k → pt p = 2 → ∃ c : Nat, mt p = (c : Int) ∧ k ≤ c ∧ c < n ∧ pt c = 4 ∧ (∃ r, stk c = p :: r) ∧ stk (c + 1) = stk p := by
  intro d
  induction d with
  | zero => intro k hk p hp; have : k = n := by omega
            subst this; rw [hn] at hp; cases hp
  | succ d ih =>
    intro k hk p hp h2
    have go : p ∈ stk (k + 1) → ∃ c : Nat, mt p = (c : Int) ∧ k ≤ c ∧ c < n ∧ pt c = 4 ∧ (∃ r, stk c = p :: r) ∧ stk (c + 1) = stk p := fun hm => by
      obtain ⟨c, q1, q2, q3⟩ := ih (k + 1) (by omega) p hm h2
      exact ⟨c, q1, by omega, q3⟩
    rcases hV k (by omega) with ⟨-, e⟩ | ⟨-, e⟩ | ⟨-, e, -⟩ | ⟨e4, q, r', e1, e2, e, e5⟩ | ⟨-, q, r', e1, e2, e, -⟩
    · exact go (by rw [e]; exact hp)
    · exact go (by rw [e]; exact List.mem_cons_of_mem _ hp)
    · exact go (by rw [e]; exact hp)
    · by_cases hpq : p = q
      · subst hpq
        have h3 := vs_chain h0 hV k (by omega) p r' e1
        exact ⟨k, e5, Nat.le_refl k, by omega, e4, ⟨r', e1⟩, by rw [e, h3.2.1]⟩
      · rw [e1] at hp
        rcases List.mem_cons.mp hp with h4 | h4
        · exact absurd h4 hpq
        · exact go (by rw [e]; exact h4)
    · rw [e1] at hp
      rcases List.mem_cons.mp hp with h4 | h4
      · subst h4; rw [h2] at e2; omega
      · exact go (by rw [e]; exact h4)
/-- what was closed does not come back -/
theorem vs_gone (h0 : stk 0 = []) (hV : ∀ k, k < n → v_step pt mt stk k) {c p : Nat} {r : List Nat} (hc : c < n) (hs : stk c = p :: r) (hr : stk (c + 1) = r) : ∀ d, c + 1 + d ≤ n → p ∉ stk (c + 1 + d) := by
  have h1 := vs_chain h0 hV c (by omega) p r hs
  intro d
  induction d with
  | zero =>
    intro hd hp
    have h2 : p ∈ stk p := by rw [← h1.2.1, ← hr]; exact hp
    have h3 := vs_mem h0 hV p (by omega) p h2
    omega
  | succ d ih =>
    intro hd hp
    have ih' := ih (by omega)
    rcases hV (c + 1 + d) (by omega) with ⟨-, e⟩ | ⟨-, e⟩ | ⟨-, e, -⟩ | ⟨-, q, r', e1, -, e, -⟩ | ⟨-, q, r', e1, -, e, -⟩
    · exact ih' (by rw [← e]; exact hp)
    · rw [show c + 1 + (d + 1) = c + 1 + d + 1 by omega, e] at hp
      rcases List.mem_cons.mp hp with h4 | h4
      · omega
      · exact ih' h4
    · exact ih' (by rw [← e]; exact hp)
    · rw [show c + 1 + (d + 1) = c + 1 + d + 1 by omega, e] at hp
      exact ih' (by rw [e1]; exact List.mem_cons_of_mem _ hp)
    · rw [show c + 1 + (d + 1) = c + 1 + d + 1 by omega, e] at hp
      exact ih' (by rw [e1]; exact List.mem_cons_of_mem _ hp)
end VSL
/-- one place more -/
def stk_a (stk : Nat → List Nat) (n : Nat) (l : List Nat) : Nat → List Nat := fun k => if k ≤ n then stk k else l
theorem stk_l {stk : Nat → List Nat} {n k : Nat} {l : List Nat} (h : k ≤ n) : stk_a stk n l k = stk k := if_pos h
theorem stk_r {stk : Nat → List Nat} {n : Nat} {l : List Nat} : stk_a stk n l (n + 1) = l := if_neg (by omega)
section VSA
variable {pt mt fc nc lc cc pT pL pt' mt' fc' nc' lc' cc' pT' pL' : fn_T} {n : Nat} {stk : Nat → List Nat}
theorem vs_add (hV : VS pt mt fc nc lc cc pT pL n stk) {l : List Nat} (hp : ∀ k, k < n → pt' k = pt k) (hpT : ∀ k, k < n → pT' k = pT k) (hpL : ∀ k, k < n → pL' k = pL k)
    (hm4 : ∀ k, k < n → pt k = 4 → ∀ p r, stk k = p :: r → mt' p = mt p) (hm6 : ∀ k, k < n → pt k = 6 → mt' k = mt k)
    (hs : v_step pt' mt' (stk_a stk n l) n) (hcol : ∀ p, p < n + 1 → pt' p = 2 → 0 ≤ cc' p ∧ v_col pt' fc' nc' lc' cc' (stk_a stk n l) (n + 1) p)
    (h3 : pt' n = 3 → ∀ p r, stk n = p :: r → 1 ≤ cc' p) (hcc : ∀ p, p < n → cc p ≤ cc' p) (h0 : pt' n = 0 → 1 ≤ pT' n ∧ pT' n ≤ 64) (h5 : pt' n = 5 → (1 ≤ pT' n ∧ pT' n ≤ 16) ∧ 1 ≤ pL' n ∧ pL' n ≤ 16) (hl : l.length ≤ 7) :
    VS pt' mt' fc' nc' lc' cc' pT' pL' (n + 1) (stk_a stk n l) := by
  obtain ⟨v0, v1, v2, v3, v4, v5, v6⟩ := hV
  refine ⟨by rw [stk_l (by omega)]; exact v0, fun k hk => ?_, hcol, fun c hc hc3 p r hpr => ?_, fun k hk hk0 => ?_, fun k hk hk5 => ?_, fun k hk => ?_⟩
  · by_cases hkn : k = n
    · subst hkn; exact hs
    · have hk' : k < n := by omega
      have e1 : stk_a stk n l k = stk k := stk_l (by omega)
      have e2 : stk_a stk n l (k + 1) = stk (k + 1) := stk_l (by omega)
      have ep : ∀ p r, stk k = p :: r → pt' p = pt p := fun p r h => hp p (by have := (vs_chain v0 v1 k (by omega) p r h).1; omega)
      unfold v_step
      rw [e1, e2, hp k hk']
      rcases v1 k hk' with h | h | ⟨a1, a2, p, r, a3, a4⟩ | ⟨a1, p, r, a2, a3, a4, a5⟩ | ⟨a1, p, r, a2, a3, a4, a5⟩
      · exact Or.inl h
      · exact Or.inr (Or.inl h)
      · exact Or.inr (Or.inr (Or.inl ⟨a1, a2, p, r, a3, by rw [ep p r a3]; exact a4⟩))
      · exact Or.inr (Or.inr (Or.inr (Or.inl ⟨a1, p, r, a2, by rw [ep p r a2]; exact a3, a4, by rw [hm4 k hk' a1 p r a2]; exact a5⟩)))
      · exact Or.inr (Or.inr (Or.inr (Or.inr ⟨a1, p, r, a2, by rw [ep p r a2]; exact a3, a4, by rw [hm6 k hk' a1]; exact a5⟩)))
  · by_cases hcn : c = n
    · subst hcn
      rw [stk_l (Nat.le_refl c)] at hpr
      exact h3 hc3 p r hpr
    · rw [stk_l (by omega)] at hpr
      rw [hp c (by omega)] at hc3
      have h9 := v3 c (by omega) hc3 p r hpr
      have h10 := hcc p (by have := (vs_chain v0 v1 c (by omega) p r hpr).1; omega)
      omega
  · by_cases hkn : k = n
    · subst hkn; exact h0 hk0
    · rw [hpT k (by omega)]; exact v4 k (by omega) (by rw [← hp k (by omega)]; exact hk0)
  · by_cases hkn : k = n
    · subst hkn; exact h5 hk5
    · rw [hpT k (by omega), hpL k (by omega)]; exact v5 k (by omega) (by rw [← hp k (by omega)]; exact hk5)
  · by_cases hkn : k = n + 1
    · subst hkn; rw [stk_r]; exact hl
    · rw [stk_l (by omega)]; exact v6 k (by omega)
theorem col_e {p : Nat} (hf : fc' p = fc p) : ∀ j, (∀ i, i < j → nc' (col fc nc p i) = nc (col fc nc p i)) → col fc' nc' p j = col fc nc p j := by
  intro j
  induction j with
  | zero => intro _; show (fc' p).toNat = _; rw [hf]; rfl
  | succ j ih =>
    intro h
    have h1 := ih (fun i hi => h i (by omega))
    show (nc' (col fc' nc' p j)).toNat = (nc (col fc nc p j)).toNat
    rw [h1, h j (by omega)]
/-- the : of p stay, where none comes to them -/
theorem vcol_k {p : Nat} {l : List Nat} (h : v_col pt fc nc lc cc stk n p) (hp : ∀ k, k < n → pt' k = pt k) (hf : fc' p = fc p) (hl : lc' p = lc p) (hc : cc' p = cc p)
    (hn : ∀ i, ((i + 1 : Nat) : Int) < cc p → nc' (col fc nc p i) = nc (col fc nc p i)) : v_col pt' fc' nc' lc' cc' (stk_a stk n l) (n + 1) p := by
  obtain ⟨h1, h2⟩ := h
  have hcol : ∀ j : Nat, (j : Int) < cc p → col fc' nc' p j = col fc nc p j := fun j hj => col_e hf j (fun i hi => hn i (by omega))
  refine ⟨fun j hj => ?_, fun hc1 => ?_⟩
  · rw [hc] at hj
    obtain ⟨a1, a2, ⟨r, a3⟩, a4, a5⟩ := h1 j hj
    rw [hcol j hj, hf]
    refine ⟨by omega, by rw [hp _ a1]; exact a2, ⟨r, by rw [stk_l (by omega)]; exact a3⟩, a4, fun i hi => ?_⟩
    obtain ⟨b1, b2⟩ := a5 i hi
    rw [hcol i (by omega), hn i (by omega)]
    exact ⟨b1, b2⟩
  · rw [hc] at hc1 ⊢
    rw [hl, h2 hc1, hcol _ (by omega)]
end VSA
/-! ===== the same over a heap ===== -/
def VH (h : ah_T) (stk : Nat → List Nat) : Prop :=
  VS (h.2.1 201) (h.2.1 210) (h.2.1 211) (h.2.1 212) (h.2.1 213) (h.2.1 214) (h.2.1 202) (h.2.1 203) (h.2.1 170 43).toNat stk ∧ VO (h.2.1 201) (h.2.1 215) (h.2.1 216) (stk (h.2.1 170 43).toNat) ∧ ((stk (h.2.1 170 43).toNat).length : Int) = h.2.1 170 63
def VHx (h : ah_T) : Prop := 0 ≤ h.2.1 170 43 ∧ ∃ stk, VH h stk
/-- only what is said of the parts matters -/
theorem VHx_s {h h' : ah_T} (H : VHx h) (e43 : h'.2.1 170 43 = h.2.1 170 43) (e63 : h'.2.1 170 63 = h.2.1 170 63) (fe : ∀ a, a ∈ [201, 202, 203, 210, 211, 212, 213, 214, 215, 216] → h'.2.1 a = h.2.1 a) : VHx h' := by
  obtain ⟨h0, stk, h1, h2, h3⟩ := H
  have F : ∀ a, a ∈ [201, 202, 203, 210, 211, 212, 213, 214, 215, 216] → h'.2.1 a = h.2.1 a := fe
  refine ⟨by rw [e43]; exact h0, stk, ?_⟩
  unfold VH
  rw [e43, e63, F 201 (by decide), F 202 (by decide), F 203 (by decide), F 210 (by decide), F 211 (by decide), F 212 (by decide), F 213 (by decide), F 214 (by decide), F 215 (by decide), F 216 (by decide)]
  exact ⟨h1, h2, h3⟩
theorem VO_e {pt op ok pt' op' ok' : fn_T} : ∀ l : List Nat, (∀ p, p ∈ l → pt' p = pt p) → (∀ i, i < l.length → op' i = op i ∧ ok' i = ok i) → VO pt op ok l → VO pt' op' ok' l
  | [], _, _, _ => trivial
  | p :: r, hp, ho, h => by
    have h1 := ho r.length (by simp)
    refine ⟨by rw [h1.1]; exact h.1, by rw [h1.2, hp p List.mem_cons_self]; exact h.2.1, VO_e r (fun q hq => hp q (List.mem_cons_of_mem _ hq)) (fun i hi => ho i (by simp; omega)) h.2.2⟩
theorem VH_0 {h : ah_T} (e43 : h.2.1 170 43 = 0) (e63 : h.2.1 170 63 = 0) : VHx h := by
  refine ⟨by omega, fun _ => [], ?_⟩
  unfold VH
  rw [e43, e63]
  refine ⟨⟨rfl, fun k hk => absurd hk (Nat.not_lt_zero k), fun k hk => absurd hk (Nat.not_lt_zero k), fun k hk => absurd hk (Nat.not_lt_zero k), fun k hk => absurd hk (Nat.not_lt_zero k), fun k hk => absurd hk (Nat.not_lt_zero k), fun k _ => Nat.zero_le _⟩, trivial, rfl⟩
/-- a sound, or a | -/
theorem VH_s {h h' : ah_T} {x : Int} (H : VHx h) (ex : h.2.1 170 43 = x) (e43 : h'.2.1 170 43 = x + 1) (e63 : h'.2.1 170 63 = h.2.1 170 63) (f201 : ∀ k, k ≠ x.toNat → h'.2.1 201 k = h.2.1 201 k)
    (v201 : h'.2.1 201 x.toNat = 1 ∨ (h'.2.1 201 x.toNat = 0 ∧ 1 ≤ h'.2.1 202 x.toNat ∧ h'.2.1 202 x.toNat ≤ 64)) (f202 : ∀ k, k ≠ x.toNat → h'.2.1 202 k = h.2.1 202 k)
    (fe : ∀ a, a ∈ [203, 210, 211, 212, 213, 214, 215, 216] → h'.2.1 a = h.2.1 a) : VHx h' := by
  obtain ⟨h0, stk, h1, h2, h3⟩ := H
  have hn : (h'.2.1 170 43).toNat = x.toNat + 1 := by omega
  have hx : (h.2.1 170 43).toNat = x.toNat := by rw [ex]
  rw [hx] at h1 h2 h3
  refine ⟨by omega, stk_a stk x.toNat (stk x.toNat), ?_⟩
  unfold VH
  rw [hn, e63, stk_r, fe 203 (by decide), fe 210 (by decide), fe 211 (by decide), fe 212 (by decide), fe 213 (by decide), fe 214 (by decide), fe 215 (by decide), fe 216 (by decide)]
  obtain ⟨v0, v1, v2, v3, v4, v5, v6⟩ := id h1
  refine ⟨vs_add h1 (fun k hk => f201 k (by omega)) (fun k hk => f202 k (by omega)) (fun k hk => rfl) (fun _ _ _ _ _ _ => rfl) (fun _ _ _ => rfl) ?_ (fun p hp h9 => ?_) (fun q => ?_) (fun p _ => Int.le_refl _) (fun q => ?_) (fun q => ?_) (v6 _ (Nat.le_refl _)), ?_, h3⟩
  · refine Or.inl ⟨?_, by rw [stk_r, stk_l (Nat.le_refl _)]⟩
    rcases v201 with q | q
    · exact Or.inr q
    · exact Or.inl q.1
  · by_cases hpx : p = x.toNat
    · subst hpx; rcases v201 with q | q <;> omega
    · rw [f201 p hpx] at h9
      have h10 := v2 p (by omega) h9
      exact ⟨h10.1, vcol_k h10.2 (fun k hk => f201 k (by omega)) rfl rfl rfl (fun _ _ => rfl)⟩
  · rcases v201 with q' | q' <;> omega
  · rcases v201 with q' | q'
    · omega
    · exact q'.2
  · rcases v201 with q' | q' <;> omega
  · exact VO_e _ (fun p hp => f201 p (by have := (vs_mem v0 v1 _ (Nat.le_refl _) p hp).1; omega)) (fun i _ => ⟨rfl, rfl⟩) h2
/-- [ or { -/
theorem VH_o {h h' : ah_T} {x m c : Int} (H : VHx h) (ex : h.2.1 170 43 = x) (em : h.2.1 170 63 = m) (hm : m ≤ 6) (e43 : h'.2.1 170 43 = x + 1) (e63 : h'.2.1 170 63 = m + 1) (hc : c = 2 ∨ c = 5) (f201 : ∀ k, k ≠ x.toNat → h'.2.1 201 k = h.2.1 201 k) (v201 : h'.2.1 201 x.toNat = c)
    (f202 : ∀ k, k ≠ x.toNat → h'.2.1 202 k = h.2.1 202 k) (f203 : ∀ k, k ≠ x.toNat → h'.2.1 203 k = h.2.1 203 k) (hv : c = 5 → (1 ≤ h'.2.1 202 x.toNat ∧ h'.2.1 202 x.toNat ≤ 16) ∧ 1 ≤ h'.2.1 203 x.toNat ∧ h'.2.1 203 x.toNat ≤ 16)
    (f214 : ∀ k, k ≠ x.toNat → h'.2.1 214 k = h.2.1 214 k) (v214 : c = 2 → h'.2.1 214 x.toNat = 0) (f215 : ∀ k, k ≠ m.toNat → h'.2.1 215 k = h.2.1 215 k) (v215 : h'.2.1 215 m.toNat = x) (f216 : ∀ k, k ≠ m.toNat → h'.2.1 216 k = h.2.1 216 k) (v216 : h'.2.1 216 m.toNat = c)
    (fe : ∀ a, a ∈ [210, 211, 212, 213] → h'.2.1 a = h.2.1 a) : VHx h' := by
  obtain ⟨h0, stk, h1, h2, h3⟩ := H
  have hn : (h'.2.1 170 43).toNat = x.toNat + 1 := by omega
  have hx : (h.2.1 170 43).toNat = x.toNat := by rw [ex]
  rw [hx] at h1 h2 h3
  have hlen : (stk x.toNat).length = m.toNat := by omega
  refine ⟨by omega, stk_a stk x.toNat (x.toNat :: stk x.toNat), ?_⟩
  unfold VH
  rw [hn, e63, stk_r, fe 210 (by decide), fe 211 (by decide), fe 212 (by decide), fe 213 (by decide)]
  obtain ⟨v0, v1, v2, v3, v4, v5, v6⟩ := id h1
  refine ⟨vs_add h1 (fun k hk => f201 k (by omega)) (fun k hk => f202 k (by omega)) (fun k hk => f203 k (by omega)) (fun _ _ _ _ _ _ => rfl) (fun _ _ _ => rfl) ?_ (fun p hp h9 => ?_) (fun q => ?_) (fun p hp => ?_) (fun q => ?_) (fun q => hv (by omega)) (by simp only [List.length_cons]; omega), ?_, by simp only [List.length_cons]; omega⟩
  · exact Or.inr (Or.inl ⟨by omega, by rw [stk_r, stk_l (Nat.le_refl _)]⟩)
  · by_cases hpx : p = x.toNat
    · subst hpx
      have hz : h'.2.1 214 x.toNat = 0 := v214 (by omega)
      exact ⟨by omega, fun j hj => by omega, fun q => by omega⟩
    · rw [f201 p hpx] at h9
      have h10 := v2 p (by omega) h9
      exact ⟨by rw [f214 p hpx]; exact h10.1, vcol_k h10.2 (fun k hk => f201 k (by omega)) rfl rfl (f214 p hpx) (fun _ _ => rfl)⟩
  · omega
  · rw [f214 p (by omega)]; exact Int.le_refl _
  · omega
  · refine ⟨by rw [hlen, v215]; omega, by rw [hlen, v216, v201]; rcases hc with q | q <;> subst q <;> simp, ?_⟩
    exact VO_e _ (fun p hp => f201 p (by have := (vs_mem v0 v1 _ (Nat.le_refl _) p hp).1; omega)) (fun i hi => ⟨f215 i (by omega), f216 i (by omega)⟩) h2
/-- the innermost open one -/
theorem VH_top {h : ah_T} {m : Int} (H : VHx h) (em : h.2.1 170 63 = m) (hm : 1 ≤ m) : ∃ p : Nat, h.2.1 215 (m - 1).toNat = (p : Int) ∧ (p : Int) < h.2.1 170 43 ∧ ((h.2.1 216 (m - 1).toNat = 2 ∧ h.2.1 201 p = 2) ∨ (h.2.1 216 (m - 1).toNat = 5 ∧ h.2.1 201 p = 5)) := by
  obtain ⟨h0, stk, h1, h2, h3⟩ := H
  obtain ⟨v0, v1, v2, v3, v4, v5, v6⟩ := id h1
  cases hs : stk (h.2.1 170 43).toNat with
  | nil => rw [hs] at h3; simp at h3; omega
  | cons p r =>
    rw [hs] at h2 h3
    have hl : r.length = (m - 1).toNat := by simp only [List.length_cons] at h3; omega
    have h4 := (vs_chain v0 v1 _ (Nat.le_refl _) p r hs).1
    refine ⟨p, by rw [← hl]; exact h2.1, by omega, ?_⟩
    rw [← hl]
    exact h2.2.1
/-- ] or } -/
theorem VH_c {h h' : ah_T} {x m p c : Int} (H : VHx h) (ex : h.2.1 170 43 = x) (em : h.2.1 170 63 = m) (hm : 1 ≤ m) (ep : h.2.1 215 (m - 1).toNat = p) (e43 : h'.2.1 170 43 = x + 1) (e63 : h'.2.1 170 63 = m - 1) (hc : (h.2.1 216 (m - 1).toNat = 2 ∧ c = 4) ∨ (h.2.1 216 (m - 1).toNat ≠ 2 ∧ c = 6)) (f201 : ∀ k, k ≠ x.toNat → h'.2.1 201 k = h.2.1 201 k) (v201 : h'.2.1 201 x.toNat = c)
    (f210 : ∀ k, k ≠ x.toNat → k ≠ p.toNat → h'.2.1 210 k = h.2.1 210 k) (v210 : h'.2.1 210 x.toNat = p) (w210 : h'.2.1 210 p.toNat = x)
    (fe : ∀ a, a ∈ [202, 203, 211, 212, 213, 214, 215, 216] → h'.2.1 a = h.2.1 a) : VHx h' := by
  have HH := H
  obtain ⟨h0, stk, h1, h2, h3⟩ := H
  have hn : (h'.2.1 170 43).toNat = x.toNat + 1 := by omega
  have hx : (h.2.1 170 43).toNat = x.toNat := by rw [ex]
  rw [hx] at h1 h2 h3
  obtain ⟨v0, v1, v2, v3, v4, v5, v6⟩ := id h1
  cases hs : stk x.toNat with
  | nil => rw [hs] at h3; simp at h3; omega
  | cons q r =>
    rw [hs] at h2 h3
    have hl : r.length = (m - 1).toNat := by simp only [List.length_cons] at h3; omega
    have hch := vs_chain v0 v1 _ (Nat.le_refl _) q r hs
    have hq : h.2.1 215 (m - 1).toNat = (q : Int) := by rw [← hl]; exact h2.1
    have hpq : p = (q : Int) := by rw [← ep, hq]
    have hk := h2.2.1
    rw [hl] at hk
    have hpn : p.toNat = q := by omega
    refine ⟨by omega, stk_a stk x.toNat r, ?_⟩
    unfold VH
    rw [hn, e63, stk_r, fe 202 (by decide), fe 203 (by decide), fe 211 (by decide), fe 212 (by decide), fe 213 (by decide), fe 214 (by decide), fe 215 (by decide), fe 216 (by decide)]
    refine ⟨vs_add h1 (fun k hk => f201 k (by omega)) (fun k hk => rfl) (fun k hk => rfl) (fun k hkl h4 p' r' hs' => ?_) (fun k hkl h6 => ?_) ?_ (fun p' hp' h9 => ?_) (fun q' => ?_) (fun p _ => Int.le_refl _) (fun q' => ?_) (fun q' => ?_) (by have h20 := v6 _ (Nat.le_refl x.toNat); rw [hs] at h20; simp only [List.length_cons] at h20; omega), ?_, by omega⟩
    · -- p' was closed at k: it is not q, which is open at x
      have h5 := vs_chain v0 v1 k (by omega) p' r' hs'
      have hne : p' ≠ q := by
        intro e
        subst e
        rcases v1 k hkl with ⟨w, -⟩ | ⟨w, -⟩ | ⟨w, -⟩ | ⟨w, p2, r2, w2, w3, w4, w5⟩ | ⟨w, -⟩ <;> try omega
        rw [hs'] at w2
        cases w2
        have h6 := vs_gone v0 v1 hkl hs' w4 (x.toNat - (k + 1)) (by omega)
        rw [show k + 1 + (x.toNat - (k + 1)) = x.toNat by omega, hs] at h6
        exact h6 List.mem_cons_self
      exact f210 p' (by omega) (by omega)
    · have hne : k ≠ q := by
        intro e
        subst e
        rcases hk with q' | q' <;> omega
      exact f210 k (by omega) (by omega)
    · have e1 : h'.2.1 201 q = h.2.1 201 q := f201 q (by omega)
      rcases hc with ⟨c1, c2⟩ | ⟨c1, c2⟩
      · refine Or.inr (Or.inr (Or.inr (Or.inl ⟨by omega, q, r, by rw [stk_l (Nat.le_refl _)]; exact hs, by rw [e1]; rcases hk with q' | q' <;> omega, by rw [stk_r], ?_⟩)))
        rw [← hpn, w210]; omega
      · refine Or.inr (Or.inr (Or.inr (Or.inr ⟨by omega, q, r, by rw [stk_l (Nat.le_refl _)]; exact hs, by rw [e1]; rcases hk with q' | q' <;> omega, by rw [stk_r], ?_⟩)))
        rw [v210, hpq]
    · have hpx : p' ≠ x.toNat := by
        intro e; subst e; rcases hc with q' | q' <;> omega
      rw [f201 p' hpx] at h9
      have h10 := v2 p' (by omega) h9
      exact ⟨h10.1, vcol_k h10.2 (fun k hk => f201 k (by omega)) rfl rfl rfl (fun _ _ => rfl)⟩
    · rcases hc with w | w <;> omega
    · rcases hc with w | w <;> omega
    · rcases hc with w | w <;> omega
    · have hmem : ∀ p', p' ∈ r → p' ∈ stk x.toNat := fun p' hp' => by rw [hs]; exact List.mem_cons_of_mem _ hp'
      exact VO_e _ (fun p' hp' => f201 p' (by have := (vs_mem v0 v1 _ (Nat.le_refl _) p' (hmem p' hp')).1; omega)) (fun i _ => ⟨rfl, rfl⟩) h2.2.2
theorem col_lt {pt fc nc lc cc : fn_T} {stk : Nat → List Nat} {n p : Nat} (h : v_col pt fc nc lc cc stk n p) : ∀ j : Nat, (j : Int) < cc p → ∀ i, i < j → col fc nc p i < col fc nc p j := by
  intro j
  induction j with
  | zero => intro _ i hi; omega
  | succ j ih =>
    intro hj i hi
    have h1 := (h.1 (j + 1) hj).2.2.2.2 j rfl
    by_cases hij : i = j
    · subst hij; exact h1.2
    · have h2 := ih (by omega) i (by omega)
      omega
/-- a : of the innermost [ -/
theorem VH_k {h h' : ah_T} {x m p : Int} (H : VHx h) (ex : h.2.1 170 43 = x) (em : h.2.1 170 63 = m) (hm : 1 ≤ m) (ep : h.2.1 215 (m - 1).toNat = p) (ek : h.2.1 216 (m - 1).toNat = 2) (e43 : h'.2.1 170 43 = x + 1) (e63 : h'.2.1 170 63 = m) (f201 : ∀ k, k ≠ x.toNat → h'.2.1 201 k = h.2.1 201 k) (v201 : h'.2.1 201 x.toNat = 3)
    (hc : (h.2.1 214 p.toNat = 0 ∧ (∀ k, k ≠ p.toNat → h'.2.1 211 k = h.2.1 211 k) ∧ h'.2.1 211 p.toNat = x ∧ (∀ k, h'.2.1 212 k = h.2.1 212 k)) ∨ (h.2.1 214 p.toNat ≠ 0 ∧ (∀ k, h'.2.1 211 k = h.2.1 211 k) ∧ (∀ k, k ≠ (h.2.1 213 p.toNat).toNat → h'.2.1 212 k = h.2.1 212 k) ∧ h'.2.1 212 (h.2.1 213 p.toNat).toNat = x))
    (f213 : ∀ k, k ≠ p.toNat → h'.2.1 213 k = h.2.1 213 k) (v213 : h'.2.1 213 p.toNat = x) (f214 : ∀ k, k ≠ p.toNat → h'.2.1 214 k = h.2.1 214 k) (v214 : h'.2.1 214 p.toNat = h.2.1 214 p.toNat + 1)
    (fe : ∀ a, a ∈ [202, 203, 210, 215, 216] → h'.2.1 a = h.2.1 a) : VHx h' := by
  obtain ⟨h0, stk, h1, h2, h3⟩ := H
  have hn : (h'.2.1 170 43).toNat = x.toNat + 1 := by omega
  have hx : (h.2.1 170 43).toNat = x.toNat := by rw [ex]
  rw [hx] at h1 h2 h3
  obtain ⟨v0, v1, v2, v3, v4, v5, v6⟩ := id h1
  cases hs : stk x.toNat with
  | nil => rw [hs] at h3; simp at h3; omega
  | cons q r =>
    rw [hs] at h2 h3
    have hl : r.length = (m - 1).toNat := by simp only [List.length_cons] at h3; omega
    have hch := vs_chain v0 v1 _ (Nat.le_refl _) q r hs
    have hq : h.2.1 215 (m - 1).toNat = (q : Int) := by rw [← hl]; exact h2.1
    have hpq : p = (q : Int) := by rw [← ep, hq]
    have hk := h2.2.1
    rw [hl] at hk
    have hpn : p.toNat = q := by omega
    rw [hpn] at hc f213 v213 f214 v214
    have hq2 : h.2.1 201 q = 2 := by rcases hk with w | w <;> omega
    obtain ⟨cc0, vc⟩ := v2 q hch.1 hq2
    have hsx : stk_a stk x.toNat (q :: r) x.toNat = q :: r := by rw [stk_l (Nat.le_refl _)]; exact hs
    refine ⟨by omega, stk_a stk x.toNat (q :: r), ?_⟩
    unfold VH
    rw [hn, e63, stk_r, fe 202 (by decide), fe 203 (by decide), fe 210 (by decide), fe 215 (by decide), fe 216 (by decide)]
    have hV1 : ∀ k, k < x.toNat → h'.2.1 201 k = h.2.1 201 k := fun k hk => f201 k (by omega)
    -- the : of q
    have hq' : 0 ≤ h'.2.1 214 q ∧ v_col (h'.2.1 201) (h'.2.1 211) (h'.2.1 212) (h'.2.1 213) (h'.2.1 214) (stk_a stk x.toNat (q :: r)) (x.toNat + 1) q := by
      refine ⟨by omega, ?_⟩
      rcases hc with ⟨c0, g211, w211, g212⟩ | ⟨c0, g211, g212, w212⟩
      · have hz : col (h'.2.1 211) (h'.2.1 212) q 0 = x.toNat := by show (h'.2.1 211 q).toNat = _; rw [w211]
        refine ⟨fun j hj => ?_, fun _ => ?_⟩
        · have hj0 : j = 0 := by omega
          subst hj0
          rw [hz]
          exact ⟨by omega, v201, ⟨r, hsx⟩, by omega, fun i hi => by omega⟩
        · rw [v213, v214, c0]
          show x = (col _ _ q 0 : Int)
          rw [hz]; omega
      · have hge : 1 ≤ h.2.1 214 q := by omega
        have hlc : h.2.1 213 q = (col (h.2.1 211) (h.2.1 212) q (h.2.1 214 q - 1).toNat : Int) := vc.2 hge
        generalize hL : (h.2.1 214 q - 1).toNat = e at hlc
        have hcol : ∀ j : Nat, (j : Int) < h.2.1 214 q → col (h'.2.1 211) (h'.2.1 212) q j = col (h.2.1 211) (h.2.1 212) q j := fun j hj => col_e (g211 q) j (fun i hi => by
          have h9 := col_lt vc e (by omega) i (by omega)
          exact g212 _ (by omega))
        have hlast : col (h'.2.1 211) (h'.2.1 212) q (e + 1) = x.toNat := by
          show (h'.2.1 212 (col _ _ q e)).toNat = _
          rw [hcol e (by omega), show col (h.2.1 211) (h.2.1 212) q e = (h.2.1 213 q).toNat by omega, w212]
        refine ⟨fun j hj => ?_, fun _ => ?_⟩
        · by_cases hje : j = e + 1
          · subst hje
            rw [hlast]
            refine ⟨by omega, v201, ⟨r, hsx⟩, ?_, fun i hi => ?_⟩
            · rw [g211 q]; exact (vc.1 0 (by omega)).2.2.2.1
            · have : i = e := by omega
              subst this
              have h9 := (vc.1 i (by omega)).1
              rw [hcol i (by omega)]
              exact ⟨by rw [show col (h.2.1 211) (h.2.1 212) q i = (h.2.1 213 q).toNat by omega, w212]; omega, h9⟩
          · obtain ⟨a1, a2, ⟨r', a3⟩, a4, a5⟩ := vc.1 j (by omega)
            rw [hcol j (by omega)]
            refine ⟨by omega, by rw [hV1 _ a1]; exact a2, ⟨r', by rw [stk_l (by omega)]; exact a3⟩, by rw [g211 q]; exact a4, fun i hi => ?_⟩
            obtain ⟨b1, b2⟩ := a5 i hi
            have h9 := col_lt vc e (by omega) i (by omega)
            rw [hcol i (by omega), g212 _ (by omega)]
            exact ⟨b1, b2⟩
        · rw [v213, v214, show (h.2.1 214 q + 1 - 1).toNat = e + 1 by omega, hlast]; omega
    refine ⟨vs_add h1 hV1 (fun k hk => rfl) (fun k hk => rfl) (fun _ _ _ _ _ _ => rfl) (fun _ _ _ => rfl) ?_ (fun p' hp' h9 => ?_) (fun _ p' r' w => ?_) (fun p' _ => ?_) (fun w => by omega) (fun w => by omega) (by have h20 := v6 _ (Nat.le_refl x.toNat); rw [hs] at h20; exact h20), ?_, by omega⟩
    · exact Or.inr (Or.inr (Or.inl ⟨v201, by rw [stk_r, hsx], q, r, hsx, by rw [f201 q (by omega)]; exact hq2⟩))
    · by_cases hpq' : p' = q
      · subst hpq'; exact hq'
      · have hpx : p' ≠ x.toNat := by intro e; subst e; omega
        rw [f201 p' hpx] at h9
        have h10 := v2 p' (by omega) h9
        refine ⟨by rw [f214 p' hpq']; exact h10.1, vcol_k h10.2 hV1 ?_ (f213 p' hpq') (f214 p' hpq') (fun i hi => ?_)⟩
        · rcases hc with ⟨-, g, -⟩ | ⟨-, g, -⟩
          · exact g p' hpq'
          · exact g p'
        · rcases hc with ⟨-, -, -, g⟩ | ⟨c0, -, g, -⟩
          · exact g _
          · refine g _ (fun e => ?_)
            have hge : 1 ≤ h.2.1 214 q := by omega
            have hlc := vc.2 hge
            obtain ⟨-, -, ⟨r1, s1⟩, -⟩ := vc.1 (h.2.1 214 q - 1).toNat (by omega)
            obtain ⟨-, -, ⟨r2, s2⟩, -⟩ := h10.2.1 i (by omega)
            rw [show col (h.2.1 211) (h.2.1 212) p' i = col (h.2.1 211) (h.2.1 212) q (h.2.1 214 q - 1).toNat by omega, s1] at s2
            cases s2
            exact hpq' rfl
    · rw [hs] at w; cases w; omega
    · by_cases hpq' : p' = q
      · subst hpq'; omega
      · rw [f214 p' hpq']; exact Int.le_refl _
    · have hVO : VO (h.2.1 201) (h.2.1 215) (h.2.1 216) (q :: r) := h2
      exact VO_e (q :: r) (fun p' hp' => f201 p' (by have := (vs_mem v0 v1 _ (Nat.le_refl _) p' (by rw [hs]; exact hp')).1; omega)) (fun i _ => ⟨rfl, rfl⟩) hVO
/-- within a sound at x -/
def SI (h hq : ah_T) (x : Int) : Prop := hq.2.1 170 43 = x + 1 ∧ (∀ k, k ≠ x.toNat → hq.2.1 201 k = h.2.1 201 k) ∧ hq.2.1 201 x.toNat = 0 ∧ ∀ k, k ≠ x.toNat → hq.2.1 202 k = h.2.1 202 k
