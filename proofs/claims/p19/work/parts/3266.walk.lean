/-! ===== going through the parts: where a walk stands ===== -/
/-- the open [ of the stack, as the walk holds them -/
def WD (pt cc wa tu ts : fn_T) : List Nat → Nat → Prop
  | [], d => d = 0
  | p :: r, d => (pt p = 2 ∧ ∃ e, d = e + 1 ∧ wa e = (p : Int) ∧ 1 ≤ tu e ∧ tu e ≤ ts e ∧ ((cc p = 0 ∧ ts e = 2) ∨ (1 ≤ cc p ∧ ts e = cc p)) ∧ WD pt cc wa tu ts r e) ∨ (pt p = 5 ∧ WD pt cc wa tu ts r d)
/-- the product over the open proportions -/
def PQ (f pt : fn_T) : List Nat → Int
  | [] => 1
  | p :: r => if pt p = 5 then f p * PQ f pt r else PQ f pt r
def WS (pt pT pL : fn_T) (l : List Nat) (a b : Int) : Prop := 1 ≤ a ∧ 1 ≤ b ∧ a * PQ pT pt l = b * PQ pL pt l ∧ Int.gcd a b = 1
section WLK
variable {pt mt fc nc lc cc pT pL : fn_T} {n : Nat} {stk : Nat → List Nat} {wa tu ts wa' tu' ts' : fn_T}
theorem WD_len : ∀ (l : List Nat) (d : Nat), WD pt cc wa tu ts l d → d ≤ l.length
  | [], d, h => by have : d = 0 := h
                   omega
  | p :: r, d, h => by
    rcases h with ⟨-, e, he, -, -, -, -, h⟩ | ⟨-, h⟩
    · have := WD_len r e h; simp only [List.length_cons]; omega
    · have := WD_len r d h; simp only [List.length_cons]; omega
theorem WD_e : ∀ (l : List Nat) (d : Nat), (∀ i, i < d → wa' i = wa i ∧ tu' i = tu i ∧ ts' i = ts i) → WD pt cc wa tu ts l d → WD pt cc wa' tu' ts' l d
  | [], _, _, h => h
  | p :: r, d, hf, h => by
    rcases h with ⟨h2, e, he, h3, h4, h5, h6, h7⟩ | ⟨h5, h⟩
    · obtain ⟨f1, f2, f3⟩ := hf e (by omega)
      exact Or.inl ⟨h2, e, he, by rw [f1]; exact h3, by rw [f2]; exact h4, by rw [f2, f3]; exact h5, by rw [f3]; exact h6, WD_e r e (fun i hi => hf i (by omega)) h7⟩
    · exact Or.inr ⟨h5, WD_e r d hf h⟩
theorem PQ_n {f : fn_T} {p : Nat} {r : List Nat} (h : pt p ≠ 5) : PQ f pt (p :: r) = PQ f pt r := if_neg h
theorem PQ_y {f : fn_T} {p : Nat} {r : List Nat} (h : pt p = 5) : PQ f pt (p :: r) = f p * PQ f pt r := if_pos h
theorem PQ_b {f : fn_T} : ∀ l : List Nat, (∀ p, p ∈ l → pt p = 5 → 1 ≤ f p ∧ f p ≤ 16) → 1 ≤ PQ f pt l ∧ PQ f pt l ≤ 16 ^ l.length
  | [], _ => ⟨by show (1 : Int) ≤ 1; decide, by show (1 : Int) ≤ 16 ^ 0; decide⟩
  | p :: r, h => by
    obtain ⟨h1, h2⟩ := PQ_b r (fun q hq => h q (List.mem_cons_of_mem _ hq))
    have e : (16 : Int) ^ (p :: r).length = 16 * 16 ^ r.length := by rw [List.length_cons, Int.pow_succ, Int.mul_comm]
    rw [e]
    by_cases h5 : pt p = 5
    · rw [PQ_y h5]
      obtain ⟨g1, g2⟩ := h p (List.mem_cons_self ..) h5
      have q1 : (1 : Int) * 1 ≤ f p * PQ f pt r := Int.mul_le_mul g1 h1 (by decide) (by omega)
      have q2 : f p * PQ f pt r ≤ 16 * 16 ^ r.length := Int.mul_le_mul g2 h2 (by omega) (by decide)
      exact ⟨by omega, q2⟩
    · rw [PQ_n h5]
      exact ⟨h1, by omega⟩
theorem WS_0 : WS pt pT pL [] 1 1 := ⟨by decide, by decide, rfl, by decide⟩
theorem WS_n {p : Nat} {r : List Nat} {a b : Int} (h : pt p ≠ 5) : WS pt pT pL (p :: r) a b ↔ WS pt pT pL r a b := by
  unfold WS; rw [PQ_n h, PQ_n h]
theorem WS_5 {p : Nat} {r : List Nat} {a b a' b' d : Int} (h5 : pt p = 5) (h : WS pt pT pL r a b) (h1 : 1 ≤ a') (h2 : 1 ≤ b') (e1 : a' * d = a * pL p) (e2 : b' * d = b * pT p) (hd : d ≠ 0) (hg : Int.gcd a' b' = 1) : WS pt pT pL (p :: r) a' b' := by
  obtain ⟨-, -, he, -⟩ := h
  refine ⟨h1, h2, Int.eq_of_mul_eq_mul_right hd ?_, hg⟩
  rw [PQ_y h5, PQ_y h5]
  calc a' * (pT p * PQ pT pt r) * d = a' * d * (pT p * PQ pT pt r) := by rw [Int.mul_right_comm]
    _ = a * PQ pT pt r * (pL p * pT p) := by rw [e1]; simp only [Int.mul_assoc, Int.mul_comm, Int.mul_left_comm]
    _ = b * PQ pL pt r * (pL p * pT p) := by rw [he]
    _ = b' * d * (pL p * PQ pL pt r) := by rw [e2]; simp only [Int.mul_assoc, Int.mul_comm, Int.mul_left_comm]
    _ = b' * (pL p * PQ pL pt r) * d := by rw [Int.mul_right_comm]
theorem WS_6 {p : Nat} {r : List Nat} {a b a' b' d : Int} (h5 : pt p = 5) (h : WS pt pT pL (p :: r) a b) (h1 : 1 ≤ a') (h2 : 1 ≤ b') (e1 : a' * d = a * pT p) (e2 : b' * d = b * pL p) (hd : d ≠ 0) (hg : Int.gcd a' b' = 1) : WS pt pT pL r a' b' := by
  obtain ⟨-, -, he, -⟩ := h
  rw [PQ_y h5, PQ_y h5] at he
  refine ⟨h1, h2, Int.eq_of_mul_eq_mul_right hd ?_, hg⟩
  calc a' * PQ pT pt r * d = a' * d * PQ pT pt r := by rw [Int.mul_right_comm]
    _ = a * (pT p * PQ pT pt r) := by rw [e1, Int.mul_assoc]
    _ = b * (pL p * PQ pL pt r) := he
    _ = b' * d * PQ pL pt r := by rw [e2, Int.mul_assoc]
    _ = b' * PQ pL pt r * d := by rw [Int.mul_right_comm]
theorem WS_b {l : List Nat} {a b : Int} (h : WS pt pT pL l a b) (hl : l.length ≤ 7) (hT : ∀ p, p ∈ l → pt p = 5 → 1 ≤ pT p ∧ pT p ≤ 16) (hL : ∀ p, p ∈ l → pt p = 5 → 1 ≤ pL p ∧ pL p ≤ 16) : a ≤ 268435456 ∧ b ≤ 268435456 := by
  obtain ⟨h1, h2, he, hg⟩ := h
  obtain ⟨t1, t2⟩ := PQ_b l hT
  obtain ⟨l1, l2⟩ := PQ_b l hL
  have hp : (16 : Int) ^ l.length ≤ 268435456 := by
    have q : (16 : Nat) ^ l.length ≤ 16 ^ 7 := Nat.pow_le_pow_right (by decide) hl
    have q2 : ((16 ^ l.length : Nat) : Int) ≤ ((16 ^ 7 : Nat) : Int) := Int.ofNat_le.mpr q
    rw [Int.natCast_pow] at q2
    exact q2
  have hc : Nat.Coprime a.natAbs b.natAbs := hg
  have da : a ∣ PQ pL pt l := by
    have q : a.natAbs ∣ b.natAbs * (PQ pL pt l).natAbs := by rw [← Int.natAbs_mul]; exact Int.natAbs_dvd_natAbs.mpr ⟨PQ pT pt l, he.symm⟩
    exact Int.natAbs_dvd_natAbs.mp (Nat.Coprime.dvd_of_dvd_mul_left hc q)
  have db : b ∣ PQ pT pt l := by
    have q : b.natAbs ∣ a.natAbs * (PQ pT pt l).natAbs := by rw [← Int.natAbs_mul]; exact Int.natAbs_dvd_natAbs.mpr ⟨PQ pL pt l, he⟩
    exact Int.natAbs_dvd_natAbs.mp (Nat.Coprime.dvd_of_dvd_mul_left hc.symm q)
  have ga := Int.le_of_dvd (by omega) da
  have gb := Int.le_of_dvd (by omega) db
  exact ⟨by omega, by omega⟩
/-- where the walk stands -/
def WI (pt cc pT pL : fn_T) (stk : Nat → List Nat) (n : Nat) (k d : Int) (wa tu ts : fn_T) (a b : Int) : Prop :=
  0 ≤ k ∧ k ≤ n ∧ 0 ≤ d ∧ WD pt cc wa tu ts (stk k.toNat) d.toNat ∧ WS pt pT pL (stk k.toNat) a b
theorem WI_b {k d a b : Int} (hV : VS pt mt fc nc lc cc pT pL n stk) (h : WI pt cc pT pL stk n k d wa tu ts a b) : 0 ≤ d ∧ d ≤ 7 ∧ 1 ≤ a ∧ 1 ≤ b ∧ a ≤ 268435456 ∧ b ≤ 268435456 := by
  obtain ⟨v0, v1, v2, v3, v4, v5, v6⟩ := hV
  obtain ⟨h1, h2, h3, h4, h5⟩ := h
  have q1 := WD_len _ _ h4
  have q2 := v6 k.toNat (by omega)
  have hm : ∀ p, p ∈ stk k.toNat → p < n := fun p hp => by have := (vs_mem v0 v1 k.toNat (by omega) p hp).1; omega
  have q3 := WS_b h5 q2 (fun p hp h => (v5 p (hm p hp) h).1) (fun p hp h => (v5 p (hm p hp) h).2)
  exact ⟨h3, by omega, h5.1, h5.2.1, q3.1, q3.2⟩
theorem WI_0 (hV : VS pt mt fc nc lc cc pT pL n stk) : WI pt cc pT pL stk n 0 0 wa tu ts 1 1 := by
  obtain ⟨v0, -⟩ := hV
  refine ⟨by omega, by omega, by omega, ?_, ?_⟩
  · show WD pt cc wa tu ts (stk 0) 0
    rw [v0]; exact rfl
  · show WS pt pT pL (stk 0) 1 1
    rw [v0]; exact WS_0
theorem WI_e {k d a b : Int} (h : WI pt cc pT pL stk n k d wa tu ts a b) (hf : ∀ i : Nat, (i : Int) < d → wa' i = wa i ∧ tu' i = tu i ∧ ts' i = ts i) : WI pt cc pT pL stk n k d wa' tu' ts' a b := by
  obtain ⟨h1, h2, h3, h4, h5⟩ := h
  exact ⟨h1, h2, h3, WD_e _ _ (fun i hi => hf i (by omega)) h4, h5⟩
/-- a sound, a line -/
theorem WI_s {k d a b : Int} (hV : VS pt mt fc nc lc cc pT pL n stk) (h : WI pt cc pT pL stk n k d wa tu ts a b) (hk : k < n) (hp : pt k.toNat = 0 ∨ pt k.toNat = 1) : WI pt cc pT pL stk n (k + 1) d wa tu ts a b := by
  obtain ⟨v0, v1, -⟩ := hV
  obtain ⟨h1, h2, h3, h4, h5⟩ := h
  have e : stk (k + 1).toNat = stk k.toNat := by
    rw [show (k + 1).toNat = k.toNat + 1 by omega]
    rcases v1 k.toNat (by omega) with ⟨-, e⟩ | ⟨q, -⟩ | ⟨q, -⟩ | ⟨q, -⟩ | ⟨q, -⟩
    · exact e
    all_goals omega
  refine ⟨by omega, by omega, h3, ?_, ?_⟩
  · rw [e]; exact h4
  · rw [e]; exact h5
/-- an open [ -/
theorem WI_2 {k d a b : Int} (hV : VS pt mt fc nc lc cc pT pL n stk) (h : WI pt cc pT pL stk n k d wa tu ts a b) (hk : k < n) (hp : pt k.toNat = 2) (hf : ∀ i : Nat, (i : Int) < d → wa' i = wa i ∧ tu' i = tu i ∧ ts' i = ts i) (e1 : wa' d.toNat = k) (e2 : tu' d.toNat = 1) (e3 : (cc k.toNat = 0 ∧ ts' d.toNat = 2) ∨ (cc k.toNat ≠ 0 ∧ ts' d.toNat = cc k.toNat)) : WI pt cc pT pL stk n (k + 1) (d + 1) wa' tu' ts' a b := by
  obtain ⟨v0, v1, v2, -⟩ := hV
  obtain ⟨h1, h2, h3, h4, h5⟩ := h
  have hcc := (v2 k.toNat (by omega) hp).1
  have e : stk (k + 1).toNat = k.toNat :: stk k.toNat := by
    rw [show (k + 1).toNat = k.toNat + 1 by omega]
    rcases v1 k.toNat (by omega) with ⟨q, -⟩ | ⟨-, e⟩ | ⟨q, -⟩ | ⟨q, -⟩ | ⟨q, -⟩
    · omega
    · exact e
    all_goals omega
  refine ⟨by omega, by omega, by omega, ?_, ?_⟩
  · rw [e]
    refine Or.inl ⟨hp, d.toNat, by omega, by omega, by omega, ?_, ?_, WD_e _ _ (fun i hi => hf i (by omega)) h4⟩
    · rcases e3 with q | q <;> omega
    · rcases e3 with q | q
      · exact Or.inl q
      · exact Or.inr ⟨by omega, q.2⟩
  · rw [e]
    exact (WS_n (by omega)).mpr h5
/-- an open proportion -/
theorem WI_5 {k d a b a' b' g : Int} (hV : VS pt mt fc nc lc cc pT pL n stk) (h : WI pt cc pT pL stk n k d wa tu ts a b) (hk : k < n) (hp : pt k.toNat = 5) (h1' : 1 ≤ a') (h2' : 1 ≤ b') (e1 : a' * g = a * pL k.toNat) (e2 : b' * g = b * pT k.toNat) (hd : g ≠ 0) (hg : Int.gcd a' b' = 1) : WI pt cc pT pL stk n (k + 1) d wa tu ts a' b' := by
  obtain ⟨v0, v1, -⟩ := hV
  obtain ⟨h1, h2, h3, h4, h5⟩ := h
  have e : stk (k + 1).toNat = k.toNat :: stk k.toNat := by
    rw [show (k + 1).toNat = k.toNat + 1 by omega]
    rcases v1 k.toNat (by omega) with ⟨q, -⟩ | ⟨-, e⟩ | ⟨q, -⟩ | ⟨q, -⟩ | ⟨q, -⟩
    · omega
    · exact e
    all_goals omega
  refine ⟨by omega, by omega, h3, ?_, ?_⟩
  · rw [e]; exact Or.inr ⟨hp, h4⟩
  · rw [e]; exact WS_5 hp h5 h1' h2' e1 e2 hd hg
/-- a proportion's end: what it closes -/
theorem WI_6p {k d a b : Int} (hV : VS pt mt fc nc lc cc pT pL n stk) (h : WI pt cc pT pL stk n k d wa tu ts a b) (hk : k < n) (hp : pt k.toNat = 6) : ∃ p : Nat, mt k.toNat = (p : Int) ∧ p < n ∧ pt p = 5 ∧ (1 ≤ pT p ∧ pT p ≤ 16) ∧ 1 ≤ pL p ∧ pL p ≤ 16 := by
  obtain ⟨v0, v1, -, -, -, v5, -⟩ := hV
  obtain ⟨h1, -⟩ := h
  rcases v1 k.toNat (by omega) with ⟨q, -⟩ | ⟨q, -⟩ | ⟨q, -⟩ | ⟨q, -⟩ | ⟨-, p, r, e1, e2, e3, e4⟩
  · omega
  · omega
  · omega
  · omega
  · have hpn := (vs_chain v0 v1 k.toNat (by omega) p r e1).1
    exact ⟨p, e4, by omega, e2, v5 p (by omega) e2⟩
theorem WI_6 {k d a b a' b' g : Int} {p : Nat} (hV : VS pt mt fc nc lc cc pT pL n stk) (h : WI pt cc pT pL stk n k d wa tu ts a b) (hk : k < n) (hp : pt k.toNat = 6) (hm : mt k.toNat = (p : Int)) (h1' : 1 ≤ a') (h2' : 1 ≤ b') (e1 : a' * g = a * pT p) (e2 : b' * g = b * pL p) (hd : g ≠ 0) (hg : Int.gcd a' b' = 1) : WI pt cc pT pL stk n (k + 1) d wa tu ts a' b' := by
  obtain ⟨v0, v1, -⟩ := hV
  obtain ⟨h1, h2, h3, h4, h5⟩ := h
  rcases v1 k.toNat (by omega) with ⟨q, -⟩ | ⟨q, -⟩ | ⟨q, -⟩ | ⟨q, -⟩ | ⟨-, p', r, s1, s2, s3, s4⟩
  · omega
  · omega
  · omega
  · omega
  · have hpp : p' = p := by omega
    subst hpp
    rw [s1] at h4 h5
    have e : stk (k + 1).toNat = r := by rw [show (k + 1).toNat = k.toNat + 1 by omega]; exact s3
    refine ⟨by omega, by omega, h3, ?_, ?_⟩
    · rw [e]
      rcases h4 with ⟨q, -⟩ | ⟨-, h4⟩
      · omega
      · exact h4
    · rw [e]; exact WS_6 s2 h5 h1' h2' e1 e2 hd hg
/-- at a : or a ]: the [ that is open -/
theorem WI_top {k d a b : Int} (hV : VS pt mt fc nc lc cc pT pL n stk) (hn : stk n = []) (h : WI pt cc pT pL stk n k d wa tu ts a b) (hk : k < n) (hp : pt k.toNat = 3 ∨ pt k.toNat = 4) :
    ∃ p : Nat, 1 ≤ d ∧ wa (d - 1).toNat = (p : Int) ∧ (p : Int) < k ∧ pt p = 2 ∧ 1 ≤ tu (d - 1).toNat ∧ tu (d - 1).toNat ≤ ts (d - 1).toNat ∧ (∃ c : Nat, mt p = (c : Int) ∧ k ≤ c ∧ c < n ∧ (∀ wa' tu' ts' : fn_T, (∀ i : Nat, (i : Int) < d - 1 → wa' i = wa i ∧ tu' i = tu i ∧ ts' i = ts i) → WI pt cc pT pL stk n ((c : Int) + 1) (d - 1) wa' tu' ts' a b)) ∧
      (∀ wa' tu' ts' : fn_T, (∀ i : Nat, (i : Int) < d - 1 → wa' i = wa i ∧ tu' i = tu i ∧ ts' i = ts i) → wa' (d - 1).toNat = (p : Int) → ts' (d - 1).toNat = ts (d - 1).toNat → 1 ≤ tu' (d - 1).toNat → tu' (d - 1).toNat ≤ ts (d - 1).toNat → WI pt cc pT pL stk n ((p : Int) + 1) d wa' tu' ts' a b) ∧
      (pt k.toNat = 3 → 1 ≤ cc p ∧ ts (d - 1).toNat = cc p ∧ v_col pt fc nc lc cc stk n p ∧ ∀ j : Nat, (j : Int) < cc p → WI pt cc pT pL stk n ((col fc nc p j : Int) + 1) d wa tu ts a b) := by
  obtain ⟨v0, v1, v2, v3, -⟩ := hV
  obtain ⟨h1, h2, h3, h4, h5⟩ := h
  have hs : ∃ p r, stk k.toNat = p :: r ∧ pt p = 2 := by
    rcases v1 k.toNat (by omega) with ⟨q, -⟩ | ⟨q, -⟩ | ⟨-, -, q⟩ | ⟨-, p, r, q1, q2, -⟩ | ⟨q, -⟩
    · omega
    · omega
    · exact q
    · exact ⟨p, r, q1, q2⟩
    · omega
  obtain ⟨p, r, s1, s2⟩ := hs
  have hc := vs_chain v0 v1 k.toNat (by omega) p r s1
  obtain ⟨c, c1, c2, c3, c4, -, c5⟩ := vs_close v0 v1 hn (n - k.toNat) k.toNat (by omega) p (by rw [s1]; exact List.mem_cons_self ..) s2
  rw [s1] at h4 h5
  rcases h4 with ⟨-, e, w1, w2, w3, w4, w5, w6⟩ | ⟨q, -⟩
  · have ed : (d - 1).toNat = e := by omega
    have h5' := (WS_n (by omega)).mp h5
    have sp : stk (p + 1) = p :: r := by
      rcases v1 p (by omega) with ⟨q, -⟩ | ⟨-, q⟩ | ⟨q, -⟩ | ⟨q, -⟩ | ⟨q, -⟩
      · omega
      · rw [q, hc.2.1]
      all_goals omega
    rw [ed]
    refine ⟨p, by omega, w2, by omega, s2, w3, w4, ⟨c, c1, by omega, c3, fun wa' tu' ts' hf => ?_⟩, fun wa' tu' ts' hf f1 f2 f3 f4 => ?_, fun hp3 => ?_⟩
    · have ec : stk ((c : Int) + 1).toNat = r := by rw [show ((c : Int) + 1).toNat = c + 1 by omega, c5, hc.2.1]
      refine ⟨by omega, by omega, by omega, ?_, ?_⟩
      · rw [ec, ed]; exact WD_e _ _ (fun i hi => hf i (by omega)) w6
      · rw [ec]; exact h5'
    · have ep : stk ((p : Int) + 1).toNat = p :: r := by rw [show ((p : Int) + 1).toNat = p + 1 by omega]; exact sp
      refine ⟨by omega, by omega, by omega, ?_, ?_⟩
      · rw [ep]
        exact Or.inl ⟨s2, e, w1, f1, f3, by rw [f2]; exact f4, by rw [f2]; exact w5, WD_e _ _ (fun i hi => hf i (by omega)) w6⟩
      · rw [ep]; exact h5
    · have g1 := v3 k.toNat (by omega) hp3 p r s1
      have g2 := (v2 p (by omega) s2).2
      refine ⟨g1, by rcases w5 with q | q <;> omega, g2, fun j hj => ?_⟩
      obtain ⟨y1, y2, ⟨r', y3⟩, -⟩ := g2.1 j hj
      have y4 := vs_chain v0 v1 _ (by omega) p r' y3
      have ej : stk ((col fc nc p j : Int) + 1).toNat = p :: r := by
        rw [show ((col fc nc p j : Int) + 1).toNat = col fc nc p j + 1 by omega]
        rcases v1 _ y1 with ⟨q, -⟩ | ⟨q, -⟩ | ⟨-, q, -⟩ | ⟨q, -⟩ | ⟨q, -⟩
        · omega
        · omega
        · rw [q, y3, y4.2.1, hc.2.1]
        all_goals omega
      refine ⟨by omega, by omega, h3, ?_, ?_⟩
      · rw [ej]; exact Or.inl ⟨s2, e, w1, w2, w3, w4, w5, w6⟩
      · rw [ej]; exact h5
  · omega
end WLK
theorem col_n {fc nc : fn_T} {p : Nat} {i x z : Int} (h : x = (col fc nc p (i - 1).toNat : Int)) (hi : 1 ≤ i) (hz : z = nc x.toNat) (h0 : 0 ≤ z) : z = (col fc nc p (i + 1 - 1).toNat : Int) := by
  have e : (i + 1 - 1).toNat = (i - 1).toNat + 1 := by omega
  rw [e]
  show z = ((nc (col fc nc p (i - 1).toNat)).toNat : Int)
  rw [h, Int.toNat_natCast] at hz
  omega
theorem col_z {fc nc : fn_T} {p : Nat} {x : Int} (h : x = fc p) (h0 : 0 ≤ x) : x = (col fc nc p ((1 : Int) - 1).toNat : Int) := by
  show x = ((fc p).toNat : Int)
  omega
theorem sc_ok {p q dd x y A B a1 a2 s1 s2 t l : Int} (o1 : p * dd = x) (o2 : q * dd = y) (o4 : 1 ≤ q) (o8 : 1 ≤ x → 1 ≤ p) (o9 : Int.gcd p q = 1) (ex : x = s1 * a1) (ey : y = s2 * a2) (e1 : s1 = A) (e2 : s2 = B) (et : t = p) (el : l = q) (hx : 1 ≤ x) : (∃ d : Int, d ≠ 0 ∧ t * d = A * a1 ∧ l * d = B * a2) ∧ 1 ≤ t ∧ 1 ≤ l ∧ Int.gcd t l = 1 := by
  subst et el e1 e2
  exact ⟨⟨dd, fun h0 => by rw [h0, Int.mul_zero] at o1; omega, o1.trans ex, o2.trans ey⟩, o8 hx, o4, o9⟩
