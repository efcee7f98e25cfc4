/-! ===== how many faults there can be ===== -/
theorem FO_m {h : ah_T} {v b i b' i' : Int} (H : FO h v b i) (H' : FO h v b' i') (hb : b' ≤ b) : i' ≤ i := by
  obtain ⟨a1, a2, -, a4⟩ := H
  obtain ⟨c1, c2, c3, -⟩ := H'
  rcases Int.lt_or_le i i' with q | q
  · exfalso
    have x := c3 i.toNat (by omega)
    have y := a4 (by omega)
    rw [show ((i.toNat : Nat) : Int) = i by omega] at x
    omega
  · exact q
theorem FO_e {P : Nat → Nat → Bool} {h q : ah_T} {v b i : Int} (kn : kM P h q) (p1 : ∀ j, P 185 j = false) (p2 : ∀ j, P 196 j = false) (H : FO q v b i) : FO h v b i := by
  obtain ⟨a1, a2, a3, a4⟩ := H
  rw [kn.2.2.1 185 _ (p1 _)] at a2 a4
  rw [kn.2.2.1 196 _ (p2 _)] at a4
  exact ⟨a1, a2, fun j hj => by rw [← kn.2.2.1 196 _ (p2 _)]; exact a3 j hj, a4⟩
def JF (v i B f : Int) : Prop := (v = 0 ∧ f ≤ 2 * i + B) ∨ (v = 1 ∧ f ≤ 703 + 4 * i + B) ∨ (v = 2 ∧ f ≤ 2008 + 6 * i + B) ∨ (v = 3 ∧ f ≤ 3915 + 8 * i + B)
def JV (v f : Int) : Prop := (v = 0 ∧ f ≤ 0) ∨ (v = 1 ∧ f ≤ 703) ∨ (v = 2 ∧ f ≤ 2008) ∨ (v = 3 ∧ f ≤ 3915) ∨ (v = 4 ∧ f ≤ 6424)
def JI (h : ah_T) (v i f : Int) : Prop := ∃ B : Int, 0 ≤ B ∧ B ≤ h.2.1 186 v.toNat ∧ JF v i B f ∧ ∀ b i' : Int, 0 ≤ b → b < B → FO h v b i' → i' < i
def JB (h : ah_T) (v i b f : Int) : Prop := ∃ B : Int, 0 ≤ B ∧ B ≤ h.2.1 186 v.toNat ∧ JF v i B f ∧ (∀ b' i' : Int, 0 ≤ b' → b' < B → FO h v b' i' → i' ≤ i) ∧ (B ≤ b ∨ ∀ b' i' : Int, 0 ≤ b' → b' < B → FO h v b' i' → i' < i)
theorem JI_0 {h : ah_T} {v f : Int} (h0 : 0 ≤ h.2.1 186 v.toNat) (hv : v ≤ 3) (H : JV v f) : JI h v 0 f := by
  refine ⟨0, Int.le_refl _, h0, ?_, fun b i' h1 h2 => by omega⟩
  unfold JV at H
  unfold JF
  omega
theorem JB_0 {h : ah_T} {v i f : Int} (H : JI h v i f) : JB h v i 0 f := by
  obtain ⟨B, b1, b2, b3, b4⟩ := H
  exact ⟨B, b1, b2, b3, fun b i' h1 h2 h3 => Int.le_of_lt (b4 b i' h1 h2 h3), Or.inr b4⟩
theorem JB_n {h : ah_T} {v i b f : Int} (H : JB h v i b f) : JB h v i (b + 1) f := by
  obtain ⟨B, b1, b2, b3, b4, b5⟩ := H
  exact ⟨B, b1, b2, b3, b4, b5.elim (fun q => Or.inl (by omega)) Or.inr⟩
theorem JB_t {h : ah_T} {v i b f : Int} (H : JB h v i b f) (hf : FO h v b i) (h0 : 0 ≤ b) (hb : b < h.2.1 186 v.toNat) : JB h v i (b + 1) (f + 1) := by
  obtain ⟨B, b1, b2, b3, b4, b5⟩ := H
  have hB : B ≤ b := by
    rcases b5 with q | q
    · exact q
    · rcases Int.lt_or_le b B with c | c
      · have := q b i h0 c hf
        omega
      · exact c
  refine ⟨b + 1, by omega, by omega, ?_, fun b' i' h1 h2 h3 => FO_m hf h3 (by omega), Or.inl (Int.le_refl _)⟩
  unfold JF at b3 ⊢
  omega
theorem JI_s {h : ah_T} {v i b f f' : Int} (H : JB h v i b f) (hf : f' ≤ f + (2 + 2 * v)) : JI h v (i + 1) f' := by
  obtain ⟨B, b1, b2, b3, b4, -⟩ := H
  refine ⟨B, b1, b2, ?_, fun b' i' h1 h2 h3 => ?_⟩
  · unfold JF at b3 ⊢
    omega
  · have := b4 b' i' h1 h2 h3
    omega
theorem JV_s {h : ah_T} {v i f : Int} (H : JI h v i f) (hi : i ≤ 301) (hb : h.2.1 186 v.toNat ≤ 101) : JV (v + 1) f := by
  obtain ⟨B, b1, b2, b3, -⟩ := H
  unfold JF at b3
  unfold JV
  omega
theorem JV_z {v f : Int} (H : JV v f) : f ≤ 8000 := by
  unfold JV at H
  omega
/-! ===== short events, counted ===== -/
def SN (h : ah_T) : Nat → Int
  | 0 => 0
  | e + 1 => SN h e + SHq h e
theorem SH_r {h : ah_T} {e : Nat} : 0 ≤ SHq h e ∧ SHq h e ≤ 1 := by
  unfold SHq
  by_cases hc : 0 < h.2.1 191 e ∧ 8 ≤ h.2.1 197 e
  · rw [if_pos hc]; omega
  · rw [if_neg hc]; omega
theorem SH_e {P : Nat → Nat → Bool} {h q : ah_T} {e : Nat} (kn : kM P h q) (p1 : ∀ j, P 191 j = false) (p2 : ∀ j, P 197 j = false) : SHq q e = SHq h e := by
  unfold SHq
  rw [kn.2.2.1 191 _ (p1 _), kn.2.2.1 197 _ (p2 _)]
theorem SN_s {h : ah_T} {a b : Nat} (hb : b = a + 1) : SN h b = SN h a + SHq h a := by
  subst hb
  rfl
theorem SN_m {h : ah_T} {a : Nat} : ∀ b, a ≤ b → SN h a ≤ SN h b := by
  intro b
  induction b with
  | zero => intro hb; rw [show a = 0 by omega]; exact Int.le_refl _
  | succ b ih =>
    intro hb
    by_cases hc : a = b + 1
    · rw [hc]; exact Int.le_refl _
    · have h1 := ih (by omega)
      have h2 := SN_s (h := h) (rfl : b + 1 = b + 1)
      have h3 := SH_r (h := h) (e := b)
      omega
