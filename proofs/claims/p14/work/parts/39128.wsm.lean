/-! ===== all widths of a page together ===== -/
def DA (μ : pm_T) (k : Nat) : Nat → Int
  | 0 => 0
  | n + 1 => DA μ k n + (brE μ n k : Int)
def DW (μ : pm_T) (k : Nat) : Int := 10 * (k : Int) + 32 * DA μ k (μ 0 7).toNat
section
variable {μ : pm_T} {b : Nat}
theorem DA_b (GG : GM μ) : ∀ n : Nat, (n : Int) ≤ μ 0 7 → 0 ≤ DA μ b n ∧ DA μ b n ≤ 300 * (n : Int) ∧ DA μ b n ≤ DA μ (b + 1) n
  | 0, _ => by rw [DA, DA]; omega
  | n + 1, h => by
    have ih := DA_b GG n (by omega)
    have e := brE_b GG (b := b) (n := n) (by omega)
    have em := brE_m GG (b := b) (n := n) (by omega)
    have m := (GG.2.2 n (by omega)).1
    rw [DA, DA]
    omega
theorem sgV_8 {n : Nat} (GG : GM μ) (S : SG μ) (hn : (n : Int) < μ 0 7) : ∀ k : Nat, ((brE μ n b + k : Nat) : Int) ≤ μ (10 + n) 0 → sgV μ b n k ≤ 8 * (k : Int)
  | 0, _ => by rw [sgV]; omega
  | k + 1, hk => by
    have ih := sgV_8 GG S hn k (by omega)
    have M := ((GG.2.2 n hn).2.2.2.1 (brE μ n b + k) (by omega)).1
    have := S n (brE μ n b + k)
    rw [sgV]
    omega
theorem sgT_8 {n : Nat} (GG : GM μ) (S : SG μ) (hn : (n : Int) < μ 0 7) : sgT μ b n ≤ 8 * ((brE μ n (b + 1) : Int) - brE μ n b) := by
  have e1 := brE_b GG (b := b + 1) hn
  have em := brE_m GG (b := b) hn
  unfold sgT
  split
  · have := sgV_8 GG S hn (b := b) (brE μ n (b + 1) - brE μ n b) (by omega)
    omega
  · omega
theorem Nf_1 {n : Nat} (GG : GM μ) (hn : (n : Int) < μ 0 7) : (Nf μ b n (ptr0 μ b n) : Int) ≤ (brE μ n (b + 1) : Int) - brE μ n b := by
  have em := brE_m GG (b := b) hn
  have l := rkC_l (F := Fst μ b n) (t := tnd μ b n) (tnd μ b n - ptr0 μ b n)
  unfold Nf
  by_cases c : (b : Int) < μ (10 + n) 1
  · have e1 : tnd μ b n = brE μ n (b + 1) := by unfold tnd; rw [dif_t ⟨hn, c⟩]
    have e2 : ptr0 μ b n = brE μ n b := by unfold ptr0; rw [if_pos ⟨hn, c⟩]
    rw [e1, e2] at l ⊢
    omega
  · have e1 : tnd μ b n = 0 := by unfold tnd; rw [dif_f (fun q => c q.2)]
    rw [e1] at l ⊢
    omega
theorem ac_8 (GG : GM μ) (S : SG μ) : ∀ n : Nat, (n : Int) ≤ μ 0 7 → 8 * (acN μ b n : Int) + 3 * sgA μ b n ≤ 32 * (DA μ (b + 1) n - DA μ b n)
  | 0, _ => by rw [acN, sgA, DA, DA]; decide
  | n + 1, h => by
    have ih := ac_8 GG S n (by omega)
    have a := Nf_1 GG (b := b) (n := n) (by omega)
    have t := sgT_8 GG S (b := b) (n := n) (by omega)
    have em := brE_m GG (b := b) (n := n) (by omega)
    rw [acN, sgA, DA, DA]
    omega
theorem wdt_D (GG : GM μ) (S : SG μ) : 0 ≤ wdt μ b ∧ wdt μ b ≤ DW μ (b + 1) - DW μ b := by
  have b7 := GG.1.1
  have x := ac_8 GG S (b := b) (μ 0 7).toNat (by omega)
  have y := sgA_b GG (b := b) (μ 0 7).toNat (by omega)
  rw [acN_4 GG] at x
  unfold wdt DW
  omega
theorem DW_b (GG : GM μ) : 0 ≤ DW μ b ∧ DW μ b ≤ 10 * (b : Int) + 38400 := by
  have b7 := GG.1.1
  have x := DA_b GG (b := b) (μ 0 7).toNat (by omega)
  unfold DW
  omega
end
