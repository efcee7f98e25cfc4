/-! ===== doubles that are no NaN: sizes ===== -/
theorem fp_t : FP.Core.b64.tails = 4503599627370496 := by decide
theorem fp_x : FP.Core.b64.exps = 2048 := by decide
theorem fp_qn : FP.Core.b64.qmin = -1074 := by decide
theorem fp_qx : FP.Core.b64.qmax = 971 := by decide
theorem fp_p : (2 : Nat) ^ FP.Core.b64.p = 9007199254740992 := by decide
def dm (d : UInt64) : FP.Core.Datum := FP.Core.decode FP.Core.b64 d.toNat
def fpd_OK (s : Bool) (c : Nat) (q : Int) : Prop := c < 9007199254740992 ∧ -1074 ≤ q ∧ q ≤ 971 ∧ (q = -1074 ∨ 4503599627370496 ≤ c)
theorem enc_dm {s : Bool} {c : Nat} {q : Int} (h : fpd_OK s c q) : dm (UInt64.ofNat (FP.Core.encode FP.Core.b64 (.fin s c q))) = .fin s c q ∧ vf_n64 (UInt64.ofNat (FP.Core.encode FP.Core.b64 (.fin s c q))) := by
  obtain ⟨h1, h2, h3, h4⟩ := h
  have hn : ∃ b e t : Nat, b < 2 ∧ e < 2047 ∧ t < 4503599627370496 ∧ b = s.toNat ∧ FP.Core.encode FP.Core.b64 (.fin s c q) = (b * 2048 + e) * 4503599627370496 + t ∧ ((e = 0 ∧ t = c ∧ q = -1074) ∨ (e ≠ 0 ∧ 4503599627370496 + t = c ∧ q = -1074 + ((e : Int) - 1))) := by
    unfold FP.Core.encode FP.Core.assemble
    rw [fp_t, fp_x, fp_qn]
    have hb : s.toNat < 2 := by cases s <;> decide
    by_cases hc : c < 4503599627370496
    · dsimp only
      rw [if_pos hc]
      exact ⟨s.toNat, 0, c, hb, by omega, hc, rfl, by omega, Or.inl ⟨rfl, rfl, by omega⟩⟩
    · dsimp only
      rw [if_neg hc]
      exact ⟨s.toNat, (q - -1074).toNat + 1, c - 4503599627370496, hb, by omega, by omega, rfl, rfl, Or.inr ⟨by omega, by omega, by omega⟩⟩
  obtain ⟨b, e, t, hb, he, ht, hs, hE, hc⟩ := hn
  rw [hE]
  generalize hN : (b * 2048 + e) * 4503599627370496 + t = N
  have hlt : N < 18446744073709551616 := by omega
  have hto : (UInt64.ofNat N).toNat = N := by rw [UInt64.toNat_ofNat']; exact Nat.mod_eq_of_lt hlt
  constructor
  · unfold dm
    rw [hto]
    unfold FP.Core.decode FP.Core.fieldE FP.Core.fieldT FP.Core.fieldS
    rw [fp_t, fp_x, fp_qn]
    have e1 : N / 4503599627370496 % 2048 = e := by omega
    have e2 : N % 4503599627370496 = t := by omega
    have e3 : N / 4503599627370496 / 2048 % 2 = b := by omega
    rw [e1, e2, e3, if_neg (by omega)]
    have e4 : (b == 1) = s := by rw [hs]; cases s <;> rfl
    rw [e4]
    rcases hc with ⟨q1, q2, q3⟩ | ⟨q1, q2, q3⟩
    · rw [if_pos q1, q2, q3]
    · rw [if_neg q1, q2, q3]
  · unfold vf_n64
    apply UInt64.le_iff_toNat_le.mpr
    rw [UInt64.toNat_and, hto]
    have e5 : (9223372036854775807 : UInt64).toNat = 2 ^ 63 - 1 := by decide
    have e6 : (9218868437227405312 : UInt64).toNat = 9218868437227405312 := by decide
    rw [e5, e6, Nat.and_two_pow_sub_one_eq_mod]
    omega
theorem lead_s {A B : Nat} (hA : 0 < A) (hB : 0 < B) : B * 2 ^ (FP.Core.leading A B).toNat ≤ A * 2 ^ (-(FP.Core.leading A B)).toNat ∧ A * 2 ^ (-(FP.Core.leading A B + 1)).toNat < B * 2 ^ (FP.Core.leading A B + 1).toNat := by
  have a1 : 2 ^ A.log2 ≤ A := Nat.log2_self_le (by omega)
  have a2 : A < 2 ^ (A.log2 + 1) := Nat.lt_log2_self
  have b1 : 2 ^ B.log2 ≤ B := Nat.log2_self_le (by omega)
  have b2 : B < 2 ^ (B.log2 + 1) := Nat.lt_log2_self
  have pm : ∀ x y z : Nat, x ≤ y → x * 2 ^ z ≤ y * 2 ^ z := fun x y z h => Nat.mul_le_mul_right _ h
  have pml : ∀ x y z : Nat, x < y → x * 2 ^ z < y * 2 ^ z := fun x y z h => Nat.mul_lt_mul_of_pos_right h (Nat.two_pow_pos _)
  have pe : ∀ x y z w : Nat, x + y = z + w → 2 ^ x * 2 ^ y = 2 ^ z * 2 ^ w := fun x y z w h => by rw [← Nat.pow_add, ← Nat.pow_add, h]
  unfold FP.Core.leading
  generalize A.log2 = n at *
  generalize B.log2 = d at *
  dsimp only
  split
  · rename_i hc
    refine ⟨hc, ?_⟩
    calc A * 2 ^ (-((n : Int) - d + 1)).toNat < 2 ^ (n + 1) * 2 ^ (-((n : Int) - d + 1)).toNat := pml _ _ _ a2
      _ = 2 ^ d * 2 ^ ((n : Int) - d + 1).toNat := pe _ _ _ _ (by omega)
      _ ≤ B * 2 ^ ((n : Int) - d + 1).toNat := pm _ _ _ b1
  · rename_i hc
    constructor
    · calc B * 2 ^ ((n : Int) - d - 1).toNat ≤ 2 ^ (d + 1) * 2 ^ ((n : Int) - d - 1).toNat := pm _ _ _ (Nat.le_of_lt b2)
        _ = 2 ^ n * 2 ^ (-((n : Int) - d - 1)).toNat := pe _ _ _ _ (by omega)
        _ ≤ A * 2 ^ (-((n : Int) - d - 1)).toNat := pm _ _ _ a1
    · rw [show (n : Int) - d - 1 + 1 = (n : Int) - d by omega]
      omega
/-- A / B * 2^e is at most N units of 2^-1074 -/
def ub (A B : Nat) (e : Int) (N : Nat) : Prop := A * 2 ^ (e + 1074).toNat ≤ N * (B * 2 ^ (-1074 - e).toNat)
def lb (A B : Nat) (e : Int) (L : Nat) : Prop := B * 2 ^ (-1074 - e).toNat * 2 ^ 1074 ≤ A * 2 ^ (e + 1074).toNat * 2 ^ L
theorem pw_c {x y z : Nat} (h : x * 2 ^ z ≤ y * 2 ^ z) : x ≤ y := Nat.le_of_mul_le_mul_right h (Nat.two_pow_pos z)
theorem near_le {A B M : Nat} (hB : 0 < B) (h : A ≤ M * B) : FP.Core.nearest A B ≤ M := by
  have h1 := Nat.div_add_mod A B
  have h2 := Nat.mod_lt A hB
  by_cases hm : A / B < M
  · unfold FP.Core.nearest
    split
    · omega
    · split <;> omega
  · have h3 : B * M ≤ B * (A / B) := Nat.mul_le_mul_left _ (by omega)
    have h4 : A % B = 0 := by rw [Nat.mul_comm M B] at h; omega
    have h5 : B * (A / B) ≤ B * M := by rw [Nat.mul_comm M B] at h; omega
    have h6 : A / B ≤ M := Nat.le_of_mul_le_mul_left h5 hB
    unfold FP.Core.nearest
    rw [h4, if_pos (by omega)]
    exact h6
theorem near_ge {A B M : Nat} (hB : 0 < B) (h : M * B ≤ A) : M ≤ FP.Core.nearest A B := by
  have h1 : M ≤ A / B := (Nat.le_div_iff_mul_le hB).mpr h
  unfold FP.Core.nearest
  split
  · exact h1
  · split <;> omega
theorem rr_ok (s : Bool) {A B n T : Nat} {e : Int} (hB : 0 < B) (hn : n < 9007199254740992) (hT : T ≤ 900) (hu : ub A B e (n * 2 ^ (T + 1074))) :
    ∃ c q, FP.Core.roundRatio FP.Core.b64 s A B e = .fin s c q ∧ fpd_OK s c q ∧ c * 2 ^ (q + 1074).toNat ≤ n * 2 ^ (T + 1074) ∧ ∀ L, L ≤ 900 → lb A B e L → 2 ^ 1074 ≤ c * 2 ^ (q + 1074).toNat * 2 ^ L := by
  by_cases hA : A = 0
  · subst hA
    refine ⟨0, -1074, by unfold FP.Core.roundRatio; rw [if_pos rfl, fp_qn], ⟨by omega, by omega, by omega, Or.inl rfl⟩, by omega, fun L _ hl => ?_⟩
    unfold lb at hl
    have h9 : 0 < B * 2 ^ (-1074 - e).toNat * 2 ^ 1074 := Nat.mul_pos (Nat.mul_pos hB (Nat.two_pow_pos _)) (Nat.two_pow_pos _)
    rw [Nat.zero_mul, Nat.zero_mul] at hl
    omega
  · have hA0 : 0 < A := by omega
    obtain ⟨l1, l2⟩ := lead_s hA0 hB
    have hq : FP.Core.quantum FP.Core.b64 A B e = max (-1074) (FP.Core.leading A B + e - 52) := by
      unfold FP.Core.quantum
      rw [fp_qn]
      rfl
    generalize hk : FP.Core.leading A B = k at *
    unfold FP.Core.roundRatio
    rw [if_neg hA, hq]
    generalize hqq : max (-1074) (k + e - 52) = q
    have q0 : -1074 ≤ q := by omega
    unfold FP.Core.roundAt FP.Core.unitsNum FP.Core.unitsDen
    have hD : 0 < B * 2 ^ (q - e).toNat := Nat.mul_pos hB (Nat.two_pow_pos _)
    generalize hm : FP.Core.nearest (A * 2 ^ (e - q).toNat) (B * 2 ^ (q - e).toNat) = m
    have pe : ∀ x y z w : Nat, x + y = z + w → 2 ^ x * 2 ^ y = 2 ^ z * 2 ^ w := fun x y z w h => by rw [← Nat.pow_add, ← Nat.pow_add, h]
    -- where the quantum is not the least one, the value is at least 2^(q+52)
    have big : q ≠ -1074 → B * 2 ^ (q - e).toNat * 2 ^ 52 ≤ A * 2 ^ (e - q).toNat := by
      intro hne
      have hk2 : k = q - e + 52 := by omega
      apply pw_c (z := (q - e + 52).toNat)
      apply pw_c (z := (-k).toNat)
      rw [hk2] at l1 ⊢
      calc B * 2 ^ (q - e).toNat * 2 ^ 52 * 2 ^ (q - e + 52).toNat * 2 ^ (-(q - e + 52)).toNat
          = (B * 2 ^ (q - e + 52).toNat) * (2 ^ (q - e).toNat * 2 ^ (52 + (-(q - e + 52)).toNat)) := by rw [Nat.pow_add 2 52]; simp only [Nat.mul_assoc, Nat.mul_comm, Nat.mul_left_comm]
        _ ≤ (A * 2 ^ (-(q - e + 52)).toNat) * (2 ^ (q - e).toNat * 2 ^ (52 + (-(q - e + 52)).toNat)) := Nat.mul_le_mul_right _ l1
        _ = (A * 2 ^ (-(q - e + 52)).toNat) * (2 ^ (e - q).toNat * 2 ^ (q - e + 52).toNat) := by rw [pe (q - e).toNat (52 + (-(q - e + 52)).toNat) (e - q).toNat (q - e + 52).toNat (by omega)]
        _ = A * 2 ^ (e - q).toNat * 2 ^ (q - e + 52).toNat * 2 ^ (-(q - e + 52)).toNat := by simp only [Nat.mul_assoc, Nat.mul_comm, Nat.mul_left_comm]
    have small : A * 2 ^ (e - q).toNat ≤ 9007199254740992 * (B * 2 ^ (q - e).toNat) := by
      have hk2 : k + 1 ≤ q - e + 53 := by omega
      apply pw_c (z := (k + 1).toNat)
      apply pw_c (z := (-(k + 1)).toNat)
      calc A * 2 ^ (e - q).toNat * 2 ^ (k + 1).toNat * 2 ^ (-(k + 1)).toNat
          = (A * 2 ^ (-(k + 1)).toNat) * (2 ^ (e - q).toNat * 2 ^ (k + 1).toNat) := by simp only [Nat.mul_assoc, Nat.mul_comm, Nat.mul_left_comm]
        _ ≤ (B * 2 ^ (k + 1).toNat) * (2 ^ (e - q).toNat * 2 ^ (k + 1).toNat) := Nat.mul_le_mul_right _ (Nat.le_of_lt l2)
        _ ≤ (B * 2 ^ (k + 1).toNat) * (2 ^ (53 + (-(k + 1)).toNat) * 2 ^ (q - e).toNat) := Nat.mul_le_mul_left _ (by rw [← Nat.pow_add, ← Nat.pow_add]; exact Nat.pow_le_pow_right (by decide) (by omega))
        _ = 9007199254740992 * (B * 2 ^ (q - e).toNat) * 2 ^ (k + 1).toNat * 2 ^ (-(k + 1)).toNat := by rw [Nat.pow_add 2 53, show (9007199254740992 : Nat) = 2 ^ 53 by decide]; simp only [Nat.mul_assoc, Nat.mul_comm, Nat.mul_left_comm]
    -- q is at most T
    have qT : q ≤ T := by
      by_cases hgt : q ≤ T
      · exact hgt
      · exfalso
        have b := big (by omega)
        unfold ub at hu
        have h9 : n * 2 ^ (T + 1074) * (B * 2 ^ (-1074 - e).toNat) < A * 2 ^ (e + 1074).toNat := by
          apply Nat.lt_of_mul_lt_mul_right (a := 2 ^ (q - e).toNat)
          apply Nat.lt_of_mul_lt_mul_right (a := 2 ^ (e - q).toNat)
          calc n * 2 ^ (T + 1074) * (B * 2 ^ (-1074 - e).toNat) * 2 ^ (q - e).toNat * 2 ^ (e - q).toNat
              < 9007199254740992 * 2 ^ (T + 1074) * (B * 2 ^ (-1074 - e).toNat) * 2 ^ (q - e).toNat * 2 ^ (e - q).toNat := by
                apply Nat.mul_lt_mul_of_pos_right _ (Nat.two_pow_pos _)
                apply Nat.mul_lt_mul_of_pos_right _ (Nat.two_pow_pos _)
                apply Nat.mul_lt_mul_of_pos_right _ (Nat.mul_pos hB (Nat.two_pow_pos _))
                exact Nat.mul_lt_mul_of_pos_right hn (Nat.two_pow_pos _)
            _ = (B * 2 ^ (q - e).toNat * 2 ^ 52) * (2 ^ (T + 1075) * 2 ^ ((-1074 - e).toNat + (e - q).toNat)) := by
                rw [Nat.pow_add 2 (-1074 - e).toNat, show T + 1075 = (T + 1074) + 1 by omega, Nat.pow_succ 2 (T + 1074), show (9007199254740992 : Nat) = 2 ^ 52 * 2 by decide]
                simp only [Nat.mul_assoc, Nat.mul_comm, Nat.mul_left_comm]
            _ ≤ (A * 2 ^ (e - q).toNat) * (2 ^ (T + 1075) * 2 ^ ((-1074 - e).toNat + (e - q).toNat)) := Nat.mul_le_mul_right _ b
            _ ≤ (A * 2 ^ (e - q).toNat) * (2 ^ (e + 1074).toNat * 2 ^ (q - e).toNat) := Nat.mul_le_mul_left _ (by rw [← Nat.pow_add, ← Nat.pow_add]; exact Nat.pow_le_pow_right (by decide) (by omega))
            _ = A * 2 ^ (e + 1074).toNat * 2 ^ (q - e).toNat * 2 ^ (e - q).toNat := by simp only [Nat.mul_assoc, Nat.mul_comm, Nat.mul_left_comm]
        omega
    have mU : m ≤ n * 2 ^ (T - q).toNat := by
      rw [← hm]
      apply near_le hD
      apply pw_c (z := ((-1074 - e).toNat + (q + 1074).toNat))
      unfold ub at hu
      calc A * 2 ^ (e - q).toNat * 2 ^ ((-1074 - e).toNat + (q + 1074).toNat)
          = (A * 2 ^ (e + 1074).toNat) * 2 ^ (q - e).toNat := by
            rw [Nat.mul_assoc, Nat.mul_assoc, ← Nat.pow_add, ← Nat.pow_add]
            congr 2; omega
        _ ≤ (n * 2 ^ (T + 1074) * (B * 2 ^ (-1074 - e).toNat)) * 2 ^ (q - e).toNat := Nat.mul_le_mul_right _ hu
        _ = n * 2 ^ (T - q).toNat * (B * 2 ^ (q - e).toNat) * 2 ^ ((-1074 - e).toNat + (q + 1074).toNat) := by
            rw [Nat.pow_add 2 (-1074 - e).toNat, show T + 1074 = (T - q).toNat + (q + 1074).toNat by omega, Nat.pow_add 2 (T - q).toNat]
            simp only [Nat.mul_assoc, Nat.mul_comm, Nat.mul_left_comm]
    have m53 : m ≤ 9007199254740992 := by
      rw [← hm]
      exact near_le hD small
    have mL : q ≠ -1074 → 4503599627370496 ≤ m := by
      intro hne
      rw [← hm]
      apply near_ge hD
      have := big hne
      rw [Nat.mul_comm] at this
      exact this
    have mb : m * 2 ^ (q + 1074).toNat ≤ n * 2 ^ (T + 1074) := by
      calc m * 2 ^ (q + 1074).toNat ≤ n * 2 ^ (T - q).toNat * 2 ^ (q + 1074).toNat := Nat.mul_le_mul_right _ mU
        _ = n * 2 ^ (T + 1074) := by rw [Nat.mul_assoc, ← Nat.pow_add]; congr 2; omega
    have ml : ∀ L, L ≤ 900 → lb A B e L → 2 ^ 1074 ≤ m * 2 ^ (q + 1074).toNat * 2 ^ L := by
      intro L hL hl
      unfold lb at hl
      by_cases hqL : -(L : Int) ≤ q
      · have h1 : 1 ≤ m := by have := mL (by omega); omega
        calc 2 ^ 1074 ≤ 2 ^ (q + 1074).toNat * 2 ^ L := by rw [← Nat.pow_add]; exact Nat.pow_le_pow_right (by decide) (by omega)
          _ ≤ m * 2 ^ (q + 1074).toNat * 2 ^ L := by rw [Nat.mul_assoc]; exact Nat.le_mul_of_pos_left _ h1
      · have hM : 2 ^ (-(L : Int) - q).toNat ≤ m := by
          rw [← hm]
          apply near_ge hD
          apply pw_c (z := ((-1074 - e).toNat + (q + 1074).toNat + L))
          calc 2 ^ (-(L : Int) - q).toNat * (B * 2 ^ (q - e).toNat) * 2 ^ ((-1074 - e).toNat + (q + 1074).toNat + L)
              = (B * 2 ^ (-1074 - e).toNat * 2 ^ 1074) * 2 ^ (q - e).toNat := by
                rw [Nat.pow_add 2 _ L, Nat.pow_add 2 (-1074 - e).toNat]
                have h2 : 2 ^ (-(L : Int) - q).toNat * (2 ^ (q + 1074).toNat * 2 ^ L) = 2 ^ 1074 := by
                  rw [← Nat.pow_add, ← Nat.pow_add]; congr 1; omega
                rw [← h2]
                simp only [Nat.mul_assoc, Nat.mul_comm, Nat.mul_left_comm]
            _ ≤ (A * 2 ^ (e + 1074).toNat * 2 ^ L) * 2 ^ (q - e).toNat := Nat.mul_le_mul_right _ hl
            _ = A * 2 ^ (e - q).toNat * 2 ^ ((-1074 - e).toNat + (q + 1074).toNat + L) := by
                rw [Nat.pow_add 2 _ L, Nat.pow_add 2 (-1074 - e).toNat]
                have h3 : 2 ^ (e + 1074).toNat * 2 ^ (q - e).toNat = 2 ^ (e - q).toNat * (2 ^ (-1074 - e).toNat * 2 ^ (q + 1074).toNat) := by
                  rw [← Nat.pow_add, ← Nat.pow_add, ← Nat.pow_add]; congr 1; omega
                calc A * 2 ^ (e + 1074).toNat * 2 ^ L * 2 ^ (q - e).toNat = A * (2 ^ (e + 1074).toNat * 2 ^ (q - e).toNat) * 2 ^ L := by simp only [Nat.mul_assoc, Nat.mul_comm, Nat.mul_left_comm]
                  _ = _ := by rw [h3]; simp only [Nat.mul_assoc, Nat.mul_comm, Nat.mul_left_comm]
        calc 2 ^ 1074 = 2 ^ (-(L : Int) - q).toNat * 2 ^ (q + 1074).toNat * 2 ^ L := by rw [← Nat.pow_add, ← Nat.pow_add]; congr 1; omega
          _ ≤ m * 2 ^ (q + 1074).toNat * 2 ^ L := Nat.mul_le_mul_right _ (Nat.mul_le_mul_right _ hM)
    unfold FP.Core.settle FP.Core.bound
    rw [fp_p, fp_qx]
    by_cases hlt : m < 9007199254740992
    · rw [if_pos hlt, if_pos (by omega)]
      exact ⟨m, q, rfl, ⟨hlt, q0, by omega, (Classical.em (q = -1074)).elim Or.inl (fun hh => Or.inr (mL hh))⟩, mb, ml⟩
    · have hm2 : m = 9007199254740992 := by omega
      rw [if_neg hlt, if_pos (by omega), fp_t]
      have e9 : (4503599627370496 : Nat) * 2 ^ (q + 1 + 1074).toNat = m * 2 ^ (q + 1074).toNat := by
        rw [hm2, show (q + 1 + 1074).toNat = (q + 1074).toNat + 1 by omega, Nat.pow_succ]
        omega
      exact ⟨4503599627370496, q + 1, rfl, ⟨by omega, by omega, by omega, Or.inr (by omega)⟩, by rw [e9]; exact mb, fun L hL hl => by rw [e9]; exact ml L hL hl⟩
def fbn (d : UInt64) (n T : Nat) : Prop := ∃ s c q, dm d = .fin s c q ∧ -1074 ≤ q ∧ c * 2 ^ (q + 1074).toNat ≤ n * 2 ^ (T + 1074)
def flb (d : UInt64) (L : Nat) : Prop := ∃ s c q, dm d = .fin s c q ∧ -1074 ≤ q ∧ 2 ^ 1074 ≤ c * 2 ^ (q + 1074).toNat * 2 ^ L
theorem fbn_up {d : UInt64} {n T m U : Nat} (h : fbn d n T) (hnm : n * 2 ^ (T + 1074) ≤ m * 2 ^ (U + 1074)) : fbn d m U := by
  obtain ⟨s, c, q, h1, h2, h3⟩ := h
  exact ⟨s, c, q, h1, h2, Nat.le_trans h3 hnm⟩
theorem fbn_T {d : UInt64} {n T U : Nat} (h : fbn d n T) (hTU : T ≤ U) : fbn d n U := fbn_up h (Nat.mul_le_mul_left _ (Nat.pow_le_pow_right (by decide) (by omega)))
theorem fbn_n {d : UInt64} {n m T : Nat} (h : fbn d n T) (hnm : n ≤ m) : fbn d m T := fbn_up h (Nat.mul_le_mul_right _ hnm)
theorem fbn_2 {d : UInt64} {T : Nat} (h : fbn d 2 T) : fbn d 1 (T + 1) := by
  refine fbn_up h ?_
  have h1 : 2 ^ (T + 1 + 1074) = 2 ^ (T + 1074) * 2 := by
    rw [show T + 1 + 1074 = (T + 1074) + 1 by omega]
    exact Nat.pow_succ ..
  rw [h1, Nat.one_mul, Nat.mul_comm]
  exact Nat.le_refl _
theorem rr_f {s : Bool} {A B n T : Nat} {e : Int} (hB : 0 < B) (hn : n < 9007199254740992) (hT : T ≤ 900) (hu : ub A B e (n * 2 ^ (T + 1074))) :
    fbn (UInt64.ofNat (FP.Core.encode FP.Core.b64 (FP.Core.roundRatio FP.Core.b64 s A B e))) n T ∧ vf_n64 (UInt64.ofNat (FP.Core.encode FP.Core.b64 (FP.Core.roundRatio FP.Core.b64 s A B e))) ∧ ∀ L, L ≤ 900 → lb A B e L → flb (UInt64.ofNat (FP.Core.encode FP.Core.b64 (FP.Core.roundRatio FP.Core.b64 s A B e))) L := by
  obtain ⟨c, q, h1, h2, h3, h4⟩ := rr_ok s hB hn hT hu
  rw [h1]
  obtain ⟨h5, h6⟩ := enc_dm h2
  exact ⟨⟨s, c, q, h5, h2.2.1, h3⟩, h6, fun L hL hl => ⟨s, c, q, h5, h2.2.1, h4 L hL hl⟩⟩
theorem fp_div {x y : UInt64} {n T L : Nat} (hx : fbn x n T) (hy : flb y L) (hn : n < 9007199254740992) (hT : T + L ≤ 900) : fbn (FP.ddiv x y) n (T + L) ∧ vf_n64 (FP.ddiv x y) ∧ ∀ K U, K + U ≤ 900 → flb x K → fbn y 1 U → flb (FP.ddiv x y) (K + U) := by
  obtain ⟨s, c, q, h1, h2, h3⟩ := hx
  obtain ⟨t, d, r, g1, g2, g3⟩ := hy
  have hd : 0 < d := by
    rcases Nat.eq_zero_or_pos d with h | h
    · subst h
      have : 0 < 2 ^ 1074 := Nat.two_pow_pos _
      rw [Nat.zero_mul, Nat.zero_mul] at g3
      omega
    · exact h
  have e1 : FP.ddiv x y = UInt64.ofNat (FP.Core.encode FP.Core.b64 (FP.Core.roundRatio FP.Core.b64 (s != t) c d (q - r))) := by
    show UInt64.ofNat (FP.Core.encode FP.Core.b64 (FP.Core.quotient FP.Core.b64 (dm x) (dm y))) = _
    rw [h1, g1]
    unfold FP.Core.quotient
    dsimp only
    rw [if_neg (by omega)]
  have ee : 2 ^ (q - r + 1074).toNat * 2 ^ (r + 1074).toNat = 2 ^ (q + 1074).toNat * 2 ^ 1074 * 2 ^ (-1074 - (q - r)).toNat := by
    rw [← Nat.pow_add, ← Nat.pow_add, ← Nat.pow_add]; congr 1; omega
  have hu : ub c d (q - r) (n * 2 ^ (T + L + 1074)) := by
    unfold ub
    apply pw_c (z := (r + 1074).toNat)
    calc c * 2 ^ (q - r + 1074).toNat * 2 ^ (r + 1074).toNat = (c * 2 ^ (q + 1074).toNat) * (2 ^ 1074) * 2 ^ (-1074 - (q - r)).toNat := by
          rw [Nat.mul_assoc, ee]; simp only [Nat.mul_assoc, Nat.mul_comm, Nat.mul_left_comm]
      _ ≤ (n * 2 ^ (T + 1074)) * (d * 2 ^ (r + 1074).toNat * 2 ^ L) * 2 ^ (-1074 - (q - r)).toNat := Nat.mul_le_mul_right _ (Nat.mul_le_mul h3 g3)
      _ = n * 2 ^ (T + L + 1074) * (d * 2 ^ (-1074 - (q - r)).toNat) * 2 ^ (r + 1074).toNat := by
          rw [show T + L + 1074 = (T + 1074) + L by omega, Nat.pow_add 2 (T + 1074) L]
          simp only [Nat.mul_assoc, Nat.mul_comm, Nat.mul_left_comm]
  rw [e1]
  obtain ⟨r1, r2, r3⟩ := rr_f (s := s != t) hd hn hT hu
  refine ⟨r1, r2, fun K U hKU hk hu2 => r3 _ hKU ?_⟩
  obtain ⟨s', c', q', k1, k2, k3⟩ := hk
  obtain ⟨t', d', r', u1, u2, u3⟩ := hu2
  rw [h1] at k1; cases k1
  rw [g1] at u1; cases u1
  unfold lb
  apply pw_c (z := (r + 1074).toNat)
  rw [Nat.one_mul] at u3
  calc d * 2 ^ (-1074 - (q - r)).toNat * 2 ^ 1074 * 2 ^ (r + 1074).toNat = (d * 2 ^ (r + 1074).toNat) * (2 ^ 1074 * 2 ^ (-1074 - (q - r)).toNat) := by simp only [Nat.mul_assoc, Nat.mul_comm, Nat.mul_left_comm]
    _ ≤ 2 ^ (U + 1074) * ((c * 2 ^ (q + 1074).toNat * 2 ^ K) * 2 ^ (-1074 - (q - r)).toNat) := Nat.mul_le_mul u3 (Nat.mul_le_mul_right _ k3)
    _ = c * (2 ^ (q - r + 1074).toNat * 2 ^ (r + 1074).toNat) * (2 ^ K * 2 ^ U) := by
        rw [ee, Nat.pow_add 2 U 1074]; simp only [Nat.mul_assoc, Nat.mul_comm, Nat.mul_left_comm]
    _ = c * 2 ^ (q - r + 1074).toNat * 2 ^ (K + U) * 2 ^ (r + 1074).toNat := by
        rw [Nat.pow_add 2 K U]; simp only [Nat.mul_assoc, Nat.mul_comm, Nat.mul_left_comm]
theorem fp_mul {x y : UInt64} {T U : Nat} (hx : fbn x 1 T) (hy : fbn y 1 U) (hT : T + U ≤ 900) : fbn (FP.dmul x y) 1 (T + U) ∧ vf_n64 (FP.dmul x y) := by
  obtain ⟨s, c, q, h1, h2, h3⟩ := hx
  obtain ⟨t, d, r, g1, g2, g3⟩ := hy
  have e1 : FP.dmul x y = UInt64.ofNat (FP.Core.encode FP.Core.b64 (FP.Core.roundRatio FP.Core.b64 (s != t) (c * d) 1 (q + r))) := by
    show UInt64.ofNat (FP.Core.encode FP.Core.b64 (FP.Core.round FP.Core.b64 (FP.Core.exactProduct (dm x) (dm y)))) = _
    rw [h1, g1]
    rfl
  have hu : ub (c * d) 1 (q + r) (1 * 2 ^ (T + U + 1074)) := by
    unfold ub
    apply pw_c (z := 1074)
    have ee : 2 ^ (q + r + 1074).toNat * 2 ^ 1074 = 2 ^ (q + 1074).toNat * 2 ^ (r + 1074).toNat * 2 ^ (-1074 - (q + r)).toNat := by
      rw [← Nat.pow_add, ← Nat.pow_add, ← Nat.pow_add]; congr 1; omega
    calc c * d * 2 ^ (q + r + 1074).toNat * 2 ^ 1074 = (c * 2 ^ (q + 1074).toNat) * (d * 2 ^ (r + 1074).toNat) * 2 ^ (-1074 - (q + r)).toNat := by
          rw [Nat.mul_assoc (c * d), ee]; simp only [Nat.mul_assoc, Nat.mul_comm, Nat.mul_left_comm]
      _ ≤ (1 * 2 ^ (T + 1074)) * (1 * 2 ^ (U + 1074)) * 2 ^ (-1074 - (q + r)).toNat := Nat.mul_le_mul_right _ (Nat.mul_le_mul h3 g3)
      _ = 1 * 2 ^ (T + U + 1074) * (1 * 2 ^ (-1074 - (q + r)).toNat) * 2 ^ 1074 := by
          rw [Nat.pow_add 2 T 1074, Nat.pow_add 2 U 1074, show T + U + 1074 = T + (U + 1074) by omega, Nat.pow_add 2 T (U + 1074), Nat.pow_add 2 U 1074]
          simp only [Nat.mul_assoc, Nat.mul_comm, Nat.mul_left_comm, Nat.one_mul, Nat.mul_one]
  rw [e1]
  obtain ⟨r1, r2, r3⟩ := rr_f (s := s != t) (by decide : 0 < 1) (by decide) hT hu
  exact ⟨r1, r2⟩
theorem sg_abs (s : Bool) (c : Nat) : (FP.Core.signed s c).natAbs = c := by unfold FP.Core.signed; cases s <;> simp
theorem fp_sum {s t : Bool} {c d n m T : Nat} {q r : Int} (h2 : -1074 ≤ q) (h3 : c * 2 ^ (q + 1074).toNat ≤ n * 2 ^ (T + 1074)) (g2 : -1074 ≤ r) (g3 : d * 2 ^ (r + 1074).toNat ≤ m * 2 ^ (T + 1074)) : ub (FP.Core.sumUnits s c q t d r (min q r)).natAbs 1 (min q r) ((n + m) * 2 ^ (T + 1074)) := by
  unfold ub FP.Core.sumUnits FP.Core.inUnits
  have h4 : (FP.Core.signed s (c * 2 ^ (q - min q r).toNat) + FP.Core.signed t (d * 2 ^ (r - min q r).toNat)).natAbs ≤ c * 2 ^ (q - min q r).toNat + d * 2 ^ (r - min q r).toNat := by
    have := Int.natAbs_add_le (FP.Core.signed s (c * 2 ^ (q - min q r).toNat)) (FP.Core.signed t (d * 2 ^ (r - min q r).toNat))
    rw [sg_abs, sg_abs] at this
    exact this
  have h5 : (-1074 - min q r).toNat = 0 := by omega
  rw [h5]
  calc _ ≤ (c * 2 ^ (q - min q r).toNat + d * 2 ^ (r - min q r).toNat) * 2 ^ (min q r + 1074).toNat := Nat.mul_le_mul_right _ h4
    _ = c * 2 ^ (q + 1074).toNat + d * 2 ^ (r + 1074).toNat := by
        rw [Nat.add_mul, Nat.mul_assoc, Nat.mul_assoc, ← Nat.pow_add, ← Nat.pow_add]
        congr 3 <;> omega
    _ ≤ n * 2 ^ (T + 1074) + m * 2 ^ (T + 1074) := Nat.add_le_add h3 g3
    _ = (n + m) * 2 ^ (T + 1074) * (1 * 2 ^ 0) := by rw [Nat.add_mul]; omega
theorem fp_add {x y : UInt64} {n m T : Nat} (hx : fbn x n T) (hy : fbn y m T) (hn : n + m < 9007199254740992) (hT : T ≤ 900) : fbn (FP.dadd x y) (n + m) T ∧ vf_n64 (FP.dadd x y) := by
  obtain ⟨s, c, q, h1, h2, h3⟩ := hx
  obtain ⟨t, d, r, g1, g2, g3⟩ := hy
  have e1 : FP.dadd x y = UInt64.ofNat (FP.Core.encode FP.Core.b64 (FP.Core.roundRatio FP.Core.b64 (FP.Core.sumSign s t (FP.Core.sumUnits s c q t d r (min q r))) (FP.Core.sumUnits s c q t d r (min q r)).natAbs 1 (min q r))) := by
    show UInt64.ofNat (FP.Core.encode FP.Core.b64 (FP.Core.round FP.Core.b64 (FP.Core.exactSum (dm x) (dm y)))) = _
    rw [h1, g1]
    rfl
  rw [e1]
  obtain ⟨r1, r2, r3⟩ := rr_f (by decide : 0 < 1) hn hT (fp_sum (s := s) (t := t) h2 h3 g2 g3)
  exact ⟨r1, r2⟩
theorem fp_sub {x y : UInt64} {n m T : Nat} (hx : fbn x n T) (hy : fbn y m T) (hn : n + m < 9007199254740992) (hT : T ≤ 900) : fbn (FP.dsub x y) (n + m) T ∧ vf_n64 (FP.dsub x y) := by
  obtain ⟨s, c, q, h1, h2, h3⟩ := hx
  obtain ⟨t, d, r, g1, g2, g3⟩ := hy
  have e1 : FP.dsub x y = UInt64.ofNat (FP.Core.encode FP.Core.b64 (FP.Core.roundRatio FP.Core.b64 (FP.Core.sumSign s (!t) (FP.Core.sumUnits s c q (!t) d r (min q r))) (FP.Core.sumUnits s c q (!t) d r (min q r)).natAbs 1 (min q r))) := by
    show UInt64.ofNat (FP.Core.encode FP.Core.b64 (FP.Core.round FP.Core.b64 (FP.Core.exactSum (dm x) (FP.Core.negate (dm y))))) = _
    rw [h1, g1]
    rfl
  rw [e1]
  obtain ⟨r1, r2, r3⟩ := rr_f (by decide : 0 < 1) hn hT (fp_sum (s := s) (t := !t) h2 h3 g2 g3)
  exact ⟨r1, r2⟩
theorem fp_l2d (x : Int) (hx : i64 x) : fbn (FP.l2d (Int64.ofInt x)) 1 63 ∧ (1 ≤ x → flb (FP.l2d (Int64.ofInt x)) 0) := by
  have e1 : FP.l2d (Int64.ofInt x) = UInt64.ofNat (FP.Core.encode FP.Core.b64 (FP.Core.roundRatio FP.Core.b64 (decide (x < 0)) x.natAbs 1 0)) := by
    show UInt64.ofNat (FP.Core.encode FP.Core.b64 (FP.Core.round FP.Core.b64 (FP.Core.ofInt (Int64.ofInt x).toInt))) = _
    rw [i64_tn hx]
    rfl
  have hu : ub x.natAbs 1 0 (1 * 2 ^ (63 + 1074)) := by
    unfold ub
    unfold i64 at hx
    have h1 : x.natAbs ≤ 2 ^ 63 := by omega
    have h2 : ((0 : Int) + 1074).toNat = 1074 := by decide
    have h3 : (-1074 - (0 : Int)).toNat = 0 := by decide
    rw [h2, h3, Nat.pow_add]
    have := Nat.mul_le_mul_right (2 ^ 1074) h1
    omega
  rw [e1]
  obtain ⟨r1, r2, r3⟩ := rr_f (s := decide (x < 0)) (by decide : 0 < 1) (by decide) (by decide) hu
  refine ⟨r1, fun h => r3 0 (by decide) ?_⟩
  unfold lb
  have h2 : ((0 : Int) + 1074).toNat = 1074 := by decide
  have h3 : (-1074 - (0 : Int)).toNat = 0 := by decide
  rw [h2, h3]
  have h4 : 1 ≤ x.natAbs := by omega
  have := Nat.mul_le_mul_right (2 ^ 1074) h4
  omega
theorem fb_0 : fbn 0 1 0 := ⟨false, 0, -1074, by decide +kernel, by decide, by decide +kernel⟩
theorem fb_1 : fbn 4607182418800017408 1 0 := ⟨false, 4503599627370496, -52, by decide +kernel, by decide, by decide +kernel⟩
theorem fb_q : fbn 4598175219545276416 1 0 := ⟨false, 4503599627370496, -54, by decide +kernel, by decide, by decide +kernel⟩
theorem fb_2 : fbn 4611686018427387904 1 1 := ⟨false, 4503599627370496, -51, by decide +kernel, by decide, by decide +kernel⟩
theorem fb_4 : fbn 4616189618054758400 1 2 := ⟨false, 4503599627370496, -50, by decide +kernel, by decide, by decide +kernel⟩
