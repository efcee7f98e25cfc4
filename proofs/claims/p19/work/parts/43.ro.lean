/-! ===== the arrays and texts that are only read, at the start ===== -/
theorem gD_i {l : List Int} (h : l.all (fun x => decide (-2147483648 ≤ x) && decide (x ≤ 2147483647)) = true) (j : Nat) : i32 (l.getD j 0) := by
  unfold i32
  rw [List.getD_eq_getElem?_getD]
  cases e : l[j]? with
  | none => exact ⟨by decide, by decide⟩
  | some x =>
    have h1 := List.all_eq_true.mp h x (List.mem_of_getElem? e)
    simp only [Bool.and_eq_true, decide_eq_true_eq] at h1
    exact ⟨h1.1, by show x < 2147483648; omega⟩
theorem rs_1 {s : State} {b : Nat} (hgv : (Jvm.Cond.and given_1 narrow_1).before #[Value.ref b] s = true) (hts : ∀ w ∈ lw_tbl, w.before #[Value.ref b] s = true) : ∃ t : Nat, va_T .int t 7 (fun j => .int (Int32.ofInt (([0, 2, 4, 5, 7, 9, 11] : List Int).getD j 0))) (fun a => s.heap.size ≤ a) s s.heap ∧ va_Z "PlainMusic" "NATURALS" "[I" (.ref t) (fun a => s.heap.size ≤ a) s s.heap := by
  have hs := flat_of_before _ hgv
  have hA : ∀ a : Nat, a < s.heap.size → ¬ (s.heap.size ≤ a) := fun a h => Nat.not_le.mpr h
  obtain ⟨t, h1, h2⟩ := va_Tof (args := #[Value.ref b]) (s := s) (tm := .static "PlainMusic" "NATURALS" "[I") (ty := .int) (N := 7) (f := fun j => .int (Int32.ofInt (([0, 2, 4, 5, 7, 9, 11] : List Int).getD j 0))) (A := (fun a => s.heap.size ≤ a)) (by decide) (hs _ (by decide +kernel)) (va_eqt (hs _ (by decide +kernel))) (fun j hj => by
    rcases (by omega : j = 0 ∨ j = 1 ∨ j = 2 ∨ j = 3 ∨ j = 4 ∨ j = 5 ∨ j = 6) with rfl | rfl | rfl | rfl | rfl | rfl | rfl <;> exact va_eqt (hs _ (by decide +kernel))) hA
  exact ⟨t, h2, va_Zof (hts _ (List.mem_of_getElem? (i := 676) (by decide +kernel))) (hts _ (List.mem_of_getElem? (i := 134) (by decide +kernel))) h1 hA⟩
theorem rs_2 {s : State} {b : Nat} (hgv : (Jvm.Cond.and given_1 narrow_1).before #[Value.ref b] s = true) (hts : ∀ w ∈ lw_tbl, w.before #[Value.ref b] s = true) : ∃ t : Nat, va_T .int t 12 (fun j => .int (Int32.ofInt (([1, 16, 9, 6, 5, 4, 45, 3, 8, 5, 9, 15] : List Int).getD j 0))) (fun a => s.heap.size ≤ a) s s.heap ∧ va_Z "PlainMusic" "RATIO_TOPS" "[I" (.ref t) (fun a => s.heap.size ≤ a) s s.heap := by
  have hs := flat_of_before _ hgv
  have hA : ∀ a : Nat, a < s.heap.size → ¬ (s.heap.size ≤ a) := fun a h => Nat.not_le.mpr h
  obtain ⟨t, h1, h2⟩ := va_Tof (args := #[Value.ref b]) (s := s) (tm := .static "PlainMusic" "RATIO_TOPS" "[I") (ty := .int) (N := 12) (f := fun j => .int (Int32.ofInt (([1, 16, 9, 6, 5, 4, 45, 3, 8, 5, 9, 15] : List Int).getD j 0))) (A := (fun a => s.heap.size ≤ a)) (by decide) (hs _ (by decide +kernel)) (va_eqt (hs _ (by decide +kernel))) (fun j hj => by
    rcases (by omega : j = 0 ∨ j = 1 ∨ j = 2 ∨ j = 3 ∨ j = 4 ∨ j = 5 ∨ j = 6 ∨ j = 7 ∨ j = 8 ∨ j = 9 ∨ j = 10 ∨ j = 11) with rfl | rfl | rfl | rfl | rfl | rfl | rfl | rfl | rfl | rfl | rfl | rfl <;> exact va_eqt (hs _ (by decide +kernel))) hA
  exact ⟨t, h2, va_Zof (hts _ (List.mem_of_getElem? (i := 1470) (by decide +kernel))) (hts _ (List.mem_of_getElem? (i := 134) (by decide +kernel))) h1 hA⟩
theorem rs_3 {s : State} {b : Nat} (hgv : (Jvm.Cond.and given_1 narrow_1).before #[Value.ref b] s = true) (hts : ∀ w ∈ lw_tbl, w.before #[Value.ref b] s = true) : ∃ t : Nat, va_T .int t 12 (fun j => .int (Int32.ofInt (([1, 15, 8, 5, 4, 3, 32, 2, 5, 3, 5, 8] : List Int).getD j 0))) (fun a => s.heap.size ≤ a) s s.heap ∧ va_Z "PlainMusic" "RATIO_BOTTOMS" "[I" (.ref t) (fun a => s.heap.size ≤ a) s s.heap := by
  have hs := flat_of_before _ hgv
  have hA : ∀ a : Nat, a < s.heap.size → ¬ (s.heap.size ≤ a) := fun a h => Nat.not_le.mpr h
  obtain ⟨t, h1, h2⟩ := va_Tof (args := #[Value.ref b]) (s := s) (tm := .static "PlainMusic" "RATIO_BOTTOMS" "[I") (ty := .int) (N := 12) (f := fun j => .int (Int32.ofInt (([1, 15, 8, 5, 4, 3, 32, 2, 5, 3, 5, 8] : List Int).getD j 0))) (A := (fun a => s.heap.size ≤ a)) (by decide) (hs _ (by decide +kernel)) (va_eqt (hs _ (by decide +kernel))) (fun j hj => by
    rcases (by omega : j = 0 ∨ j = 1 ∨ j = 2 ∨ j = 3 ∨ j = 4 ∨ j = 5 ∨ j = 6 ∨ j = 7 ∨ j = 8 ∨ j = 9 ∨ j = 10 ∨ j = 11) with rfl | rfl | rfl | rfl | rfl | rfl | rfl | rfl | rfl | rfl | rfl | rfl <;> exact va_eqt (hs _ (by decide +kernel))) hA
  exact ⟨t, h2, va_Zof (hts _ (List.mem_of_getElem? (i := 1472) (by decide +kernel))) (hts _ (List.mem_of_getElem? (i := 134) (by decide +kernel))) h1 hA⟩
theorem rs_c {s : State} {b : Nat} (hgv : (Jvm.Cond.and given_1 narrow_1).before #[Value.ref b] s = true) (hts : ∀ w ∈ lw_tbl, w.before #[Value.ref b] s = true) : va_Z "java/lang/String" "COMPACT_STRINGS" "Z" (.int 1) (fun a => s.heap.size ≤ a) s s.heap := by
  have hs := flat_of_before _ hgv
  have hA : ∀ a : Nat, a < s.heap.size → ¬ (s.heap.size ≤ a) := fun a h => Nat.not_le.mpr h
  exact va_Zof (hts _ (List.mem_of_getElem? (i := 703) (by decide +kernel))) (hts _ (List.mem_of_getElem? (i := 148) (by decide +kernel))) (va_eqt (hs _ (by decide +kernel))) hA
theorem rs_f {s : State} {b : Nat} (hgv : (Jvm.Cond.and given_1 narrow_1).before #[Value.ref b] s = true) (hts : ∀ w ∈ lw_tbl, w.before #[Value.ref b] s = true) : ∃ t : Nat, va_Z "jdk/internal/util/Preconditions" "SIOOBE_FORMATTER" "Ljava/util/function/BiFunction;" .null (fun a => s.heap.size ≤ a) s s.heap ∨ va_Z "jdk/internal/util/Preconditions" "SIOOBE_FORMATTER" "Ljava/util/function/BiFunction;" (.ref t) (fun a => s.heap.size ≤ a) s s.heap := by
  have hs := flat_of_before _ hgv
  have hA : ∀ a : Nat, a < s.heap.size → ¬ (s.heap.size ≤ a) := fun a h => Nat.not_le.mpr h
  have h := va_Zqof (args := #[Value.ref b]) (s := s) (C := "jdk/internal/util/Preconditions") (n := "SIOOBE_FORMATTER") (d := "Ljava/util/function/BiFunction;") (A := (fun a => s.heap.size ≤ a)) (hts _ (List.mem_of_getElem? (i := 719) (by decide +kernel))) (hts _ (List.mem_of_getElem? (i := 150) (by decide +kernel))) (hs _ (by decide +kernel)) hA
  rcases h with h | ⟨t, h⟩
  · exact ⟨0, Or.inl h⟩
  · exact ⟨t, Or.inr h⟩
def sk_n : List Nat := [108, 114, 116, 118, 120, 122, 91]
def skr_t (i : Nat) : Term := .string "PlainMusic$Tokens" (sk_n.getD i 0)
set_option maxHeartbeats 4000000 in
theorem rs_k {s : State} {b : Nat} (hgv : (Jvm.Cond.and given_1 narrow_1).before #[Value.ref b] s = true) (hts : ∀ w ∈ lw_tbl, w.before #[Value.ref b] s = true) : ∃ adK adV : Nat → Nat, vk_S 7 sk_len sk_byt adK adV (fun a => s.heap.size ≤ a) s s.heap ∧ ∀ i : Nat, i < 7 → (skr_t i).eval #[Value.ref b] s none [] s = some (.ref (adK i)) := by
  have hs := flat_of_before _ hgv
  have hA : ∀ a : Nat, a < s.heap.size → ¬ (s.heap.size ≤ a) := fun a h => Nat.not_le.mpr h
  refine vk_Sof (args := #[Value.ref b]) (s := s) (N := 7) (tm := skr_t) (len := sk_len) (byt := sk_byt) (A := (fun a => s.heap.size ≤ a)) ?_ ?_ ?_ ?_ ?_ ?_ ?_ hA
  · intro i hi
    rcases (by omega : i = 0 ∨ i = 1 ∨ i = 2 ∨ i = 3 ∨ i = 4 ∨ i = 5 ∨ i = 6) with rfl | rfl | rfl | rfl | rfl | rfl | rfl <;> decide
  · intro i hi
    rcases (by omega : i = 0 ∨ i = 1 ∨ i = 2 ∨ i = 3 ∨ i = 4 ∨ i = 5 ∨ i = 6) with rfl | rfl | rfl | rfl | rfl | rfl | rfl <;> exact hs _ (by decide +kernel)
  · intro i hi
    rcases (by omega : i = 0 ∨ i = 1 ∨ i = 2 ∨ i = 3 ∨ i = 4 ∨ i = 5 ∨ i = 6) with rfl | rfl | rfl | rfl | rfl | rfl | rfl <;> exact hs _ (by decide +kernel)
  · intro i hi
    rcases (by omega : i = 0 ∨ i = 1 ∨ i = 2 ∨ i = 3 ∨ i = 4 ∨ i = 5 ∨ i = 6) with rfl | rfl | rfl | rfl | rfl | rfl | rfl <;> exact hs _ (by decide +kernel)
  · intro i hi
    rcases (by omega : i = 0 ∨ i = 1 ∨ i = 2 ∨ i = 3 ∨ i = 4 ∨ i = 5 ∨ i = 6) with rfl | rfl | rfl | rfl | rfl | rfl | rfl <;> exact hs _ (by decide +kernel)
  · intro i hi j hj
    rcases (by omega : i = 0 ∨ i = 1 ∨ i = 2 ∨ i = 3 ∨ i = 4 ∨ i = 5 ∨ i = 6) with rfl | rfl | rfl | rfl | rfl | rfl | rfl
    · rcases (by (have : sk_len.getD 0 0 = 4 := rfl); omega : j = 0 ∨ j = 1 ∨ j = 2 ∨ j = 3) with rfl | rfl | rfl | rfl <;> exact hs _ (by decide +kernel)
    · rcases (by (have : sk_len.getD 1 0 = 5 := rfl); omega : j = 0 ∨ j = 1 ∨ j = 2 ∨ j = 3 ∨ j = 4) with rfl | rfl | rfl | rfl | rfl <;> exact hs _ (by decide +kernel)
    · rcases (by (have : sk_len.getD 2 0 = 4 := rfl); omega : j = 0 ∨ j = 1 ∨ j = 2 ∨ j = 3) with rfl | rfl | rfl | rfl <;> exact hs _ (by decide +kernel)
    · rcases (by (have : sk_len.getD 3 0 = 4 := rfl); omega : j = 0 ∨ j = 1 ∨ j = 2 ∨ j = 3) with rfl | rfl | rfl | rfl <;> exact hs _ (by decide +kernel)
    · rcases (by (have : sk_len.getD 4 0 = 3 := rfl); omega : j = 0 ∨ j = 1 ∨ j = 2) with rfl | rfl | rfl <;> exact hs _ (by decide +kernel)
    · obtain rfl : j = 0 := (by (have : sk_len.getD 5 0 = 1 := rfl); omega)
      exact hs _ (by decide +kernel)
    · rcases (by (have : sk_len.getD 6 0 = 13 := rfl); omega : j = 0 ∨ j = 1 ∨ j = 2 ∨ j = 3 ∨ j = 4 ∨ j = 5 ∨ j = 6 ∨ j = 7 ∨ j = 8 ∨ j = 9 ∨ j = 10 ∨ j = 11 ∨ j = 12) with rfl | rfl | rfl | rfl | rfl | rfl | rfl | rfl | rfl | rfl | rfl | rfl | rfl <;> exact hs _ (by decide +kernel)
  · intro i j hi hj hij
    rcases (by omega : i = 0 ∨ i = 1 ∨ i = 2 ∨ i = 3 ∨ i = 4 ∨ i = 5 ∨ i = 6) with rfl | rfl | rfl | rfl | rfl | rfl | rfl <;> rcases (by omega : j = 0 ∨ j = 1 ∨ j = 2 ∨ j = 3 ∨ j = 4 ∨ j = 5 ∨ j = 6) with rfl | rfl | rfl | rfl | rfl | rfl | rfl
    · exact absurd rfl hij
    · exact Or.inl (hs _ (by decide +kernel))
    · exact Or.inl (hs _ (by decide +kernel))
    · exact Or.inl (hs _ (by decide +kernel))
    · exact Or.inl (hs _ (by decide +kernel))
    · exact Or.inl (hs _ (by decide +kernel))
    · exact Or.inl (hs _ (by decide +kernel))
    · exact Or.inr (hs _ (by decide +kernel))
    · exact absurd rfl hij
    · exact Or.inl (hs _ (by decide +kernel))
    · exact Or.inl (hs _ (by decide +kernel))
    · exact Or.inl (hs _ (by decide +kernel))
    · exact Or.inl (hs _ (by decide +kernel))
    · exact Or.inl (hs _ (by decide +kernel))
    · exact Or.inr (hs _ (by decide +kernel))
    · exact Or.inr (hs _ (by decide +kernel))
    · exact absurd rfl hij
    · exact Or.inl (hs _ (by decide +kernel))
    · exact Or.inl (hs _ (by decide +kernel))
    · exact Or.inl (hs _ (by decide +kernel))
    · exact Or.inl (hs _ (by decide +kernel))
    · exact Or.inr (hs _ (by decide +kernel))
    · exact Or.inr (hs _ (by decide +kernel))
    · exact Or.inr (hs _ (by decide +kernel))
    · exact absurd rfl hij
    · exact Or.inl (hs _ (by decide +kernel))
    · exact Or.inl (hs _ (by decide +kernel))
    · exact Or.inl (hs _ (by decide +kernel))
    · exact Or.inr (hs _ (by decide +kernel))
    · exact Or.inr (hs _ (by decide +kernel))
    · exact Or.inr (hs _ (by decide +kernel))
    · exact Or.inr (hs _ (by decide +kernel))
    · exact absurd rfl hij
    · exact Or.inl (hs _ (by decide +kernel))
    · exact Or.inl (hs _ (by decide +kernel))
    · exact Or.inr (hs _ (by decide +kernel))
    · exact Or.inr (hs _ (by decide +kernel))
    · exact Or.inr (hs _ (by decide +kernel))
    · exact Or.inr (hs _ (by decide +kernel))
    · exact Or.inr (hs _ (by decide +kernel))
    · exact absurd rfl hij
    · exact Or.inl (hs _ (by decide +kernel))
    · exact Or.inr (hs _ (by decide +kernel))
    · exact Or.inr (hs _ (by decide +kernel))
    · exact Or.inr (hs _ (by decide +kernel))
    · exact Or.inr (hs _ (by decide +kernel))
    · exact Or.inr (hs _ (by decide +kernel))
    · exact Or.inr (hs _ (by decide +kernel))
    · exact absurd rfl hij
theorem rs_r {s : State} {b : Nat} (hgv : (Jvm.Cond.and given_1 narrow_1).before #[Value.ref b] s = true) (hts : ∀ w ∈ lw_tbl, w.before #[Value.ref b] s = true) {adK : Nat → Nat} (h : ∀ i : Nat, i < 7 → (skr_t i).eval #[Value.ref b] s none [] s = some (.ref (adK i))) : ∀ i q, sk_L[i]? = some q → vk_R "PlainMusic$Tokens" q.1 q.2 (adK i) s := by
  intro i q hq
  by_cases hi : i < 7
  · rcases (by omega : i = 0 ∨ i = 1 ∨ i = 2 ∨ i = 3 ∨ i = 4 ∨ i = 5 ∨ i = 6) with rfl | rfl | rfl | rfl | rfl | rfl | rfl
    · cases hq
      exact vk_R.of (hts _ (List.mem_of_getElem? (i := 690) (by decide +kernel))) (h 0 (by decide))
    · cases hq
      exact vk_R.of (hts _ (List.mem_of_getElem? (i := 742) (by decide +kernel))) (h 1 (by decide))
    · cases hq
      exact vk_R.of (hts _ (List.mem_of_getElem? (i := 743) (by decide +kernel))) (h 2 (by decide))
    · cases hq
      exact vk_R.of (hts _ (List.mem_of_getElem? (i := 744) (by decide +kernel))) (h 3 (by decide))
    · cases hq
      exact vk_R.of (hts _ (List.mem_of_getElem? (i := 745) (by decide +kernel))) (h 4 (by decide))
    · cases hq
      exact vk_R.of (hts _ (List.mem_of_getElem? (i := 746) (by decide +kernel))) (h 5 (by decide))
    · cases hq
      exact vk_R.of (hts _ (List.mem_of_getElem? (i := 754) (by decide +kernel))) (h 6 (by decide))
  · rw [List.getElem?_eq_none (by show 7 ≤ i; omega)] at hq
    cases hq
