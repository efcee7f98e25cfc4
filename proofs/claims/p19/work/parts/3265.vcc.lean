/-! ===== how many colons ===== -/
theorem col_ge {pt fc nc lc cc : fn_T} {stk : Nat → List Nat} {n p : Nat} (h : v_col pt fc nc lc cc stk n p) : ∀ j : Nat, (j : Int) < cc p → j ≤ col fc nc p j := by
  intro j
  induction j with
  | zero => intro _; exact Nat.zero_le _
  | succ j ih =>
    intro hj
    have h1 := ih (by omega)
    have h2 := col_lt h (j + 1) hj j (Nat.lt_succ_self j)
    omega
theorem VH_cc {h : ah_T} {m p : Int} (H : VHx h) (em : h.2.1 170 63 = m) (hm : 1 ≤ m) (ep : h.2.1 215 (m - 1).toNat = p) (ek : h.2.1 216 (m - 1).toNat = 2) : h.2.1 214 p.toNat ≤ h.2.1 170 43 := by
  obtain ⟨p', q1, q2, q3⟩ := VH_top H em hm
  obtain ⟨h0, stk, h1, -⟩ := H
  obtain ⟨v0, v1, v2, -⟩ := h1
  have hpt : h.2.1 201 p' = 2 := by
    rcases q3 with q | q
    · exact q.2
    · omega
  have h3 := v2 p' (by omega) hpt
  have e : p.toNat = p' := by omega
  rw [e]
  by_cases hc : 1 ≤ h.2.1 214 p'
  · have h4 := (h3.2.1 (h.2.1 214 p' - 1).toNat (by omega)).1
    have h5 := col_ge h3.2 (h.2.1 214 p' - 1).toNat (by omega)
    omega
  · omega
