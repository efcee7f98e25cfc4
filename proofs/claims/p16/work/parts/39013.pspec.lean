/-! ===== what a text means (a spec of our own): items but voices ===== -/
abbrev F_T : Type := Int × Int
abbrev pm_T : Type := Nat → Nat → Int
def bnd {β γ : Type} (x : F_T ⊕ β) (f : β → F_T ⊕ γ) : F_T ⊕ γ := match x with
  | .inl q => .inl q
  | .inr b => f b
def pwb (v : Int) : Bool := v == 1 || v == 2 || v == 4 || v == 8 || v == 16 || v == 32 || v == 64
def cn (t : tk_T) (i : Nat) : F_T := (if tK t i = 257 then 1 else 2, tP t i)
def sp_num (t : tk_T) (i : Nat) (most : Int) (pw : Bool) : F_T ⊕ Int :=
  if tK t i = 259 then (if (1 ≤ tV' t i ∧ tV' t i ≤ most) ∧ (pw = false ∨ pwb (tV' t i) = true) then .inr (tV' t i) else .inl (5, tP t i)) else .inl (cn t i)
def sp_take (t : tk_T) (i : Nat) (k : Int) : F_T ⊕ Unit := if tK t i = k then .inr () else .inl (cn t i)
def sp_time (t : tk_T) (i : Nat) (μ : pm_T) : F_T ⊕ (Nat × pm_T) :=
  if μ 0 0 = 0 then bnd (sp_num t (i + 1) 32 false) fun a => bnd (sp_take t (i + 2) 47) fun _ => bnd (sp_num t (i + 3) 32 true) fun b => bnd (sp_take t (i + 4) 59) fun _ => .inr (i + 5, up2 (up2 (up2 μ 0 0 1) 0 1 a) 0 2 b)
  else .inl (4, tP t i)
def pit (t : tk_T) (i : Nat) (μ : pm_T) : pm_T := up2 (up2 μ 1 (μ 0 3).toNat (tV' t i)) 0 3 (μ 0 3 + 1)
def sp_pits (t : tk_T) : Nat → Nat → pm_T → F_T ⊕ (Nat × pm_T)
  | 0, _, _ => .inl (1, 0)
  | f + 1, i, μ => if tK t i = 258 then (if μ 0 3 = 8 then .inl (3, tP t i) else (if tK t (i + 1) = 59 then .inr (i + 2, pit t i μ) else sp_pits t f (i + 1) (pit t i μ))) else .inl (cn t i)
def sp_line (t : tk_T) (i : Nat) (μ : pm_T) : F_T ⊕ (Nat × pm_T) := if μ 0 3 ≤ 0 then sp_pits t 10 (i + 1) μ else .inl (4, tP t i)
/-- the first place, or n -/
def fnd (f : Nat → Int) (v : Int) : Nat → Nat
  | 0 => 0
  | n + 1 => if fnd f v n < n then fnd f v n else if f n = v then n else n + 1
theorem fnd_no {f : Nat → Int} {v : Int} : ∀ n : Nat, (∀ j, j < n → f j ≠ v) → fnd f v n = n
  | 0, _ => rfl
  | n + 1, h => by
    have e := fnd_no n (fun j hj => h j (by omega))
    rw [fnd, if_neg (by omega), if_neg (h n (by omega))]
theorem fnd_at {f : Nat → Int} {v : Int} {k : Nat} (h1 : ∀ j, j < k → f j ≠ v) (h2 : f k = v) : ∀ n : Nat, k < n → fnd f v n = k
  | 0, h => absurd h (by omega)
  | n + 1, h => by
    by_cases c : k = n
    · subst c
      have e := fnd_no k h1
      rw [fnd, if_neg (by omega), if_pos h2]
    · have e := fnd_at h1 h2 n (by omega)
      rw [fnd, if_pos (by omega)]
      exact e
def sp_name (t : tk_T) (i : Nat) (μ : pm_T) : F_T ⊕ (Int × pm_T) :=
  if tK t i = 260 then (if (fnd (μ 6) (tV' t i) (μ 0 6).toNat : Int) < μ 0 6 then .inr ((fnd (μ 6) (tV' t i) (μ 0 6).toNat : Int), μ) else if μ 0 6 = 16 then .inl (3, tP t i) else .inr (μ 0 6, up2 (up2 μ 6 (μ 0 6).toNat (tV' t i)) 0 6 (μ 0 6 + 1)))
  else .inl (cn t i)
def addr (μ : pm_T) (a b c : Int) : pm_T := up2 (up2 (up2 (up2 μ 2 (μ 0 4).toNat a) 3 (μ 0 4).toNat b) 4 (μ 0 4).toNat c) 0 4 (μ 0 4 + 1)
def sp_rule (t : tk_T) (i : Nat) (μ : pm_T) : F_T ⊕ (Nat × pm_T) :=
  if μ 0 4 < 24 then bnd (sp_name t (i + 1) μ) fun a => bnd (sp_take t (i + 2) 61) fun _ => bnd (sp_name t (i + 3) a.2) fun b =>
    if tK t (i + 4) = 260 then bnd (sp_name t (i + 4) b.2) fun c => bnd (sp_take t (i + 5) 59) fun _ => .inr (i + 6, addr c.2 a.1 b.1 c.1)
    else bnd (sp_take t (i + 4) 59) fun _ => .inr (i + 5, addr b.2 a.1 b.1 (-1))
  else .inl (3, tP t i)
def rowa (μ : pm_T) (z : Int) : pm_T := up2 (up2 μ 5 (μ 0 5).toNat z) 0 5 (μ 0 5 + 1)
def sp_rows (t : tk_T) : Nat → Nat → pm_T → F_T ⊕ (Nat × pm_T)
  | 0, _, _ => .inl (1, 0)
  | f + 1, i, μ => if tK t i = 260 then (if μ 0 5 < 12 then bnd (sp_name t i μ) (fun a => if tK t (i + 1) = 59 then .inr (i + 2, rowa a.2 a.1) else sp_rows t f (i + 1) (rowa a.2 a.1)) else .inl (3, tP t i)) else .inl (cn t i)
def sp_row (t : tk_T) (i : Nat) (μ : pm_T) : F_T ⊕ (Nat × pm_T) := if μ 0 5 ≤ 0 then sp_rows t 14 (i + 1) μ else .inl (4, tP t i)
