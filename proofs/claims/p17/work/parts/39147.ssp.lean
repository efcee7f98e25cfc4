/-! ===== second voices: a spec of our own =====
a row of keys is held as a list, the latest key first; low the lowest key, sp how many keys there are, n places, ln the line, R the rules -/
def Ask (R k : Int) : Prop := (Int32.ofInt R &&& Int32.ofInt k).toInt ≠ 0
def CNs (m : Int) : Prop := m = 0 ∨ m = 3 ∨ m = 4 ∨ m = 7 ∨ m = 8 ∨ m = 9
def PFc (m : Int) : Prop := m = 0 ∨ m = 7
def WHt (m : Int) : Prop := m = 0 ∨ m = 2 ∨ m = 4 ∨ m = 5 ∨ m = 7 ∨ m = 9 ∨ m = 11
def fA (R : Int) (ln : Nat → Int) (n : Nat) (x : Int) (i : Nat) : Prop :=
  (Ask R 1 → CNs ((x - ln i) % 12)) ∧ (Ask R 2 → (i = 0 → PFc ((x - ln i) % 12)) ∧ (i + 1 = n → (x - ln i) % 12 = 0)) ∧ (Ask R 128 → WHt (x % 12)) ∧ (Ask R 256 → 0 ≤ x - ln i)
/-- x behind y, at place i + 1 -/
def fB (R : Int) (ln : Nat → Int) (x y : Int) (i : Nat) : Prop :=
  (Ask R 4 → ¬ (PFc ((x - ln (i + 1)) % 12) ∧ x - y ≠ 0 ∧ (y - ln i) % 12 = (x - ln (i + 1)) % 12)) ∧
  (Ask R 8 → ¬ (PFc ((x - ln (i + 1)) % 12) ∧ ((0 < x - y ∧ 0 < ln (i + 1) - ln i) ∨ (x - y < 0 ∧ ln (i + 1) - ln i < 0)))) ∧
  (Ask R 16 → (-7 ≤ x - y ∧ x - y ≤ 7) ∨ x - y = 12 ∨ x - y = -12) ∧ (Ask R 32 → x - y ≠ 0)
/-- x behind y behind z -/
def fC (R : Int) (x y z : Int) : Prop := Ask R 64 → (-4 ≤ y - z ∧ y - z ≤ 4) ∨ (4 < y - z ∧ (x - y = -1 ∨ x - y = -2)) ∨ (y - z < -4 ∧ (x - y = 1 ∨ x - y = 2))
def fP (R : Int) (ln : Nat → Int) (n : Nat) (x : Int) : List Int → Prop
  | [] => fA R ln n x 0
  | [y] => fA R ln n x 1 ∧ fB R ln x y 0
  | y :: z :: q => fA R ln n x (q.length + 2) ∧ fB R ln x y (q.length + 1) ∧ fC R x y z
def rowL (low : Int) (sp : Nat) : List Int → Nat
  | [] => 0
  | x :: q => rowL low sp q * sp + (x - low).toNat
/-- what F gives from m on, k times -/
def catF {α : Type} (F : Nat → List α) : Nat → Nat → List α
  | 0, _ => []
  | k + 1, m => F m ++ catF F k (m + 1)
theorem catF_s {α : Type} {F : Nat → List α} : ∀ k m, catF F (k + 1) m = catF F k m ++ F (m + k)
  | 0, m => by show F m ++ [] = [] ++ F (m + 0); rw [List.append_nil]; rfl
  | k + 1, m => by
    show F m ++ catF F (k + 1) (m + 1) = (F m ++ catF F k (m + 1)) ++ F (m + (k + 1))
    rw [catF_s k (m + 1), List.append_assoc, show m + 1 + k = m + (k + 1) by omega]
theorem catF_a {α : Type} {F : Nat → List α} : ∀ k j m, catF F (k + j) m = catF F k m ++ catF F j (m + k)
  | 0, j, m => by rw [Nat.zero_add]; rfl
  | k + 1, j, m => by
    rw [show k + 1 + j = (k + j) + 1 by omega]
    show F m ++ catF F (k + j) (m + 1) = (F m ++ catF F k (m + 1)) ++ catF F j (m + (k + 1))
    rw [catF_a k j (m + 1), List.append_assoc, show m + 1 + k = m + (k + 1) by omega]
section
variable (low : Int) (sp : Nat) (P : Int → List Int → Prop)
/-- going through all rows, a step an entry, a row that is found with its number; f places are still to come behind this one -/
noncomputable def tvF : Nat → List Int → List (Option Nat)
  | 0, p => catF (fun d => dif (P (low + (d : Int)) p) [some (rowL low sp ((low + (d : Int)) :: p))] [none]) sp 0 ++ [none]
  | f + 1, p => catF (fun d => dif (P (low + (d : Int)) p) (none :: tvF f ((low + (d : Int)) :: p)) [none]) sp 0 ++ [none]
/-- one digit -/
noncomputable def stp (f : Nat) (p : List Int) (d : Nat) : List (Option Nat) := dif (P (low + (d : Int)) p) (match f with
  | 0 => [some (rowL low sp ((low + (d : Int)) :: p))]
  | f + 1 => none :: tvF low sp P f ((low + (d : Int)) :: p)) [none]
theorem tvF_e : ∀ (f : Nat) (p : List Int), tvF low sp P f p = catF (stp low sp P f p) sp 0 ++ [none]
  | 0, p => rfl
  | f + 1, p => rfl
/-- the rows of a way through -/
def rws (l : List (Option Nat)) : List Nat := l.filterMap id
theorem rws_a {l m : List (Option Nat)} : rws (l ++ m) = rws l ++ rws m := by unfold rws; rw [List.filterMap_append]
/-- the rows that go on from a prefix, f places still to come -/
noncomputable def rwF : Nat → List Int → List Nat
  | 0, p => [rowL low sp p]
  | f + 1, p => rws (tvF low sp P f p)
theorem rws_stp {f : Nat} {p : List Int} {d : Nat} : rws (stp low sp P f p d) = dif (P (low + (d : Int)) p) (rwF low sp P f ((low + (d : Int)) :: p)) [] := by
  unfold stp
  by_cases c : P (low + (d : Int)) p
  · rw [dif_t c, dif_t c]
    cases f with
    | zero => rfl
    | succ f => rfl
  · rw [dif_f c, dif_f c]; rfl
theorem rws_tv {f : Nat} {p : List Int} : rws (tvF low sp P f p) = rws (catF (stp low sp P f p) sp 0) := by
  rw [tvF_e, rws_a]
  show _ ++ [] = _
  rw [List.append_nil]
end
theorem rowL_b {low : Int} {sp : Nat} (hs : 1 ≤ sp) : ∀ p : List Int, (∀ x, x ∈ p → low ≤ x ∧ x < low + sp) → rowL low sp p < sp ^ p.length
  | [], _ => by show 0 < 1; decide
  | x :: q, h => by
    have ih := rowL_b hs q (fun y hy => h y (List.mem_cons_of_mem _ hy))
    have hx := h x (List.mem_cons_self)
    show rowL low sp q * sp + (x - low).toNat < sp ^ (q.length + 1)
    rw [Nat.pow_succ]
    have : (rowL low sp q + 1) * sp ≤ sp ^ q.length * sp := Nat.mul_le_mul_right _ ih
    rw [Nat.add_mul, Nat.one_mul] at this
    omega
