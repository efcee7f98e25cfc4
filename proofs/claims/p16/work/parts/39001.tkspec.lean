/-! ===== tokens: what a text is made of (a spec of our own) ===== -/
def isSm (c : Int) : Prop := 97 ≤ c ∧ c ≤ 122
def isDg (c : Int) : Prop := 48 ≤ c ∧ c ≤ 57
/-- whether a remark is open behind k bytes from p on -/
def rk (T : Nat → Int) (p : Nat) : Nat → Prop
  | 0 => False
  | k + 1 => T (p + k) ≠ 10 ∧ (rk T p k ∨ T (p + k) = 37)
def skb (T : Nat → Int) (p k : Nat) : Prop := rk T p k ∨ T (p + k) = 9 ∨ T (p + k) = 10 ∨ T (p + k) = 13 ∨ T (p + k) = 32 ∨ T (p + k) = 37
def Skp (T : Nat → Int) (n p q : Nat) : Prop := (p ≤ q ∧ q ≤ n) ∧ (∀ k, p + k < q → skb T p k) ∧ (q < n → ¬ skb T p (q - p))
theorem Skp_d {T : Nat → Int} {n p q r : Nat} (h1 : Skp T n p q) (h2 : Skp T n p r) : q = r := by
  obtain ⟨⟨a1, a2⟩, a3, a4⟩ := h1
  obtain ⟨⟨b1, b2⟩, b3, b4⟩ := h2
  rcases Nat.lt_trichotomy q r with h | h | h
  · exact absurd (b3 (q - p) (by omega)) (a4 (by omega))
  · exact h
  · exact absurd (a3 (r - p) (by omega)) (b4 (by omega))
/-- a byte; -1 behind the end -/
def tb (T : Nat → Int) (n k : Nat) : Int := if k < n then T k else -1
theorem tb_in {T : Nat → Int} {n k : Nat} (h : k < n) : tb T n k = T k := if_pos h
theorem tb_out {T : Nat → Int} {n k : Nat} (h : n ≤ k) : tb T n k = -1 := if_neg (by omega)
def wh (b : Int) : Int := if b = 65 then 9 else if b = 66 then 11 else if b = 67 then 0 else if b = 68 then 2 else if b = 69 then 4 else if b = 70 then 5 else 7
def sw (b : Int) : Int := if b ≤ 66 then b - 60 else b - 67
def mk (T : Nat → Int) (n p : Nat) : Nat := if tb T n (p + 1) = 35 ∨ tb T n (p + 1) = 98 then (if tb T n (p + 2) = tb T n (p + 1) then 2 else 1) else 0
def PitR (T : Nat → Int) (n p : Nat) (kd v st : Int) (q : Nat) : Prop :=
  ((48 ≤ tb T n (p + 1 + mk T n p) ∧ tb T n (p + 1 + mk T n p) ≤ 56) → kd = 258 ∧ v = 12 * (tb T n (p + 1 + mk T n p) - 48) + wh (T p) + (if tb T n (p + 1) = 35 then (mk T n p : Int) else -(mk T n p : Int)) ∧ st = 7 * (tb T n (p + 1 + mk T n p) - 48) + sw (T p) ∧ q = p + 2 + mk T n p) ∧
  (¬ (48 ≤ tb T n (p + 1 + mk T n p) ∧ tb T n (p + 1 + mk T n p) ≤ 56) → kd = 257)
def RunR (f : Int → Prop) (T : Nat → Int) (n p q : Nat) : Prop := (p ≤ q ∧ q ≤ n) ∧ (∀ j, p ≤ j → j < q → f (T j)) ∧ (q < n → ¬ f (T q))
theorem RunR_d {f : Int → Prop} {T : Nat → Int} {n p q r : Nat} (h1 : RunR f T n p q) (h2 : RunR f T n p r) : q = r := by
  obtain ⟨⟨a1, a2⟩, a3, a4⟩ := h1
  obtain ⟨⟨b1, b2⟩, b3, b4⟩ := h2
  rcases Nat.lt_trichotomy q r with h | h | h
  · exact absurd (b3 q a1 h) (a4 (by omega))
  · exact h
  · exact absurd (a3 r b1 h) (b4 (by omega))
def nvl (T : Nat → Int) (p : Nat) : Nat → Int
  | 0 => 0
  | k + 1 => 10 * nvl T p k + (T (p + k) - 48)
def lvl (T : Nat → Int) (p : Nat) : Nat → Int
  | 0 => 0
  | k + 1 => 256 * lvl T p k + T (p + k)
/-- the kind of a NAME or WORD by its letters -/
def knm (x : Int) : Int := if x = 1953066341 then 261 else if x = 508675318629 then 262 else if x = 1818848869 then 263 else if x = 1920298085 then 264 else if x = 7499639 then 265 else if x = 114 then 266 else 260
def NamR (T : Nat → Int) (n p : Nat) (kd v : Int) (q : Nat) : Prop := RunR isSm T n p q ∧ (8 < q - p → kd = 257) ∧ (q - p ≤ 8 → kd = knm (lvl T p (q - p)) ∧ v = lvl T p (q - p))
def NumR (T : Nat → Int) (n p : Nat) (kd v : Int) (q : Nat) : Prop := RunR isDg T n p q ∧ (4 < q - p → kd = 257) ∧ (q - p ≤ 4 → kd = 259 ∧ v = nvl T p (q - p))
def isSg (b : Int) : Prop := b = 59 ∨ b = 58 ∨ b = 47 ∨ b = 124 ∨ b = 91 ∨ b = 93 ∨ b = 123 ∨ b = 125 ∨ b = 60 ∨ b = 62 ∨ b = 61 ∨ b = 46 ∨ b = 126
def SgnR (b : Int) (p : Nat) (kd : Int) (q : Nat) : Prop := q = p + 1 ∧ (isSg b → kd = b) ∧ (¬ isSg b → kd = 257)
/-- the token that begins at p, before the end -/
def TokR (T : Nat → Int) (n p : Nat) (kd v st : Int) (q : Nat) : Prop :=
  ((65 ≤ T p ∧ T p ≤ 71) → PitR T n p kd v st q) ∧ (isSm (T p) → NamR T n p kd v q) ∧ (isDg (T p) → NumR T n p kd v q) ∧ (¬ (65 ≤ T p ∧ T p ≤ 71) → ¬ isSm (T p) → ¬ isDg (T p) → SgnR (T p) p kd q)
/-- kinds that a text goes on behind -/
def gk (kd : Int) : Prop := kd ≠ 256 ∧ kd ≠ 257
theorem lvl_b {T : Nat → Int} {p : Nat} : ∀ k : Nat, (∀ j, p ≤ j → j < p + k → isSm (T j)) → 0 ≤ lvl T p k ∧ lvl T p k ≤ 123 * 256 ^ (k - 1) - 1 ∧ (1 ≤ k → 97 * 256 ^ (k - 1) ≤ lvl T p k)
  | 0, _ => by simp [lvl]
  | k + 1, h => by
    obtain ⟨h1, h2, h3⟩ := lvl_b k (fun j a b => h j a (by omega))
    have hl := h (p + k) (by omega) (by omega)
    unfold isSm at hl
    rw [lvl]
    cases k with
    | zero =>
      have e0 : lvl T p 0 = 0 := rfl
      rw [Nat.add_zero] at hl ⊢
      rw [e0]
      have e1 : (256 : Int) ^ (0 + 1 - 1) = 1 := rfl
      rw [e1]
      omega
    | succ m =>
      have h4 := h3 (by omega)
      have e : (256 : Int) ^ (m + 1 + 1 - 1) = 256 * 256 ^ (m + 1 - 1) := by
        rw [show m + 1 + 1 - 1 = (m + 1 - 1) + 1 by omega, Int.pow_succ]; omega
      rw [e]
      generalize (256 : Int) ^ (m + 1 - 1) = w at *
      omega
/-- tokens end behind where they begin -/
theorem Tok_lt {T : Nat → Int} {n p q : Nat} {kd v st : Int} (h : TokR T n p kd v st q) (hp : p < n) (hk : kd ≠ 257) : p < q ∧ q ≤ n := by
  obtain ⟨h1, h2, h3, h4⟩ := h
  by_cases c1 : 65 ≤ T p ∧ T p ≤ 71
  · obtain ⟨q1, q2⟩ := h1 c1
    by_cases d : 48 ≤ tb T n (p + 1 + mk T n p) ∧ tb T n (p + 1 + mk T n p) ≤ 56
    · obtain ⟨-, -, -, e⟩ := q1 d
      have : p + 1 + mk T n p < n := by
        rcases Nat.lt_or_ge (p + 1 + mk T n p) n with h | h
        · exact h
        · rw [tb_out h] at d; omega
      omega
    · exact absurd (q2 d) hk
  · by_cases c2 : isSm (T p)
    · obtain ⟨⟨⟨r1, r2⟩, r3, r4⟩, -, -⟩ := h2 c2
      refine ⟨?_, r2⟩
      rcases Nat.lt_or_ge p q with h | h
      · exact h
      · have : q = p := by omega
        subst this; exact absurd c2 (r4 hp)
    · by_cases c3 : isDg (T p)
      · obtain ⟨⟨⟨r1, r2⟩, r3, r4⟩, -, -⟩ := h3 c3
        refine ⟨?_, r2⟩
        rcases Nat.lt_or_ge p q with h | h
        · exact h
        · have : q = p := by omega
          subst this; exact absurd c3 (r4 hp)
      · obtain ⟨e, -, -⟩ := h4 c1 c2 c3
        omega
theorem Tok_d {T : Nat → Int} {n p q q' : Nat} {kd v st kd' v' st' : Int} (h : TokR T n p kd v st q) (h' : TokR T n p kd' v' st' q') : kd = kd' ∧ (kd ≠ 257 → q = q' ∧ ((kd = 258 ∨ kd = 259 ∨ kd = 260) → v = v') ∧ (kd = 258 → st = st')) := by
  obtain ⟨h1, h2, h3, h4⟩ := h
  obtain ⟨h1', h2', h3', h4'⟩ := h'
  by_cases c1 : 65 ≤ T p ∧ T p ≤ 71
  · obtain ⟨q1, q2⟩ := h1 c1
    obtain ⟨q1', q2'⟩ := h1' c1
    by_cases d : 48 ≤ tb T n (p + 1 + mk T n p) ∧ tb T n (p + 1 + mk T n p) ≤ 56
    · obtain ⟨a1, a2, a3, a4⟩ := q1 d
      obtain ⟨b1, b2, b3, b4⟩ := q1' d
      exact ⟨by rw [a1, b1], fun _ => ⟨by rw [a4, b4], fun _ => by rw [a2, b2], fun _ => by rw [a3, b3]⟩⟩
    · have e1 := q2 d
      have e2 := q2' d
      exact ⟨by rw [e1, e2], fun z => absurd e1 z⟩
  · by_cases c2 : isSm (T p)
    · obtain ⟨r, s1, s2⟩ := h2 c2
      obtain ⟨r', s1', s2'⟩ := h2' c2
      have e := RunR_d r r'
      subst e
      by_cases c : 8 < q - p
      · have e1 := s1 c
        have e2 := s1' c
        exact ⟨by rw [e1, e2], fun z => absurd e1 z⟩
      · obtain ⟨a1, a2⟩ := s2 (by omega)
        obtain ⟨b1, b2⟩ := s2' (by omega)
        refine ⟨by rw [a1, b1], fun _ => ⟨rfl, fun _ => by rw [a2, b2], fun z => ?_⟩⟩
        rw [a1] at z
        unfold knm at z
        repeat' split at z
        all_goals omega
    · by_cases c3 : isDg (T p)
      · obtain ⟨r, s1, s2⟩ := h3 c3
        obtain ⟨r', s1', s2'⟩ := h3' c3
        have e := RunR_d r r'
        subst e
        by_cases c : 4 < q - p
        · have e1 := s1 c
          have e2 := s1' c
          exact ⟨by rw [e1, e2], fun z => absurd e1 z⟩
        · obtain ⟨a1, a2⟩ := s2 (by omega)
          obtain ⟨b1, b2⟩ := s2' (by omega)
          exact ⟨by rw [a1, b1], fun _ => ⟨rfl, fun _ => by rw [a2, b2], fun z => by omega⟩⟩
      · obtain ⟨a1, a2, a3⟩ := h4 c1 c2 c3
        obtain ⟨b1, b2, b3⟩ := h4' c1 c2 c3
        by_cases c : isSg (T p)
        · have e1 := a2 c
          have e2 := b2 c
          refine ⟨by rw [e1, e2], fun _ => ⟨by rw [a1, b1], fun z => ?_, fun z => ?_⟩⟩
          · rw [e1] at z; unfold isSg at c; omega
          · rw [e1] at z; unfold isSg at c; omega
        · have e1 := a3 c
          have e2 := b3 c
          exact ⟨by rw [e1, e2], fun z => absurd e1 z⟩
/-- a table of tokens: kinds, places, values, steps -/
abbrev tk_T : Type := (Nat → Int) × (Nat → Int) × (Nat → Int) × (Nat → Int)
abbrev tK (t : tk_T) : Nat → Int := t.1
abbrev tP (t : tk_T) : Nat → Int := t.2.1
abbrev tV' (t : tk_T) : Nat → Int := t.2.2.1
abbrev tS (t : tk_T) : Nat → Int := t.2.2.2
/-- token i of the table stands at p, and the text goes on at q -/
def TkI (T : Nat → Int) (n : Nat) (t : tk_T) (i p q : Nat) : Prop := tP t i = (p : Int) ∧ p ≤ n ∧ (p = n → tK t i = 256 ∧ q = n) ∧ (p < n → TokR T n p (tK t i) (tV' t i) (tS t i) q ∧ tK t i ≠ 256)
/-- the table tells the text's first m tokens -/
def Tkn (T : Nat → Int) (n : Nat) (t : tk_T) (m : Nat) : Prop := ∃ a b : Nat → Nat, Skp T n 0 (a 0) ∧ (∀ i, i < m → TkI T n t i (a i) (b i)) ∧ ∀ i, i + 1 < m → gk (tK t i) ∧ Skp T n (b i) (a (i + 1))
