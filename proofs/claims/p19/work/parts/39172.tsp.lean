/-! ===== tree: which rule stands at a place of a tree: a spec of our own ===== -/
/-- the least k < N with w < S (k + 1), or N -/
def pkF (S : Nat → Int) (w : Int) : Nat → Nat
  | 0 => 0
  | k + 1 => if pkF S w k < k then pkF S w k else (if w < S (k + 1) then k else k + 1)
theorem pkF_c (S : Nat → Int) (w : Int) : ∀ N, (∀ j, 1 ≤ j → j ≤ pkF S w N → ¬ w < S j) ∧ (pkF S w N < N → w < S (pkF S w N + 1)) ∧ pkF S w N ≤ N
  | 0 => ⟨fun j h1 h2 => by rw [pkF] at h2; omega, fun h => by rw [pkF] at h; omega, Nat.le_refl _⟩
  | N + 1 => by
    obtain ⟨a1, a2, a3⟩ := pkF_c S w N
    rw [pkF]
    by_cases c : pkF S w N < N
    · rw [if_pos c]
      exact ⟨a1, fun _ => a2 c, by omega⟩
    · rw [if_neg c]
      have e : pkF S w N = N := by omega
      rw [e] at a1
      by_cases d : w < S (N + 1)
      · rw [if_pos d]
        exact ⟨a1, fun _ => d, by omega⟩
      · rw [if_neg d]
        refine ⟨fun j h1 h2 => ?_, fun h => by omega, Nat.le_refl _⟩
        by_cases x : j = N + 1
        · rw [x]; exact d
        · exact a1 j h1 (by omega)
theorem pkF_at {S : Nat → Int} {w : Int} {N k : Nat} (hk : k < N) (h1 : w < S (k + 1)) (h0 : ∀ j, 1 ≤ j → j ≤ k → ¬ w < S j) : pkF S w N = k := by
  obtain ⟨a1, a2, a3⟩ := pkF_c S w N
  by_cases c : pkF S w N < k
  · exact absurd (a2 (by omega)) (h0 _ (by omega) (by omega))
  · by_cases d : k < pkF S w N
    · exact absurd h1 (a1 (k + 1) (by omega) (by omega))
    · omega
theorem pkF_q {S S' : Nat → Int} {w : Int} : ∀ N, (∀ j, j ≤ N → S j = S' j) → pkF S w N = pkF S' w N
  | 0, _ => rfl
  | N + 1, h => by rw [pkF, pkF, pkF_q N (fun j hj => h j (by omega)), h (N + 1) (Nat.le_refl _)]
/-- the rule of the w-th tree of name a over n places from f on; which of its trees it is; its cut, less 1; which of the cut's; how many its right part has -/
def nR (μ : pm_T) (a f n : Nat) (w : Int) : Nat := pkF (suR μ (trN μ) a f n) w (μ 0 4).toNat
def nW (μ : pm_T) (a f n : Nat) (w : Int) : Int := w - suR μ (trN μ) a f n (nR μ a f n w)
def nC (μ : pm_T) (a f n : Nat) (w : Int) : Nat := pkF (byC μ (trN μ) (nR μ a f n w) f n) (nW μ a f n w) (n - 1)
def nV (μ : pm_T) (a f n : Nat) (w : Int) : Int := nW μ a f n w - byC μ (trN μ) (nR μ a f n w) f n (nC μ a f n w)
def nG (μ : pm_T) (a f n : Nat) (w : Int) : Int := trN μ (n - (nC μ a f n w + 1)) (f + (nC μ a f n w + 1)) (μ 4 (nR μ a f n w)).toNat
/-- the i-th rule of a tree -/
def trI (μ : pm_T) : Nat → Nat → Nat → Nat → Int → Nat → Int
  | 0, _, _, _, _, _ => 0
  | F + 1, a, f, n, w, i =>
    if i = 0 ∨ μ 4 (nR μ a f n w) < 0 then (nR μ a f n w : Int)
    else if i ≤ 2 * nC μ a f n w + 1 then trI μ F (μ 3 (nR μ a f n w)).toNat f (nC μ a f n w + 1) (nV μ a f n w / nG μ a f n w) (i - 1)
    else trI μ F (μ 4 (nR μ a f n w)).toNat (f + (nC μ a f n w + 1)) (n - (nC μ a f n w + 1)) (nV μ a f n w % nG μ a f n w) (i - 2 * (nC μ a f n w + 1))
theorem trI_F {μ : pm_T} : ∀ (F H a f n : Nat) (w : Int) (i : Nat), i < F → i < H → trI μ F a f n w i = trI μ H a f n w i
  | 0, _, _, _, _, _, _, h, _ => by omega
  | F + 1, 0, _, _, _, _, _, _, h => by omega
  | F + 1, H + 1, a, f, n, w, i, h1, h2 => by
    rw [trI, trI]
    by_cases c : i = 0 ∨ μ 4 (nR μ a f n w) < 0
    · rw [if_pos c, if_pos c]
    · rw [if_neg c, if_neg c]
      by_cases d : i ≤ 2 * nC μ a f n w + 1
      · rw [if_pos d, if_pos d]
        exact trI_F F H _ _ _ _ _ (by omega) (by omega)
      · rw [if_neg d, if_neg d]
        exact trI_F F H _ _ _ _ _ (by omega) (by omega)
/-- a tree that there is, within a row of L places -/
def VP (μ : pm_T) (L a f n : Nat) (w : Int) : Prop := 1 ≤ n ∧ f + n ≤ L ∧ L ≤ 12 ∧ a ≤ 15 ∧ 0 ≤ w ∧ w < trN μ n f a
theorem tcap_le {x : Int} : cap x ≤ x := by rcases cap_or x with w | w <;> omega
theorem suR_m {μ : pm_T} {a f n r : Nat} : suR μ (trN μ) a f n (r + 1) = suR μ (trN μ) a f n r + (if (μ 2 r).toNat = a then byR μ (trN μ) r f n else 0) := rfl
section
variable {μ : pm_T} {L a f n : Nat} {w : Int}
theorem VP_r (V : VP μ L a f n w) : ((nR μ a f n w : Nat) : Int) < μ 0 4 ∧ (μ 2 (nR μ a f n w)).toNat = a ∧ 0 ≤ nW μ a f n w ∧ nW μ a f n w < byR μ (trN μ) (nR μ a f n w) f n := by
  obtain ⟨v1, v2, v3, v4, v5, v6⟩ := V
  rw [trN_s v1] at v6
  have v7 := Int.lt_of_lt_of_le v6 tcap_le
  obtain ⟨a1, a2, a3⟩ := pkF_c (suR μ (trN μ) a f n) w (μ 0 4).toNat
  have lt : pkF (suR μ (trN μ) a f n) w (μ 0 4).toNat < (μ 0 4).toNat := by
    by_cases c : pkF (suR μ (trN μ) a f n) w (μ 0 4).toNat < (μ 0 4).toNat
    · exact c
    · exfalso
      have e : pkF (suR μ (trN μ) a f n) w (μ 0 4).toNat = (μ 0 4).toNat := by omega
      by_cases z : (μ 0 4).toNat = 0
      · rw [z] at v7
        have : suR μ (trN μ) a f n 0 = 0 := rfl
        omega
      · exact a1 _ (by omega) (by omega) v7
  have up := a2 lt
  have lo : suR μ (trN μ) a f n (nR μ a f n w) ≤ w := by
    unfold nR
    by_cases z : pkF (suR μ (trN μ) a f n) w (μ 0 4).toNat = 0
    · rw [z]; exact v5
    · have := a1 _ (by omega) (Nat.le_refl _)
      omega
  have e : pkF (suR μ (trN μ) a f n) w (μ 0 4).toNat = nR μ a f n w := rfl
  rw [e] at lt up
  rw [suR_m] at up
  have nm : (μ 2 (nR μ a f n w)).toNat = a := by
    by_cases c : (μ 2 (nR μ a f n w)).toNat = a
    · exact c
    · rw [if_neg c] at up; omega
  rw [if_pos nm] at up
  unfold nW
  exact ⟨by omega, nm, by omega, by omega⟩
theorem VP_leaf (V : VP μ L a f n w) (h : μ 4 (nR μ a f n w) < 0) : n = 1 := by
  obtain ⟨r1, r2, r3, r4⟩ := VP_r V
  unfold byR at r4
  rw [if_pos h] at r4
  by_cases c : n = 1
  · exact c
  · rw [if_neg (show ¬ (n = 1 ∧ μ 5 f = μ 3 (nR μ a f n w)) from fun x => c x.1)] at r4; omega
theorem VP_node (N : NMg μ) (V : VP μ L a f n w) (h : 0 ≤ μ 4 (nR μ a f n w)) : nC μ a f n w + 1 < n ∧ 0 ≤ nV μ a f n w ∧ nV μ a f n w < trN μ (nC μ a f n w + 1) f (μ 3 (nR μ a f n w)).toNat * nG μ a f n w ∧ 1 ≤ nG μ a f n w ∧ VP μ L (μ 3 (nR μ a f n w)).toNat f (nC μ a f n w + 1) (nV μ a f n w / nG μ a f n w) ∧ VP μ L (μ 4 (nR μ a f n w)).toNat (f + (nC μ a f n w + 1)) (n - (nC μ a f n w + 1)) (nV μ a f n w % nG μ a f n w) := by
  obtain ⟨r1, r2, r3, r4⟩ := VP_r V
  obtain ⟨v1, v2, v3, v4, v5, v6⟩ := V
  have nb := N.1 _ r1
  unfold byR at r4
  rw [if_neg (by omega)] at r4
  obtain ⟨a1, a2, a3⟩ := pkF_c (byC μ (trN μ) (nR μ a f n w) f n) (nW μ a f n w) (n - 1)
  have e : pkF (byC μ (trN μ) (nR μ a f n w) f n) (nW μ a f n w) (n - 1) = nC μ a f n w := rfl
  rw [e] at a1 a2 a3
  have lt : nC μ a f n w < n - 1 := by
    by_cases c : nC μ a f n w < n - 1
    · exact c
    · exfalso
      have e : nC μ a f n w = n - 1 := by omega
      by_cases z : n - 1 = 0
      · rw [z] at r4
        have : byC μ (trN μ) (nR μ a f n w) f n 0 = 0 := rfl
        omega
      · exact a1 (n - 1) (by omega) (by omega) r4
  have up := a2 lt
  have lo : byC μ (trN μ) (nR μ a f n w) f n (nC μ a f n w) ≤ nW μ a f n w := by
    by_cases z : nC μ a f n w = 0
    · rw [z]; exact r3
    · have := a1 _ (by omega) (Nat.le_refl _)
      omega
  have es : byC μ (trN μ) (nR μ a f n w) f n (nC μ a f n w + 1) = byC μ (trN μ) (nR μ a f n w) f n (nC μ a f n w) + trN μ (nC μ a f n w + 1) f (μ 3 (nR μ a f n w)).toNat * nG μ a f n w := rfl
  rw [es] at up
  have g0 : 0 ≤ nG μ a f n w := (trN_b _ _ _).1
  have t0 := (trN_b (μ := μ) (nC μ a f n w + 1) f (μ 3 (nR μ a f n w)).toNat).1
  have V0 : 0 ≤ nV μ a f n w := by unfold nV; omega
  have V1 : nV μ a f n w < trN μ (nC μ a f n w + 1) f (μ 3 (nR μ a f n w)).toNat * nG μ a f n w := by unfold nV; omega
  have g1 : 1 ≤ nG μ a f n w := by
    by_cases c : nG μ a f n w = 0
    · rw [c, Int.mul_zero] at V1; omega
    · omega
  refine ⟨by omega, V0, V1, g1, ⟨by omega, by omega, v3, by omega, Int.ediv_nonneg V0 g0, Int.ediv_lt_of_lt_mul (by omega) V1⟩, ⟨by omega, by omega, v3, by omega, Int.emod_nonneg _ (by omega), ?_⟩⟩
  exact Int.emod_lt_of_pos _ (by omega)
end
/-- a row of trees, one behind another: the i-th rule of them all -/
def stI (μ : pm_T) : List (Nat × Nat × Nat × Int) → Nat → Int
  | [], _ => -1
  | x :: t, i => if i < 2 * x.2.2.1 - 1 then trI μ (i + 1) x.1 x.2.1 x.2.2.1 x.2.2.2 i else stI μ t (i - (2 * x.2.2.1 - 1))
theorem stI_0 {μ : pm_T} {a f n : Nat} {w : Int} {t : List (Nat × Nat × Nat × Int)} (h : 1 ≤ n) : stI μ ((a, f, n, w) :: t) 0 = (nR μ a f n w : Int) := by
  rw [stI, if_pos (by show 0 < 2 * n - 1; omega)]
  show trI μ (0 + 1) a f n w 0 = _
  rw [trI, if_pos (Or.inl rfl)]
theorem stI_l {μ : pm_T} {L a f n : Nat} {w : Int} {t : List (Nat × Nat × Nat × Int)} {i : Nat} (V : VP μ L a f n w) (h : μ 4 (nR μ a f n w) < 0) : stI μ ((a, f, n, w) :: t) (i + 1) = stI μ t i := by
  obtain rfl := VP_leaf V h
  rw [stI, if_neg (by show ¬ i + 1 < 2 * 1 - 1; omega)]
  show stI μ t (i + 1 - (2 * 1 - 1)) = _
  rw [show i + 1 - (2 * 1 - 1) = i by omega]
theorem stI_n {μ : pm_T} {L a f n : Nat} {w : Int} {t : List (Nat × Nat × Nat × Int)} {i : Nat} (N : NMg μ) (V : VP μ L a f n w) (h : 0 ≤ μ 4 (nR μ a f n w)) : stI μ ((a, f, n, w) :: t) (i + 1) = stI μ (((μ 3 (nR μ a f n w)).toNat, f, nC μ a f n w + 1, nV μ a f n w / nG μ a f n w) :: ((μ 4 (nR μ a f n w)).toNat, f + (nC μ a f n w + 1), n - (nC μ a f n w + 1), nV μ a f n w % nG μ a f n w) :: t) i := by
  obtain ⟨c1, -⟩ := VP_node N V h
  rw [stI, stI]
  show (if i + 1 < 2 * n - 1 then trI μ (i + 1 + 1) a f n w (i + 1) else stI μ t (i + 1 - (2 * n - 1))) = if i < 2 * (nC μ a f n w + 1) - 1 then trI μ (i + 1) (μ 3 (nR μ a f n w)).toNat f (nC μ a f n w + 1) (nV μ a f n w / nG μ a f n w) i else stI μ (((μ 4 (nR μ a f n w)).toNat, f + (nC μ a f n w + 1), n - (nC μ a f n w + 1), nV μ a f n w % nG μ a f n w) :: t) (i - (2 * (nC μ a f n w + 1) - 1))
  rw [stI]
  show (if i + 1 < 2 * n - 1 then trI μ (i + 1 + 1) a f n w (i + 1) else stI μ t (i + 1 - (2 * n - 1))) = if i < 2 * (nC μ a f n w + 1) - 1 then trI μ (i + 1) (μ 3 (nR μ a f n w)).toNat f (nC μ a f n w + 1) (nV μ a f n w / nG μ a f n w) i else (if i - (2 * (nC μ a f n w + 1) - 1) < 2 * (n - (nC μ a f n w + 1)) - 1 then trI μ (i - (2 * (nC μ a f n w + 1) - 1) + 1) (μ 4 (nR μ a f n w)).toNat (f + (nC μ a f n w + 1)) (n - (nC μ a f n w + 1)) (nV μ a f n w % nG μ a f n w) (i - (2 * (nC μ a f n w + 1) - 1)) else stI μ t (i - (2 * (nC μ a f n w + 1) - 1) - (2 * (n - (nC μ a f n w + 1)) - 1)))
  by_cases d : i < 2 * (nC μ a f n w + 1) - 1
  · rw [if_pos d, if_pos (by omega), trI, if_neg (by omega), if_pos (by omega), show i + 1 - 1 = i by omega]
  · rw [if_neg d]
    by_cases q : i + 1 < 2 * n - 1
    · rw [if_pos q, if_pos (by omega), trI, if_neg (by omega), if_neg (by omega), show i + 1 - 2 * (nC μ a f n w + 1) = i - (2 * (nC μ a f n w + 1) - 1) by omega]
      exact trI_F _ _ _ _ _ _ _ (by omega) (by omega)
    · rw [if_neg q, if_neg (by omega), show i - (2 * (nC μ a f n w + 1) - 1) - (2 * (n - (nC μ a f n w + 1)) - 1) = i + 1 - (2 * n - 1) by omega]
/-- what tree answers -/
def trv (μ : pm_T) (k i : Int) : Int := if k < 0 ∨ reaN μ ≤ k ∨ i < 0 then -1 else stI μ [((μ 2 0).toNat, 0, (μ 0 5).toNat, k)] i.toNat
/-- two memories with like rules and like rows -/
def RE (μ ν : pm_T) : Prop := (μ 0 4 = ν 0 4 ∧ μ 0 5 = ν 0 5) ∧ (∀ r : Nat, (r : Int) < μ 0 4 → μ 2 r = ν 2 r ∧ μ 3 r = ν 3 r ∧ (μ 4 r).toNat = (ν 4 r).toNat ∧ (μ 4 r < 0 ↔ ν 4 r < 0)) ∧ ∀ f : Nat, (f : Int) < μ 0 5 → μ 5 f = ν 5 f
section
variable {μ ν : pm_T}
theorem byC_q {r f n : Nat} (E : RE μ ν) (hr : (r : Int) < μ 0 4) (ih : ∀ m, m < n → ∀ g a : Nat, (g + m : Int) ≤ μ 0 5 → trN μ m g a = trN ν m g a) (hf : (f + n : Int) ≤ μ 0 5) : ∀ c, c ≤ n - 1 → byC μ (trN μ) r f n c = byC ν (trN ν) r f n c
  | 0, _ => rfl
  | c + 1, hc => by
    obtain ⟨-, e3, e4, -⟩ := E.2.1 r hr
    rw [byC, byC, byC_q E hr ih hf c (by omega), e3, e4, ih (c + 1) (by omega) _ _ (by omega), ih (n - (c + 1)) (by omega) _ _ (by omega)]
theorem byR_q {r f n : Nat} (E : RE μ ν) (hr : (r : Int) < μ 0 4) (hn : 1 ≤ n) (ih : ∀ m, m < n → ∀ g a : Nat, (g + m : Int) ≤ μ 0 5 → trN μ m g a = trN ν m g a) (hf : (f + n : Int) ≤ μ 0 5) : byR μ (trN μ) r f n = byR ν (trN ν) r f n := by
  obtain ⟨-, e3, -, e4⟩ := E.2.1 r hr
  have e5 := E.2.2 f (by omega)
  unfold byR
  by_cases c : μ 4 r < 0
  · rw [if_pos c, if_pos (e4.mp c), e3, e5]
  · rw [if_neg c, if_neg (fun x => c (e4.mpr x))]
    exact byC_q E hr ih hf _ (Nat.le_refl _)
theorem suR_q {a f n : Nat} (E : RE μ ν) (hn : 1 ≤ n) (ih : ∀ m, m < n → ∀ g a : Nat, (g + m : Int) ≤ μ 0 5 → trN μ m g a = trN ν m g a) (hf : (f + n : Int) ≤ μ 0 5) : ∀ r : Nat, (r : Int) ≤ μ 0 4 → suR μ (trN μ) a f n r = suR ν (trN ν) a f n r
  | 0, _ => rfl
  | r + 1, hr => by
    rw [suR, suR, suR_q E hn ih hf r (by omega), (E.2.1 r (by omega)).1, byR_q E (by omega) hn ih hf]
theorem trN_q (E : RE μ ν) (h4 : 0 ≤ μ 0 4) : ∀ N m : Nat, m ≤ N → ∀ g a : Nat, (g + m : Int) ≤ μ 0 5 → trN μ m g a = trN ν m g a
  | 0, m, hm, g, a, _ => by
    obtain rfl : m = 0 := by omega
    rfl
  | N + 1, m, hm, g, a, hg => by
    by_cases z : m = 0
    · subst z; rfl
    · have ih := trN_q E h4 N
      rw [trN_s (by omega), trN_s (by omega), ← E.1.1, suR_q E (by omega) (fun k hk => ih k (by omega)) hg _ (by omega)]
theorem trN_e (E : RE μ ν) (h4 : 0 ≤ μ 0 4) (m g a : Nat) (h : (g + m : Int) ≤ μ 0 5) : trN μ m g a = trN ν m g a := trN_q E h4 m m (Nat.le_refl _) g a h
theorem trI_q (E : RE μ ν) (h4 : 0 ≤ μ 0 4) (N : NMg μ) : ∀ (F a f n : Nat) (w : Int) (i : Nat), VP μ (μ 0 5).toNat a f n w → trI μ F a f n w i = trI ν F a f n w i
  | 0, _, _, _, _, _, _ => rfl
  | F + 1, a, f, n, w, i, V => by
    have ih := trI_q E h4 N F
    obtain ⟨r1, -⟩ := VP_r V
    have hf : (f + n : Int) ≤ μ 0 5 := by have := V.2.1; have := V.1; omega
    have all : ∀ m, m < n → ∀ g a : Nat, (g + m : Int) ≤ μ 0 5 → trN μ m g a = trN ν m g a := fun m _ g a q => trN_e E h4 m g a q
    have s := fun (j : Nat) (hj : (j : Int) ≤ μ 0 4) => suR_q (a := a) E V.1 all hf j hj
    have eR : nR μ a f n w = nR ν a f n w := by
      unfold nR
      rw [← E.1.1]
      exact pkF_q _ (fun j hj => s j (by omega))
    have eW : nW μ a f n w = nW ν a f n w := by
      unfold nW
      rw [s _ (by omega), eR]
    have cc := fun (j : Nat) hj => byC_q (r := nR μ a f n w) E r1 all hf j hj
    have eC : nC μ a f n w = nC ν a f n w := by
      unfold nC
      rw [← eR, ← eW]
      exact pkF_q _ (fun j hj => cc j hj)
    have cb : nC μ a f n w ≤ n - 1 := (pkF_c _ _ _).2.2
    have eV : nV μ a f n w = nV ν a f n w := by
      unfold nV
      rw [cc _ cb, eW, eC, eR]
    obtain ⟨-, e3, e4, e5⟩ := E.2.1 _ r1
    rw [trI, trI, ← eR, ← eC, ← eV]
    by_cases c : i = 0 ∨ μ 4 (nR μ a f n w) < 0
    · rw [if_pos c, if_pos (by rcases c with c | c <;> first | exact Or.inl c | exact Or.inr (e5.mp c))]
    · have c' : ¬ (i = 0 ∨ ν 4 (nR μ a f n w) < 0) := fun x => c (by rcases x with x | x <;> first | exact Or.inl x | exact Or.inr (e5.mpr x))
      obtain ⟨k1, -, -, -, V1, V2⟩ := VP_node N V (by omega)
      have eG : nG μ a f n w = nG ν a f n w := by
        unfold nG
        rw [← eR, ← eC, ← e4]
        exact trN_e E h4 _ _ _ (by omega)
      rw [if_neg c, if_neg c', ← eG, ← e3, ← e4]
      by_cases d : i ≤ 2 * nC μ a f n w + 1
      · rw [if_pos d, if_pos d]; exact ih _ _ _ _ _ V1
      · rw [if_neg d, if_neg d]; exact ih _ _ _ _ _ V2
theorem trv_q (E : RE μ ν) (N : NMg μ) (h4 : 1 ≤ μ 0 4) (h5 : 1 ≤ μ 0 5 ∧ μ 0 5 ≤ 12) (k i : Int) : reaN μ = reaN ν ∧ trv μ k i = trv ν k i := by
  have e2 := (E.2.1 0 (by omega)).1
  have e : reaN μ = reaN ν := by
    unfold reaN
    rw [← e2, ← E.1.2]
    exact trN_e E (by omega) _ _ _ (by omega)
  refine ⟨e, ?_⟩
  unfold trv
  rw [← e]
  by_cases c : k < 0 ∨ reaN μ ≤ k ∨ i < 0
  · rw [if_pos c, if_pos c]
  · rw [if_neg c, if_neg c, ← e2, ← E.1.2]
    have nb := (N.1 0 (by omega)).1
    have V : VP μ (μ 0 5).toNat (μ 2 0).toNat 0 (μ 0 5).toNat k := ⟨by omega, by omega, by omega, by omega, by omega, by unfold reaN at c; omega⟩
    rw [stI, stI]
    by_cases d : i.toNat < 2 * (μ 0 5).toNat - 1
    · show (if i.toNat < 2 * (μ 0 5).toNat - 1 then trI μ (i.toNat + 1) (μ 2 0).toNat 0 (μ 0 5).toNat k i.toNat else _) = if i.toNat < 2 * (μ 0 5).toNat - 1 then trI ν (i.toNat + 1) (μ 2 0).toNat 0 (μ 0 5).toNat k i.toNat else _
      rw [if_pos d, if_pos d]
      exact trI_q E (by omega) N _ _ _ _ _ _ V
    · show (if i.toNat < 2 * (μ 0 5).toNat - 1 then trI μ (i.toNat + 1) (μ 2 0).toNat 0 (μ 0 5).toNat k i.toNat else (-1 : Int)) = if i.toNat < 2 * (μ 0 5).toNat - 1 then trI ν (i.toNat + 1) (μ 2 0).toNat 0 (μ 0 5).toNat k i.toNat else (-1 : Int)
      rw [if_neg d, if_neg d]
end
theorem VP_u {μ : pm_T} {L a f n : Nat} {w : Int} (V : VP μ L a f n w) : w < suR μ (trN μ) a f n (nR μ a f n w + 1) := by
  obtain ⟨r1, -⟩ := VP_r V
  exact (pkF_c (suR μ (trN μ) a f n) w (μ 0 4).toNat).2.1 (by show nR μ a f n w < _; omega)
theorem VP_v {μ : pm_T} {L a f n : Nat} {w : Int} (N : NMg μ) (V : VP μ L a f n w) (h : 0 ≤ μ 4 (nR μ a f n w)) : nW μ a f n w < byC μ (trN μ) (nR μ a f n w) f n (nC μ a f n w + 1) := by
  obtain ⟨c1, -⟩ := VP_node N V h
  exact (pkF_c (byC μ (trN μ) (nR μ a f n w) f n) (nW μ a f n w) (n - 1)).2.1 (by show nC μ a f n w < _; omega)
theorem VP_w {μ : pm_T} {L a f n : Nat} {w : Int} (V : VP μ L a f n w) : w ≤ 1000000 := by
  have := (trN_b (μ := μ) n f a).2
  have := V.2.2.2.2.2
  omega
theorem VP_x {μ : pm_T} {L a f n : Nat} {w : Int} (V : VP μ L a f n w) : nV μ a f n w ≤ w := by
  have x := suR_0 (μ := μ) (tb := trN μ) trN_b (a := a) (f := f) (n := n) (nR μ a f n w)
  have y := (byC_b (μ := μ) (tb := trN μ) trN_b (r := nR μ a f n w) (f := f) (n := n) (nC μ a f n w)).1
  unfold nV nW
  omega
theorem trI_b {μ : pm_T} {L : Nat} (N : NMg μ) : ∀ (F a f n : Nat) (w : Int) (i : Nat), VP μ L a f n w → 0 ≤ trI μ F a f n w i ∧ (trI μ F a f n w i = 0 ∨ trI μ F a f n w i < μ 0 4)
  | 0, _, _, _, _, _, _ => ⟨Int.le_refl _, Or.inl rfl⟩
  | F + 1, a, f, n, w, i, V => by
    obtain ⟨r1, -⟩ := VP_r V
    rw [trI]
    by_cases c : i = 0 ∨ μ 4 (nR μ a f n w) < 0
    · rw [if_pos c]
      exact ⟨by omega, Or.inr r1⟩
    · obtain ⟨k1, -, -, -, V1, V2⟩ := VP_node N V (by omega)
      rw [if_neg c]
      by_cases d : i ≤ 2 * nC μ a f n w + 1
      · rw [if_pos d]; exact trI_b N F _ _ _ _ _ V1
      · rw [if_neg d]; exact trI_b N F _ _ _ _ _ V2
theorem trv_b {μ : pm_T} {k i : Int} (N : NMg μ) (h4 : 1 ≤ μ 0 4 ∧ μ 0 4 ≤ 24) (h5 : 1 ≤ μ 0 5 ∧ μ 0 5 ≤ 12) : (-2147483648) ≤ trv μ k i ∧ trv μ k i ≤ 2147483647 := by
  unfold trv
  by_cases c : k < 0 ∨ reaN μ ≤ k ∨ i < 0
  · rw [if_pos c]; decide
  · rw [if_neg c, stI]
    have nb := (N.1 0 (by omega)).1
    have V : VP μ (μ 0 5).toNat (μ 2 0).toNat 0 (μ 0 5).toNat k := ⟨by omega, by omega, by omega, by omega, by omega, by unfold reaN at c; omega⟩
    have b := trI_b N (i.toNat + 1) _ _ _ _ i.toNat V
    by_cases d : i.toNat < 2 * (μ 0 5).toNat - 1
    · show -2147483648 ≤ (if i.toNat < 2 * (μ 0 5).toNat - 1 then trI μ (i.toNat + 1) (μ 2 0).toNat 0 (μ 0 5).toNat k i.toNat else _) ∧ (if i.toNat < 2 * (μ 0 5).toNat - 1 then trI μ (i.toNat + 1) (μ 2 0).toNat 0 (μ 0 5).toNat k i.toNat else _) ≤ 2147483647
      rw [if_pos d]
      omega
    · show -2147483648 ≤ (if i.toNat < 2 * (μ 0 5).toNat - 1 then _ else stI μ [] _) ∧ (if i.toNat < 2 * (μ 0 5).toNat - 1 then _ else stI μ [] _) ≤ 2147483647
      rw [if_neg d]
      exact (show (-2147483648 : Int) ≤ -1 ∧ (-1 : Int) ≤ 2147483647 from by decide)
