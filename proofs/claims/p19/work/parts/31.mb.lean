/-! ===== the reference's invariant ===== -/
def ma_L : List (Option (Int × Int)) := [none, some (0, 255), some (0, 4), some (0, 32), some (0, 32), some (0, 8), some ((-2), 109), some (0, 24), some ((-2), 15), some ((-2), 15), some ((-2), 15), some (0, 12), some (0, 15), some (0, 16), some ((-2147483648), 2147483647), some (0, 300), some (0, 101), some ((-2147483648), 2147483647), some ((-2147483648), 2147483647), some ((-2147483648), 2147483647), some ((-2147483648), 2147483647), some (0, 4), some ((-2), 109), some (0, 62), some ((-2147483648), 2147483647), some ((-2147483648), 2147483647), some (0, 101), some (0, 64), some (0, 3), some ((-2147483648), 2147483647), some ((-2147483648), 2147483647), some (0, 6), some (0, 64), some (0, 16), some (0, 4), some ((-2), 109), some (0, 62), some ((-2147483648), 2147483647), some ((-2147483648), 2147483647), some (0, 3), some (0, 2000), some (0, 2000), some (0, 2000), some (0, 2000), some (0, 2000), some (0, 2000), some (0, 6), some (0, 2000), some (0, 2001), some (0, 2001), some ((-2147483648), 2147483647), some ((-2147483648), 2147483647), some ((-2147483648), 2147483647), some ((-2147483648), 2147483647), some ((-2147483648), 2147483647), some ((-2147483648), 2147483647), some ((-2147483648), 2147483647), some ((-2147483648), 2147483647), some ((-2147483648), 2147483647), some ((-2147483648), 2147483647), some ((-2147483648), 2147483647), some ((-2147483648), 2147483647), some (0, 15), some (0, 12), some (0, 12), some ((-2147483648), 2147483647), some ((-2147483648), 2147483647), some (0, 1199), some (0, 1199), some ((-2147483648), 2147483647), some ((-2147483648), 2147483647)]
def mo_L : List (Nat × Int × Int) := [(1, 0, 2000), (2, 0, 2000), (3, 0, 2000), (4, 0, 6), (5, 0, 2000), (6, 0, 9999), (8, (-2), 109), (9, 0, 62), (10, 0, 2), (11, 0, 7), (12, 0, 2000), (13, (-2), 2000), (43, 0, 2001), (63, 0, 7), (64, 0, 300), (70, 0, 10), (71, 0, 2010), (72, 0, 301), (73, 0, 101), (80, 0, 2000000000), (85, 0, 16), (89, 0, 16), (93, 0, 8), (94, 0, 120), (95, 0, 120), (98, 0, 1000000), (104, 0, 80)]
def mb_L : List (Option (Int × Int)) := [none, some ((-9223372036854775808), 9223372036854775807), some ((-9223372036854775808), 9223372036854775807), some ((-9223372036854775808), 9223372036854775807), some ((-9223372036854775808), 9223372036854775807), some ((-9223372036854775808), 9223372036854775807), some ((-9223372036854775808), 9223372036854775807), some ((-9223372036854775808), 9223372036854775807), some ((-9223372036854775808), 9223372036854775807), some ((-9223372036854775808), 9223372036854775807), some ((-9223372036854775808), 9223372036854775807), some ((-9223372036854775808), 9223372036854775807), some ((-9223372036854775808), 9223372036854775807), some ((-9223372036854775808), 9223372036854775807), some ((-9223372036854775808), 9223372036854775807), some ((-9223372036854775808), 9223372036854775807), some ((-9223372036854775808), 9223372036854775807), some (0, 2000000000000000), some (0, 1000000000000), some (0, 4294967296), some (0, 137438953472), some ((-9223372036854775808), 9223372036854775807), some ((-9223372036854775808), 9223372036854775807), some ((-9223372036854775808), 9223372036854775807), some ((-9223372036854775808), 9223372036854775807), some ((-9223372036854775808), 9223372036854775807), some ((-9223372036854775808), 9223372036854775807), some ((-9223372036854775808), 9223372036854775807), some ((-9223372036854775808), 9223372036854775807), some (0, 2000000000000000), some (0, 1000000000000), some ((-9223372036854775808), 9223372036854775807), some ((-9223372036854775808), 9223372036854775807), some ((-9223372036854775808), 9223372036854775807), some ((-9223372036854775808), 9223372036854775807), some ((-9223372036854775808), 9223372036854775807), some ((-9223372036854775808), 9223372036854775807), some ((-9223372036854775808), 9223372036854775807), some ((-9223372036854775808), 9223372036854775807), some ((-9223372036854775808), 9223372036854775807), some ((-9223372036854775808), 9223372036854775807), some ((-9223372036854775808), 9223372036854775807), some ((-9223372036854775808), 9223372036854775807), some ((-9223372036854775808), 9223372036854775807), some ((-9223372036854775808), 9223372036854775807), some ((-9223372036854775808), 9223372036854775807), some ((-9223372036854775808), 9223372036854775807), some ((-9223372036854775808), 9223372036854775807), some ((-9223372036854775808), 9223372036854775807), some ((-9223372036854775808), 9223372036854775807), some ((-9223372036854775808), 9223372036854775807), some ((-9223372036854775808), 9223372036854775807), some ((-9223372036854775808), 9223372036854775807), some ((-9223372036854775808), 9223372036854775807), some ((-9223372036854775808), 9223372036854775807), some ((-9223372036854775808), 9223372036854775807), some ((-9223372036854775808), 9223372036854775807), some ((-9223372036854775808), 9223372036854775807), some ((-9223372036854775808), 9223372036854775807), some ((-9223372036854775808), 9223372036854775807), some ((-9223372036854775808), 9223372036854775807), some (0, 1000001), some ((-9223372036854775808), 9223372036854775807), some ((-9223372036854775808), 9223372036854775807), some ((-9223372036854775808), 9223372036854775807), some ((-9223372036854775808), 9223372036854775807), some ((-9223372036854775808), 9223372036854775807), some ((-9223372036854775808), 9223372036854775807), some ((-9223372036854775808), 9223372036854775807), some ((-9223372036854775808), 9223372036854775807), some ((-9223372036854775808), 9223372036854775807)]
def mp_L : List (Nat × Int × Int) := [(75, 0, 2000000000000000), (76, 0, 1000000000000)]
def mf_L : List (Nat × Nat) := [(0, 171), (14, 172), (15, 173), (16, 174), (17, 175), (18, 176), (19, 177), (20, 178), (21, 179), (22, 180), (23, 181), (24, 182), (25, 183), (26, 184), (27, 185), (28, 186), (29, 187), (30, 188), (31, 189), (32, 190), (33, 191), (34, 192), (35, 193), (36, 194), (37, 195), (38, 196), (39, 197), (40, 198), (41, 199), (42, 200), (44, 201), (45, 202), (46, 203), (47, 204), (48, 205), (49, 206), (50, 207), (51, 208), (52, 209), (53, 210), (54, 211), (55, 212), (56, 213), (57, 214), (58, 215), (62, 216), (67, 217), (68, 218), (69, 219), (79, 220), (81, 221), (82, 222), (83, 223), (84, 224), (86, 225), (87, 226), (88, 227), (90, 228), (92, 229), (97, 230), (99, 231), (100, 232), (101, 233), (102, 234), (103, 235), (106, 236), (107, 237), (108, 238), (109, 239), (110, 240)]
def mr (a k : Nat) : Int × Int := match ma_L[a - 170]? with
  | some (some q) => q
  | _ => match mo_L.find? (fun q => q.1 == k) with
    | some q => q.2
    | none => (-2147483648, 2147483647)
def mq (a k : Nat) : Int × Int := match mb_L[a - 170]? with
  | some (some q) => q
  | _ => match mp_L.find? (fun q => q.1 == k) with
    | some q => q.2
    | none => (-9223372036854775808, 9223372036854775807)
def mi (h : ah_T) : Prop := h.1 = sh_L ∧ (∀ q ∈ mf_L, h.2.2.2 170 q.1 = some q.2) ∧ (∀ a k, 170 ≤ a → a ≤ 240 → (mr a k).1 ≤ h.2.1 a k ∧ h.2.1 a k ≤ (mr a k).2) ∧ ∀ a k, 170 ≤ a → a ≤ 240 → (mq a k).1 ≤ h.2.2.1 a k ∧ h.2.2.1 a k ≤ (mq a k).2
/-- what a method writes: fields of the reference, arrays -/
def pm (F A : List Nat) (a k : Nat) : Bool := (a == 170 && F.contains k) || A.contains a
def kM (P : Nat → Nat → Bool) (h0 h : ah_T) : Prop := mi h ∧ (∀ a, a < 170 → same3 h0 h a) ∧ (∀ a k, P a k = false → h.2.1 a k = h0.2.1 a k) ∧ ∀ a k, P a k = false → h.2.2.1 a k = h0.2.2.1 a k
theorem kM_0 {P : Nat → Nat → Bool} {h : ah_T} (hx : mi h) : kM P h h := ⟨hx, fun _ _ => ⟨rfl, rfl, rfl⟩, fun _ _ _ => rfl, fun _ _ _ => rfl⟩
theorem kM_i {P : Nat → Nat → Bool} {a k : Nat} {z lo hi : Int} {h0 h : ah_T} (hk : kM P h0 h) (ha : 170 ≤ a) (hP : P a k = true) (hq : mr a k = (lo, hi)) (h1 : lo ≤ z) (h2 : z ≤ hi) : kM P h0 (st_i h a k z) := by
  obtain ⟨⟨x1, x2, x3, x4⟩, f1, f2, f3⟩ := hk
  refine ⟨⟨x1, x2, fun x y hx hy => ?_, x4⟩, fun x hx => ⟨(up2_n (fun (e : x = a) => by omega)).trans (f1 x hx).1, (f1 x hx).2⟩, fun x y hp => ?_, f3⟩
  · show (mr x y).1 ≤ up2 h.2.1 a k z x y ∧ up2 h.2.1 a k z x y ≤ (mr x y).2
    by_cases hc : x = a ∧ y = k
    · obtain ⟨rfl, rfl⟩ := hc
      rw [up2_at, hq]
      exact ⟨h1, h2⟩
    · rw [up2_o hc]
      exact x3 x y hx hy
  · show up2 h.2.1 a k z x y = _
    rw [up2_o (fun hc => by rw [hc.1, hc.2, hP] at hp; cases hp)]
    exact f2 x y hp
theorem kM_l {P : Nat → Nat → Bool} {a k : Nat} {z lo hi : Int} {h0 h : ah_T} (hk : kM P h0 h) (ha : 170 ≤ a) (hP : P a k = true) (hq : mq a k = (lo, hi)) (h1 : lo ≤ z) (h2 : z ≤ hi) : kM P h0 (st_l h a k z) := by
  obtain ⟨⟨x1, x2, x3, x4⟩, f1, f2, f3⟩ := hk
  refine ⟨⟨x1, x2, x3, fun x y hx hy => ?_⟩, fun x hx => ⟨(f1 x hx).1, (up2_n (fun (e : x = a) => by omega)).trans (f1 x hx).2.1, (f1 x hx).2.2⟩, f2, fun x y hp => ?_⟩
  · show (mq x y).1 ≤ up2 h.2.2.1 a k z x y ∧ up2 h.2.2.1 a k z x y ≤ (mq x y).2
    by_cases hc : x = a ∧ y = k
    · obtain ⟨rfl, rfl⟩ := hc
      rw [up2_at, hq]
      exact ⟨h1, h2⟩
    · rw [up2_o hc]
      exact x4 x y hx hy
  · show up2 h.2.2.1 a k z x y = _
    rw [up2_o (fun hc => by rw [hc.1, hc.2, hP] at hp; cases hp)]
    exact f3 x y hp
theorem kM_t {P P' : Nat → Nat → Bool} {h0 h h' : ah_T} (hk : kM P h0 h) (hk' : kM P' h h') (hs : ∀ a k, P a k = false → P' a k = false) : kM P h0 h' :=
  ⟨hk'.1, fun a ha => ⟨(hk'.2.1 a ha).1.trans (hk.2.1 a ha).1, (hk'.2.1 a ha).2.1.trans (hk.2.1 a ha).2.1, (hk'.2.1 a ha).2.2.trans (hk.2.1 a ha).2.2⟩, fun a k hp => (hk'.2.2.1 a k (hs a k hp)).trans (hk.2.2.1 a k hp), fun a k hp => (hk'.2.2.2 a k (hs a k hp)).trans (hk.2.2.2 a k hp)⟩
def lsb (A B : List Nat) : Bool := A.all (fun x => B.contains x)
theorem lsb_c {A B : List Nat} (h : lsb A B = true) {x : Nat} (hx : B.contains x = false) : A.contains x = false := by
  cases hc : A.contains x with
  | false => rfl
  | true =>
    have h1 := List.all_eq_true.mp h x (List.contains_iff_mem.mp hc)
    rw [hx] at h1
    cases h1
theorem pm_s {F A F' A' : List Nat} (h1 : lsb F' F = true) (h2 : lsb A' A = true) : ∀ a k, pm F A a k = false → pm F' A' a k = false := by
  intro a k h
  unfold pm at *
  rw [Bool.or_eq_false_iff] at *
  refine ⟨?_, lsb_c h2 h.2⟩
  rw [Bool.and_eq_false_iff] at *
  rcases h.1 with q | q
  · exact Or.inl q
  · exact Or.inr (lsb_c h1 q)
/-- what is left of the tape, and whether a good token waits -/
def mu (h : ah_T) : Int := if h.2.1 170 4 = 0 ∨ h.2.1 170 4 = 6 then 2 * (h.2.1 170 2 - h.2.1 170 3) else 2 * (h.2.1 170 2 - h.2.1 170 3) + 1
theorem mu_f (h : ah_T) : ((h.2.1 170 4 = 0 ∨ h.2.1 170 4 = 6) → mu h = 2 * (h.2.1 170 2 - h.2.1 170 3)) ∧ (h.2.1 170 4 ≠ 0 → h.2.1 170 4 ≠ 6 → mu h = 2 * (h.2.1 170 2 - h.2.1 170 3) + 1) := ⟨fun q => if_pos q, fun q1 q2 => if_neg (fun q => q.elim q1 q2)⟩
theorem mi_s {h : ah_T} (hx : mi h) {a : Nat} {v : Nat × Nat} (hv : sh_L[a]? = some v) : h.1[a]? = some v := by rw [hx.1]; exact hv
theorem mi_r {h : ah_T} (hx : mi h) {k b : Nat} (hm : (k, b) ∈ mf_L) : h.2.2.2 170 k = some b := hx.2.1 _ hm
theorem mi_g {h : ah_T} (hx : mi h) {a k : Nat} (ha : 170 ≤ a ∧ a ≤ 240) {lo hi : Int} (hr : mr a k = (lo, hi)) : lo ≤ h.2.1 a k ∧ h.2.1 a k ≤ hi := by
  have h1 := hx.2.2.1 a k ha.1 ha.2
  rw [hr] at h1
  exact h1
theorem mi_l {h : ah_T} (hx : mi h) {a k : Nat} (ha : 170 ≤ a ∧ a ≤ 240) {lo hi : Int} (hr : mq a k = (lo, hi)) : lo ≤ h.2.2.1 a k ∧ h.2.2.1 a k ≤ hi := by
  have h1 := hx.2.2.2 a k ha.1 ha.2
  rw [hr] at h1
  exact h1

/-! ===== fractions of the reference ===== -/
theorem gd_st {x y r : Int} (hx : 0 ≤ x) (hy : 0 ≤ y) (h0 : y ≠ 0) (hr : r = x.tmod y) : 0 ≤ r ∧ r < y ∧ Int.gcd y r = Int.gcd x y := by
  have er : r = x % y := by rw [hr, Int.tmod_eq_emod_of_nonneg hx]
  exact ⟨by rw [er]; exact Int.emod_nonneg _ h0, by rw [er]; exact Int.emod_lt_of_pos _ (by omega), by rw [er, gcd_mod]⟩
theorem gd_ng (a b : Int) : Int.gcd (-a) b = Int.gcd a b := Int.neg_gcd
theorem gd_1 {a b : Int} (h : a ≠ 0 ∨ 1 ≤ b) : 1 ≤ (Int.gcd a b : Int) := by
  have h1 : Int.gcd a b ≠ 0 := by
    intro q
    rw [Int.gcd_eq_zero_iff] at q
    omega
  omega
theorem gd_e {x a b : Int} (hx : 0 ≤ x) (h : (Int.gcd x 0 : Int) = Int.gcd a b) : x = Int.gcd a b := by
  rw [← h]
  simp
  omega
/-- what fraction() tells: a and b shortened -/
theorem fr_ok {a b d t l : Int} (hd : d = Int.gcd a b) (hb : 1 ≤ b) (ha1 : -4611686018427387904 ≤ a) (ha2 : a ≤ 4611686018427387904) (hb2 : b ≤ 4611686018427387904) (ht : t = w64 (a.tdiv d)) (hl : l = w64 (b.tdiv d)) :
    t * d = a ∧ l * d = b ∧ 1 ≤ l ∧ l ≤ b ∧ (0 ≤ a → 0 ≤ t ∧ t ≤ a) ∧ (a ≤ 0 → a ≤ t ∧ t ≤ 0) ∧ (1 ≤ a → 1 ≤ t) ∧ Int.gcd t l = 1 := by
  have hd1 : 1 ≤ d := by rw [hd]; exact gd_1 (Or.inr hb)
  obtain ⟨u, hu⟩ : d ∣ a := by rw [hd]; exact Int.gcd_dvd_left ..
  obtain ⟨v, hv⟩ : d ∣ b := by rw [hd]; exact Int.gcd_dvd_right ..
  have eu : a.tdiv d = u := by rw [hu]; exact Int.mul_tdiv_cancel_left u (by omega)
  have ev : b.tdiv d = v := by rw [hv]; exact Int.mul_tdiv_cancel_left v (by omega)
  have v1 : 1 ≤ v := by
    rcases Int.lt_or_le 0 v with h | h
    · omega
    · have := Int.mul_le_mul_of_nonneg_left h (show 0 ≤ d by omega)
      omega
  have v2 : v ≤ b := by
    have := Int.mul_le_mul_of_nonneg_right hd1 (show 0 ≤ v by omega)
    omega
  have up : ∀ w : Int, 0 ≤ w → w ≤ d * w := fun w hw => by
    have := Int.mul_le_mul_of_nonneg_right hd1 hw
    omega
  have u3 : 0 ≤ a → 0 ≤ u ∧ u ≤ a := fun h => by
    have h0 : 0 ≤ u := by
      rcases Int.lt_or_le u 0 with h4 | h4
      · have := Int.mul_lt_mul_of_pos_left h4 (show 0 < d by omega)
        omega
      · exact h4
    have := up u h0
    omega
  have u4 : a ≤ 0 → a ≤ u ∧ u ≤ 0 := fun h => by
    have h0 : u ≤ 0 := by
      rcases Int.lt_or_le 0 u with h4 | h4
      · have := Int.mul_pos (show 0 < d by omega) h4
        omega
      · exact h4
    have h5 := up (-u) (by omega)
    rw [Int.mul_neg] at h5
    omega
  have u5 : 1 ≤ a → 1 ≤ u := fun h => by
    have h6 := (u3 (by omega)).1
    rcases Int.le_iff_lt_or_eq.mp h6 with h7 | h7
    · omega
    · rw [← h7, Int.mul_zero] at hu; omega
  have hul : -4611686018427387904 ≤ u ∧ u ≤ 4611686018427387904 := by
    rcases Int.le_total 0 a with h | h
    · have := u3 h; omega
    · have := u4 h; omega
  rw [eu, w64_id (by unfold i64; omega)] at ht
  rw [ev, w64_id (by unfold i64; omega)] at hl
  subst ht
  subst hl
  refine ⟨by rw [Int.mul_comm]; exact hu.symm, by rw [Int.mul_comm]; exact hv.symm, v1, v2, u3, u4, u5, ?_⟩
  have h8 : Int.gcd (d * t) (d * l) = d.natAbs * Int.gcd t l := Int.gcd_mul_left d t l
  rw [← hu, ← hv] at h8
  have h9 : (Int.gcd a b : Int) = d := hd.symm
  have h10 : d.natAbs = Int.gcd a b := by omega
  rw [h10] at h8
  have h11 : 0 < Int.gcd a b := by omega
  have h12 : Int.gcd a b * 1 = Int.gcd a b * Int.gcd t l := by omega
  exact (Nat.eq_of_mul_eq_mul_left h11 h12).symm
/-! ===== what is said of the events that are kept ===== -/
def EV (h : ah_T) (e : Nat) : Prop := h.2.2.1 187 e ≤ 1000000000 ∧ (1 ≤ h.2.2.1 188 e ∧ h.2.2.1 188 e ≤ 1000000) ∧ (1 ≤ h.2.2.1 189 e ∧ h.2.2.1 189 e ≤ 1000000000) ∧ 1 ≤ h.2.2.1 190 e ∧ h.2.2.1 190 e ≤ 1000000
def BV (h : ah_T) (i : Nat) : Prop := h.2.2.1 199 i ≤ 1000000000 ∧ 1 ≤ h.2.2.1 200 i ∧ h.2.2.1 200 i ≤ 1000000
def GB (h : ah_T) (w : Nat) : Prop := (∀ e : Nat, 300 * w ≤ e → (e : Int) < 300 * w + h.2.1 185 w → EV h e) ∧ ∀ i : Nat, 102 * w ≤ i → (i : Int) ≤ 102 * w + h.2.1 186 w → BV h i
def KS (h : ah_T) : Prop := ∀ w : Nat, (w : Int) < h.2.1 172 0 → GB h w
theorem EV_s {h h' : ah_T} {e : Nat} (H : EV h e) (fe : ∀ a, a ∈ [187, 188, 189, 190] → h'.2.2.1 a e = h.2.2.1 a e) : EV h' e := by
  unfold EV at *
  rw [fe 187 (by decide), fe 188 (by decide), fe 189 (by decide), fe 190 (by decide)]
  exact H
theorem BV_s {h h' : ah_T} {e : Nat} (H : BV h e) (fe : ∀ a, a ∈ [199, 200] → h'.2.2.1 a e = h.2.2.1 a e) : BV h' e := by
  unfold BV at *
  rw [fe 199 (by decide), fe 200 (by decide)]
  exact H
theorem KS_s {P : Nat → Nat → Bool} {h h' : ah_T} (H : KS h) (hk : kM P h h') (h0 : P 172 0 = false) (hi : ∀ k, P 185 k = false ∧ P 186 k = false) (hl : ∀ k, P 187 k = false ∧ P 188 k = false ∧ P 189 k = false ∧ P 190 k = false ∧ P 199 k = false ∧ P 200 k = false) : KS h' := by
  intro w hw
  rw [hk.2.2.1 172 0 h0] at hw
  obtain ⟨g1, g2⟩ := H w hw
  refine ⟨fun e he1 he2 => ?_, fun i hi1 hi2 => ?_⟩
  · rw [hk.2.2.1 185 w (hi w).1] at he2
    refine EV_s (g1 e he1 he2) (fun a ha => ?_)
    simp only [List.mem_cons, List.not_mem_nil, or_false] at ha
    obtain ⟨l1, l2, l3, l4, -, -⟩ := hl e
    rcases ha with rfl | rfl | rfl | rfl
    · exact hk.2.2.2 _ _ l1
    · exact hk.2.2.2 _ _ l2
    · exact hk.2.2.2 _ _ l3
    · exact hk.2.2.2 _ _ l4
  · rw [hk.2.2.1 186 w (hi w).2] at hi2
    refine BV_s (g2 i hi1 hi2) (fun a ha => ?_)
    simp only [List.mem_cons, List.not_mem_nil, or_false] at ha
    obtain ⟨-, -, -, -, l5, l6⟩ := hl i
    rcases ha with rfl | rfl
    · exact hk.2.2.2 _ _ l5
    · exact hk.2.2.2 _ _ l6
theorem mul_b64 {x y z ux uy : Int} (e : z = w64 (x * y)) (h1 : -ux ≤ x) (h2 : x ≤ ux) (h3 : -uy ≤ y) (h4 : y ≤ uy) (hm : ux * uy < 9223372036854775808) : -(ux * uy) ≤ z ∧ z ≤ ux * uy ∧ z = x * y := by
  have k : (x * y).natAbs = x.natAbs * y.natAbs := Int.natAbs_mul x y
  have k2 : x.natAbs * y.natAbs ≤ ux.toNat * uy.toNat := Nat.mul_le_mul (by omega) (by omega)
  have k3 : ((ux.toNat * uy.toNat : Nat) : Int) = ux * uy := by
    rw [Int.natCast_mul, Int.toNat_of_nonneg (by omega), Int.toNat_of_nonneg (by omega)]
  have k4 : ((x * y).natAbs : Int) ≤ ux * uy := by rw [← k3]; omega
  rw [w64_id (by unfold i64; omega)] at e
  subst e
  omega
theorem mu_dec {h0 h1 : ah_T} {n : Nat} (hm : (mu h0).toNat < n + 1) (e2 : h1.2.1 170 2 = h0.2.1 170 2) (n0 : h0.2.1 170 4 ≠ 0) (n6 : h0.2.1 170 4 ≠ 6) (l1 : h0.2.1 170 3 ≤ h1.2.1 170 3) (l2 : h1.2.1 170 3 ≤ h1.2.1 170 2) (lt : h1.2.1 170 4 ≠ 0 → h1.2.1 170 4 ≠ 6 → h0.2.1 170 3 < h1.2.1 170 3) : (mu h1).toNat < n := by
  have a := (mu_f h0).2 n0 n6
  by_cases c : h1.2.1 170 4 = 0 ∨ h1.2.1 170 4 = 6
  · have b := (mu_f h1).1 c
    clear lt n0 n6 c
    omega
  · have b := (mu_f h1).2 (fun q => c (Or.inl q)) (fun q => c (Or.inr q))
    have d := lt (fun q => c (Or.inl q)) (fun q => c (Or.inr q))
    clear lt n0 n6 c
    omega
