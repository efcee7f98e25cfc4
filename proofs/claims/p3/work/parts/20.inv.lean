/-! ===== the class's invariant ===== -/
def hp_e : ah_T := ([], fun _ _ => 0, fun _ _ => 0, fun _ _ => none)
def hp_0 : ah_T := i_MD (st_n (i_PM (st_n hp_e (11 + 4) 11) 0 1) (12 + 4) 111) 170 171
def sh_L : List (Nat × Nat) := [(15, 11), (0, 2000), (9, 8), (12, 13), (0, 2001), (0, 2001), (1, 2001), (0, 2001), (0, 0), (8, 12), (0, 2000), (0, 2000), (0, 2000), (0, 2000), (0, 7), (0, 7), (1, 16), (10, 13), (3, 4), (0, 8), (0, 24), (0, 24), (0, 24), (0, 12), (14, 17), (0, 300), (0, 300), (0, 301), (0, 300), (0, 300), (2, 300), (0, 300), (0, 300), (1, 301), (1, 301), (1, 300), (1, 300), (0, 102), (14, 17), (0, 300), (0, 300), (0, 301), (0, 300), (0, 300), (2, 300), (0, 300), (0, 300), (1, 301), (1, 301), (1, 300), (1, 300), (0, 102), (14, 17), (0, 300), (0, 300), (0, 301), (0, 300), (0, 300), (2, 300), (0, 300), (0, 300), (1, 301), (1, 301), (1, 300), (1, 300), (0, 102), (14, 17), (0, 300), (0, 300), (0, 301), (0, 300), (0, 300), (2, 300), (0, 300), (0, 300), (1, 301), (1, 301), (1, 300), (1, 300), (0, 102), (10, 13), (3, 4), (0, 8), (0, 24), (0, 24), (0, 24), (0, 12), (14, 17), (0, 300), (0, 300), (0, 301), (0, 300), (0, 300), (2, 300), (0, 300), (0, 300), (1, 301), (1, 301), (1, 300), (1, 300), (0, 102), (14, 17), (0, 300), (0, 300), (0, 301), (0, 300), (0, 300), (2, 300), (0, 300), (0, 300), (1, 301), (1, 301), (1, 300), (1, 300), (0, 102), (14, 17), (0, 300), (0, 300), (0, 301), (0, 300), (0, 300), (2, 300), (0, 300), (0, 300), (1, 301), (1, 301), (1, 300), (1, 300), (0, 102), (14, 17), (0, 300), (0, 300), (0, 301), (0, 300), (0, 300), (2, 300), (0, 300), (0, 300), (1, 301), (1, 301), (1, 300), (1, 300), (0, 102), (5, 3), (0, 6404), (0, 4), (4, 4), (0, 14), (0, 15), (0, 15), (6, 8), (0, 14), (0, 14), (1, 15), (0, 15), (0, 4), (1, 4), (1, 4), (11, 8), (1, 1563), (0, 8), (0, 8), (13, 6), (0, 2704), (7, 8), (0, 80), (0, 80), (0, 1681), (0, 1681), (0, 80), (16, 111), (0, 2000), (0, 2), (0, 2), (0, 2), (0, 2), (0, 16), (0, 2), (0, 48), (0, 48), (0, 48), (0, 2), (0, 24), (0, 2), (1, 32), (0, 8), (0, 8), (1, 2400), (1, 2400), (1, 2400), (1, 2400), (0, 2400), (0, 9600), (0, 9600), (0, 2400), (2, 2400), (0, 2400), (0, 2400), (0, 2400), (1, 816), (1, 816), (0, 2100), (0, 2100), (0, 2100), (0, 2100), (0, 8400), (0, 8400), (0, 2100), (2, 2100), (0, 2100), (0, 2100), (0, 2100), (0, 2100), (0, 2100), (0, 2100), (0, 8), (0, 8), (0, 10), (0, 10), (0, 10), (2, 10), (0, 8000), (0, 8000), (0, 8000), (0, 8000), (0, 16), (0, 340), (0, 340), (0, 16), (0, 8), (0, 8), (1, 2704), (0, 32), (0, 32), (0, 32), (1, 32), (0, 80), (0, 80), (0, 80), (0, 6561), (1, 6561)]
def ra_L : List (Option (Int × Int)) := [none, some ((-2147483648), 2147483647), none, none, some ((-2147483648), 2147483647), some ((-2147483648), 2147483647), some ((-2147483648), 2147483647), some ((-2147483648), 2147483647), some ((-2147483648), 2147483647), none, some ((-2147483648), 2147483647), some (0, 1999), some ((-2147483648), 2147483647), some ((-2147483648), 2147483647), some (0, 1999), some (0, 1999), some ((-2147483648), 2147483647), none, some ((-2147483648), 2147483647), some ((-2147483648), 2147483647), some ((-2147483648), 2147483647), some ((-2147483648), 2147483647), some ((-2147483648), 2147483647), some ((-2147483648), 2147483647), none, some ((-2147483648), 2147483647), some ((-2147483648), 2147483647), some (0, 300), some ((-2147483648), 2147483647), some ((-2147483648), 2147483647), some ((-2147483648), 2147483647), some (0, 299), some ((-2147483648), 2147483647), some ((-2147483648), 2147483647), some ((-2147483648), 2147483647), some ((-2147483648), 2147483647), some ((-2147483648), 2147483647), some (0, 300), none, some ((-2147483648), 2147483647), some ((-2147483648), 2147483647), some (0, 300), some ((-2147483648), 2147483647), some ((-2147483648), 2147483647), some ((-2147483648), 2147483647), some (0, 299), some ((-2147483648), 2147483647), some ((-2147483648), 2147483647), some ((-2147483648), 2147483647), some ((-2147483648), 2147483647), some ((-2147483648), 2147483647), some (0, 300), none, some ((-2147483648), 2147483647), some ((-2147483648), 2147483647), some (0, 300), some ((-2147483648), 2147483647), some ((-2147483648), 2147483647), some ((-2147483648), 2147483647), some (0, 299), some ((-2147483648), 2147483647), some ((-2147483648), 2147483647), some ((-2147483648), 2147483647), some ((-2147483648), 2147483647), some ((-2147483648), 2147483647), some (0, 300), none, some ((-2147483648), 2147483647), some ((-2147483648), 2147483647), some (0, 300), some ((-2147483648), 2147483647), some ((-2147483648), 2147483647), some ((-2147483648), 2147483647), some (0, 299), some ((-2147483648), 2147483647), some ((-2147483648), 2147483647), some ((-2147483648), 2147483647), some ((-2147483648), 2147483647), some ((-2147483648), 2147483647), some (0, 300), none, some ((-2147483648), 2147483647), some ((-2147483648), 2147483647), some ((-2147483648), 2147483647), some ((-2147483648), 2147483647), some ((-2147483648), 2147483647), some ((-2147483648), 2147483647), none, some ((-2147483648), 2147483647), some ((-2147483648), 2147483647), some (0, 300), some ((-2147483648), 2147483647), some ((-2147483648), 2147483647), some ((-2147483648), 2147483647), some (0, 299), some ((-2147483648), 2147483647), some ((-2147483648), 2147483647), some ((-2147483648), 2147483647), some ((-2147483648), 2147483647), some ((-2147483648), 2147483647), some (0, 300), none, some ((-2147483648), 2147483647), some ((-2147483648), 2147483647), some (0, 300), some ((-2147483648), 2147483647), some ((-2147483648), 2147483647), some ((-2147483648), 2147483647), some (0, 299), some ((-2147483648), 2147483647), some ((-2147483648), 2147483647), some ((-2147483648), 2147483647), some ((-2147483648), 2147483647), some ((-2147483648), 2147483647), some (0, 300), none, some ((-2147483648), 2147483647), some ((-2147483648), 2147483647), some (0, 300), some ((-2147483648), 2147483647), some ((-2147483648), 2147483647), some ((-2147483648), 2147483647), some (0, 299), some ((-2147483648), 2147483647), some ((-2147483648), 2147483647), some ((-2147483648), 2147483647), some ((-2147483648), 2147483647), some ((-2147483648), 2147483647), some (0, 300), none, some ((-2147483648), 2147483647), some ((-2147483648), 2147483647), some (0, 300), some ((-2147483648), 2147483647), some ((-2147483648), 2147483647), some ((-2147483648), 2147483647), some (0, 299), some ((-2147483648), 2147483647), some ((-2147483648), 2147483647), some ((-2147483648), 2147483647), some ((-2147483648), 2147483647), some ((-2147483648), 2147483647), some (0, 300), none, some ((-2147483648), 2147483647), some (0, 300), none, some ((-2147483648), 2147483647), some ((-2147483648), 2147483647), some (0, 6), none, some ((-2147483648), 2147483647), some ((-2147483648), 2147483647), some ((-2147483648), 2147483647), some (0, 14), some (0, 2000), some ((-2147483648), 2147483647), some ((-2147483648), 2147483647), none, some ((-2147483648), 2147483647), some ((-2147483648), 2147483647), some ((-2147483648), 2147483647), none, some ((-2147483648), 2147483647), none, some (0, 299), some (0, 299), some ((-2147483648), 2147483647), some ((-2147483648), 2147483647), some ((-2147483648), 2147483647)]
def ro_L : List (Nat × Nat × Int × Int) := [(0, 1, 0, 2000), (2, 3, 0, 16), (2, 4, 0, 300), (3, 4, 0, 2001), (3, 5, (-1), 2000), (3, 7, 0, 2000), (3, 8, 0, 2000), (9, 4, 0, 2000), (9, 7, 0, 7), (9, 8, 0, 100000), (9, 10, 0, 100000), (17, 1, 0, 4), (17, 6, 0, 8), (17, 10, 0, 24), (17, 12, 0, 12), (24, 2, 0, 300), (24, 7, 0, 300), (24, 14, 0, 300), (24, 16, 0, 101), (38, 2, 0, 300), (38, 7, 0, 300), (38, 14, 0, 300), (38, 16, 0, 101), (52, 2, 0, 300), (52, 7, 0, 300), (52, 14, 0, 300), (52, 16, 0, 101), (66, 2, 0, 300), (66, 7, 0, 300), (66, 14, 0, 300), (66, 16, 0, 101), (80, 1, 0, 4), (80, 6, 0, 8), (80, 10, 0, 24), (80, 12, 0, 12), (87, 2, 0, 300), (87, 7, 0, 300), (87, 14, 0, 300), (87, 16, 0, 101), (101, 2, 0, 300), (101, 7, 0, 300), (101, 14, 0, 300), (101, 16, 0, 101), (115, 2, 0, 300), (115, 7, 0, 300), (115, 14, 0, 300), (115, 16, 0, 101), (129, 2, 0, 300), (129, 7, 0, 300), (129, 14, 0, 300), (129, 16, 0, 101), (143, 1, 0, 6404), (146, 1, 0, 14), (150, 1, 0, 14), (158, 1, 0, 200000), (158, 4, 0, 8), (162, 3, 0, 12), (162, 4, 0, 12), (164, 5, 0, 80), (164, 6, 0, 80)]
def rf_L : List (Nat × Nat × Nat) := [(0, 0, 1), (0, 2, 2), (0, 5, 143), (0, 6, 146), (0, 7, 150), (0, 8, 158), (0, 9, 162), (0, 10, 164), (2, 0, 3), (2, 1, 9), (2, 2, 16), (3, 0, 4), (3, 1, 5), (3, 2, 6), (3, 3, 7), (9, 0, 10), (9, 1, 11), (9, 2, 12), (9, 3, 13), (9, 5, 14), (9, 6, 15), (17, 0, 18), (17, 5, 19), (17, 7, 20), (17, 8, 21), (17, 9, 22), (17, 11, 23), (18, 0, 24), (18, 1, 38), (18, 2, 52), (18, 3, 66), (24, 0, 25), (24, 1, 26), (24, 3, 27), (24, 4, 28), (24, 5, 29), (24, 6, 30), (24, 8, 31), (24, 9, 32), (24, 10, 33), (24, 11, 34), (24, 12, 35), (24, 13, 36), (24, 15, 37), (38, 0, 39), (38, 1, 40), (38, 3, 41), (38, 4, 42), (38, 5, 43), (38, 6, 44), (38, 8, 45), (38, 9, 46), (38, 10, 47), (38, 11, 48), (38, 12, 49), (38, 13, 50), (38, 15, 51), (52, 0, 53), (52, 1, 54), (52, 3, 55), (52, 4, 56), (52, 5, 57), (52, 6, 58), (52, 8, 59), (52, 9, 60), (52, 10, 61), (52, 11, 62), (52, 12, 63), (52, 13, 64), (52, 15, 65), (66, 0, 67), (66, 1, 68), (66, 3, 69), (66, 4, 70), (66, 5, 71), (66, 6, 72), (66, 8, 73), (66, 9, 74), (66, 10, 75), (66, 11, 76), (66, 12, 77), (66, 13, 78), (66, 15, 79), (80, 0, 81), (80, 5, 82), (80, 7, 83), (80, 8, 84), (80, 9, 85), (80, 11, 86), (81, 0, 87), (81, 1, 101), (81, 2, 115), (81, 3, 129), (87, 0, 88), (87, 1, 89), (87, 3, 90), (87, 4, 91), (87, 5, 92), (87, 6, 93), (87, 8, 94), (87, 9, 95), (87, 10, 96), (87, 11, 97), (87, 12, 98), (87, 13, 99), (87, 15, 100), (101, 0, 102), (101, 1, 103), (101, 3, 104), (101, 4, 105), (101, 5, 106), (101, 6, 107), (101, 8, 108), (101, 9, 109), (101, 10, 110), (101, 11, 111), (101, 12, 112), (101, 13, 113), (101, 15, 114), (115, 0, 116), (115, 1, 117), (115, 3, 118), (115, 4, 119), (115, 5, 120), (115, 6, 121), (115, 8, 122), (115, 9, 123), (115, 10, 124), (115, 11, 125), (115, 12, 126), (115, 13, 127), (115, 15, 128), (129, 0, 130), (129, 1, 131), (129, 3, 132), (129, 4, 133), (129, 5, 134), (129, 6, 135), (129, 8, 136), (129, 9, 137), (129, 10, 138), (129, 11, 139), (129, 12, 140), (129, 13, 141), (129, 15, 142), (143, 0, 144), (143, 2, 145), (146, 0, 147), (146, 2, 148), (146, 3, 149), (150, 0, 151), (150, 2, 152), (150, 3, 153), (150, 4, 154), (150, 5, 155), (150, 6, 156), (150, 7, 157), (158, 0, 159), (158, 6, 160), (158, 7, 161), (162, 0, 163), (164, 0, 165), (164, 1, 166), (164, 2, 167), (164, 3, 168), (164, 4, 169)]
def rg (a k : Nat) : Int × Int := match ra_L[a]? with
  | some (some q) => q
  | _ => match ro_L.find? (fun q => q.1 == a && q.2.1 == k) with
    | some q => q.2.2
    | none => (-2147483648, 2147483647)
def isS (s : Nat) : Prop := s = 17 ∨ s = 80
def isV (v : Nat) : Prop := v = 24 ∨ v = 38 ∨ v = 52 ∨ v = 66 ∨ v = 87 ∨ v = 101 ∨ v = 115 ∨ v = 129
/-- a voice of the score at s -/
def tV (s v : Nat) : Prop := v = s + 7 ∨ v = s + 21 ∨ v = s + 35 ∨ v = s + 49
theorem tV_V {s v : Nat} (hs : isS s) (hv : tV s v) : isV v := by unfold isS at hs; unfold tV at hv; unfold isV; omega
/-- s: the score that is read into; the other one is the current one -/
def xi (s : Nat) (h : ah_T) : Prop :=
  h.1 = sh_L ∧ isS s ∧ h.2.2.2 0 3 = some (97 - s) ∧ h.2.2.2 2 5 = some s ∧ (h.2.2.2 3 6 = some 8 ∨ h.2.2.2 3 6 = some 1) ∧ (∀ q ∈ rf_L, h.2.2.2 q.1 q.2.1 = some q.2.2) ∧ ∀ a k, a < 170 → (rg a k).1 ≤ h.2.1 a k ∧ h.2.1 a k ≤ (rg a k).2
def same3 (h0 h : ah_T) (a : Nat) : Prop := h.2.1 a = h0.2.1 a ∧ h.2.2.1 a = h0.2.2.1 a ∧ h.2.2.2 a = h0.2.2.2 a
def kF (F : Nat → Prop) (s : Nat) (h0 h : ah_T) : Prop := xi s h ∧ ∀ a, F a → same3 h0 h a
abbrev FA : Nat → Prop := fun a => (17 ≤ a ∧ a < 143) ∨ 170 ≤ a
abbrev FB (s : Nat) : Nat → Prop := fun a => (97 - s ≤ a ∧ a ≤ 159 - s) ∨ 170 ≤ a
theorem kF_0 {F : Nat → Prop} {s : Nat} {h : ah_T} (hx : xi s h) : kF F s h h := ⟨hx, fun _ _ => ⟨rfl, rfl, rfl⟩⟩
theorem kF_i {F : Nat → Prop} {s a k : Nat} {z : Int} {h0 h : ah_T} (hk : kF F s h0 h) (ha : ¬ F a) {q : Int × Int} (hq : rg a k = q) (hz : q.1 ≤ z ∧ z ≤ q.2) : kF F s h0 (st_i h a k z) := by
  obtain ⟨⟨x1, x2, x3, x4, x5, x6, x7⟩, hf⟩ := hk
  refine ⟨⟨x1, x2, x3, x4, x5, x6, fun x y hx => ?_⟩, fun x hx => ⟨(up2_n (fun (e : x = a) => ha (e ▸ hx))).trans (hf x hx).1, (hf x hx).2⟩⟩
  show (rg x y).1 ≤ up2 h.2.1 a k z x y ∧ up2 h.2.1 a k z x y ≤ (rg x y).2
  by_cases hc : x = a ∧ y = k
  · obtain ⟨rfl, rfl⟩ := hc
    rw [up2_at, hq]
    exact hz
  · rw [up2_o hc]
    exact x7 x y hx
theorem kF_l {F : Nat → Prop} {s a k : Nat} {z : Int} {h0 h : ah_T} (hk : kF F s h0 h) (ha : ¬ F a) : kF F s h0 (st_l h a k z) :=
  ⟨hk.1, fun x hx => ⟨(hk.2 x hx).1, (up2_n (fun (e : x = a) => ha (e ▸ hx))).trans (hk.2 x hx).2.1, (hk.2 x hx).2.2⟩⟩
theorem kF_t {F F' : Nat → Prop} {s : Nat} {h0 h h' : ah_T} (hk : kF F s h0 h) (hk' : kF F' s h h') (hF : ∀ a, F a → F' a) : kF F s h0 h' :=
  ⟨hk'.1, fun x hx => ⟨(hk'.2 x (hF x hx)).1.trans (hk.2 x hx).1, (hk'.2 x (hF x hx)).2.1.trans (hk.2 x hx).2.1, (hk'.2 x (hF x hx)).2.2.trans (hk.2 x hx).2.2⟩⟩
theorem FB_A {s : Nat} (hs : isS s) : ∀ a, FB s a → FA a := by unfold isS at hs; intro a ha; omega
theorem xi_s {s : Nat} {h : ah_T} (hx : xi s h) {a : Nat} {v : Nat × Nat} (hv : sh_L[a]? = some v) : h.1[a]? = some v := by rw [hx.1]; exact hv
theorem xi_r {s : Nat} {h : ah_T} (hx : xi s h) {a k b : Nat} (hm : (a, k, b) ∈ rf_L) : h.2.2.2 a k = some b := hx.2.2.2.2.2.1 _ hm
theorem xi_g {s : Nat} {h : ah_T} (hx : xi s h) {a k : Nat} (ha : a < 170) {lo hi : Int} (hr : rg a k = (lo, hi)) : lo ≤ h.2.1 a k ∧ h.2.1 a k ≤ hi := by
  have h1 := hx.2.2.2.2.2.2 a k ha
  rw [hr] at h1
  exact h1

theorem xs_V {s v : Nat} {h : ah_T} (hx : xi s h) (hv : isV v) : h.1[v]? = some (10 + 4, 17) := by
  refine xi_s hx ?_
  rcases hv with rfl | rfl | rfl | rfl | rfl | rfl | rfl | rfl <;> rfl
theorem xs_V_0 {s v : Nat} {h : ah_T} (hx : xi s h) (hv : isV v) : h.1[v + 1]? = some (0, 300) := by
  refine xi_s hx ?_
  rcases hv with rfl | rfl | rfl | rfl | rfl | rfl | rfl | rfl <;> rfl
theorem xr_V_0 {s v : Nat} {h : ah_T} (hx : xi s h) (hv : isV v) : h.2.2.2 v 0 = some (v + 1) := by
  rcases hv with rfl | rfl | rfl | rfl | rfl | rfl | rfl | rfl <;> exact xi_r hx (by decide)
theorem rg_V_0 {v : Nat} (hv : isV v) (k : Nat) : rg (v + 1) k = ((-2147483648), 2147483647) := by
  rcases hv with rfl | rfl | rfl | rfl | rfl | rfl | rfl | rfl <;> rfl
theorem xs_V_1 {s v : Nat} {h : ah_T} (hx : xi s h) (hv : isV v) : h.1[v + 2]? = some (0, 300) := by
  refine xi_s hx ?_
  rcases hv with rfl | rfl | rfl | rfl | rfl | rfl | rfl | rfl <;> rfl
theorem xr_V_1 {s v : Nat} {h : ah_T} (hx : xi s h) (hv : isV v) : h.2.2.2 v 1 = some (v + 2) := by
  rcases hv with rfl | rfl | rfl | rfl | rfl | rfl | rfl | rfl <;> exact xi_r hx (by decide)
theorem rg_V_1 {v : Nat} (hv : isV v) (k : Nat) : rg (v + 2) k = ((-2147483648), 2147483647) := by
  rcases hv with rfl | rfl | rfl | rfl | rfl | rfl | rfl | rfl <;> rfl
theorem rg_V_2 {v : Nat} (hv : isV v) : rg v 2 = (0, 300) := by
  rcases hv with rfl | rfl | rfl | rfl | rfl | rfl | rfl | rfl <;> rfl
theorem xs_V_3 {s v : Nat} {h : ah_T} (hx : xi s h) (hv : isV v) : h.1[v + 3]? = some (0, 301) := by
  refine xi_s hx ?_
  rcases hv with rfl | rfl | rfl | rfl | rfl | rfl | rfl | rfl <;> rfl
theorem xr_V_3 {s v : Nat} {h : ah_T} (hx : xi s h) (hv : isV v) : h.2.2.2 v 3 = some (v + 3) := by
  rcases hv with rfl | rfl | rfl | rfl | rfl | rfl | rfl | rfl <;> exact xi_r hx (by decide)
theorem rg_V_3 {v : Nat} (hv : isV v) (k : Nat) : rg (v + 3) k = (0, 300) := by
  rcases hv with rfl | rfl | rfl | rfl | rfl | rfl | rfl | rfl <;> rfl
theorem xs_V_4 {s v : Nat} {h : ah_T} (hx : xi s h) (hv : isV v) : h.1[v + 4]? = some (0, 300) := by
  refine xi_s hx ?_
  rcases hv with rfl | rfl | rfl | rfl | rfl | rfl | rfl | rfl <;> rfl
theorem xr_V_4 {s v : Nat} {h : ah_T} (hx : xi s h) (hv : isV v) : h.2.2.2 v 4 = some (v + 4) := by
  rcases hv with rfl | rfl | rfl | rfl | rfl | rfl | rfl | rfl <;> exact xi_r hx (by decide)
theorem rg_V_4 {v : Nat} (hv : isV v) (k : Nat) : rg (v + 4) k = ((-2147483648), 2147483647) := by
  rcases hv with rfl | rfl | rfl | rfl | rfl | rfl | rfl | rfl <;> rfl
theorem xs_V_5 {s v : Nat} {h : ah_T} (hx : xi s h) (hv : isV v) : h.1[v + 5]? = some (0, 300) := by
  refine xi_s hx ?_
  rcases hv with rfl | rfl | rfl | rfl | rfl | rfl | rfl | rfl <;> rfl
theorem xr_V_5 {s v : Nat} {h : ah_T} (hx : xi s h) (hv : isV v) : h.2.2.2 v 5 = some (v + 5) := by
  rcases hv with rfl | rfl | rfl | rfl | rfl | rfl | rfl | rfl <;> exact xi_r hx (by decide)
theorem rg_V_5 {v : Nat} (hv : isV v) (k : Nat) : rg (v + 5) k = ((-2147483648), 2147483647) := by
  rcases hv with rfl | rfl | rfl | rfl | rfl | rfl | rfl | rfl <;> rfl
theorem xs_V_6 {s v : Nat} {h : ah_T} (hx : xi s h) (hv : isV v) : h.1[v + 6]? = some (2, 300) := by
  refine xi_s hx ?_
  rcases hv with rfl | rfl | rfl | rfl | rfl | rfl | rfl | rfl <;> rfl
theorem xr_V_6 {s v : Nat} {h : ah_T} (hx : xi s h) (hv : isV v) : h.2.2.2 v 6 = some (v + 6) := by
  rcases hv with rfl | rfl | rfl | rfl | rfl | rfl | rfl | rfl <;> exact xi_r hx (by decide)
theorem rg_V_6 {v : Nat} (hv : isV v) (k : Nat) : rg (v + 6) k = ((-2147483648), 2147483647) := by
  rcases hv with rfl | rfl | rfl | rfl | rfl | rfl | rfl | rfl <;> rfl
theorem rg_V_7 {v : Nat} (hv : isV v) : rg v 7 = (0, 300) := by
  rcases hv with rfl | rfl | rfl | rfl | rfl | rfl | rfl | rfl <;> rfl
theorem xs_V_8 {s v : Nat} {h : ah_T} (hx : xi s h) (hv : isV v) : h.1[v + 7]? = some (0, 300) := by
  refine xi_s hx ?_
  rcases hv with rfl | rfl | rfl | rfl | rfl | rfl | rfl | rfl <;> rfl
theorem xr_V_8 {s v : Nat} {h : ah_T} (hx : xi s h) (hv : isV v) : h.2.2.2 v 8 = some (v + 7) := by
  rcases hv with rfl | rfl | rfl | rfl | rfl | rfl | rfl | rfl <;> exact xi_r hx (by decide)
theorem rg_V_8 {v : Nat} (hv : isV v) (k : Nat) : rg (v + 7) k = (0, 299) := by
  rcases hv with rfl | rfl | rfl | rfl | rfl | rfl | rfl | rfl <;> rfl
theorem xs_V_9 {s v : Nat} {h : ah_T} (hx : xi s h) (hv : isV v) : h.1[v + 8]? = some (0, 300) := by
  refine xi_s hx ?_
  rcases hv with rfl | rfl | rfl | rfl | rfl | rfl | rfl | rfl <;> rfl
theorem xr_V_9 {s v : Nat} {h : ah_T} (hx : xi s h) (hv : isV v) : h.2.2.2 v 9 = some (v + 8) := by
  rcases hv with rfl | rfl | rfl | rfl | rfl | rfl | rfl | rfl <;> exact xi_r hx (by decide)
theorem rg_V_9 {v : Nat} (hv : isV v) (k : Nat) : rg (v + 8) k = ((-2147483648), 2147483647) := by
  rcases hv with rfl | rfl | rfl | rfl | rfl | rfl | rfl | rfl <;> rfl
theorem xs_V_10 {s v : Nat} {h : ah_T} (hx : xi s h) (hv : isV v) : h.1[v + 9]? = some (1, 301) := by
  refine xi_s hx ?_
  rcases hv with rfl | rfl | rfl | rfl | rfl | rfl | rfl | rfl <;> rfl
theorem xr_V_10 {s v : Nat} {h : ah_T} (hx : xi s h) (hv : isV v) : h.2.2.2 v 10 = some (v + 9) := by
  rcases hv with rfl | rfl | rfl | rfl | rfl | rfl | rfl | rfl <;> exact xi_r hx (by decide)
theorem xs_V_11 {s v : Nat} {h : ah_T} (hx : xi s h) (hv : isV v) : h.1[v + 10]? = some (1, 301) := by
  refine xi_s hx ?_
  rcases hv with rfl | rfl | rfl | rfl | rfl | rfl | rfl | rfl <;> rfl
theorem xr_V_11 {s v : Nat} {h : ah_T} (hx : xi s h) (hv : isV v) : h.2.2.2 v 11 = some (v + 10) := by
  rcases hv with rfl | rfl | rfl | rfl | rfl | rfl | rfl | rfl <;> exact xi_r hx (by decide)
theorem xs_V_12 {s v : Nat} {h : ah_T} (hx : xi s h) (hv : isV v) : h.1[v + 11]? = some (1, 300) := by
  refine xi_s hx ?_
  rcases hv with rfl | rfl | rfl | rfl | rfl | rfl | rfl | rfl <;> rfl
theorem xr_V_12 {s v : Nat} {h : ah_T} (hx : xi s h) (hv : isV v) : h.2.2.2 v 12 = some (v + 11) := by
  rcases hv with rfl | rfl | rfl | rfl | rfl | rfl | rfl | rfl <;> exact xi_r hx (by decide)
theorem xs_V_13 {s v : Nat} {h : ah_T} (hx : xi s h) (hv : isV v) : h.1[v + 12]? = some (1, 300) := by
  refine xi_s hx ?_
  rcases hv with rfl | rfl | rfl | rfl | rfl | rfl | rfl | rfl <;> rfl
theorem xr_V_13 {s v : Nat} {h : ah_T} (hx : xi s h) (hv : isV v) : h.2.2.2 v 13 = some (v + 12) := by
  rcases hv with rfl | rfl | rfl | rfl | rfl | rfl | rfl | rfl <;> exact xi_r hx (by decide)
theorem rg_V_14 {v : Nat} (hv : isV v) : rg v 14 = (0, 300) := by
  rcases hv with rfl | rfl | rfl | rfl | rfl | rfl | rfl | rfl <;> rfl
theorem xs_V_15 {s v : Nat} {h : ah_T} (hx : xi s h) (hv : isV v) : h.1[v + 13]? = some (0, 102) := by
  refine xi_s hx ?_
  rcases hv with rfl | rfl | rfl | rfl | rfl | rfl | rfl | rfl <;> rfl
theorem xr_V_15 {s v : Nat} {h : ah_T} (hx : xi s h) (hv : isV v) : h.2.2.2 v 15 = some (v + 13) := by
  rcases hv with rfl | rfl | rfl | rfl | rfl | rfl | rfl | rfl <;> exact xi_r hx (by decide)
theorem rg_V_15 {v : Nat} (hv : isV v) (k : Nat) : rg (v + 13) k = (0, 300) := by
  rcases hv with rfl | rfl | rfl | rfl | rfl | rfl | rfl | rfl <;> rfl
theorem rg_V_16 {v : Nat} (hv : isV v) : rg v 16 = (0, 101) := by
  rcases hv with rfl | rfl | rfl | rfl | rfl | rfl | rfl | rfl <;> rfl
theorem lt_V {v : Nat} (hv : isV v) : v < 130 ∧ 17 ≤ v := by unfold isV at hv; omega
theorem xs_S {s v : Nat} {h : ah_T} (hx : xi s h) (hv : isS v) : h.1[v]? = some (6 + 4, 13) := by
  refine xi_s hx ?_
  rcases hv with rfl | rfl <;> rfl
theorem xs_S_0 {s v : Nat} {h : ah_T} (hx : xi s h) (hv : isS v) : h.1[v + 1]? = some (3, 4) := by
  refine xi_s hx ?_
  rcases hv with rfl | rfl <;> rfl
theorem xr_S_0 {s v : Nat} {h : ah_T} (hx : xi s h) (hv : isS v) : h.2.2.2 v 0 = some (v + 1) := by
  rcases hv with rfl | rfl <;> exact xi_r hx (by decide)
theorem rg_S_1 {v : Nat} (hv : isS v) : rg v 1 = (0, 4) := by
  rcases hv with rfl | rfl <;> rfl
theorem rg_S_2 {v : Nat} (hv : isS v) : rg v 2 = ((-2147483648), 2147483647) := by
  rcases hv with rfl | rfl <;> rfl
theorem rg_S_3 {v : Nat} (hv : isS v) : rg v 3 = ((-2147483648), 2147483647) := by
  rcases hv with rfl | rfl <;> rfl
theorem rg_S_4 {v : Nat} (hv : isS v) : rg v 4 = ((-2147483648), 2147483647) := by
  rcases hv with rfl | rfl <;> rfl
theorem xs_S_5 {s v : Nat} {h : ah_T} (hx : xi s h) (hv : isS v) : h.1[v + 2]? = some (0, 8) := by
  refine xi_s hx ?_
  rcases hv with rfl | rfl <;> rfl
theorem xr_S_5 {s v : Nat} {h : ah_T} (hx : xi s h) (hv : isS v) : h.2.2.2 v 5 = some (v + 2) := by
  rcases hv with rfl | rfl <;> exact xi_r hx (by decide)
theorem rg_S_5 {v : Nat} (hv : isS v) (k : Nat) : rg (v + 2) k = ((-2147483648), 2147483647) := by
  rcases hv with rfl | rfl <;> rfl
theorem rg_S_6 {v : Nat} (hv : isS v) : rg v 6 = (0, 8) := by
  rcases hv with rfl | rfl <;> rfl
theorem xs_S_7 {s v : Nat} {h : ah_T} (hx : xi s h) (hv : isS v) : h.1[v + 3]? = some (0, 24) := by
  refine xi_s hx ?_
  rcases hv with rfl | rfl <;> rfl
theorem xr_S_7 {s v : Nat} {h : ah_T} (hx : xi s h) (hv : isS v) : h.2.2.2 v 7 = some (v + 3) := by
  rcases hv with rfl | rfl <;> exact xi_r hx (by decide)
theorem rg_S_7 {v : Nat} (hv : isS v) (k : Nat) : rg (v + 3) k = ((-2147483648), 2147483647) := by
  rcases hv with rfl | rfl <;> rfl
theorem xs_S_8 {s v : Nat} {h : ah_T} (hx : xi s h) (hv : isS v) : h.1[v + 4]? = some (0, 24) := by
  refine xi_s hx ?_
  rcases hv with rfl | rfl <;> rfl
theorem xr_S_8 {s v : Nat} {h : ah_T} (hx : xi s h) (hv : isS v) : h.2.2.2 v 8 = some (v + 4) := by
  rcases hv with rfl | rfl <;> exact xi_r hx (by decide)
theorem rg_S_8 {v : Nat} (hv : isS v) (k : Nat) : rg (v + 4) k = ((-2147483648), 2147483647) := by
  rcases hv with rfl | rfl <;> rfl
theorem xs_S_9 {s v : Nat} {h : ah_T} (hx : xi s h) (hv : isS v) : h.1[v + 5]? = some (0, 24) := by
  refine xi_s hx ?_
  rcases hv with rfl | rfl <;> rfl
theorem xr_S_9 {s v : Nat} {h : ah_T} (hx : xi s h) (hv : isS v) : h.2.2.2 v 9 = some (v + 5) := by
  rcases hv with rfl | rfl <;> exact xi_r hx (by decide)
theorem rg_S_9 {v : Nat} (hv : isS v) (k : Nat) : rg (v + 5) k = ((-2147483648), 2147483647) := by
  rcases hv with rfl | rfl <;> rfl
theorem rg_S_10 {v : Nat} (hv : isS v) : rg v 10 = (0, 24) := by
  rcases hv with rfl | rfl <;> rfl
theorem xs_S_11 {s v : Nat} {h : ah_T} (hx : xi s h) (hv : isS v) : h.1[v + 6]? = some (0, 12) := by
  refine xi_s hx ?_
  rcases hv with rfl | rfl <;> rfl
theorem xr_S_11 {s v : Nat} {h : ah_T} (hx : xi s h) (hv : isS v) : h.2.2.2 v 11 = some (v + 6) := by
  rcases hv with rfl | rfl <;> exact xi_r hx (by decide)
theorem rg_S_11 {v : Nat} (hv : isS v) (k : Nat) : rg (v + 6) k = ((-2147483648), 2147483647) := by
  rcases hv with rfl | rfl <;> rfl
theorem rg_S_12 {v : Nat} (hv : isS v) : rg v 12 = (0, 12) := by
  rcases hv with rfl | rfl <;> rfl
theorem lt_S {v : Nat} (hv : isS v) : v < 130 ∧ 17 ≤ v := by unfold isS at hv; omega
theorem xr_Sv {s t : Nat} {h : ah_T} (hx : xi s h) (ht : isS t) {i : Int} (h0 : 0 ≤ i) (h1 : i < 4) : ∃ v, h.2.2.2 (t + 1) i.toNat = some v ∧ tV t v := by
  have hi : i = 0 ∨ i = 1 ∨ i = 2 ∨ i = 3 := by omega
  rcases ht with rfl | rfl <;> rcases hi with rfl | rfl | rfl | rfl
  · exact ⟨24, xi_r hx (by decide), by unfold tV; omega⟩
  · exact ⟨38, xi_r hx (by decide), by unfold tV; omega⟩
  · exact ⟨52, xi_r hx (by decide), by unfold tV; omega⟩
  · exact ⟨66, xi_r hx (by decide), by unfold tV; omega⟩
  · exact ⟨87, xi_r hx (by decide), by unfold tV; omega⟩
  · exact ⟨101, xi_r hx (by decide), by unfold tV; omega⟩
  · exact ⟨115, xi_r hx (by decide), by unfold tV; omega⟩
  · exact ⟨129, xi_r hx (by decide), by unfold tV; omega⟩
