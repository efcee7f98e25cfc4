/-! ===== the class's invariant ===== -/
def hp_e : ah_T := ([], fun _ _ => 0, fun _ _ => 0, fun _ _ => none)
def hp_0 : ah_T := i_MD (st_n (i_PM (st_n hp_e (11 + 4) 11) 0 1) (12 + 4) 111) 170 171
def sh_L : List (Nat × Nat) := [(15, 11), (0, 2000), (9, 8), (12, 13), (0, 2001), (0, 2001), (1, 2001), (0, 2001), (0, 0), (8, 12), (0, 2000), (0, 2000), (0, 2000), (0, 2000), (0, 7), (0, 7), (1, 16), (10, 13), (3, 4), (0, 8), (0, 24), (0, 24), (0, 24), (0, 12), (14, 17), (0, 300), (0, 300), (0, 301), (0, 300), (0, 300), (2, 300), (0, 300), (0, 300), (1, 301), (1, 301), (1, 300), (1, 300), (0, 102), (14, 17), (0, 300), (0, 300), (0, 301), (0, 300), (0, 300), (2, 300), (0, 300), (0, 300), (1, 301), (1, 301), (1, 300), (1, 300), (0, 102), (14, 17), (0, 300), (0, 300), (0, 301), (0, 300), (0, 300), (2, 300), (0, 300), (0, 300), (1, 301), (1, 301), (1, 300), (1, 300), (0, 102), (14, 17), (0, 300), (0, 300), (0, 301), (0, 300), (0, 300), (2, 300), (0, 300), (0, 300), (1, 301), (1, 301), (1, 300), (1, 300), (0, 102), (10, 13), (3, 4), (0, 8), (0, 24), (0, 24), (0, 24), (0, 12), (14, 17), (0, 300), (0, 300), (0, 301), (0, 300), (0, 300), (2, 300), (0, 300), (0, 300), (1, 301), (1, 301), (1, 300), (1, 300), (0, 102), (14, 17), (0, 300), (0, 300), (0, 301), (0, 300), (0, 300), (2, 300), (0, 300), (0, 300), (1, 301), (1, 301), (1, 300), (1, 300), (0, 102), (14, 17), (0, 300), (0, 300), (0, 301), (0, 300), (0, 300), (2, 300), (0, 300), (0, 300), (1, 301), (1, 301), (1, 300), (1, 300), (0, 102), (14, 17), (0, 300), (0, 300), (0, 301), (0, 300), (0, 300), (2, 300), (0, 300), (0, 300), (1, 301), (1, 301), (1, 300), (1, 300), (0, 102), (5, 3), (0, 6404), (0, 4), (4, 4), (0, 14), (0, 15), (0, 15), (6, 8), (0, 14), (0, 14), (1, 15), (0, 15), (0, 4), (1, 4), (1, 4), (11, 8), (1, 1563), (0, 8), (0, 8), (13, 6), (0, 2704), (7, 8), (0, 80), (0, 80), (0, 1681), (0, 1681), (0, 80), (16, 111), (0, 2000), (0, 2), (0, 2), (0, 2), (0, 2), (0, 16), (0, 2), (0, 48), (0, 48), (0, 48), (0, 2), (0, 24), (0, 2), (1, 32), (0, 8), (0, 8), (1, 2400), (1, 2400), (1, 2400), (1, 2400), (0, 2400), (0, 9600), (0, 9600), (0, 2400), (2, 2400), (0, 2400), (0, 2400), (0, 2400), (1, 816), (1, 816), (0, 2100), (0, 2100), (0, 2100), (0, 2100), (0, 8400), (0, 8400), (0, 2100), (2, 2100), (0, 2100), (0, 2100), (0, 2100), (0, 2100), (0, 2100), (0, 2100), (0, 8), (0, 8), (0, 10), (0, 10), (0, 10), (2, 10), (0, 8000), (0, 8000), (0, 8000), (0, 8000), (0, 16), (0, 340), (0, 340), (0, 16), (0, 8), (0, 8), (1, 2704), (0, 32), (0, 32), (0, 32), (1, 32), (0, 80), (0, 80), (0, 80), (0, 6561), (1, 6561)]
def ra_L : List (Option (Int × Int)) := [none, some (0, 255), none, none, some ((-2147483648), 2147483647), some ((-2147483648), 2147483647), some ((-2147483648), 2147483647), some ((-2147483648), 2147483647), some ((-2147483648), 2147483647), none, some ((-2147483648), 2147483647), some (0, 1999), some (0, 300), some (0, 16), some (0, 1999), some (0, 1999), some ((-2147483648), 2147483647), none, some ((-2147483648), 2147483647), some ((-2147483648), 2147483647), some ((-2147483648), 2147483647), some ((-2147483648), 2147483647), some ((-2147483648), 2147483647), some ((-2147483648), 2147483647), none, some ((-2147483648), 2147483647), some ((-2147483648), 2147483647), some (0, 300), some (0, 64), some (0, 3), some ((-2147483648), 2147483647), some (0, 299), some ((-2147483648), 2147483647), some ((-2147483648), 2147483647), some ((-2147483648), 2147483647), some ((-2147483648), 2147483647), some ((-2147483648), 2147483647), some (0, 300), none, some ((-2147483648), 2147483647), some ((-2147483648), 2147483647), some (0, 300), some (0, 64), some (0, 3), some ((-2147483648), 2147483647), some (0, 299), some ((-2147483648), 2147483647), some ((-2147483648), 2147483647), some ((-2147483648), 2147483647), some ((-2147483648), 2147483647), some ((-2147483648), 2147483647), some (0, 300), none, some ((-2147483648), 2147483647), some ((-2147483648), 2147483647), some (0, 300), some (0, 64), some (0, 3), some ((-2147483648), 2147483647), some (0, 299), some ((-2147483648), 2147483647), some ((-2147483648), 2147483647), some ((-2147483648), 2147483647), some ((-2147483648), 2147483647), some ((-2147483648), 2147483647), some (0, 300), none, some ((-2147483648), 2147483647), some ((-2147483648), 2147483647), some (0, 300), some (0, 64), some (0, 3), some ((-2147483648), 2147483647), some (0, 299), some ((-2147483648), 2147483647), some ((-2147483648), 2147483647), some ((-2147483648), 2147483647), some ((-2147483648), 2147483647), some ((-2147483648), 2147483647), some (0, 300), none, some ((-2147483648), 2147483647), some ((-2147483648), 2147483647), some ((-2147483648), 2147483647), some ((-2147483648), 2147483647), some ((-2147483648), 2147483647), some ((-2147483648), 2147483647), none, some ((-2147483648), 2147483647), some ((-2147483648), 2147483647), some (0, 300), some (0, 64), some (0, 3), some ((-2147483648), 2147483647), some (0, 299), some ((-2147483648), 2147483647), some ((-2147483648), 2147483647), some ((-2147483648), 2147483647), some ((-2147483648), 2147483647), some ((-2147483648), 2147483647), some (0, 300), none, some ((-2147483648), 2147483647), some ((-2147483648), 2147483647), some (0, 300), some (0, 64), some (0, 3), some ((-2147483648), 2147483647), some (0, 299), some ((-2147483648), 2147483647), some ((-2147483648), 2147483647), some ((-2147483648), 2147483647), some ((-2147483648), 2147483647), some ((-2147483648), 2147483647), some (0, 300), none, some ((-2147483648), 2147483647), some ((-2147483648), 2147483647), some (0, 300), some (0, 64), some (0, 3), some ((-2147483648), 2147483647), some (0, 299), some ((-2147483648), 2147483647), some ((-2147483648), 2147483647), some ((-2147483648), 2147483647), some ((-2147483648), 2147483647), some ((-2147483648), 2147483647), some (0, 300), none, some ((-2147483648), 2147483647), some ((-2147483648), 2147483647), some (0, 300), some (0, 64), some (0, 3), some ((-2147483648), 2147483647), some (0, 299), some ((-2147483648), 2147483647), some ((-2147483648), 2147483647), some ((-2147483648), 2147483647), some ((-2147483648), 2147483647), some ((-2147483648), 2147483647), some (0, 300), none, some ((-2147483648), 2147483647), some (0, 300), none, some ((-2147483648), 2147483647), some ((-2147483648), 2147483647), some (0, 6), none, some ((-2147483648), 2147483647), some ((-2147483648), 2147483647), some ((-2147483648), 2147483647), some (0, 14), some (0, 2000), some ((-2147483648), 2147483647), some ((-2147483648), 2147483647), none, some ((-2147483648), 2147483647), some ((-2147483648), 2147483647), some ((-2147483648), 2147483647), none, some ((-2147483648), 2147483647), none, some (0, 299), some (0, 299), some ((-2147483648), 2147483647), some ((-2147483648), 2147483647), some ((-2147483648), 2147483647)]
def ro_L : List (Nat × Nat × Int × Int) := [(0, 1, 0, 2000), (2, 3, 0, 16), (2, 4, 0, 300), (3, 4, 0, 2001), (3, 5, (-1), 2000), (3, 7, 0, 2000), (3, 8, 0, 2000), (9, 4, 0, 2000), (9, 7, 0, 7), (9, 8, 0, 100000), (9, 10, 0, 100000), (17, 1, 0, 4), (17, 6, 0, 8), (17, 10, 0, 24), (17, 12, 0, 12), (24, 2, 0, 300), (24, 7, 0, 300), (24, 14, 0, 300), (24, 16, 0, 101), (38, 2, 0, 300), (38, 7, 0, 300), (38, 14, 0, 300), (38, 16, 0, 101), (52, 2, 0, 300), (52, 7, 0, 300), (52, 14, 0, 300), (52, 16, 0, 101), (66, 2, 0, 300), (66, 7, 0, 300), (66, 14, 0, 300), (66, 16, 0, 101), (80, 1, 0, 4), (80, 6, 0, 8), (80, 10, 0, 24), (80, 12, 0, 12), (87, 2, 0, 300), (87, 7, 0, 300), (87, 14, 0, 300), (87, 16, 0, 101), (101, 2, 0, 300), (101, 7, 0, 300), (101, 14, 0, 300), (101, 16, 0, 101), (115, 2, 0, 300), (115, 7, 0, 300), (115, 14, 0, 300), (115, 16, 0, 101), (129, 2, 0, 300), (129, 7, 0, 300), (129, 14, 0, 300), (129, 16, 0, 101), (143, 1, 0, 6404), (146, 1, 0, 14), (150, 1, 0, 14), (158, 3, 0, 121), (158, 4, 0, 8), (162, 3, 0, 12), (162, 4, 0, 12), (164, 5, 0, 80), (164, 6, 0, 80)]
def rf_L : List (Nat × Nat × Nat) := [(0, 0, 1), (0, 2, 2), (0, 5, 143), (0, 6, 146), (0, 7, 150), (0, 8, 158), (0, 9, 162), (0, 10, 164), (2, 0, 3), (2, 1, 9), (2, 2, 16), (3, 0, 4), (3, 1, 5), (3, 2, 6), (3, 3, 7), (9, 0, 10), (9, 1, 11), (9, 2, 12), (9, 3, 13), (9, 5, 14), (9, 6, 15), (17, 0, 18), (17, 5, 19), (17, 7, 20), (17, 8, 21), (17, 9, 22), (17, 11, 23), (18, 0, 24), (18, 1, 38), (18, 2, 52), (18, 3, 66), (24, 0, 25), (24, 1, 26), (24, 3, 27), (24, 4, 28), (24, 5, 29), (24, 6, 30), (24, 8, 31), (24, 9, 32), (24, 10, 33), (24, 11, 34), (24, 12, 35), (24, 13, 36), (24, 15, 37), (38, 0, 39), (38, 1, 40), (38, 3, 41), (38, 4, 42), (38, 5, 43), (38, 6, 44), (38, 8, 45), (38, 9, 46), (38, 10, 47), (38, 11, 48), (38, 12, 49), (38, 13, 50), (38, 15, 51), (52, 0, 53), (52, 1, 54), (52, 3, 55), (52, 4, 56), (52, 5, 57), (52, 6, 58), (52, 8, 59), (52, 9, 60), (52, 10, 61), (52, 11, 62), (52, 12, 63), (52, 13, 64), (52, 15, 65), (66, 0, 67), (66, 1, 68), (66, 3, 69), (66, 4, 70), (66, 5, 71), (66, 6, 72), (66, 8, 73), (66, 9, 74), (66, 10, 75), (66, 11, 76), (66, 12, 77), (66, 13, 78), (66, 15, 79), (80, 0, 81), (80, 5, 82), (80, 7, 83), (80, 8, 84), (80, 9, 85), (80, 11, 86), (81, 0, 87), (81, 1, 101), (81, 2, 115), (81, 3, 129), (87, 0, 88), (87, 1, 89), (87, 3, 90), (87, 4, 91), (87, 5, 92), (87, 6, 93), (87, 8, 94), (87, 9, 95), (87, 10, 96), (87, 11, 97), (87, 12, 98), (87, 13, 99), (87, 15, 100), (101, 0, 102), (101, 1, 103), (101, 3, 104), (101, 4, 105), (101, 5, 106), (101, 6, 107), (101, 8, 108), (101, 9, 109), (101, 10, 110), (101, 11, 111), (101, 12, 112), (101, 13, 113), (101, 15, 114), (115, 0, 116), (115, 1, 117), (115, 3, 118), (115, 4, 119), (115, 5, 120), (115, 6, 121), (115, 8, 122), (115, 9, 123), (115, 10, 124), (115, 11, 125), (115, 12, 126), (115, 13, 127), (115, 15, 128), (129, 0, 130), (129, 1, 131), (129, 3, 132), (129, 4, 133), (129, 5, 134), (129, 6, 135), (129, 8, 136), (129, 9, 137), (129, 10, 138), (129, 11, 139), (129, 12, 140), (129, 13, 141), (129, 15, 142), (143, 0, 144), (143, 2, 145), (146, 0, 147), (146, 2, 148), (146, 3, 149), (150, 0, 151), (150, 2, 152), (150, 3, 153), (150, 4, 154), (150, 5, 155), (150, 6, 156), (150, 7, 157), (158, 0, 159), (158, 6, 160), (158, 7, 161), (162, 0, 163), (164, 0, 165), (164, 1, 166), (164, 2, 167), (164, 3, 168), (164, 4, 169)]
def rg (a k : Nat) : Int × Int := match ra_L[a]? with
  | some (some q) => q
  | _ => match ro_L.find? (fun q => q.1 == a && q.2.1 == k) with
    | some q => q.2.2
    | none => (-2147483648, 2147483647)
def isS (s : Nat) : Prop := s = 17 ∨ s = 80
def isV (v : Nat) : Prop := v = 24 ∨ v = 38 ∨ v = 52 ∨ v = 66 ∨ v = 87 ∨ v = 101 ∨ v = 115 ∨ v = 129
/-- a voice of the score at s -/
def tV (s v : Nat) : Prop := v = s + 7 ∨ v = s + 21 ∨ v = s + 35 ∨ v = s + 49
theorem tV_V {s v : Nat} (hs : isS s) (hv : tV s v) : isV v := by unfold isS at hs; unfold tV at hv; unfold isV; omega
/-- what is said of the parts that are read, and of the events that are walked -/
def sP (h : ah_T) : Prop := ∀ i : Nat, (i : Int) < h.2.1 9 4 → h.2.1 10 i = 123 → (1 ≤ h.2.1 12 i ∧ h.2.1 12 i ≤ 16) ∧ 1 ≤ h.2.1 13 i ∧ h.2.1 13 i ≤ 16
def sV (h : ah_T) (v : Nat) : Prop := ∀ e : Nat, (e : Int) < h.2.1 v 14 → (1 ≤ h.2.2.1 (v + 11) e ∧ h.2.2.1 (v + 11) e ≤ 1000000000) ∧ 1 ≤ h.2.2.1 (v + 12) e ∧ h.2.2.1 (v + 12) e ≤ 1000000
def sem (h : ah_T) : Prop := sP h ∧ ∀ v, isV v → sV h v
/-- stores that this does not hang on -/
def ns (a k : Nat) : Prop := (a ≠ 10 ∧ a ≠ 12) ∧ a ≠ 13 ∧ (a = 9 → k ≠ 4) ∧ (isV a → k ≠ 14)
def nl (a : Nat) : Prop := ∀ v, isV v → v + 11 ≠ a ∧ v + 12 ≠ a
def nsb (a k : Nat) : Bool := (a != 10 && a != 12) && a != 13 && !(a == 9 && k == 4) && !([24, 38, 52, 66, 87, 101, 115, 129].contains a && k == 14)
def nlb (a : Nat) : Bool := !([35, 36, 49, 50, 63, 64, 77, 78, 98, 99, 112, 113, 126, 127, 140, 141].contains a)
theorem ns_b {a k : Nat} (h : nsb a k = true) : ns a k := by
  simp only [nsb, Bool.and_eq_true, bne_iff_ne, Bool.not_eq_true', Bool.and_eq_false_iff, beq_eq_false_iff_ne] at h
  refine ⟨⟨h.1.1.1.1, h.1.1.1.2⟩, h.1.1.2, fun e => h.1.2.elim (fun q => absurd e q) id, fun e => h.2.elim (fun q => ?_) id⟩
  unfold isV at e
  rcases e with rfl | rfl | rfl | rfl | rfl | rfl | rfl | rfl <;> simp at q
theorem nl_b {a : Nat} (h : nlb a = true) : nl a := by
  intro v hv
  unfold isV at hv
  constructor
  · intro q; subst q; rcases hv with rfl | rfl | rfl | rfl | rfl | rfl | rfl | rfl <;> simp [nlb] at h
  · intro q; subst q; rcases hv with rfl | rfl | rfl | rfl | rfl | rfl | rfl | rfl <;> simp [nlb] at h
theorem ns_V {v k : Nat} (hv : isV v) (hk : k ≠ 14) : ns v k := by unfold isV at hv; exact ⟨⟨by omega, by omega⟩, by omega, fun _ => by omega, fun _ => hk⟩
theorem ns_Vo {v k : Nat} (hv : isV v) (o : Nat) (h1 : 1 ≤ o) (h2 : o ≤ 13) : ns (v + o) k := by
  refine ⟨⟨by unfold isV at hv; omega, by unfold isV at hv; omega⟩, by unfold isV at hv; omega, fun _ => by unfold isV at hv; omega, fun q => ?_⟩
  unfold isV at hv q
  omega
theorem ns_S {v k : Nat} (hv : isS v) : ns v k := by
  refine ⟨⟨by unfold isS at hv; omega, by unfold isS at hv; omega⟩, by unfold isS at hv; omega, fun _ => by unfold isS at hv; omega, fun q => ?_⟩
  unfold isS at hv; unfold isV at q
  omega
theorem ns_So {v k : Nat} (hv : isS v) (o : Nat) (h1 : 1 ≤ o) (h2 : o ≤ 6) : ns (v + o) k := by
  refine ⟨⟨by unfold isS at hv; omega, by unfold isS at hv; omega⟩, by unfold isS at hv; omega, fun _ => by unfold isS at hv; omega, fun q => ?_⟩
  unfold isS at hv; unfold isV at q
  omega
theorem nl_Vo {v : Nat} (hv : isV v) (o : Nat) (h1 : 1 ≤ o) (h2 : o ≤ 10) : nl (v + o) := by
  intro w hw
  unfold isV at hv hw
  omega
theorem sem_i {h : ah_T} {a k : Nat} {z : Int} (hs : sem h) (hn : ns a k) : sem (st_i h a k z) := by
  obtain ⟨⟨n1, n5⟩, n2, n3, n4⟩ := hn
  refine ⟨fun i h1 h2 => ?_, fun v hv e he => ?_⟩
  · have e1 : (st_i h a k z).2.1 9 4 = h.2.1 9 4 := up2_o (fun q => n3 q.1.symm q.2.symm)
    have e2 : (st_i h a k z).2.1 10 i = h.2.1 10 i := up2_o (fun q => n1 q.1.symm)
    have e3 : (st_i h a k z).2.1 13 i = h.2.1 13 i := up2_o (fun q => n2 q.1.symm)
    have e4 : (st_i h a k z).2.1 12 i = h.2.1 12 i := up2_o (fun q => n5 q.1.symm)
    rw [e1] at h1; rw [e2] at h2; rw [e3, e4]
    exact hs.1 i h1 h2
  · have e1 : (st_i h a k z).2.1 v 14 = h.2.1 v 14 := up2_o (fun q => n4 (q.1 ▸ hv) q.2.symm)
    rw [e1] at he
    exact hs.2 v hv e he
theorem sem_l {h : ah_T} {a k : Nat} {z : Int} (hs : sem h) (hn : nl a) : sem (st_l h a k z) := by
  refine ⟨hs.1, fun v hv e he => ?_⟩
  have e1 : (st_l h a k z).2.2.1 (v + 11) e = h.2.2.1 (v + 11) e := up2_o (fun q => (hn v hv).1 q.1)
  have e2 : (st_l h a k z).2.2.1 (v + 12) e = h.2.2.1 (v + 12) e := up2_o (fun q => (hn v hv).2 q.1)
  rw [e1, e2]
  exact hs.2 v hv e he
/-- a store behind the events -/
theorem sem_le {h : ah_T} {v o k : Nat} {z : Int} (hs : sem h) (hv : isV v) (ho : o = 11 ∨ o = 12) (hk : h.2.1 v 14 ≤ (k : Int)) : sem (st_l h (v + o) k z) := by
  refine ⟨hs.1, fun w hw e he => ?_⟩
  have he2 : (e : Int) < h.2.1 w 14 := he
  have key : ∀ p, p = 11 ∨ p = 12 → ¬ (w + p = v + o ∧ e = k) := by
    intro p hp ⟨q1, q2⟩
    have : w = v := by unfold isV at hv hw; omega
    subst this; subst q2; omega
  have e1 : (st_l h (v + o) k z).2.2.1 (w + 11) e = h.2.2.1 (w + 11) e := up2_o (key 11 (Or.inl rfl))
  have e2 : (st_l h (v + o) k z).2.2.1 (w + 12) e = h.2.2.1 (w + 12) e := up2_o (key 12 (Or.inr rfl))
  rw [e1, e2]
  exact hs.2 w hw e he
/-- one event more -/
theorem sem_ev {h : ah_T} {v : Nat} {x z : Int} (hs : sem h) (hv : isV v) (hx : x = h.2.1 v 14) (h0 : 0 ≤ x) (hz : z ≤ x + 1) (h1 : 1 ≤ h.2.2.1 (v + 11) x.toNat ∧ h.2.2.1 (v + 11) x.toNat ≤ 1000000000) (h2 : 1 ≤ h.2.2.1 (v + 12) x.toNat ∧ h.2.2.1 (v + 12) x.toNat ≤ 1000000) : sem (st_i h v 14 z) := by
  have hn : ∀ y k, y ≠ v → (st_i h v 14 z).2.1 y k = h.2.1 y k := fun y k q => up2_o (fun w => q w.1)
  refine ⟨fun i q1 q2 => ?_, fun w hw e he => ?_⟩
  · have d1 : (9 : Nat) ≠ v := by unfold isV at hv; omega
    have d2 : (10 : Nat) ≠ v := by unfold isV at hv; omega
    have d3 : (13 : Nat) ≠ v := by unfold isV at hv; omega
    have d4 : (12 : Nat) ≠ v := by unfold isV at hv; omega
    rw [hn 9 4 d1] at q1; rw [hn 10 i d2] at q2; rw [hn 13 i d3, hn 12 i d4]
    exact hs.1 i q1 q2
  · by_cases hwv : w = v
    · subst hwv
      have e1 : (st_i h w 14 z).2.1 w 14 = z := up2_at
      rw [e1] at he
      show (1 ≤ h.2.2.1 (w + 11) e ∧ h.2.2.1 (w + 11) e ≤ 1000000000) ∧ 1 ≤ h.2.2.1 (w + 12) e ∧ h.2.2.1 (w + 12) e ≤ 1000000
      by_cases hex : (e : Int) = x
      · have : e = x.toNat := by omega
        subst this; exact ⟨h1, h2⟩
      · exact hs.2 w hw e (by omega)
    · rw [hn w 14 hwv] at he
      exact hs.2 w hw e he
theorem sem_e0 {h : ah_T} {v : Nat} {z : Int} (hs : sem h) (hv : isV v) (hz : z ≤ 0) : sem (st_i h v 14 z) := by
  have hn : ∀ y k, y ≠ v → (st_i h v 14 z).2.1 y k = h.2.1 y k := fun y k q => up2_o (fun w => q w.1)
  refine ⟨fun i q1 q2 => ?_, fun w hw e he => ?_⟩
  · have d1 : (9 : Nat) ≠ v := by unfold isV at hv; omega
    have d2 : (10 : Nat) ≠ v := by unfold isV at hv; omega
    have d3 : (13 : Nat) ≠ v := by unfold isV at hv; omega
    have d4 : (12 : Nat) ≠ v := by unfold isV at hv; omega
    rw [hn 9 4 d1] at q1; rw [hn 10 i d2] at q2; rw [hn 13 i d3, hn 12 i d4]
    exact hs.1 i q1 q2
  · by_cases hwv : w = v
    · subst hwv
      have e1 : (st_i h w 14 z).2.1 w 14 = z := up2_at
      rw [e1] at he
      omega
    · rw [hn w 14 hwv] at he
      exact hs.2 w hw e he
theorem sem_V {h : ah_T} {a k : Nat} {z : Int} (hs : sem h) (hp : sP (st_i h a k z)) (hn : ¬ isV a) : sem (st_i h a k z) :=
  ⟨hp, fun v hv e he => by
    have e1 : (st_i h a k z).2.1 v 14 = h.2.1 v 14 := up2_o (fun q => hn (q.1 ▸ hv))
    rw [e1] at he
    exact hs.2 v hv e he⟩
theorem nV_p {a : Nat} (h : a < 17) : ¬ isV a := by unfold isV; omega
theorem sP_0 {h : ah_T} {z : Int} (hz : z ≤ 0) : sP (st_i h 9 4 z) := by
  intro i q1
  have e1 : (st_i h 9 4 z).2.1 9 4 = z := ste_i.2.1
  omega
theorem le_tn {x y : Int} (h : x = y) : x ≤ (y.toNat : Int) := by omega
theorem sP_k {h : ah_T} {a k : Nat} {z : Int} (hs : sP h) (ha : a = 10 ∨ a = 12 ∨ a = 13) (hk : h.2.1 9 4 ≤ (k : Int)) : sP (st_i h a k z) := by
  intro i q1 q2
  have e1 : (st_i h a k z).2.1 9 4 = h.2.1 9 4 := up2_o (fun q => by omega)
  rw [e1] at q1
  have key : ∀ b, (st_i h a k z).2.1 b i = h.2.1 b i := fun b => up2_o (fun q => by omega)
  rw [key 10] at q2
  rw [key 12, key 13]
  exact hs i q1 q2
theorem sP_s {h : ah_T} {x z kd vl ot : Int} (hs : sP h) (hx : h.2.1 9 4 = x) (h0 : 0 ≤ x) (hz : z = x + 1) (h1 : h.2.1 10 x.toNat = kd) (h2 : h.2.1 12 x.toNat = vl) (h3 : h.2.1 13 x.toNat = ot) (hk : kd = 123 → (1 ≤ vl ∧ vl ≤ 16) ∧ 1 ≤ ot ∧ ot ≤ 16) : sP (st_i h 9 4 z) := by
  intro i q1 q2
  have e1 : (st_i h 9 4 z).2.1 9 4 = z := ste_i.2.1
  rw [e1] at q1
  have key : ∀ b, b ≠ 9 → (st_i h 9 4 z).2.1 b i = h.2.1 b i := fun b hb => up2_o (fun q => hb q.1)
  rw [key 10 (by decide)] at q2
  rw [key 12 (by decide), key 13 (by decide)]
  by_cases hi : (i : Int) = x
  · have : i = x.toNat := by omega
    subst this
    rw [h1] at q2; rw [h2, h3]
    exact hk q2
  · exact hs i (by omega) q2
theorem sP_at {h : ah_T} {i x z : Int} (hs : sP h) (hz : z = h.2.1 10 i.toNat) (h0 : 0 ≤ i) (hx : h.2.1 9 4 = x) (hi : i < x) (hk : z = 123) : (1 ≤ h.2.1 12 i.toNat ∧ h.2.1 12 i.toNat ≤ 16) ∧ 1 ≤ h.2.1 13 i.toNat ∧ h.2.1 13 i.toNat ≤ 16 := hs _ (by omega) (by omega)
/-- s: the score that is read into; the other one is the current one -/
def xi (s : Nat) (h : ah_T) : Prop :=
  h.1 = sh_L ∧ isS s ∧ h.2.2.2 0 3 = some (97 - s) ∧ h.2.2.2 2 5 = some s ∧ (h.2.2.2 3 6 = some 8 ∨ h.2.2.2 3 6 = some 1) ∧ (∀ q ∈ rf_L, h.2.2.2 q.1 q.2.1 = some q.2.2) ∧ (∀ a k, a < 170 → (rg a k).1 ≤ h.2.1 a k ∧ h.2.1 a k ≤ (rg a k).2) ∧ sem h
def same3 (h0 h : ah_T) (a : Nat) : Prop := h.2.1 a = h0.2.1 a ∧ h.2.2.1 a = h0.2.2.1 a ∧ h.2.2.2 a = h0.2.2.2 a
def kF (F : Nat → Prop) (s : Nat) (h0 h : ah_T) : Prop := xi s h ∧ ∀ a, F a → same3 h0 h a
abbrev FA : Nat → Prop := fun a => (17 ≤ a ∧ a < 143) ∨ 170 ≤ a
abbrev FC : Nat → Prop := fun a => a < 143 ∨ 170 ≤ a
abbrev FB (s : Nat) : Nat → Prop := fun a => (97 - s ≤ a ∧ a ≤ 159 - s) ∨ 170 ≤ a
theorem kF_0 {F : Nat → Prop} {s : Nat} {h : ah_T} (hx : xi s h) : kF F s h h := ⟨hx, fun _ _ => ⟨rfl, rfl, rfl⟩⟩
theorem kF_is {F : Nat → Prop} {s a k : Nat} {z : Int} {h0 h : ah_T} (hk : kF F s h0 h) (ha : ¬ F a) (hn : sem (st_i h a k z)) {q : Int × Int} (hq : rg a k = q) (hz : q.1 ≤ z ∧ z ≤ q.2) : kF F s h0 (st_i h a k z) := by
  obtain ⟨⟨x1, x2, x3, x4, x5, x6, x7, x8⟩, hf⟩ := hk
  refine ⟨⟨x1, x2, x3, x4, x5, x6, fun x y hx => ?_, hn⟩, fun x hx => ⟨(up2_n (fun (e : x = a) => ha (e ▸ hx))).trans (hf x hx).1, (hf x hx).2⟩⟩
  show (rg x y).1 ≤ up2 h.2.1 a k z x y ∧ up2 h.2.1 a k z x y ≤ (rg x y).2
  by_cases hc : x = a ∧ y = k
  · obtain ⟨rfl, rfl⟩ := hc
    rw [up2_at, hq]
    exact hz
  · rw [up2_o hc]
    exact x7 x y hx
theorem kF_i {F : Nat → Prop} {s a k : Nat} {z : Int} {h0 h : ah_T} (hk : kF F s h0 h) (ha : ¬ F a) (hn : ns a k) {q : Int × Int} (hq : rg a k = q) (hz : q.1 ≤ z ∧ z ≤ q.2) : kF F s h0 (st_i h a k z) := kF_is hk ha (sem_i hk.1.2.2.2.2.2.2.2 hn) hq hz
theorem kF_ls {F : Nat → Prop} {s a k : Nat} {z : Int} {h0 h : ah_T} (hk : kF F s h0 h) (ha : ¬ F a) (hn : sem (st_l h a k z)) : kF F s h0 (st_l h a k z) := by
  obtain ⟨⟨x1, x2, x3, x4, x5, x6, x7, x8⟩, hf⟩ := hk
  exact ⟨⟨x1, x2, x3, x4, x5, x6, x7, hn⟩, fun x hx => ⟨(hf x hx).1, (up2_n (fun (e : x = a) => ha (e ▸ hx))).trans (hf x hx).2.1, (hf x hx).2.2⟩⟩
theorem kF_l {F : Nat → Prop} {s a k : Nat} {z : Int} {h0 h : ah_T} (hk : kF F s h0 h) (ha : ¬ F a) (hn : nl a) : kF F s h0 (st_l h a k z) := kF_ls hk ha (sem_l hk.1.2.2.2.2.2.2.2 hn)
theorem kF_sem {F : Nat → Prop} {s : Nat} {h0 h : ah_T} (hk : kF F s h0 h) : sem h := hk.1.2.2.2.2.2.2.2
theorem xi_sem {s : Nat} {h : ah_T} (hx : xi s h) : sem h := hx.2.2.2.2.2.2.2
theorem kF_t {F F' : Nat → Prop} {s : Nat} {h0 h h' : ah_T} (hk : kF F s h0 h) (hk' : kF F' s h h') (hF : ∀ a, F a → F' a) : kF F s h0 h' :=
  ⟨hk'.1, fun x hx => ⟨(hk'.2 x (hF x hx)).1.trans (hk.2 x hx).1, (hk'.2 x (hF x hx)).2.1.trans (hk.2 x hx).2.1, (hk'.2 x (hF x hx)).2.2.trans (hk.2 x hx).2.2⟩⟩
theorem kF_r36 {F : Nat → Prop} {s : Nat} {h0 h : ah_T} (hk : kF F s h0 h) (ha : ¬ F 3) : kF F s h0 (st_r h 3 6 (some 1)) := by
  obtain ⟨⟨x1, x2, x3, x4, x5, x6, x7, x8⟩, hf⟩ := hk
  have key : ∀ a k, ¬ (a = 3 ∧ k = 6) → (st_r h 3 6 (some 1)).2.2.2 a k = h.2.2.2 a k := fun a k q => up2_o q
  refine ⟨⟨x1, x2, (key 0 3 (by decide)).trans x3, (key 2 5 (by decide)).trans x4, Or.inr (by simp [st_r, up2]), fun q hq => ?_, x7, x8⟩, fun x hx => ⟨(hf x hx).1, (hf x hx).2.1, ?_⟩⟩
  · have h9 : ∀ q ∈ rf_L, ¬ (q.1 = 3 ∧ q.2.1 = 6) := by decide +kernel
    rw [key _ _ (h9 q hq)]
    exact x6 q hq
  · funext k
    rw [key x k (fun q => ha (q.1 ▸ hx))]
    exact congrFun (hf x hx).2.2 k
theorem FC_B {s : Nat} (hs : isS s) : ∀ a, FB s a → FC a := by unfold isS at hs; intro a ha; omega
theorem FB_A {s : Nat} (hs : isS s) : ∀ a, FB s a → FA a := by unfold isS at hs; intro a ha; omega
theorem xi_s {s : Nat} {h : ah_T} (hx : xi s h) {a : Nat} {v : Nat × Nat} (hv : sh_L[a]? = some v) : h.1[a]? = some v := by rw [hx.1]; exact hv
theorem xi_r {s : Nat} {h : ah_T} (hx : xi s h) {a k b : Nat} (hm : (a, k, b) ∈ rf_L) : h.2.2.2 a k = some b := hx.2.2.2.2.2.1 _ hm
theorem xi_g {s : Nat} {h : ah_T} (hx : xi s h) {a k : Nat} (ha : a < 170) {lo hi : Int} (hr : rg a k = (lo, hi)) : lo ≤ h.2.1 a k ∧ h.2.1 a k ≤ hi := by
  have h1 := hx.2.2.2.2.2.2.1 a k ha
  rw [hr] at h1
  exact h1

theorem xs_V {s v : Nat} {h : ah_T} (hx : xi s h) (hv : isV v) : h.1[v]? = some (10 + 4, 17) := by
  refine xi_s hx ?_
  rcases hv with rfl | rfl | rfl | rfl | rfl | rfl | rfl | rfl <;> rfl
theorem xs_V_0 {s v : Nat} {h : ah_T} (hx : xi s h) (hv : isV v) : h.1[v + 1]? = some (0, 300) := by
  refine xi_s hx ?_
  rcases hv with rfl | rfl | rfl | rfl | rfl | rfl | rfl | rfl <;> rfl
theorem xr_V_0 {s v : Nat} {h : ah_T} (hx : xi s h) (hv : isV v) : h.2.2.2 v 0 = some (v + 1) := by
  rcases hv with rfl | rfl | rfl | rfl | rfl | rfl | rfl | rfl <;> exact xi_r hx (by decide)
theorem rg_V_0 {v : Nat} (hv : isV v) (k : Nat) : rg (v + 1) k = ((-2147483648), 2147483647) := by
  rcases hv with rfl | rfl | rfl | rfl | rfl | rfl | rfl | rfl <;> rfl
theorem xs_V_1 {s v : Nat} {h : ah_T} (hx : xi s h) (hv : isV v) : h.1[v + 2]? = some (0, 300) := by
  refine xi_s hx ?_
  rcases hv with rfl | rfl | rfl | rfl | rfl | rfl | rfl | rfl <;> rfl
theorem xr_V_1 {s v : Nat} {h : ah_T} (hx : xi s h) (hv : isV v) : h.2.2.2 v 1 = some (v + 2) := by
  rcases hv with rfl | rfl | rfl | rfl | rfl | rfl | rfl | rfl <;> exact xi_r hx (by decide)
theorem rg_V_1 {v : Nat} (hv : isV v) (k : Nat) : rg (v + 2) k = ((-2147483648), 2147483647) := by
  rcases hv with rfl | rfl | rfl | rfl | rfl | rfl | rfl | rfl <;> rfl
theorem rg_V_2 {v : Nat} (hv : isV v) : rg v 2 = (0, 300) := by
  rcases hv with rfl | rfl | rfl | rfl | rfl | rfl | rfl | rfl <;> rfl
theorem xs_V_3 {s v : Nat} {h : ah_T} (hx : xi s h) (hv : isV v) : h.1[v + 3]? = some (0, 301) := by
  refine xi_s hx ?_
  rcases hv with rfl | rfl | rfl | rfl | rfl | rfl | rfl | rfl <;> rfl
theorem xr_V_3 {s v : Nat} {h : ah_T} (hx : xi s h) (hv : isV v) : h.2.2.2 v 3 = some (v + 3) := by
  rcases hv with rfl | rfl | rfl | rfl | rfl | rfl | rfl | rfl <;> exact xi_r hx (by decide)
theorem rg_V_3 {v : Nat} (hv : isV v) (k : Nat) : rg (v + 3) k = (0, 300) := by
  rcases hv with rfl | rfl | rfl | rfl | rfl | rfl | rfl | rfl <;> rfl
theorem xs_V_4 {s v : Nat} {h : ah_T} (hx : xi s h) (hv : isV v) : h.1[v + 4]? = some (0, 300) := by
  refine xi_s hx ?_
  rcases hv with rfl | rfl | rfl | rfl | rfl | rfl | rfl | rfl <;> rfl
theorem xr_V_4 {s v : Nat} {h : ah_T} (hx : xi s h) (hv : isV v) : h.2.2.2 v 4 = some (v + 4) := by
  rcases hv with rfl | rfl | rfl | rfl | rfl | rfl | rfl | rfl <;> exact xi_r hx (by decide)
theorem rg_V_4 {v : Nat} (hv : isV v) (k : Nat) : rg (v + 4) k = (0, 64) := by
  rcases hv with rfl | rfl | rfl | rfl | rfl | rfl | rfl | rfl <;> rfl
theorem xs_V_5 {s v : Nat} {h : ah_T} (hx : xi s h) (hv : isV v) : h.1[v + 5]? = some (0, 300) := by
  refine xi_s hx ?_
  rcases hv with rfl | rfl | rfl | rfl | rfl | rfl | rfl | rfl <;> rfl
theorem xr_V_5 {s v : Nat} {h : ah_T} (hx : xi s h) (hv : isV v) : h.2.2.2 v 5 = some (v + 5) := by
  rcases hv with rfl | rfl | rfl | rfl | rfl | rfl | rfl | rfl <;> exact xi_r hx (by decide)
theorem rg_V_5 {v : Nat} (hv : isV v) (k : Nat) : rg (v + 5) k = (0, 3) := by
  rcases hv with rfl | rfl | rfl | rfl | rfl | rfl | rfl | rfl <;> rfl
theorem xs_V_6 {s v : Nat} {h : ah_T} (hx : xi s h) (hv : isV v) : h.1[v + 6]? = some (2, 300) := by
  refine xi_s hx ?_
  rcases hv with rfl | rfl | rfl | rfl | rfl | rfl | rfl | rfl <;> rfl
theorem xr_V_6 {s v : Nat} {h : ah_T} (hx : xi s h) (hv : isV v) : h.2.2.2 v 6 = some (v + 6) := by
  rcases hv with rfl | rfl | rfl | rfl | rfl | rfl | rfl | rfl <;> exact xi_r hx (by decide)
theorem rg_V_6 {v : Nat} (hv : isV v) (k : Nat) : rg (v + 6) k = ((-2147483648), 2147483647) := by
  rcases hv with rfl | rfl | rfl | rfl | rfl | rfl | rfl | rfl <;> rfl
theorem rg_V_7 {v : Nat} (hv : isV v) : rg v 7 = (0, 300) := by
  rcases hv with rfl | rfl | rfl | rfl | rfl | rfl | rfl | rfl <;> rfl
theorem xs_V_8 {s v : Nat} {h : ah_T} (hx : xi s h) (hv : isV v) : h.1[v + 7]? = some (0, 300) := by
  refine xi_s hx ?_
  rcases hv with rfl | rfl | rfl | rfl | rfl | rfl | rfl | rfl <;> rfl
theorem xr_V_8 {s v : Nat} {h : ah_T} (hx : xi s h) (hv : isV v) : h.2.2.2 v 8 = some (v + 7) := by
  rcases hv with rfl | rfl | rfl | rfl | rfl | rfl | rfl | rfl <;> exact xi_r hx (by decide)
theorem rg_V_8 {v : Nat} (hv : isV v) (k : Nat) : rg (v + 7) k = (0, 299) := by
  rcases hv with rfl | rfl | rfl | rfl | rfl | rfl | rfl | rfl <;> rfl
theorem xs_V_9 {s v : Nat} {h : ah_T} (hx : xi s h) (hv : isV v) : h.1[v + 8]? = some (0, 300) := by
  refine xi_s hx ?_
  rcases hv with rfl | rfl | rfl | rfl | rfl | rfl | rfl | rfl <;> rfl
theorem xr_V_9 {s v : Nat} {h : ah_T} (hx : xi s h) (hv : isV v) : h.2.2.2 v 9 = some (v + 8) := by
  rcases hv with rfl | rfl | rfl | rfl | rfl | rfl | rfl | rfl <;> exact xi_r hx (by decide)
theorem rg_V_9 {v : Nat} (hv : isV v) (k : Nat) : rg (v + 8) k = ((-2147483648), 2147483647) := by
  rcases hv with rfl | rfl | rfl | rfl | rfl | rfl | rfl | rfl <;> rfl
theorem xs_V_10 {s v : Nat} {h : ah_T} (hx : xi s h) (hv : isV v) : h.1[v + 9]? = some (1, 301) := by
  refine xi_s hx ?_
  rcases hv with rfl | rfl | rfl | rfl | rfl | rfl | rfl | rfl <;> rfl
theorem xr_V_10 {s v : Nat} {h : ah_T} (hx : xi s h) (hv : isV v) : h.2.2.2 v 10 = some (v + 9) := by
  rcases hv with rfl | rfl | rfl | rfl | rfl | rfl | rfl | rfl <;> exact xi_r hx (by decide)
theorem xs_V_11 {s v : Nat} {h : ah_T} (hx : xi s h) (hv : isV v) : h.1[v + 10]? = some (1, 301) := by
  refine xi_s hx ?_
  rcases hv with rfl | rfl | rfl | rfl | rfl | rfl | rfl | rfl <;> rfl
theorem xr_V_11 {s v : Nat} {h : ah_T} (hx : xi s h) (hv : isV v) : h.2.2.2 v 11 = some (v + 10) := by
  rcases hv with rfl | rfl | rfl | rfl | rfl | rfl | rfl | rfl <;> exact xi_r hx (by decide)
theorem xs_V_12 {s v : Nat} {h : ah_T} (hx : xi s h) (hv : isV v) : h.1[v + 11]? = some (1, 300) := by
  refine xi_s hx ?_
  rcases hv with rfl | rfl | rfl | rfl | rfl | rfl | rfl | rfl <;> rfl
theorem xr_V_12 {s v : Nat} {h : ah_T} (hx : xi s h) (hv : isV v) : h.2.2.2 v 12 = some (v + 11) := by
  rcases hv with rfl | rfl | rfl | rfl | rfl | rfl | rfl | rfl <;> exact xi_r hx (by decide)
theorem xs_V_13 {s v : Nat} {h : ah_T} (hx : xi s h) (hv : isV v) : h.1[v + 12]? = some (1, 300) := by
  refine xi_s hx ?_
  rcases hv with rfl | rfl | rfl | rfl | rfl | rfl | rfl | rfl <;> rfl
theorem xr_V_13 {s v : Nat} {h : ah_T} (hx : xi s h) (hv : isV v) : h.2.2.2 v 13 = some (v + 12) := by
  rcases hv with rfl | rfl | rfl | rfl | rfl | rfl | rfl | rfl <;> exact xi_r hx (by decide)
theorem rg_V_14 {v : Nat} (hv : isV v) : rg v 14 = (0, 300) := by
  rcases hv with rfl | rfl | rfl | rfl | rfl | rfl | rfl | rfl <;> rfl
theorem xs_V_15 {s v : Nat} {h : ah_T} (hx : xi s h) (hv : isV v) : h.1[v + 13]? = some (0, 102) := by
  refine xi_s hx ?_
  rcases hv with rfl | rfl | rfl | rfl | rfl | rfl | rfl | rfl <;> rfl
theorem xr_V_15 {s v : Nat} {h : ah_T} (hx : xi s h) (hv : isV v) : h.2.2.2 v 15 = some (v + 13) := by
  rcases hv with rfl | rfl | rfl | rfl | rfl | rfl | rfl | rfl <;> exact xi_r hx (by decide)
theorem rg_V_15 {v : Nat} (hv : isV v) (k : Nat) : rg (v + 13) k = (0, 300) := by
  rcases hv with rfl | rfl | rfl | rfl | rfl | rfl | rfl | rfl <;> rfl
theorem rg_V_16 {v : Nat} (hv : isV v) : rg v 16 = (0, 101) := by
  rcases hv with rfl | rfl | rfl | rfl | rfl | rfl | rfl | rfl <;> rfl
theorem lt_V {v : Nat} (hv : isV v) : v < 130 ∧ 17 ≤ v := by unfold isV at hv; omega
theorem xs_S {s v : Nat} {h : ah_T} (hx : xi s h) (hv : isS v) : h.1[v]? = some (6 + 4, 13) := by
  refine xi_s hx ?_
  rcases hv with rfl | rfl <;> rfl
theorem xs_S_0 {s v : Nat} {h : ah_T} (hx : xi s h) (hv : isS v) : h.1[v + 1]? = some (3, 4) := by
  refine xi_s hx ?_
  rcases hv with rfl | rfl <;> rfl
theorem xr_S_0 {s v : Nat} {h : ah_T} (hx : xi s h) (hv : isS v) : h.2.2.2 v 0 = some (v + 1) := by
  rcases hv with rfl | rfl <;> exact xi_r hx (by decide)
theorem rg_S_1 {v : Nat} (hv : isS v) : rg v 1 = (0, 4) := by
  rcases hv with rfl | rfl <;> rfl
theorem rg_S_2 {v : Nat} (hv : isS v) : rg v 2 = ((-2147483648), 2147483647) := by
  rcases hv with rfl | rfl <;> rfl
theorem rg_S_3 {v : Nat} (hv : isS v) : rg v 3 = ((-2147483648), 2147483647) := by
  rcases hv with rfl | rfl <;> rfl
theorem rg_S_4 {v : Nat} (hv : isS v) : rg v 4 = ((-2147483648), 2147483647) := by
  rcases hv with rfl | rfl <;> rfl
theorem xs_S_5 {s v : Nat} {h : ah_T} (hx : xi s h) (hv : isS v) : h.1[v + 2]? = some (0, 8) := by
  refine xi_s hx ?_
  rcases hv with rfl | rfl <;> rfl
theorem xr_S_5 {s v : Nat} {h : ah_T} (hx : xi s h) (hv : isS v) : h.2.2.2 v 5 = some (v + 2) := by
  rcases hv with rfl | rfl <;> exact xi_r hx (by decide)
theorem rg_S_5 {v : Nat} (hv : isS v) (k : Nat) : rg (v + 2) k = ((-2147483648), 2147483647) := by
  rcases hv with rfl | rfl <;> rfl
theorem rg_S_6 {v : Nat} (hv : isS v) : rg v 6 = (0, 8) := by
  rcases hv with rfl | rfl <;> rfl
theorem xs_S_7 {s v : Nat} {h : ah_T} (hx : xi s h) (hv : isS v) : h.1[v + 3]? = some (0, 24) := by
  refine xi_s hx ?_
  rcases hv with rfl | rfl <;> rfl
theorem xr_S_7 {s v : Nat} {h : ah_T} (hx : xi s h) (hv : isS v) : h.2.2.2 v 7 = some (v + 3) := by
  rcases hv with rfl | rfl <;> exact xi_r hx (by decide)
theorem rg_S_7 {v : Nat} (hv : isS v) (k : Nat) : rg (v + 3) k = ((-2147483648), 2147483647) := by
  rcases hv with rfl | rfl <;> rfl
theorem xs_S_8 {s v : Nat} {h : ah_T} (hx : xi s h) (hv : isS v) : h.1[v + 4]? = some (0, 24) := by
  refine xi_s hx ?_
  rcases hv with rfl | rfl <;> rfl
theorem xr_S_8 {s v : Nat} {h : ah_T} (hx : xi s h) (hv : isS v) : h.2.2.2 v 8 = some (v + 4) := by
  rcases hv with rfl | rfl <;> exact xi_r hx (by decide)
theorem rg_S_8 {v : Nat} (hv : isS v) (k : Nat) : rg (v + 4) k = ((-2147483648), 2147483647) := by
  rcases hv with rfl | rfl <;> rfl
theorem xs_S_9 {s v : Nat} {h : ah_T} (hx : xi s h) (hv : isS v) : h.1[v + 5]? = some (0, 24) := by
  refine xi_s hx ?_
  rcases hv with rfl | rfl <;> rfl
theorem xr_S_9 {s v : Nat} {h : ah_T} (hx : xi s h) (hv : isS v) : h.2.2.2 v 9 = some (v + 5) := by
  rcases hv with rfl | rfl <;> exact xi_r hx (by decide)
theorem rg_S_9 {v : Nat} (hv : isS v) (k : Nat) : rg (v + 5) k = ((-2147483648), 2147483647) := by
  rcases hv with rfl | rfl <;> rfl
theorem rg_S_10 {v : Nat} (hv : isS v) : rg v 10 = (0, 24) := by
  rcases hv with rfl | rfl <;> rfl
theorem xs_S_11 {s v : Nat} {h : ah_T} (hx : xi s h) (hv : isS v) : h.1[v + 6]? = some (0, 12) := by
  refine xi_s hx ?_
  rcases hv with rfl | rfl <;> rfl
theorem xr_S_11 {s v : Nat} {h : ah_T} (hx : xi s h) (hv : isS v) : h.2.2.2 v 11 = some (v + 6) := by
  rcases hv with rfl | rfl <;> exact xi_r hx (by decide)
theorem rg_S_11 {v : Nat} (hv : isS v) (k : Nat) : rg (v + 6) k = ((-2147483648), 2147483647) := by
  rcases hv with rfl | rfl <;> rfl
theorem rg_S_12 {v : Nat} (hv : isS v) : rg v 12 = (0, 12) := by
  rcases hv with rfl | rfl <;> rfl
theorem lt_S {v : Nat} (hv : isS v) : v < 130 ∧ 17 ≤ v := by unfold isS at hv; omega
theorem xr_Sv {s t : Nat} {h : ah_T} (hx : xi s h) (ht : isS t) {i : Int} (h0 : 0 ≤ i) (h1 : i < 4) : ∃ v, h.2.2.2 (t + 1) i.toNat = some v ∧ tV t v := by
  have hi : i = 0 ∨ i = 1 ∨ i = 2 ∨ i = 3 := by omega
  rcases ht with rfl | rfl <;> rcases hi with rfl | rfl | rfl | rfl
  · exact ⟨24, xi_r hx (by decide), by unfold tV; omega⟩
  · exact ⟨38, xi_r hx (by decide), by unfold tV; omega⟩
  · exact ⟨52, xi_r hx (by decide), by unfold tV; omega⟩
  · exact ⟨66, xi_r hx (by decide), by unfold tV; omega⟩
  · exact ⟨87, xi_r hx (by decide), by unfold tV; omega⟩
  · exact ⟨101, xi_r hx (by decide), by unfold tV; omega⟩
  · exact ⟨115, xi_r hx (by decide), by unfold tV; omega⟩
  · exact ⟨129, xi_r hx (by decide), by unfold tV; omega⟩
