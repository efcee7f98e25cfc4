/-! ===== longs as words of bits; bitCount ===== -/
def uL (x : Int) : Nat := (Int64.ofInt x).toBitVec.toNat
theorem uL_e (x : Int) : ((uL x : Nat) : Int) = x % 18446744073709551616 := by
  unfold uL
  rw [Int64.toBitVec_ofInt, BitVec.toNat_ofInt]
  omega
theorem uL_lt (x : Int) : uL x < 18446744073709551616 := by
  have := uL_e x
  omega
theorem tb_u {w : Int} {k : Nat} : tb64 w k = (uL w).testBit k := rfl
theorem uL_and {x : Int} {m : Nat} (hm : m < 2 ^ 63) : uL ((Int64.ofInt x &&& Int64.ofInt (m : Int)).toInt) = uL x &&& m := by
  unfold uL
  rw [Int64.ofInt_toInt, Int64.toBitVec_and, BitVec.toNat_and, l64_nat hm]
set_option maxRecDepth 100000 in
theorem sh_k : ∀ k : Nat, k < 64 → ((Int32.ofInt (k : Int)).toInt64.toUInt64 &&& Int64.toUInt64 63).toNat % 64 = k := by decide +kernel
theorem uL_shr {x : Int} {k : Nat} (hk : k < 64) : uL ((((Int64.ofInt x).toUInt64 >>> ((Int32.ofInt (k : Int)).toInt64.toUInt64 &&& Int64.toUInt64 63)).toInt64).toInt) = uL x / 2 ^ k := by
  unfold uL
  rw [Int64.ofInt_toInt]
  show ((Int64.ofInt x).toUInt64 >>> ((Int32.ofInt (k : Int)).toInt64.toUInt64 &&& Int64.toUInt64 63)).toNat = _
  rw [UInt64.toNat_shiftRight, sh_k k hk, Nat.shiftRight_eq_div_pow]
  rfl
theorem uL_w (y : Int) : ((uL (w64 y) : Nat) : Int) = y % 18446744073709551616 := by
  rw [uL_e]
  unfold w64
  omega
/-! bytes of a word -/
def va : List Nat → Nat
  | [] => 0
  | b :: L => b + 256 * va L
def byl : Nat → Nat → List Nat
  | 0, _ => []
  | k + 1, x => x % 256 :: byl k (x / 256)
theorem va_byl : ∀ k x, x < 256 ^ k → va (byl k x) = x
  | 0, x, h => by
    rw [Nat.pow_zero] at h
    show 0 = x
    omega
  | k + 1, x, h => by
    rw [Nat.pow_succ] at h
    have ih := va_byl k (x / 256) (by omega)
    show x % 256 + 256 * va (byl k (x / 256)) = x
    omega
theorem byl_b : ∀ k x b, b ∈ byl k x → b < 256
  | 0, _, _, h => by cases h
  | k + 1, x, b, h => by
    rcases List.mem_cons.mp h with rfl | h
    · omega
    · exact byl_b k _ b h
theorem and_2 {b m X Y : Nat} (hb : b < 256) (hm : m < 256) : (b + 256 * X) &&& (m + 256 * Y) = (b &&& m) + 256 * (X &&& Y) := by
  have hbm : b &&& m < 2 ^ 8 := Nat.and_lt_two_pow b (n := 8) hm
  rw [show b + 256 * X = 2 ^ 8 * X + b by omega, show m + 256 * Y = 2 ^ 8 * Y + m by omega, show (b &&& m) + 256 * (X &&& Y) = 2 ^ 8 * (X &&& Y) + (b &&& m) by omega]
  apply Nat.eq_of_testBit_eq
  intro i
  rw [Nat.testBit_and, Nat.testBit_two_pow_mul_add X (i := 8) hb, Nat.testBit_two_pow_mul_add Y (i := 8) hm, Nat.testBit_two_pow_mul_add (X &&& Y) hbm]
  split
  · rw [Nat.testBit_and]
  · rw [Nat.testBit_and]
theorem k1_5 : ∀ b, b < 256 → ∀ t, t < 2 → (b / 2 + 128 * t) &&& 85 = (b / 2) &&& 85 := by decide +kernel
theorem k1_3 : ∀ b, b < 256 → ∀ t, t < 4 → (b / 4 + 64 * t) &&& 51 = (b / 4) &&& 51 := by decide +kernel
theorem st1 : ∀ L : List Nat, (∀ b, b ∈ L → b < 256) → (va L / 2) &&& va (L.map (fun _ => 85)) = va (L.map (fun b => (b / 2) &&& 85))
  | [], _ => by decide
  | b :: L, h => by
    have ih := st1 L (fun c hc => h c (List.mem_cons_of_mem _ hc))
    have hb := h b List.mem_cons_self
    show ((b + 256 * va L) / 2) &&& (85 + 256 * va (L.map (fun _ => 85))) = ((b / 2) &&& 85) + 256 * va (L.map (fun b => (b / 2) &&& 85))
    rw [← ih, show (b + 256 * va L) / 2 = (b / 2 + 128 * (va L % 2)) + 256 * (va L / 2) by omega, and_2 (by omega) (by decide), k1_5 b hb (va L % 2) (by omega)]
theorem st2 : ∀ L : List Nat, (∀ b, b ∈ L → b < 256) → (va L / 4) &&& va (L.map (fun _ => 51)) = va (L.map (fun b => (b / 4) &&& 51))
  | [], _ => by decide
  | b :: L, h => by
    have ih := st2 L (fun c hc => h c (List.mem_cons_of_mem _ hc))
    have hb := h b List.mem_cons_self
    show ((b + 256 * va L) / 4) &&& (51 + 256 * va (L.map (fun _ => 51))) = ((b / 4) &&& 51) + 256 * va (L.map (fun b => (b / 4) &&& 51))
    rw [← ih, show (b + 256 * va L) / 4 = (b / 4 + 64 * (va L % 4)) + 256 * (va L / 4) by omega, and_2 (by omega) (by decide), k1_3 b hb (va L % 4) (by omega)]
theorem st2a : ∀ L : List Nat, (∀ b, b ∈ L → b < 256) → va L &&& va (L.map (fun _ => 51)) = va (L.map (fun b => b &&& 51))
  | [], _ => by decide
  | b :: L, h => by
    have ih := st2a L (fun c hc => h c (List.mem_cons_of_mem _ hc))
    have hb := h b List.mem_cons_self
    show (b + 256 * va L) &&& (51 + 256 * va (L.map (fun _ => 51))) = (b &&& 51) + 256 * va (L.map (fun b => b &&& 51))
    rw [← ih, and_2 hb (by decide)]
/-- nibbles of 4 at most -/
def Nb (b : Nat) : Prop := b % 16 ≤ 4 ∧ b / 16 ≤ 4
theorem va_nb : ∀ L : List Nat, (∀ b, b ∈ L → Nb b) → va L % 16 ≤ 4
  | [], _ => by decide
  | b :: L, h => by
    have hb := (h b List.mem_cons_self).1
    show (b + 256 * va L) % 16 ≤ 4
    omega
theorem st3 : ∀ L : List Nat, (∀ b, b ∈ L → Nb b) → (va L + va L / 16) &&& va (L.map (fun _ => 15)) = va (L.map (fun b => (b + b / 16) % 16))
  | [], _ => by decide
  | b :: L, h => by
    have hL := fun c hc => h c (List.mem_cons_of_mem _ hc)
    have ih := st3 L hL
    have hb := h b List.mem_cons_self
    have hv := va_nb L hL
    unfold Nb at hb
    show ((b + 256 * va L) + (b + 256 * va L) / 16) &&& (15 + 256 * va (L.map (fun _ => 15))) = (b + b / 16) % 16 + 256 * va (L.map (fun b => (b + b / 16) % 16))
    rw [← ih, show (b + 256 * va L) + (b + 256 * va L) / 16 = (b + b / 16 + 16 * (va L % 16)) + 256 * (va L + va L / 16) by omega, and_2 (by omega) (by decide)]
    have e : (b + b / 16 + 16 * (va L % 16)) &&& 15 = (b + b / 16 + 16 * (va L % 16)) % 16 := Nat.and_two_pow_sub_one_eq_mod _ 4
    rw [e]
    omega
theorem va_sub {f : Nat → Nat} : ∀ L : List Nat, (∀ b, b ∈ L → f b ≤ b) → va L = va (L.map f) + va (L.map (fun b => b - f b))
  | [], _ => rfl
  | b :: L, h => by
    have ih := va_sub L (fun c hc => h c (List.mem_cons_of_mem _ hc))
    have hb := h b List.mem_cons_self
    show b + 256 * va L = (f b + 256 * va (L.map f)) + ((b - f b) + 256 * va (L.map (fun b => b - f b)))
    omega
theorem va_add {f g : Nat → Nat} : ∀ L : List Nat, va (L.map f) + va (L.map g) = va (L.map (fun b => f b + g b))
  | [] => rfl
  | b :: L => by
    have ih := va_add (f := f) (g := g) L
    show (f b + 256 * va (L.map f)) + (g b + 256 * va (L.map g)) = (f b + g b) + 256 * va (L.map (fun b => f b + g b))
    omega
def pc1 (b : Nat) : Nat := b - ((b / 2) &&& 85)
def pc2 (b : Nat) : Nat := (b &&& 51) + ((b / 4) &&& 51)
def pc3 (b : Nat) : Nat := (b + b / 16) % 16
/-- how many bits below k are set -/
def cb (U : Nat) : Nat → Nat
  | 0 => 0
  | k + 1 => cb U k + (if U.testBit k = true then 1 else 0)
theorem pc_ok : ∀ b, b < 256 → ((b / 2) &&& 85) ≤ b ∧ pc1 b < 256 ∧ (pc2 (pc1 b) % 16 ≤ 4 ∧ pc2 (pc1 b) / 16 ≤ 4) ∧ pc3 (pc2 (pc1 b)) = cb b 8 ∧ cb b 8 ≤ 8 := by decide +kernel
theorem cb_lo {b X : Nat} (hb : b < 256) : ∀ k, k ≤ 8 → cb (b + 256 * X) k = cb b k
  | 0, _ => rfl
  | k + 1, h => by
    have ih := cb_lo (X := X) hb k (by omega)
    show cb (b + 256 * X) k + (if (b + 256 * X).testBit k = true then 1 else 0) = cb b k + (if b.testBit k = true then 1 else 0)
    rw [ih, show b + 256 * X = 2 ^ 8 * X + b by omega, Nat.testBit_two_pow_mul_add X (i := 8) hb, if_pos (show k < 8 by omega)]
theorem cb_hi {b X : Nat} (hb : b < 256) : ∀ k, cb (b + 256 * X) (8 + k) = cb b 8 + cb X k
  | 0 => cb_lo hb 8 (Nat.le_refl _)
  | k + 1 => by
    have ih := cb_hi (X := X) hb k
    show cb (b + 256 * X) (8 + k) + (if (b + 256 * X).testBit (8 + k) = true then 1 else 0) = cb b 8 + (cb X k + (if X.testBit k = true then 1 else 0))
    rw [ih, show b + 256 * X = 2 ^ 8 * X + b by omega, Nat.testBit_two_pow_mul_add X (i := 8) hb, if_neg (show ¬ 8 + k < 8 by omega), show 8 + k - 8 = k by omega]
    omega
theorem va_c {c : Nat} : ∀ L : List Nat, va (L.map (fun _ => c)) = va (List.replicate L.length c)
  | [] => rfl
  | b :: L => by
    have ih := va_c (c := c) L
    show c + 256 * va (L.map (fun _ => c)) = c + 256 * va (List.replicate L.length c)
    rw [ih]
theorem va_lt : ∀ L : List Nat, (∀ b, b ∈ L → b < 256) → va L < 256 ^ L.length
  | [], _ => by show 0 < 1; decide
  | b :: L, h => by
    have ih := va_lt L (fun c hc => h c (List.mem_cons_of_mem _ hc))
    have hb := h b List.mem_cons_self
    show b + 256 * va L < 256 ^ (L.length + 1)
    rw [Nat.pow_succ]
    omega
theorem va_nl2 {A C D : Nat} (d : D ≤ 68 * 255) (m : A + 256 * 68 ≤ C) : D + A + 68 ≤ C := by omega
theorem va_nl1 {b V P : Nat} (hb : b ≤ 68) (ih : V * 255 + 68 ≤ 68 * P) : (b + 256 * V) * 255 + 68 ≤ 68 * (P * 256) := by
  have e : (b + 256 * V) * 255 = b * 255 + 256 * (V * 255) := by rw [Nat.add_mul, Nat.mul_assoc]
  have m : 256 * (V * 255 + 68) ≤ 256 * (68 * P) := Nat.mul_le_mul_left 256 ih
  rw [Nat.mul_add] at m
  have g : 68 * (P * 256) = 256 * (68 * P) := by rw [Nat.mul_comm 256 (68 * P), Nat.mul_assoc]
  have d : b * 255 ≤ 68 * 255 := Nat.mul_le_mul_right 255 hb
  rw [e, g]
  exact va_nl2 d m
theorem va_nl : ∀ L : List Nat, (∀ b, b ∈ L → Nb b) → va L * 255 + 68 ≤ 68 * 256 ^ L.length
  | [], _ => by show 0 * 255 + 68 ≤ 68 * 1; decide
  | b :: L, h => by
    have ih := va_nl L (fun c hc => h c (List.mem_cons_of_mem _ hc))
    have hb := h b List.mem_cons_self
    unfold Nb at hb
    have hb2 : b ≤ 68 := by omega
    show (b + 256 * va L) * 255 + 68 ≤ 68 * 256 ^ (L.length + 1)
    rw [Nat.pow_succ]
    exact va_nl1 hb2 ih
theorem cb_8 {b0 b1 b2 b3 b4 b5 b6 b7 : Nat} (h0 : b0 < 256) (h1 : b1 < 256) (h2 : b2 < 256) (h3 : b3 < 256) (h4 : b4 < 256) (h5 : b5 < 256) (h6 : b6 < 256) (h7 : b7 < 256) : cb (va [b0, b1, b2, b3, b4, b5, b6, b7]) 64 = cb b0 8 + (cb b1 8 + (cb b2 8 + (cb b3 8 + (cb b4 8 + (cb b5 8 + (cb b6 8 + (cb b7 8 + 0))))))) := by
  have q : ∀ {b : Nat} {L : List Nat} (k : Nat), b < 256 → cb (va (b :: L)) (8 + k) = cb b 8 + cb (va L) k := fun k hb => cb_hi hb k
  have e7 := q (L := []) 0 h7
  have e6 := q (L := [b7]) 8 h6
  have e5 := q (L := [b6, b7]) 16 h5
  have e4 := q (L := [b5, b6, b7]) 24 h4
  have e3 := q (L := [b4, b5, b6, b7]) 32 h3
  have e2 := q (L := [b3, b4, b5, b6, b7]) 40 h2
  have e1 := q (L := [b2, b3, b4, b5, b6, b7]) 48 h1
  have e0 := q (L := [b1, b2, b3, b4, b5, b6, b7]) 56 h0
  have z : cb (va []) 0 = 0 := rfl
  rw [z] at e7
  exact e0.trans (congrArg (fun x => cb b0 8 + x) (e1.trans (congrArg (fun x => cb b1 8 + x) (e2.trans (congrArg (fun x => cb b2 8 + x) (e3.trans (congrArg (fun x => cb b3 8 + x) (e4.trans (congrArg (fun x => cb b4 8 + x) (e5.trans (congrArg (fun x => cb b5 8 + x) (e6.trans (congrArg (fun x => cb b6 8 + x) e7)))))))))))))
theorem pd1 {Y Y1 d : Nat} (hd : d ≤ 8) (e : Y = d + 256 * Y1) : Y / 256 = Y1 := by omega
theorem pd2 {Y Y1 Y2 Y3 d0 d1 d2 : Nat} (h0 : d0 ≤ 8) (h1 : d1 ≤ 8) (h2 : d2 ≤ 8) (e0 : Y = d0 + 256 * Y1) (e1 : Y1 = d1 + 256 * Y2) (e2 : Y2 = d2 + 256 * Y3) : (Y + Y1) / 65536 = Y2 + Y3 := by omega
theorem pdL {Y Y1 Y2 Y3 Y4 d0 d1 d2 d3 : Nat} (h0 : d0 ≤ 8) (h1 : d1 ≤ 8) (h2 : d2 ≤ 8) (h3 : d3 ≤ 8) (e0 : Y = d0 + 256 * Y1) (e1 : Y1 = d1 + 256 * Y2) (e2 : Y2 = d2 + 256 * Y3) (e3 : Y3 = d3 + 256 * Y4) : ∃ L, Y = L + 4294967296 * Y4 ∧ L ≤ 134744072 := ⟨d0 + 256 * d1 + 65536 * d2 + 16777216 * d3, by omega, by omega⟩
theorem pd3 {Y Y1 Y2 Y3 Y4 Y5 Y6 Y7 L0 L1 L2 L3 : Nat} (e0 : Y = L0 + 4294967296 * Y4) (l0 : L0 ≤ 134744072) (e1 : Y1 = L1 + 4294967296 * Y5) (l1 : L1 ≤ 134744072) (e2 : Y2 = L2 + 4294967296 * Y6) (l2 : L2 ≤ 134744072) (e3 : Y3 = L3 + 4294967296 * Y7) (l3 : L3 ≤ 134744072) : (Y + Y1 + (Y2 + Y3)) / 4294967296 = Y4 + Y5 + (Y6 + Y7) := by
  have e : Y + Y1 + (Y2 + Y3) = (L0 + L1 + L2 + L3) + 4294967296 * (Y4 + Y5 + (Y6 + Y7)) := by omega
  have l : L0 + L1 + L2 + L3 < 4294967296 := by omega
  rw [e, Nat.add_mul_div_left _ _ (by decide), Nat.div_eq_of_lt l, Nat.zero_add]
theorem pd4 {Y Y1 Y2 Y3 Y4 Y5 Y6 Y7 : Nat} (b : Y ≤ 578721382704613384) (b1 : Y1 ≤ 2260630401189896) (b2 : Y2 ≤ 8830587504648) (b3 : Y3 ≤ 34494482440) (b4 : Y4 ≤ 134744072) (b5 : Y5 ≤ 526344) (b6 : Y6 ≤ 2056) (b7 : Y7 ≤ 8) : Y + Y1 < 9223372036854775808 ∧ Y + Y1 + (Y2 + Y3) < 9223372036854775808 ∧ Y + Y1 + (Y2 + Y3) + (Y4 + Y5 + (Y6 + Y7)) < 9223372036854775808 := by omega
theorem pd5 {Y Y1 Y2 Y3 Y4 Y5 Y6 Y7 d0 d1 d2 d3 d4 d5 d6 d7 : Nat} (e0 : Y = d0 + 256 * Y1) (e1 : Y1 = d1 + 256 * Y2) (e2 : Y2 = d2 + 256 * Y3) (e3 : Y3 = d3 + 256 * Y4) (e4 : Y4 = d4 + 256 * Y5) (e5 : Y5 = d5 + 256 * Y6) (e6 : Y6 = d6 + 256 * Y7) (e7 : Y7 = d7 + 256 * 0) : Y + Y1 + (Y2 + Y3) + (Y4 + Y5 + (Y6 + Y7)) = (d0 + (d1 + (d2 + (d3 + (d4 + (d5 + (d6 + (d7 + 0)))))))) + 128 * (2 * (Y1 + Y2 + Y3 + Y4 + Y5 + Y6 + Y7)) := by
  have w1 : Y + Y1 = d0 + d1 + 256 * Y1 + 256 * Y2 := by omega
  have w2 : Y2 + Y3 = d2 + d3 + 256 * Y3 + 256 * Y4 := by omega
  have w3 : Y4 + Y5 = d4 + d5 + 256 * Y5 + 256 * Y6 := by omega
  have w4 : Y6 + Y7 = d6 + d7 + 256 * Y7 := by omega
  rw [w1, w2, w3, w4]
  clear e0 e1 e2 e3 e4 e5 e6 e7 w1 w2 w3 w4
  omega
theorem pop_d {d0 d1 d2 d3 d4 d5 d6 d7 Y : Nat} (h0 : d0 ≤ 8) (h1 : d1 ≤ 8) (h2 : d2 ≤ 8) (h3 : d3 ≤ 8) (h4 : d4 ≤ 8) (h5 : d5 ≤ 8) (h6 : d6 ≤ 8) (h7 : d7 ≤ 8) (eY : Y = d0 + 256 * (d1 + 256 * (d2 + 256 * (d3 + 256 * (d4 + 256 * (d5 + 256 * (d6 + 256 * (d7 + 256 * 0)))))))) :
    Y + Y / 256 < 9223372036854775808 ∧ (Y + Y / 256) + (Y + Y / 256) / 65536 < 9223372036854775808 ∧
      ((Y + Y / 256) + (Y + Y / 256) / 65536) + ((Y + Y / 256) + (Y + Y / 256) / 65536) / 4294967296 < 9223372036854775808 ∧ (((Y + Y / 256) + (Y + Y / 256) / 65536) + ((Y + Y / 256) + (Y + Y / 256) / 65536) / 4294967296) % 128 = d0 + (d1 + (d2 + (d3 + (d4 + (d5 + (d6 + (d7 + 0))))))) := by
  obtain ⟨Y7, y7⟩ : ∃ x, x = d7 + 256 * 0 := ⟨_, rfl⟩
  obtain ⟨Y6, y6⟩ : ∃ x, x = d6 + 256 * Y7 := ⟨_, rfl⟩
  obtain ⟨Y5, y5⟩ : ∃ x, x = d5 + 256 * Y6 := ⟨_, rfl⟩
  obtain ⟨Y4, y4⟩ : ∃ x, x = d4 + 256 * Y5 := ⟨_, rfl⟩
  obtain ⟨Y3, y3⟩ : ∃ x, x = d3 + 256 * Y4 := ⟨_, rfl⟩
  obtain ⟨Y2, y2⟩ : ∃ x, x = d2 + 256 * Y3 := ⟨_, rfl⟩
  obtain ⟨Y1, y1⟩ : ∃ x, x = d1 + 256 * Y2 := ⟨_, rfl⟩
  rw [← y7, ← y6, ← y5, ← y4, ← y3, ← y2, ← y1] at eY
  obtain ⟨L0, p0, l0⟩ := pdL h0 h1 h2 h3 eY y1 y2 y3
  obtain ⟨L1, p1, l1⟩ := pdL h1 h2 h3 h4 y1 y2 y3 y4
  obtain ⟨L2, p2, l2⟩ := pdL h2 h3 h4 h5 y2 y3 y4 y5
  obtain ⟨L3, p3, l3⟩ := pdL h3 h4 h5 h6 y3 y4 y5 y6
  have b7 : Y7 ≤ 8 := by rw [y7]; exact h7
  have st : ∀ {x y d B : Nat}, d ≤ 8 → x = d + 256 * y → y ≤ B → x ≤ 8 + 256 * B := fun hd e hy => by rw [e]; exact Nat.add_le_add hd (Nat.mul_le_mul_left 256 hy)
  have b6 : Y6 ≤ 2056 := Nat.le_trans (st h6 y6 b7) (by decide)
  have b5 : Y5 ≤ 526344 := Nat.le_trans (st h5 y5 b6) (by decide)
  have b4 : Y4 ≤ 134744072 := Nat.le_trans (st h4 y4 b5) (by decide)
  have b3 : Y3 ≤ 34494482440 := Nat.le_trans (st h3 y3 b4) (by decide)
  have b2 : Y2 ≤ 8830587504648 := Nat.le_trans (st h2 y2 b3) (by decide)
  have b1 : Y1 ≤ 2260630401189896 := Nat.le_trans (st h1 y1 b2) (by decide)
  have b0 : Y ≤ 578721382704613384 := Nat.le_trans (st h0 eY b1) (by decide)
  obtain ⟨r1, r2, r3⟩ := pd4 b0 b1 b2 b3 b4 b5 b6 b7
  rw [pd1 h0 eY, pd2 h0 h1 h2 eY y1 y2, pd3 p0 l0 p1 l1 p2 l2 p3 l3]
  refine ⟨r1, r2, r3, ?_⟩
  rw [pd5 eY y1 y2 y3 y4 y5 y6 y7, Nat.add_mul_mod_self_left]
  exact Nat.mod_eq_of_lt (by clear b0 b1 b2 b3 b4 b5 b6 r1 r2 r3 p0 p1 p2 p3 eY y1 y2 y3 y4 y5 y6 y7; omega)
theorem pop_f {b0 b1 b2 b3 b4 b5 b6 b7 : Nat} (hL : ∀ b, b ∈ [b0, b1, b2, b3, b4, b5, b6, b7] → b < 256) (hc : ∀ b, b ∈ [b0, b1, b2, b3, b4, b5, b6, b7] → cb b 8 ≤ 8) :
    va [cb b0 8, cb b1 8, cb b2 8, cb b3 8, cb b4 8, cb b5 8, cb b6 8, cb b7 8] + va [cb b0 8, cb b1 8, cb b2 8, cb b3 8, cb b4 8, cb b5 8, cb b6 8, cb b7 8] / 256 < 9223372036854775808 ∧
    (va [cb b0 8, cb b1 8, cb b2 8, cb b3 8, cb b4 8, cb b5 8, cb b6 8, cb b7 8] + va [cb b0 8, cb b1 8, cb b2 8, cb b3 8, cb b4 8, cb b5 8, cb b6 8, cb b7 8] / 256) + (va [cb b0 8, cb b1 8, cb b2 8, cb b3 8, cb b4 8, cb b5 8, cb b6 8, cb b7 8] + va [cb b0 8, cb b1 8, cb b2 8, cb b3 8, cb b4 8, cb b5 8, cb b6 8, cb b7 8] / 256) / 65536 < 9223372036854775808 ∧
    ((va [cb b0 8, cb b1 8, cb b2 8, cb b3 8, cb b4 8, cb b5 8, cb b6 8, cb b7 8] + va [cb b0 8, cb b1 8, cb b2 8, cb b3 8, cb b4 8, cb b5 8, cb b6 8, cb b7 8] / 256) + (va [cb b0 8, cb b1 8, cb b2 8, cb b3 8, cb b4 8, cb b5 8, cb b6 8, cb b7 8] + va [cb b0 8, cb b1 8, cb b2 8, cb b3 8, cb b4 8, cb b5 8, cb b6 8, cb b7 8] / 256) / 65536) + ((va [cb b0 8, cb b1 8, cb b2 8, cb b3 8, cb b4 8, cb b5 8, cb b6 8, cb b7 8] + va [cb b0 8, cb b1 8, cb b2 8, cb b3 8, cb b4 8, cb b5 8, cb b6 8, cb b7 8] / 256) + (va [cb b0 8, cb b1 8, cb b2 8, cb b3 8, cb b4 8, cb b5 8, cb b6 8, cb b7 8] + va [cb b0 8, cb b1 8, cb b2 8, cb b3 8, cb b4 8, cb b5 8, cb b6 8, cb b7 8] / 256) / 65536) / 4294967296 < 9223372036854775808 ∧
    (((va [cb b0 8, cb b1 8, cb b2 8, cb b3 8, cb b4 8, cb b5 8, cb b6 8, cb b7 8] + va [cb b0 8, cb b1 8, cb b2 8, cb b3 8, cb b4 8, cb b5 8, cb b6 8, cb b7 8] / 256) + (va [cb b0 8, cb b1 8, cb b2 8, cb b3 8, cb b4 8, cb b5 8, cb b6 8, cb b7 8] + va [cb b0 8, cb b1 8, cb b2 8, cb b3 8, cb b4 8, cb b5 8, cb b6 8, cb b7 8] / 256) / 65536) + ((va [cb b0 8, cb b1 8, cb b2 8, cb b3 8, cb b4 8, cb b5 8, cb b6 8, cb b7 8] + va [cb b0 8, cb b1 8, cb b2 8, cb b3 8, cb b4 8, cb b5 8, cb b6 8, cb b7 8] / 256) + (va [cb b0 8, cb b1 8, cb b2 8, cb b3 8, cb b4 8, cb b5 8, cb b6 8, cb b7 8] + va [cb b0 8, cb b1 8, cb b2 8, cb b3 8, cb b4 8, cb b5 8, cb b6 8, cb b7 8] / 256) / 65536) / 4294967296) % 128 = cb (va [b0, b1, b2, b3, b4, b5, b6, b7]) 64 := by
  rw [cb_8 (hL b0 (by simp)) (hL b1 (by simp)) (hL b2 (by simp)) (hL b3 (by simp)) (hL b4 (by simp)) (hL b5 (by simp)) (hL b6 (by simp)) (hL b7 (by simp))]
  exact pop_d (hc b0 (by simp)) (hc b1 (by simp)) (hc b2 (by simp)) (hc b3 (by simp)) (hc b4 (by simp)) (hc b5 (by simp)) (hc b6 (by simp)) (hc b7 (by simp)) rfl
theorem pop_n {X : Nat} (hX : X < 18446744073709551616) (M5 M3 MF : Nat) (e5 : M5 = 6148914691236517205) (e3 : M3 = 3689348814741910323) (eF : MF = 1085102592571150095) :
    ∃ Y1 Y2 Y3 : Nat, X = ((X / 2) &&& M5) + Y1 ∧ Y1 < 18446744073709551616 ∧ Y2 = (Y1 &&& M3) + ((Y1 / 4) &&& M3) ∧ Y2 + Y2 / 16 < 18446744073709551616 ∧ Y3 = (Y2 + Y2 / 16) &&& MF ∧ Y3 + Y3 / 256 < 9223372036854775808 ∧ (Y3 + Y3 / 256) + (Y3 + Y3 / 256) / 65536 < 9223372036854775808 ∧
      ((Y3 + Y3 / 256) + (Y3 + Y3 / 256) / 65536) + ((Y3 + Y3 / 256) + (Y3 + Y3 / 256) / 65536) / 4294967296 < 9223372036854775808 ∧ (((Y3 + Y3 / 256) + (Y3 + Y3 / 256) / 65536) + ((Y3 + Y3 / 256) + (Y3 + Y3 / 256) / 65536) / 4294967296) % 128 = cb X 64 := by
  have eX := va_byl 8 X (by have : 256 ^ 8 = 18446744073709551616 := by decide
                            omega)
  have hL := byl_b 8 X
  have h1 : ∀ b, b ∈ byl 8 X → ((b / 2) &&& 85) ≤ b ∧ pc1 b < 256 ∧ (pc2 (pc1 b) % 16 ≤ 4 ∧ pc2 (pc1 b) / 16 ≤ 4) ∧ pc3 (pc2 (pc1 b)) = cb b 8 ∧ cb b 8 ≤ 8 := fun b hb => pc_ok b (hL b hb)
  have s1 := st1 (byl 8 X) hL
  have l8 : (byl 8 X).length = 8 := rfl
  have m5 : va ((byl 8 X).map (fun _ => 85)) = M5 := by rw [va_c, l8, e5]; decide +kernel
  have m3 : va ((byl 8 X).map (fun _ => 51)) = M3 := by rw [va_c, l8, e3]; decide +kernel
  have mF : va ((byl 8 X).map (fun _ => 15)) = MF := by rw [va_c, l8, eF]; decide +kernel
  have v1 := va_sub (f := fun b => (b / 2) &&& 85) (byl 8 X) (fun b hb => (h1 b hb).1)
  have L1 : ∀ b, b ∈ (byl 8 X).map pc1 → b < 256 := fun b hb => by
    obtain ⟨a, ha, rfl⟩ := List.mem_map.mp hb
    exact (h1 a ha).2.1
  have L2 : ∀ b, b ∈ ((byl 8 X).map pc1).map pc2 → Nb b := fun b hb => by
    obtain ⟨a, ha, rfl⟩ := List.mem_map.mp hb
    obtain ⟨c, hc, rfl⟩ := List.mem_map.mp ha
    exact (h1 c hc).2.2.1
  have a2 := st2a _ L1
  have b2 := st2 _ L1
  have c2 := va_add (f := fun b => b &&& 51) (g := fun b => (b / 4) &&& 51) ((byl 8 X).map pc1)
  have s3 := st3 _ L2
  have n3 : ((byl 8 X).map pc1).map (fun _ => 51) = (byl 8 X).map (fun _ => 51) := by rw [List.map_map]; rfl
  have nF : (((byl 8 X).map pc1).map pc2).map (fun _ => 15) = (byl 8 X).map (fun _ => 15) := by rw [List.map_map, List.map_map]; rfl
  rw [n3] at a2 b2
  rw [nF] at s3
  have f3 : (((byl 8 X).map pc1).map pc2).map (fun b => (b + b / 16) % 16) = (byl 8 X).map (fun b => cb b 8) := by
    rw [List.map_map, List.map_map]
    exact List.map_congr_left (fun b hb => (h1 b hb).2.2.2.1)
  rw [f3] at s3
  have p2 : va (((byl 8 X).map pc1).map (fun b => (b &&& 51) + ((b / 4) &&& 51))) = va (((byl 8 X).map pc1).map pc2) := rfl
  have p1 : va ((byl 8 X).map (fun b => b - ((b / 2) &&& 85))) = va ((byl 8 X).map pc1) := rfl
  rw [m5, eX] at s1
  rw [m3] at a2 b2
  rw [mF] at s3
  rw [eX] at v1
  have p8 : (256 : Nat) ^ 8 = 18446744073709551616 := by decide
  have y1 := va_lt _ L1
  rw [show ((byl 8 X).map pc1).length = 8 from rfl, p8] at y1
  have y2 : va (((byl 8 X).map pc1).map pc2) + va (((byl 8 X).map pc1).map pc2) / 16 < 18446744073709551616 := by
    have q := va_nl _ L2
    rw [show (((byl 8 X).map pc1).map pc2).length = 8 from rfl, p8] at q
    omega
  have hc8 : ∀ b, b ∈ byl 8 X → cb b 8 ≤ 8 := fun b hb => (h1 b hb).2.2.2.2
  have fin := pop_f (b0 := X % 256) (b1 := X / 256 % 256) (b2 := X / 256 / 256 % 256) (b3 := X / 256 / 256 / 256 % 256) (b4 := X / 256 / 256 / 256 / 256 % 256) (b5 := X / 256 / 256 / 256 / 256 / 256 % 256) (b6 := X / 256 / 256 / 256 / 256 / 256 / 256 % 256) (b7 := X / 256 / 256 / 256 / 256 / 256 / 256 / 256 % 256) hL hc8
  have eX2 : va [X % 256, X / 256 % 256, X / 256 / 256 % 256, X / 256 / 256 / 256 % 256, X / 256 / 256 / 256 / 256 % 256, X / 256 / 256 / 256 / 256 / 256 % 256, X / 256 / 256 / 256 / 256 / 256 / 256 % 256, X / 256 / 256 / 256 / 256 / 256 / 256 / 256 % 256] = X := eX
  rw [eX2] at fin
  refine ⟨va ((byl 8 X).map pc1), va (((byl 8 X).map pc1).map pc2), va ((byl 8 X).map (fun b => cb b 8)), ?_, y1, ?_, y2, s3.symm, fin⟩
  · rw [s1, ← p1]; exact v1
  · have q := c2
    rw [← a2, ← b2] at q
    exact q.symm
