/-! ===== second of both ===== -/
theorem u32_e (x : Int) : (((Int32.ofInt x).toBitVec.toNat : Nat) : Int) = x % 4294967296 := by
  have h2 : (Int32.ofInt x).toBitVec = BitVec.ofInt 32 x := rfl
  rw [h2, BitVec.toNat_ofInt]
  omega
theorem t_bitCountL {G : cx_T} {s : Nat} {h : ah_T} {a : Int} (hb0 : hb s h) : con G 0 0 0 m_JLong_bitCount [av_L a] h (fun r h' => r = some (av_I ((cb (uL a) 64 : Nat) : Int)) ∧ hb s h' ∧ h' = h) := by
  refine c_JLong_bitCount hb0 (fun _ => ?_)
  unfold B_JLong_bitCount_0
  intro x1 e1 _ _ x2 e2 _ _ x3 e3 _ _ x4 e4 _ _ x5 e5 _ _ x6 e6 _ _ x7 e7 _ _ x8 e8 _ _ x9 e9 _ _ x10 e10 _ _ x11 e11 _ _ x12 e12 _ _ x13 e13 _ _ x14 e14 _ _ x15 e15 _ _ x16 e16 l16 g16 x17 e17 _ _ x18 e18 _ _
  obtain ⟨Y1, Y2, Y3, p1, p1b, p2, p2b, p3, p3b, p4b, p5b, p6⟩ := pop_n (uL_lt a) 6148914691236517205 3689348814741910323 1085102592571150095 rfl rfl rfl
  have u1 : uL x1 = uL a / 2 := (congrArg uL e1).trans (uL_shr (k := 1) (by decide))
  have u2 : uL x2 = (uL a / 2) &&& 6148914691236517205 := by
    rw [← u1]
    exact (congrArg uL e2).trans (uL_and (m := 6148914691236517205) (by decide))
  have u3 : uL x3 = Y1 := by
    have w := uL_w (a - x2)
    rw [← e3] at w
    have := uL_e a
    have := uL_e x2
    omega
  have u4 : uL x4 = Y1 &&& 3689348814741910323 := by
    rw [← u3]
    exact (congrArg uL e4).trans (uL_and (m := 3689348814741910323) (by decide))
  have u5 : uL x5 = Y1 / 4 := by
    rw [← u3]
    exact (congrArg uL e5).trans (uL_shr (k := 2) (by decide))
  have u6 : uL x6 = (Y1 / 4) &&& 3689348814741910323 := by
    rw [← u5]
    exact (congrArg uL e6).trans (uL_and (m := 3689348814741910323) (by decide))
  have u7 : uL x7 = Y2 := by
    have w := uL_w (x4 + x6)
    rw [← e7] at w
    have := uL_e x4
    have := uL_e x6
    omega
  have u8 : uL x8 = Y2 / 16 := by
    rw [← u7]
    exact (congrArg uL e8).trans (uL_shr (k := 4) (by decide))
  have u9 : uL x9 = Y2 + Y2 / 16 := by
    have w := uL_w (x7 + x8)
    rw [← e9] at w
    have := uL_e x7
    have := uL_e x8
    omega
  have u10 : uL x10 = Y3 := by
    rw [p3, ← u9]
    exact (congrArg uL e10).trans (uL_and (m := 1085102592571150095) (by decide))
  have u11 : uL x11 = Y3 / 256 := by
    rw [← u10]
    exact (congrArg uL e11).trans (uL_shr (k := 8) (by decide))
  have u12 : uL x12 = Y3 + Y3 / 256 := by
    have w := uL_w (x10 + x11)
    rw [← e12] at w
    have := uL_e x10
    have := uL_e x11
    omega
  have u13 : uL x13 = (Y3 + Y3 / 256) / 65536 := by
    rw [← u12]
    exact (congrArg uL e13).trans (uL_shr (k := 16) (by decide))
  obtain ⟨Z, eZ⟩ : ∃ Z, Z = Y3 + Y3 / 256 := ⟨_, rfl⟩
  rw [← eZ] at p3b p4b p5b p6 u12 u13
  have u14 : uL x14 = Z + Z / 65536 := by
    have w := uL_w (x12 + x13)
    rw [← e14] at w
    have := uL_e x12
    have := uL_e x13
    omega
  have u15 : uL x15 = (Z + Z / 65536) / 4294967296 := by
    rw [← u14]
    exact (congrArg uL e15).trans (uL_shr (k := 32) (by decide))
  obtain ⟨V, eV⟩ : ∃ V, V = Z + Z / 65536 := ⟨_, rfl⟩
  rw [← eV] at p4b p5b p6 u14 u15
  have u16 : x16 = ((V + V / 4294967296 : Nat) : Int) := by
    have w := uL_w (x14 + x15)
    rw [← e16] at w
    have := uL_e x14
    have := uL_e x15
    have := uL_e x16
    omega
  have e : x18 = ((cb (uL a) 64 : Nat) : Int) := by
    rw [e18]
    have h2 : (Int32.ofInt 127).toBitVec.toNat = 2 ^ 7 - 1 := by decide +kernel
    have h1 : (Int32.ofInt x17).toBitVec.toNat % 2 ^ 7 < 2 ^ 7 := Nat.mod_lt _ (Nat.two_pow_pos 7)
    rw [pk_and _ 7 h2, nI_toInt (by omega)]
    have w := u32_e x17
    have w17 : x17 % 4294967296 = x16 % 4294967296 := by
      rw [e17]
      unfold w32
      omega
    omega
  rw [e]
  exact ⟨rfl, hb0, rfl⟩
/-- how many of the numbers below m have their bit -/
def cN (W : Nat → Int) : Nat → Nat
  | 0 => 0
  | m + 1 => cN W m + (if tb64 (W (m / 64)) (m % 64) = true then 1 else 0)
theorem cN_m {W : Nat → Int} {a : Nat} : ∀ b, a ≤ b → cN W a ≤ cN W b
  | 0, h => by
    have : a = 0 := by omega
    subst this; exact Nat.le_refl _
  | b + 1, h => by
    by_cases c : a = b + 1
    · subst c; exact Nat.le_refl _
    · exact Nat.le_trans (cN_m b (by omega)) (Nat.le_add_right _ _)
theorem cN_w {W : Nat → Int} {a : Nat} : ∀ k, k ≤ 64 → cN W (64 * a + k) = cN W (64 * a) + cb (uL (W a)) k
  | 0, _ => rfl
  | k + 1, h => by
    have ih := cN_w (W := W) (a := a) k (by omega)
    show cN W (64 * a + k) + (if tb64 (W ((64 * a + k) / 64)) ((64 * a + k) % 64) = true then 1 else 0) = cN W (64 * a) + (cb (uL (W a)) k + (if (uL (W a)).testBit k = true then 1 else 0))
    rw [ih, show (64 * a + k) / 64 = a by omega, show (64 * a + k) % 64 = k by omega, tb_u]
    exact Nat.add_assoc _ _ _
/-- how many of a list are below m -/
def cL (l : List Nat) (m : Nat) : Nat := (l.filter (fun r => decide (r < m))).length
def Srt (l : List Nat) : Prop := l.Pairwise (fun a b => a < b)
theorem cL_c {x m : Nat} {t : List Nat} : cL (x :: t) m = cL t m + (if x < m then 1 else 0) := by
  unfold cL
  by_cases c : x < m
  · have e : (x :: t).filter (fun r => decide (r < m)) = x :: t.filter (fun r => decide (r < m)) := List.filter_cons_of_pos (decide_eq_true c)
    rw [e, if_pos c, List.length_cons]
  · have e : (x :: t).filter (fun r => decide (r < m)) = t.filter (fun r => decide (r < m)) := List.filter_cons_of_neg (fun w => c (of_decide_eq_true w))
    rw [e, if_neg c, Nat.add_zero]
theorem cL_0 : ∀ l : List Nat, cL l 0 = 0
  | [] => rfl
  | x :: t => by
    have ih := cL_0 t
    rw [cL_c, if_neg (Nat.not_lt_zero x)]
    exact ih
theorem cL_hi {m : Nat} : ∀ l : List Nat, (∀ r, r ∈ l → m ≤ r) → cL l m = 0
  | [], _ => rfl
  | x :: t, h => by
    have ih := cL_hi t (fun r hr => h r (List.mem_cons_of_mem _ hr))
    have hx := h x List.mem_cons_self
    rw [cL_c, if_neg (show ¬ x < m by omega)]
    exact ih
theorem cL_s {m : Nat} : ∀ l : List Nat, Srt l → cL l (m + 1) = cL l m + @ite _ (m ∈ l) (Classical.propDecidable _) 1 0
  | [], _ => by
    rw [if_neg (show ¬ m ∈ ([] : List Nat) from fun h => by cases h)]
    rfl
  | x :: t, hs => by
    obtain ⟨h1, h2⟩ := List.pairwise_cons.mp hs
    have ih := cL_s (m := m) t h2
    rw [cL_c, cL_c, ih]
    by_cases c : x = m
    · have n1 : ¬ m ∈ t := fun w => by have := h1 m w; omega
      have y1 : m ∈ x :: t := by rw [c]; exact List.mem_cons_self
      have q1 : (if x < m + 1 then 1 else 0) = 1 := if_pos (by omega)
      have q2 : (if x < m then 1 else 0) = 0 := if_neg (by omega)
      rw [if_neg n1, if_pos y1, q1, q2]
    · by_cases d : m ∈ t
      · have y1 : m ∈ x :: t := List.mem_cons_of_mem _ d
        have hx := h1 m d
        have q1 : (if x < m + 1 then 1 else 0) = 1 := if_pos (by omega)
        have q2 : (if x < m then 1 else 0) = 1 := if_pos hx
        rw [if_pos d, if_pos y1, q1, q2]
      · have n1 : ¬ m ∈ x :: t := fun w => by
          rcases List.mem_cons.mp w with w | w
          · exact c w.symm
          · exact d w
        rw [if_neg d, if_neg n1, Nat.add_zero, Nat.add_zero]
        by_cases e : x < m
        · have q1 : (if x < m + 1 then 1 else 0) = 1 := if_pos (by omega)
          have q2 : (if x < m then 1 else 0) = 1 := if_pos e
          rw [q1, q2]
        · have q1 : (if x < m + 1 then 1 else 0) = 0 := if_neg (by omega)
          have q2 : (if x < m then 1 else 0) = 0 := if_neg e
          rw [q1, q2]
theorem cL_k : ∀ (l : List Nat) (k r : Nat), Srt l → l[k]? = some r → cL l r = k
  | [], k, r, _, h => by simp at h
  | x :: t, 0, r, hs, h => by
    have ex : x = r := Option.some.inj h
    obtain ⟨h1, h2⟩ := List.pairwise_cons.mp hs
    have q := cL_hi (m := r) t (fun q hq => by have := h1 q hq; omega)
    rw [cL_c, if_neg (show ¬ x < r by omega)]
    exact q
  | x :: t, k + 1, r, hs, h => by
    obtain ⟨h1, h2⟩ := List.pairwise_cons.mp hs
    have h' : t[k]? = some r := h
    have hr := h1 r (List.mem_of_getElem? h')
    rw [cL_c, cL_k t k r h2 h', if_pos hr]
theorem cN_L {W : Nat → Int} {l : List Nat} (hs : Srt l) (hB : ∀ r, r < 100032 → (tb64 (W (r / 64)) (r % 64) = true ↔ r ∈ l)) : ∀ m, m ≤ 100032 → cN W m = cL l m
  | 0, _ => (cL_0 l).symm
  | m + 1, h => by
    have ih := cN_L hs hB m (by omega)
    have b := hB m (by omega)
    rw [cN, cL_s l hs, ih]
    by_cases c : m ∈ l
    · rw [if_pos (b.mpr c), if_pos c]
    · rw [if_neg (fun w => c (b.mp w)), if_neg c]
/-- the rows stand in order -/
theorem rwF_s {low : Int} {sp : Nat} {P : Int → List Int → Prop} : ∀ (f : Nat) (p : List Int), Srt (rwF low sp P f p) ∧ ∀ r, r ∈ rwF low sp P f p → rowL low sp p * sp ^ f ≤ r ∧ r < (rowL low sp p + 1) * sp ^ f
  | 0, p => ⟨List.pairwise_singleton _ _, fun r hr => by
    obtain rfl := List.mem_singleton.mp hr
    rw [Nat.pow_zero]; omega⟩
  | f + 1, p => by
    have key : ∀ k, k ≤ sp → Srt (rws (catF (stp low sp P f p) k 0)) ∧ ∀ r, r ∈ rws (catF (stp low sp P f p) k 0) → rowL low sp p * sp * sp ^ f ≤ r ∧ r < (rowL low sp p * sp + k) * sp ^ f := by
      intro k
      induction k with
      | zero => intro _; exact ⟨List.Pairwise.nil, fun r hr => by have hr' : r ∈ ([] : List Nat) := hr; cases hr'⟩
      | succ k ih =>
        intro hk
        obtain ⟨i1, i2⟩ := ih (by omega)
        obtain ⟨j1, j2⟩ := rwF_s (low := low) (sp := sp) (P := P) f ((low + ((0 + k : Nat) : Int)) :: p)
        have er : rowL low sp ((low + ((0 + k : Nat) : Int)) :: p) = rowL low sp p * sp + k := by
          show rowL low sp p * sp + (low + ((0 + k : Nat) : Int) - low).toNat = _
          omega
        rw [er] at j2
        have m1 : rowL low sp p * sp * sp ^ f ≤ (rowL low sp p * sp + k) * sp ^ f := Nat.mul_le_mul_right _ (by omega)
        have m2 : (rowL low sp p * sp + k) * sp ^ f ≤ (rowL low sp p * sp + (k + 1)) * sp ^ f := Nat.mul_le_mul_right _ (by omega)
        rw [catF_s, rws_a, rws_stp]
        by_cases c : P (low + ((0 + k : Nat) : Int)) p
        · rw [dif_t c]
          refine ⟨List.pairwise_append.mpr ⟨i1, j1, fun a ha b hb => ?_⟩, fun r hr => ?_⟩
          · have := (i2 a ha).2
            have := (j2 b hb).1
            omega
          · rcases List.mem_append.mp hr with hr | hr
            · have := i2 r hr; omega
            · have := j2 r hr
              rw [show rowL low sp p * sp + (k + 1) = rowL low sp p * sp + k + 1 by omega]
              omega
        · rw [dif_f c, List.append_nil]
          exact ⟨i1, fun r hr => by have := i2 r hr; omega⟩
    obtain ⟨k1, k2⟩ := key sp (Nat.le_refl _)
    show Srt (rws (tvF low sp P f p)) ∧ ∀ r, r ∈ rws (tvF low sp P f p) → rowL low sp p * sp ^ (f + 1) ≤ r ∧ r < (rowL low sp p + 1) * sp ^ (f + 1)
    rw [rws_tv]
    refine ⟨k1, fun r hr => ?_⟩
    have := k2 r hr
    rw [Nat.pow_succ, Nat.mul_comm (sp ^ f) sp, ← Nat.mul_assoc, ← Nat.mul_assoc, Nat.add_mul, Nat.one_mul]
    exact this
/-- a digit of a row -/
theorem rowL_d {low : Int} {sp : Nat} (hs : 1 ≤ sp) : ∀ (p : List Int) (j : Nat) (x : Int), KRg low sp p → p[j]? = some x → ((rowL low sp p / sp ^ j % sp : Nat) : Int) = x - low
  | [], j, x, _, h => by simp at h
  | y :: q, 0, x, kr, h => by
    obtain rfl := Option.some.inj h
    have := KRg_h kr
    show (((rowL low sp q * sp + (y - low).toNat) / sp ^ 0 % sp : Nat) : Int) = y - low
    rw [Nat.pow_zero, Nat.div_one, Nat.add_comm, Nat.add_mul_mod_self_right, Nat.mod_eq_of_lt (by omega)]
    omega
  | y :: q, j + 1, x, kr, h => by
    have := KRg_h kr
    have ih := rowL_d hs q j x (KRg_t kr) h
    show (((rowL low sp q * sp + (y - low).toNat) / sp ^ (j + 1) % sp : Nat) : Int) = x - low
    rw [Nat.pow_succ, Nat.mul_comm (sp ^ j) sp, ← Nat.div_div_eq_div_mul, Nat.add_comm, Nat.add_mul_div_right _ _ (by omega), Nat.div_eq_of_lt (show (y - low).toNat < sp by omega), Nat.zero_add]
    exact ih
theorem KLs_g {a : Nat} : ∀ (p : List Int) {h : ah_T} (j : Nat), KLs a p h → j < p.length → p[p.length - 1 - j]? = some (h.2.1 a j)
  | [], _, j, _, hj => absurd hj (Nat.not_lt_zero _)
  | x :: q, h, j, K, hj => by
    have hj' : j < q.length + 1 := hj
    by_cases c : j = q.length
    · subst c
      rw [show (x :: q).length - 1 - q.length = 0 by show q.length + 1 - 1 - q.length = 0; omega, K.1] <;> rfl
    · have ih := KLs_g q j K.2 (by omega)
      rw [show (x :: q).length - 1 - j = (q.length - 1 - j) + 1 by show q.length + 1 - 1 - j = _; omega]
      exact ih
