/-! ===== contracts of java.lang.Math's own methods ===== -/
theorem mathRows0 : (Jvm.natives.all fun r => r.cls != "java/lang/Math" || !(["(II)I", "(JJ)J"].contains r.desc)) = true := by decide +kernel
theorem mathPlain0 {x : MethodName} (hc : x.cls = "java/lang/Math") (hd : ["(II)I", "(JJ)J"].contains x.desc = true) : plainFor x = true := by
  unfold plainFor
  rw [Bool.or_eq_true]; right
  rw [Option.isNone_iff_eq_none, NativeRow.find?, List.find?_eq_none]
  intro r hr h
  have h9 := List.all_eq_true.mp mathRows0 r hr
  simp only [Bool.and_eq_true, beq_iff_eq] at h
  rw [h.1.2, h.2, hc, hd] at h9
  simp at h9
theorem Met_ofF {l : Launch} {y : MethodName} {ws ws' : List Cond} {rm : Room} {Pc : Array Value → State → Prop} {Qc : Array Value → State → Outcome → State → Prop} {mc ms : Nat} {free : Addr → Prop} {cc : ByteArray} {maxL : Nat} {ret : Option FieldType}
    (hy : plainFor y = true) (hw : ws = Cond.code y cc maxL ret :: ws')
    (body : ∀ p e s m args below meth c s₁, BodyLoose p l y (headSpec ws rm) cc maxL ret e s m args below meth c s₁ → c.maxLocals = maxL → Pc args s →
      W p l e (headSpec ws rm).room s m args below meth c s.heap [] 0 0 (MQ below Qc args s mc ms free) (entryFrame m args maxL)) : Met l y ws rm Pc Qc mc ms free := by
  refine MetFree.of_bodySF (code := cc) (maxLocals := maxL) (ret := ret) hy ?_ ?_
  · intro args s m h hn
    obtain ⟨meth, c, h1, h2, h3, h4, h5, h6, -, -⟩ := Cond.code_spec hn (atoms_spec (ws := ws) h _ (by rw [hw]; exact List.mem_cons_self))
    exact ⟨meth, c, h1, h2, h3, h4, h5, h6⟩
  · intro p e s m args below meth c s₁ B hml hP _
    have hh0 : s₁.heap = s.heap := by rw [B.state]; rfl
    obtain ⟨t, a1, o, b1, b2, b3⟩ := body p e s m args below meth c s₁ B hml hP s₁ hh0 (Stand.of_body B)
    exact ⟨t, o, a1, b1, b2, ⟨b3.1, b3.2⟩⟩
theorem con_ofF {G : cx_T} {d mc ms : Nat} {M : mr_T} {As : List av_T} {h : ah_T} {Q : Option av_T → ah_T → Prop} (hy : plainFor M.1 = true) (hl : (arg_l As).length ≤ M.2.2.1) {L : List (Option av_T)} (hL : arg_L M.2.2.1 As = L)
    (k : aw G (rm_R d mc ms) M 0 0 0 L [] h Q) : con G d mc ms M As h Q := by
  intro hn
  subst hL
  refine Met_ofF (cc := M.2.1) (maxL := M.2.2.1) (ret := M.2.2.2) hy rfl ?_
  intro p e s m args below meth c s₁ B hml hv
  obtain ⟨rfl, hH, hO, hK, hb⟩ := hv
  have hts := atoms_spec (ws := mr_w M :: gw) B.pre
  rw [lg_entry_eq]
  exact k p e s m _ below meth c s.heap [] _ ⟨B.exec, B.bytes, hml, findClass_of_methodNamed B.named, fun w hw => hts w (List.mem_cons_of_mem _ hw), hK, B.returns, B.notSynchronized, fun hi => ((name_of_methodNamed B.named B.method).1).trans hi⟩ hH hO va_S.rf hb (lr_entry hn hl) (fun v hv => by cases hv)
/-! ===== small facts for the walks ===== -/
theorem mul_nn32 {x y z ux uy : Int} (e : z = w32 (x * y)) (hx : 0 ≤ x) (hy : 0 ≤ y) (hux : x ≤ ux) (huy : y ≤ uy) (hm : ux * uy < 2147483648) : 0 ≤ z ∧ z ≤ ux * uy ∧ z = x * y := by
  have h1 : 0 ≤ x * y := Int.mul_nonneg hx hy
  have h2 : x * y ≤ ux * uy := Int.mul_le_mul hux huy hy (by omega)
  rw [w32_id (by unfold i32; omega)] at e
  subst e
  exact ⟨h1, h2, rfl⟩
theorem mul_nn64 {x y z ux uy : Int} (e : z = w64 (x * y)) (hx : 0 ≤ x) (hy : 0 ≤ y) (hux : x ≤ ux) (huy : y ≤ uy) (hm : ux * uy < 9223372036854775808) : 0 ≤ z ∧ z ≤ ux * uy ∧ z = x * y := by
  have h1 : 0 ≤ x * y := Int.mul_nonneg hx hy
  have h2 : x * y ≤ ux * uy := Int.mul_le_mul hux huy hy (by omega)
  rw [w64_id (by unfold i64; omega)] at e
  subst e
  exact ⟨h1, h2, rfl⟩
theorem w32_to {x z : Int} (e : x = z) (hz : i32 z) : w32 x = z := by rw [e]; exact w32_id hz
theorem w64_to {x z : Int} (e : x = z) (hz : i64 z) : w64 x = z := by rw [e]; exact w64_id hz
theorem rem_nn {x y z : Int} (e : z = x.tmod y) (hx : 0 ≤ x) (hy : 1 ≤ y) : 0 ≤ z ∧ z ≤ x ∧ z < y ∧ z = x % y := by
  rw [Int.tmod_eq_emod_of_nonneg hx] at e
  subst e
  have h1 : 0 ≤ y * (x / y) := Int.mul_nonneg (by omega) (Int.ediv_nonneg hx (by omega))
  have h2 : x % y + y * (x / y) = x := Int.emod_add_mul_ediv x y
  exact ⟨Int.emod_nonneg _ (by omega), by omega, Int.emod_lt_of_pos _ (by omega), rfl⟩
theorem rem_c {x y z : Int} (e : z = x.tmod y) (hy : 0 < y) : -y < z ∧ z < y := by
  subst e
  have h1 := Int.natAbs_tmod x y
  have h2 : (x.tmod y).natAbs < y.natAbs := by rw [h1]; exact Nat.mod_lt _ (by omega)
  omega
theorem div_nn32 {x y z : Int} (e : z = w32 (x.tdiv y)) (hx : 0 ≤ x) (hy : 1 ≤ y) (hu : x < 2147483648) : 0 ≤ z ∧ z ≤ x ∧ z = x / y := by
  rw [Int.tdiv_eq_ediv_of_nonneg hx] at e
  have h1 : 0 ≤ x / y := Int.ediv_nonneg hx (by omega)
  have h2 : x / y ≤ x := Int.ediv_le_self _ hx
  rw [w32_id (by unfold i32; omega)] at e
  subst e
  exact ⟨h1, h2, rfl⟩
theorem div_nn64 {x y z : Int} (e : z = w64 (x.tdiv y)) (hx : 0 ≤ x) (hy : 1 ≤ y) (hu : x < 9223372036854775808) : 0 ≤ z ∧ z ≤ x ∧ z = x / y := by
  rw [Int.tdiv_eq_ediv_of_nonneg hx] at e
  have h1 : 0 ≤ x / y := Int.ediv_nonneg hx (by omega)
  have h2 : x / y ≤ x := Int.ediv_le_self _ hx
  rw [w64_id (by unfold i64; omega)] at e
  subst e
  exact ⟨h1, h2, rfl⟩
theorem abs_r {x z : Int} (e : z = if 0 ≤ x then x else w32 (0 - x)) (h : -2147483647 ≤ x) : 0 ≤ z ∧ (z = x ∨ z = -x) := by
  by_cases h0 : 0 ≤ x
  · rw [if_pos h0] at e; omega
  · rw [if_neg h0] at e
    by_cases h1 : x ≤ 2147483647
    · rw [w32_id (by unfold i32; omega)] at e; omega
    · omega
theorem mmin_r {x y z : Int} (e : z = if y < x then y else x) : z ≤ x ∧ z ≤ y ∧ (z = x ∨ z = y) := by
  split at e <;> omega
theorem mmax_r {x y z : Int} (e : z = if x < y then y else x) : x ≤ z ∧ y ≤ z ∧ (z = x ∨ z = y) := by
  split at e <;> omega
theorem and_r {x z m : Int} (k : Nat) (e : z = (Int32.ofInt x &&& Int32.ofInt m).toInt) (hm : (Int32.ofInt m).toBitVec.toNat = 2 ^ k - 1) (hk : k ≤ 30) (hm2 : m + 1 = ((2 ^ k : Nat) : Int)) : 0 ≤ z ∧ z ≤ m := by
  rw [pk_and _ k hm] at e
  have h1 : (Int32.ofInt x).toBitVec.toNat % 2 ^ k < 2 ^ k := Nat.mod_lt _ (Nat.two_pow_pos k)
  have h2 : 2 ^ k ≤ 2 ^ 30 := Nat.pow_le_pow_right (by decide) hk
  rw [nI_toInt (by omega)] at e
  omega
theorem mul_pp32 {x y z ux uy : Int} (e : z = w32 (x * y)) (hx : 1 ≤ x) (hy : 1 ≤ y) (hux : x ≤ ux) (huy : y ≤ uy) (hm : ux * uy < 2147483648) : 1 ≤ z ∧ z ≤ ux * uy ∧ z = x * y := by
  obtain ⟨h1, h2, h3⟩ := mul_nn32 e (by omega) (by omega) hux huy hm
  have h4 : 0 < x * y := Int.mul_pos (by omega) (by omega)
  exact ⟨by omega, h2, h3⟩
theorem mul_pp64 {x y z ux uy : Int} (e : z = w64 (x * y)) (hx : 1 ≤ x) (hy : 1 ≤ y) (hux : x ≤ ux) (huy : y ≤ uy) (hm : ux * uy < 9223372036854775808) : 1 ≤ z ∧ z ≤ ux * uy ∧ z = x * y := by
  obtain ⟨h1, h2, h3⟩ := mul_nn64 e (by omega) (by omega) hux huy hm
  have h4 : 0 < x * y := Int.mul_pos (by omega) (by omega)
  exact ⟨by omega, h2, h3⟩
theorem div_ge1 {x y z : Int} (e : z = x / y) (hy : 1 ≤ y) (hxy : y ≤ x) : 1 ≤ z := by
  rw [e]
  exact (Int.le_ediv_iff_mul_le (by omega)).mpr (by omega)
theorem lshl_s {x y z : Int} (hx : x = 1 ∨ x = 2) (e : z = (Int64.ofInt x <<< ((Int32.ofInt y).toInt64 &&& 63)).toInt) (h0 : 0 ≤ y) (h1 : y ≤ 3) : x ≤ z ∧ z ≤ x * 8 := by
  have hy : y = 0 ∨ y = 1 ∨ y = 2 ∨ y = 3 := by omega
  rcases hx with rfl | rfl <;> rcases hy with rfl | rfl | rfl | rfl <;> (rw [e]; decide)
/-- Euclid's loop -/
def gdv (a b : Int) : Int := if (Int.gcd a b : Int) = 0 then 1 else (Int.gcd a b : Int)
def gdi (a b g l t : Int) : Prop := 0 ≤ g ∧ 0 ≤ l ∧ Int.gcd g l = Int.gcd a b ∧ ((t = 0 ∧ g < 9223372036854775808 ∧ l < 9223372036854775808) ∨ (1 ≤ t ∧ l < g ∧ g * l * 2 ^ (t.toNat - 1) ≤ 85070591730234615865843651857942052864))
theorem gdv_1 (a b : Int) : 1 ≤ gdv a b := by
  unfold gdv
  split <;> omega
theorem gdv_le {a b : Int} (ha : 1 ≤ a) (hb : 0 ≤ b) : gdv a b ≤ a := by
  unfold gdv
  split
  · exact ha
  · exact Int.gcd_le_left b (by omega)
theorem gdi_0 {a b : Int} (ha : 0 ≤ a) (hb : 0 ≤ b) (ha2 : a < 9223372036854775808) (hb2 : b < 9223372036854775808) : gdi a b a b 0 := ⟨ha, hb, rfl, Or.inl ⟨rfl, ha2, hb2⟩⟩
theorem gcd_mod (g l : Int) : Int.gcd l (g % l) = Int.gcd g l := by
  rw [Int.gcd_comm l (g % l)]
  have h1 : Int.gcd (g % l + l * (g / l)) l = Int.gcd (g % l) l := Int.gcd_add_mul_left_left l (g % l) (g / l)
  rw [Int.emod_add_mul_ediv] at h1
  exact h1.symm
theorem gdi_s {a b g l t r : Int} (h : gdi a b g l t) (ht : 0 ≤ t) (hl : l ≠ 0) (hr : r = g.tmod l) : gdi a b l r (t + 1) := by
  obtain ⟨h1, h2, h3, h4⟩ := h
  have er : r = g % l := by rw [hr, Int.tmod_eq_emod_of_nonneg h1]
  have r0 : 0 ≤ r := by rw [er]; exact Int.emod_nonneg _ hl
  have r1 : r < l := by rw [er]; exact Int.emod_lt_of_pos _ (by omega)
  refine ⟨h2, r0, by rw [er, gcd_mod, h3], Or.inr ⟨by omega, r1, ?_⟩⟩
  rcases h4 with ⟨t0, g1, l1⟩ | ⟨t1, lg, hb⟩
  · subst t0
    have : l * r ≤ 9223372036854775808 * 9223372036854775808 := Int.mul_le_mul (by omega) (by omega) r0 (by omega)
    simpa using this
  · have d1 := Int.emod_add_mul_ediv g l
    have d2 : 1 ≤ g / l := (Int.le_ediv_iff_mul_le (by omega)).mpr (by omega)
    have d3 : l * 1 ≤ l * (g / l) := Int.mul_le_mul_of_nonneg_left d2 h2
    have d4 : 2 * r ≤ g := by omega
    have d5 : l * (2 * r) ≤ l * g := Int.mul_le_mul_of_nonneg_left d4 h2
    have e1 : (t + 1).toNat - 1 = (t.toNat - 1) + 1 := by omega
    rw [e1, Int.pow_succ]
    have p0 : (0 : Int) ≤ 2 ^ (t.toNat - 1) := Int.pow_nonneg (by decide)
    have d6 : l * (2 * r) * 2 ^ (t.toNat - 1) ≤ l * g * 2 ^ (t.toNat - 1) := Int.mul_le_mul_of_nonneg_right d5 p0
    have e2 : l * r * (2 ^ (t.toNat - 1) * 2) = l * (2 * r) * 2 ^ (t.toNat - 1) := by
      simp only [Int.mul_assoc, Int.mul_comm, Int.mul_left_comm]
    have e3 : l * g * 2 ^ (t.toNat - 1) = g * l * 2 ^ (t.toNat - 1) := by rw [Int.mul_comm l g]
    omega
theorem gdi_e {a b g l t : Int} (h : gdi a b g l t) (hx : l = 0 ∨ 200 ≤ t) : (g < 1 → 1 = gdv a b) ∧ (1 ≤ g → g = gdv a b) := by
  obtain ⟨h1, h2, h3, h4⟩ := h
  have hl : l = 0 := by
    rcases hx with hx | hx
    · exact hx
    · rcases h4 with ⟨t0, -, -⟩ | ⟨t1, lg, hb⟩
      · omega
      · rcases Int.le_iff_lt_or_eq.mp h2 with h5 | h5
        · exfalso
          have p1 : (2 : Int) ^ 199 ≤ 2 ^ (t.toNat - 1) := by
            have h9 := Nat.pow_le_pow_right (show 0 < 2 by decide) (show 199 ≤ t.toNat - 1 by omega)
            have h10 : ((2 ^ 199 : Nat) : Int) ≤ ((2 ^ (t.toNat - 1) : Nat) : Int) := by exact_mod_cast h9
            simpa using h10
          have p2 : 1 ≤ g * l := by
            have : 0 < g * l := Int.mul_pos (by omega) h5
            omega
          have p3 : 1 * 2 ^ (t.toNat - 1) ≤ g * l * 2 ^ (t.toNat - 1) := Int.mul_le_mul_of_nonneg_right p2 (Int.pow_nonneg (by decide))
          have p4 : (85070591730234615865843651857942052864 : Int) < 2 ^ 199 := by decide
          omega
        · exact h5.symm
  subst hl
  have h5 : Int.gcd a b = g.natAbs := by rw [← h3]; simp
  have h6 : (Int.gcd a b : Int) = g := by rw [h5]; omega
  unfold gdv
  rw [h6]
  constructor
  · intro h7
    rw [if_pos (by omega)]
  · intro h7
    rw [if_neg (by omega)]
section AWR2
variable {G : cx_T} {R : Room} {M : mr_T} {cu su pc : Nat} {L : List (Option av_T)} {st : List av_T} {h : ah_T} {Q : Option av_T → ah_T → Prop}
theorem A_putRk {KR : ah_T → Prop} {idx c k : Nat} {ty : FieldType} {fin : Bool} {a n : Nat} {z : Option Nat} (hT : tbl_OK) (hd : decode M.2.1 pc = .ok (.putfield idx, 3)) (hf : fl_OK M.1.cls idx c k ty fin) (hty : (∃ n, ty = .object n) ∨ ∃ n, ty = .array n) (hs : h.1[a]? = some (c + 4, n)) (hfin : fin_OK M c fin) (hk : KR (st_r h a k z)) (kk : ∀ h', KR h' → (h'.2.1 = h.2.1 ∧ h'.2.2.1 = h.2.2.1) → aw G R M cu su (pc + 3) L st h' Q) : aw G R M cu su pc L (av_R z :: av_R (some a) :: st) h Q := A_putR hT hd hf hty hs hfin (kk _ hk ⟨rfl, rfl⟩)
end AWR2
def gd2 (a b g l t : Int) : Prop := (t = 0 ∧ g = a ∧ l = b) ∨ (1 ≤ t ∧ -b ≤ g ∧ g ≤ b ∧ -b ≤ l ∧ l ≤ b)
theorem gd2_0 {a b : Int} : gd2 a b a b 0 := Or.inl ⟨rfl, rfl, rfl⟩
theorem gd2_s {a b g l t r : Int} (h : gd2 a b g l t) (ht : 0 ≤ t) (hb : 1 ≤ b) (hl : l ≠ 0) (hr : r = g.tmod l) : gd2 a b l r (t + 1) := by
  have h1 : (g.tmod l).natAbs = g.natAbs % l.natAbs := Int.natAbs_tmod g l
  have h2 : g.natAbs % l.natAbs < l.natAbs := Nat.mod_lt _ (by omega)
  have h3 : (g.tmod l).natAbs < l.natAbs := by rw [h1]; exact h2
  rw [← hr] at h3
  clear h1 h2 hr
  unfold gd2 at *
  omega
theorem gd2_e {a b g l t : Int} (h : gd2 a b g l t) (hb : 1 ≤ b) (hx : l = 0 ∨ 200 ≤ t) : g ≤ b := by unfold gd2 at h; omega
