theorem nv_h {v : av_T} {l : List av_T} (h : ∀ x ∈ v :: l, nv x) : nv v := h v List.mem_cons_self
theorem nv_t {v : av_T} {l : List av_T} (h : ∀ x ∈ v :: l, nv x) : ∀ x ∈ l, nv x := fun x hx => h x (List.mem_cons_of_mem _ hx)
theorem nv_c {v : av_T} {l : List av_T} (h : nv v) (h2 : ∀ x ∈ l, nv x) : ∀ x ∈ v :: l, nv x := List.forall_mem_cons.mpr ⟨h, h2⟩
theorem i64_1 : i64 1 := by unfold i64; omega
def i32b (n : Int) : Bool := decide (-2147483648 ≤ n) && decide (n < 2147483648)
theorem i32b_ok {n : Int} (h : i32b n = true) : i32 n := by
  simp only [i32b, Bool.and_eq_true, decide_eq_true_eq] at h
  exact h
def i64b (n : Int) : Bool := decide (-9223372036854775808 ≤ n) && decide (n < 9223372036854775808)
theorem i64b_ok {n : Int} (h : i64b n = true) : i64 n := by
  simp only [i64b, Bool.and_eq_true, decide_eq_true_eq] at h
  exact h
def i8b (n : Int) : Bool := decide (-128 ≤ n) && decide (n < 128)
def i16b (n : Int) : Bool := decide (-32768 ≤ n) && decide (n < 32768)
theorem i8b_ok {n : Int} (h : i8b n = true) : i32 n := by
  simp only [i8b, Bool.and_eq_true, decide_eq_true_eq] at h
  unfold i32; omega
theorem i16b_ok {n : Int} (h : i16b n = true) : i32 n := by
  simp only [i16b, Bool.and_eq_true, decide_eq_true_eq] at h
  unfold i32; omega
theorem i8b_v {n : Int} (h : i8b n = true) : (Int8.ofInt n).toInt32 = Int32.ofInt n := by
  have h2 := i8b_ok h
  simp only [i8b, Bool.and_eq_true, decide_eq_true_eq] at h
  apply Int32.toInt_inj.mp
  rw [Int8.toInt_toInt32, Int8.toInt_ofInt, i32_tn h2]
  have e : n.bmod 256 = n := Int.bmod_eq_of_le (by omega) (by omega)
  exact e
theorem i16b_v {n : Int} (h : i16b n = true) : (Int16.ofInt n).toInt32 = Int32.ofInt n := by
  have h2 := i16b_ok h
  simp only [i16b, Bool.and_eq_true, decide_eq_true_eq] at h
  apply Int32.toInt_inj.mp
  rw [Int16.toInt_toInt32, Int16.toInt_ofInt, i32_tn h2]
  have e : n.bmod 65536 = n := Int.bmod_eq_of_le (by omega) (by omega)
  exact e
theorem i32_ne0 {y : Int} (h : i32 y) (hy : y ≠ 0) : ¬ Int32.ofInt y = 0 := fun z => hy ((i32_eq h i32_0).mp z)
theorem i64_ne0 {y : Int} (h : i64 y) (hy : y ≠ 0) : ¬ Int64.ofInt y = 0 := fun z => hy ((i64_eq h i64_0).mp z)
theorem w32_div {x y : Int} (hx : i32 x) (hy : i32 y) : Int32.ofInt (w32 (x.tdiv y)) = Int32.ofInt x / Int32.ofInt y := by
  apply i32_e
  rw [Int32.toInt_div, i32_tn hx, i32_tn hy]
  exact w32_bm _
theorem w64_div {x y : Int} (hx : i64 x) (hy : i64 y) : Int64.ofInt (w64 (x.tdiv y)) = Int64.ofInt x / Int64.ofInt y := by
  apply i64_e
  rw [Int64.toInt_div, i64_tn hx, i64_tn hy]
  exact w64_bm _
theorem tmod_in32 {x y : Int} (h : i32 x) : i32 (x.tmod y) := by
  unfold i32 at *
  rcases Int.le_total 0 x with h0 | h0
  · have h1 := Int.tmod_nonneg y h0
    have h2 : x.tmod y ≤ x := by
      have := Int.natAbs_tmod x y
      have h3 : (x.tmod y).natAbs ≤ x.natAbs := by rw [this]; exact Nat.mod_le _ _
      omega
    omega
  · have h3 : (x.tmod y).natAbs ≤ x.natAbs := by rw [Int.natAbs_tmod]; exact Nat.mod_le _ _
    have h4 : x.tmod y ≤ 0 := by
      have := Int.tmod_nonneg (a := -x) y (by omega)
      rw [Int.neg_tmod] at this
      omega
    omega
theorem tmod_in64 {x y : Int} (h : i64 x) : i64 (x.tmod y) := by
  unfold i64 at *
  rcases Int.le_total 0 x with h0 | h0
  · have h1 := Int.tmod_nonneg y h0
    have h3 : (x.tmod y).natAbs ≤ x.natAbs := by rw [Int.natAbs_tmod]; exact Nat.mod_le _ _
    omega
  · have h3 : (x.tmod y).natAbs ≤ x.natAbs := by rw [Int.natAbs_tmod]; exact Nat.mod_le _ _
    have h4 : x.tmod y ≤ 0 := by
      have := Int.tmod_nonneg (a := -x) y (by omega)
      rw [Int.neg_tmod] at this
      omega
    omega
theorem w32_rem {x y : Int} (hx : i32 x) (hy : i32 y) (h0 : y ≠ 0) : Int32.ofInt x - Int32.ofInt x / Int32.ofInt y * Int32.ofInt y = Int32.ofInt (x.tmod y) := by
  apply Int32.toInt_inj.mp
  rw [i32_tn (tmod_in32 hx), Int32.toInt_sub, Int32.toInt_mul, Int32.toInt_div, i32_tn hx, i32_tn hy]
  rw [Int.bmod_mul_bmod, Int.sub_bmod_bmod]
  have e : x - x.tdiv y * y = x.tmod y := by rw [Int.tmod_def, Int.mul_comm]
  rw [e]
  exact (w32_bm _).trans (w32_id (tmod_in32 hx))
theorem w64_rem {x y : Int} (hx : i64 x) (hy : i64 y) (h0 : y ≠ 0) : Int64.ofInt x - Int64.ofInt x / Int64.ofInt y * Int64.ofInt y = Int64.ofInt (x.tmod y) := by
  apply Int64.toInt_inj.mp
  rw [i64_tn (tmod_in64 hx), Int64.toInt_sub, Int64.toInt_mul, Int64.toInt_div, i64_tn hx, i64_tn hy]
  rw [Int.bmod_mul_bmod, Int.sub_bmod_bmod]
  have e : x - x.tdiv y * y = x.tmod y := by rw [Int.tmod_def, Int.mul_comm]
  rw [e]
  exact (w64_bm _).trans (w64_id (tmod_in64 hx))
theorem i64_i32 {x : Int} (h : i32 x) : i64 x := by unfold i32 at h; unfold i64; omega
theorem i2l_v {x : Int} (h : i32 x) : (Int32.ofInt x).toInt64 = Int64.ofInt x := by
  apply Int64.toInt_inj.mp
  rw [Int32.toInt_toInt64, i32_tn h, i64_tn (i64_i32 h)]
theorem l2i_v (x : Int) : (Int64.ofInt x).toInt32 = Int32.ofInt (w32 x) := by
  apply Int32.toInt_inj.mp
  rw [Int64.toInt_toInt32, i64_ti, i32_ti]
  exact (w32_bm _).trans (by unfold w32 w64; omega)
def cmp_I (x y : Int) : Int := if x < y then -1 else if x = y then 0 else 1
theorem cmp_in (x y : Int) : i32 (cmp_I x y) := by
  unfold cmp_I i32
  split
  · omega
  · split <;> omega
theorem cmp_v {x y : Int} (hx : i64 x) (hy : i64 y) : lg_cmp (Int64.ofInt x) (Int64.ofInt y) = Int32.ofInt (cmp_I x y) := by
  unfold lg_cmp cmp_I
  have h1 := i64_lt hx hy
  have h2 := i64_lt hy hx
  have h3 := i64_eq hx hy
  by_cases a : x < y
  · have b : ¬ y < x := by omega
    have d : ¬ x = y := by omega
    simp [h1, h2, h3, a, b, d]
  · by_cases b : x = y
    · subst b; simp
    · have d : y < x := by omega
      simp [h1, h2, h3, a, b, d]
theorem nar_b {x : Int} (h : x = 0 ∨ x = 1) : narrow .boolean (.int (Int32.ofInt x)) = .int (Int32.ofInt x) := by
  rcases h with rfl | rfl <;> rfl
theorem nar_c {x : Int} (h : 0 ≤ x ∧ x < 65536) : narrow .char (.int (Int32.ofInt x)) = .int (Int32.ofInt x) := by
  obtain ⟨k, rfl⟩ := Int.eq_ofNat_of_zero_le h.1
  exact (pk_charN (q := k) (by omega)).1
theorem cv_ref {G : cx_T} (r : Option Nat) : cv G (av_R r) = .null ∨ ∃ a, cv G (av_R r) = .ref a := by
  cases r with
  | none => exact Or.inl rfl
  | some a => exact Or.inr ⟨_, rfl⟩
theorem ro_end {G : cx_T} {s t : State} {H : Heap} {locs : List Loc} (h : ro_OK G s s.heap) (hS : va_S (fr_A G) s.heap H locs) (ht : t.heap = H) (hw : s.WarmedH t.vm) : ro_OK G t t.heap := by
  rw [ht]
  exact ro_to h hS.2.1 hw.alike (fun _ _ _ _ q => q.warm hw)
/-! locals -/
def cat2 : av_T → Bool
  | .inr (.inl _) => true
  | .inr (.inr (.inl _)) => true
  | _ => false
theorem cv_cat {G : cx_T} (v : av_T) : ((cv G v).category == 2) = cat2 v := by
  rcases v with z | z | d | r | k
  · rfl
  · rfl
  · rfl
  · cases r <;> rfl
  · rfl
def lkill (L : List (Option av_T)) (i : Nat) : List (Option av_T) := match i with
  | 0 => L
  | j + 1 => match L[j]? with
    | some (some v) => if cat2 v = true then L.set j none else L
    | _ => L
def lst1 (L : List (Option av_T)) (i : Nat) (v : av_T) : List (Option av_T) := (lkill L i).set i (some v)
def lst2 (L : List (Option av_T)) (i : Nat) (v : av_T) : List (Option av_T) := ((lkill L i).set i (some v)).set (i + 1) none
theorem lkill_len (L : List (Option av_T)) (i : Nat) : (lkill L i).length = L.length := by
  unfold lkill
  split
  · rfl
  · split
    · split
      · simp
      · rfl
    · rfl
theorem lkill_at {L : List (Option av_T)} {i k : Nat} {w : av_T} (h : (lkill L i)[k]? = some (some w)) : L[k]? = some (some w) ∧ (k + 1 = i → cat2 w = false) := by
  unfold lkill at h
  split at h
  · exact ⟨h, fun z => by omega⟩
  · rename_i j
    split at h
    · rename_i v hv
      split at h
      · rename_i h2
        by_cases hk : k = j
        · subst hk
          have hlt := (List.getElem?_eq_some_iff.mp hv).1
          rw [List.getElem?_set_self hlt] at h
          simp at h
        · rw [List.getElem?_set_ne (Ne.symm hk)] at h
          exact ⟨h, fun z => by omega⟩
      · rename_i h2
        refine ⟨h, fun z => ?_⟩
        have : k = j := by omega
        subst this
        rw [hv] at h
        cases h
        simpa using h2
    · rename_i h2
      refine ⟨h, fun z => ?_⟩
      have : k = j := by omega
      subst this
      exact absurd h (h2 w)
def lr_l (G : cx_T) (L : List (Option av_T)) : List (Nat × Value) := (List.range L.length).filterMap fun k => match L[k]? with
  | some (some v) => some (k, cv G v)
  | _ => none
theorem lr_mem {G : cx_T} {L : List (Option av_T)} {q : Nat × Value} : q ∈ lr_l G L ↔ ∃ v, L[q.1]? = some (some v) ∧ q.2 = cv G v := by
  unfold lr_l
  rw [List.mem_filterMap]
  constructor
  · rintro ⟨k, hk, h⟩
    split at h
    · rename_i v hv
      cases h
      exact ⟨v, hv, rfl⟩
    · cases h
  · rintro ⟨v, hv, h⟩
    refine ⟨q.1, List.mem_range.mpr (List.getElem?_eq_some_iff.mp hv).1, ?_⟩
    rw [hv]
    dsimp only
    rw [← h]
theorem lr_h {G : cx_T} {n : Nat} {L : List (Option av_T)} {ls : Array Slot} (h : lr_OK G n L ls) : lv_has ls n (lr_l G L) := by
  refine ⟨h.2.1, h.2.2.1, fun q hq => ?_⟩
  obtain ⟨v, h1, h2⟩ := lr_mem.mp hq
  rw [h2]
  exact (h.2.2.2 _ _ h1).1
theorem lr_k {G : cx_T} {L : List (Option av_T)} {i : Nat} {v : av_T} (h : L[i]? = some (some v)) : ∃ k : Nat, (lr_l G L)[k]? = some (i, cv G v) :=
  List.getElem?_of_mem (lr_mem.mpr ⟨v, h, rfl⟩)
theorem lr_s1 {G : cx_T} {n i : Nat} {L : List (Option av_T)} {v : av_T} {ls ls' : Array Slot} (hL : lr_OK G n L ls) (hi : i < L.length) (hv : nv v) (_hc : cat2 v = false)
    (h : lv_has ls' n ((i, cv G v) :: (lr_l G L).filter (fun q => !(q.1 == i) && !(q.1 + 1 == i && q.2.category == 2)))) : lr_OK G n (lst1 L i v) ls' := by
  refine ⟨by simp [lst1, lkill_len, hL.1], h.1, h.2.1, fun k w hk => ?_⟩
  unfold lst1 at hk
  by_cases hki : k = i
  · subst hki
    rw [List.getElem?_set_self (by rw [lkill_len]; exact hi)] at hk
    cases hk
    exact ⟨h.2.2 _ List.mem_cons_self, hv⟩
  · rw [List.getElem?_set_ne (Ne.symm hki)] at hk
    obtain ⟨h1, h2⟩ := lkill_at hk
    refine ⟨h.2.2 (k, cv G w) (List.mem_cons_of_mem _ (List.mem_filter.mpr ⟨lr_mem.mpr ⟨w, h1, rfl⟩, ?_⟩)), (hL.2.2.2 k w h1).2⟩
    dsimp only
    rw [cv_cat]
    by_cases hk1 : k + 1 = i
    · simp [hki, h2 hk1]
    · simp [hki, hk1]
theorem lr_s2 {G : cx_T} {n i : Nat} {L : List (Option av_T)} {v : av_T} {ls ls' : Array Slot} (hL : lr_OK G n L ls) (hi : i + 1 < L.length) (hv : nv v) (_hc : cat2 v = true)
    (h : lv_has ls' n ((i, cv G v) :: (lr_l G L).filter (fun q => !(q.1 == i) && (!(q.1 == i + 1) && !(q.1 + 1 == i && q.2.category == 2))))) : lr_OK G n (lst2 L i v) ls' := by
  refine ⟨by simp [lst2, lkill_len, hL.1], h.1, h.2.1, fun k w hk => ?_⟩
  unfold lst2 at hk
  by_cases hki1 : k = i + 1
  · subst hki1
    rw [List.getElem?_set_self (by simp [lkill_len]; omega)] at hk
    simp at hk
  · rw [List.getElem?_set_ne (Ne.symm hki1)] at hk
    by_cases hki : k = i
    · subst hki
      rw [List.getElem?_set_self (by rw [lkill_len]; omega)] at hk
      cases hk
      exact ⟨h.2.2 _ List.mem_cons_self, hv⟩
    · rw [List.getElem?_set_ne (Ne.symm hki)] at hk
      obtain ⟨h1, h2⟩ := lkill_at hk
      refine ⟨h.2.2 (k, cv G w) (List.mem_cons_of_mem _ (List.mem_filter.mpr ⟨lr_mem.mpr ⟨w, h1, rfl⟩, ?_⟩)), (hL.2.2.2 k w h1).2⟩
      dsimp only
      rw [cv_cat]
      by_cases hk1 : k + 1 = i
      · simp [hki, hki1, h2 hk1]
      · simp [hki, hki1, hk1]
section AWR
variable {G : cx_T} {R : Room} {M : mr_T} {cu su pc : Nat} {L : List (Option av_T)} {st : List av_T} {h : ah_T} {Q : Option av_T → ah_T → Prop}
theorem A_iconst {n : Int} (hd : decode M.2.1 pc = .ok (.iconst n, 1)) (hr : i32b n = true) (k : aw G R M cu su (pc + 1) L (av_I n :: st) h Q) : aw G R M cu su pc L (st) h Q := by
  intro p e s m args below meth c H locs ls S hH hO hS hb hL hn
  refine lv_iconst (v := Int32.ofInt n) S.1 S.2.1 hd rfl ?_
  exact k p e s m args below meth c H locs ls S hH hO hS hb hL (nv_c (i32b_ok hr) hn)
theorem A_bipush {n : Int} (hd : decode M.2.1 pc = .ok (.bipush n, 2)) (hr : i8b n = true) (k : aw G R M cu su (pc + 2) L (av_I n :: st) h Q) : aw G R M cu su pc L (st) h Q := by
  intro p e s m args below meth c H locs ls S hH hO hS hb hL hn
  refine lv_bipush (v := Int32.ofInt n) S.1 S.2.1 hd (i8b_v hr) ?_
  exact k p e s m args below meth c H locs ls S hH hO hS hb hL (nv_c (i8b_ok hr) hn)
theorem A_sipush {n : Int} (hd : decode M.2.1 pc = .ok (.sipush n, 3)) (hr : i16b n = true) (k : aw G R M cu su (pc + 3) L (av_I n :: st) h Q) : aw G R M cu su pc L (st) h Q := by
  intro p e s m args below meth c H locs ls S hH hO hS hb hL hn
  refine lv_sipush (v := Int32.ofInt n) S.1 S.2.1 hd (i16b_v hr) ?_
  exact k p e s m args below meth c H locs ls S hH hO hS hb hL (nv_c (i16b_ok hr) hn)
theorem A_lconst_0  (hd : decode M.2.1 pc = .ok (.lconst 0, 1)) (k : aw G R M cu su (pc + 1) L (av_L 0 :: st) h Q) : aw G R M cu su pc L (st) h Q := by
  intro p e s m args below meth c H locs ls S hH hO hS hb hL hn
  refine lv_lconst (v := Int64.ofInt 0) S.1 S.2.1 hd rfl ?_
  exact k p e s m args below meth c H locs ls S hH hO hS hb hL (nv_c i64_0 hn)
theorem A_lconst_1  (hd : decode M.2.1 pc = .ok (.lconst 1, 1)) (k : aw G R M cu su (pc + 1) L (av_L 1 :: st) h Q) : aw G R M cu su pc L (st) h Q := by
  intro p e s m args below meth c H locs ls S hH hO hS hb hL hn
  refine lv_lconst (v := Int64.ofInt 1) S.1 S.2.1 hd rfl ?_
  exact k p e s m args below meth c H locs ls S hH hO hS hb hL (nv_c i64_1 hn)
theorem A_dconst_0  (hd : decode M.2.1 pc = .ok (.dconst 0, 1)) (k : aw G R M cu su (pc + 1) L (av_D FP.dconst0 :: st) h Q) : aw G R M cu su pc L (st) h Q := by
  intro p e s m args below meth c H locs ls S hH hO hS hb hL hn
  refine lv_dconst0 S.1 S.2.1 hd ?_
  exact k p e s m args below meth c H locs ls S hH hO hS hb hL (nv_c trivial hn)
theorem A_dconst_1  (hd : decode M.2.1 pc = .ok (.dconst 1, 1)) (k : aw G R M cu su (pc + 1) L (av_D FP.dconst1 :: st) h Q) : aw G R M cu su pc L (st) h Q := by
  intro p e s m args below meth c H locs ls S hH hO hS hb hL hn
  refine lv_dconst1 S.1 S.2.1 hd ?_
  exact k p e s m args below meth c H locs ls S hH hO hS hb hL (nv_c trivial hn)
theorem A_null  (hd : decode M.2.1 pc = .ok (.aconst_null, 1)) (k : aw G R M cu su (pc + 1) L (av_R none :: st) h Q) : aw G R M cu su pc L (st) h Q := by
  intro p e s m args below meth c H locs ls S hH hO hS hb hL hn
  refine lv_null S.1 S.2.1 hd ?_
  exact k p e s m args below meth c H locs ls S hH hO hS hb hL (nv_c trivial hn)
theorem A_ldc {idx : Nat} {z : Int} (hd : decode M.2.1 pc = .ok (.ldc idx, 2)) (hw : Cond.constant M.1.cls idx (Int32.ofInt z) ∈ gw) (hr : i32b z = true) (k : aw G R M cu su (pc + 2) L (av_I z :: st) h Q) : aw G R M cu su pc L (st) h Q := by
  intro p e s m args below meth c H locs ls S hH hO hS hb hL hn
  refine lv_ldc S.1 S.2.1 S.2.2.2.1 (S.2.2.2.2.1 _ hw) hd ?_
  exact k p e s m args below meth c H locs ls S hH hO hS hb hL (nv_c (i32b_ok hr) hn)
theorem A_ldcw {idx : Nat} {z : Int} (hd : decode M.2.1 pc = .ok (.ldc_w idx, 3)) (hw : Cond.constant M.1.cls idx (Int32.ofInt z) ∈ gw) (hr : i32b z = true) (k : aw G R M cu su (pc + 3) L (av_I z :: st) h Q) : aw G R M cu su pc L (st) h Q := by
  intro p e s m args below meth c H locs ls S hH hO hS hb hL hn
  refine lv_ldcw S.1 S.2.1 S.2.2.2.1 (S.2.2.2.2.1 _ hw) hd ?_
  exact k p e s m args below meth c H locs ls S hH hO hS hb hL (nv_c (i32b_ok hr) hn)
theorem A_ldc2 {idx : Nat} {z : Int} (hd : decode M.2.1 pc = .ok (.ldc2_w idx, 3)) (hw : Cond.constantLong M.1.cls idx (Int64.ofInt z) ∈ gw) (hr : i64b z = true) (k : aw G R M cu su (pc + 3) L (av_L z :: st) h Q) : aw G R M cu su pc L (st) h Q := by
  intro p e s m args below meth c H locs ls S hH hO hS hb hL hn
  refine lv_ldc2 S.1 S.2.1 S.2.2.2.1 (S.2.2.2.2.1 _ hw) hd ?_
  exact k p e s m args below meth c H locs ls S hH hO hS hb hL (nv_c (i64b_ok hr) hn)
theorem A_ldc2d {idx : Nat} {z : UInt64} (hd : decode M.2.1 pc = .ok (.ldc2_w idx, 3)) (hw : Cond.constantDouble M.1.cls idx z ∈ gw) (k : aw G R M cu su (pc + 3) L (av_D z :: st) h Q) : aw G R M cu su pc L (st) h Q := by
  intro p e s m args below meth c H locs ls S hH hO hS hb hL hn
  refine lv_ldc2d S.1 S.2.1 S.2.2.2.1 (S.2.2.2.2.1 _ hw) hd ?_
  exact k p e s m args below meth c H locs ls S hH hO hS hb hL (nv_c trivial hn)
theorem A_iload_n {n : Fin 4} {x : Int} (i : Nat) (hd : decode M.2.1 pc = .ok (.iload_n n, 1)) (hi : (n : Nat) = i) (hl : L[i]? = some (some (av_I x))) (k : aw G R M cu su (pc + 1) L (av_I x :: st) h Q) : aw G R M cu su pc L (st) h Q := by
  intro p e s m args below meth c H locs ls S hH hO hS hb hL hn
  refine lv_iload_n S.1 S.2.1 hd hi (hL.2.2.2 i _ hl).1 ?_
  exact k p e s m args below meth c H locs ls S hH hO hS hb hL (nv_c (hL.2.2.2 i _ hl).2 hn)
theorem A_iload {i : Nat} {x : Int} (hd : decode M.2.1 pc = .ok (.iload i, 2)) (hl : L[i]? = some (some (av_I x))) (k : aw G R M cu su (pc + 2) L (av_I x :: st) h Q) : aw G R M cu su pc L (st) h Q := by
  intro p e s m args below meth c H locs ls S hH hO hS hb hL hn
  refine lv_iload S.1 S.2.1 hd (hL.2.2.2 i _ hl).1 ?_
  exact k p e s m args below meth c H locs ls S hH hO hS hb hL (nv_c (hL.2.2.2 i _ hl).2 hn)
theorem A_lload_n {n : Fin 4} {x : Int} (i : Nat) (hd : decode M.2.1 pc = .ok (.lload_n n, 1)) (hi : (n : Nat) = i) (hl : L[i]? = some (some (av_L x))) (k : aw G R M cu su (pc + 1) L (av_L x :: st) h Q) : aw G R M cu su pc L (st) h Q := by
  intro p e s m args below meth c H locs ls S hH hO hS hb hL hn
  refine lv_lload_n S.1 S.2.1 hd hi (hL.2.2.2 i _ hl).1 ?_
  exact k p e s m args below meth c H locs ls S hH hO hS hb hL (nv_c (hL.2.2.2 i _ hl).2 hn)
theorem A_lload {i : Nat} {x : Int} (hd : decode M.2.1 pc = .ok (.lload i, 2)) (hl : L[i]? = some (some (av_L x))) (k : aw G R M cu su (pc + 2) L (av_L x :: st) h Q) : aw G R M cu su pc L (st) h Q := by
  intro p e s m args below meth c H locs ls S hH hO hS hb hL hn
  refine lv_lload S.1 S.2.1 hd (hL.2.2.2 i _ hl).1 ?_
  exact k p e s m args below meth c H locs ls S hH hO hS hb hL (nv_c (hL.2.2.2 i _ hl).2 hn)
theorem A_dload_n {n : Fin 4} {x : UInt64} (i : Nat) (hd : decode M.2.1 pc = .ok (.dload_n n, 1)) (hi : (n : Nat) = i) (hl : L[i]? = some (some (av_D x))) (k : aw G R M cu su (pc + 1) L (av_D x :: st) h Q) : aw G R M cu su pc L (st) h Q := by
  intro p e s m args below meth c H locs ls S hH hO hS hb hL hn
  refine lv_dload_n S.1 S.2.1 hd hi (hL.2.2.2 i _ hl).1 ?_
  exact k p e s m args below meth c H locs ls S hH hO hS hb hL (nv_c (hL.2.2.2 i _ hl).2 hn)
theorem A_dload {i : Nat} {x : UInt64} (hd : decode M.2.1 pc = .ok (.dload i, 2)) (hl : L[i]? = some (some (av_D x))) (k : aw G R M cu su (pc + 2) L (av_D x :: st) h Q) : aw G R M cu su pc L (st) h Q := by
  intro p e s m args below meth c H locs ls S hH hO hS hb hL hn
  refine lv_dload S.1 S.2.1 hd (hL.2.2.2 i _ hl).1 ?_
  exact k p e s m args below meth c H locs ls S hH hO hS hb hL (nv_c (hL.2.2.2 i _ hl).2 hn)
theorem A_aload_n {n : Fin 4} (i : Nat) {r : Option Nat} (hd : decode M.2.1 pc = .ok (.aload_n n, 1)) (hi : (n : Nat) = i) (hl : L[i]? = some (some (av_R r))) (k : aw G R M cu su (pc + 1) L (av_R r :: st) h Q) : aw G R M cu su pc L st h Q := by
  intro p e s m args below meth c H locs ls S hH hO hS hb hL hn
  have k2 := k p e s m args below meth c H locs ls S hH hO hS hb hL (nv_c trivial hn)
  have hv := (hL.2.2.2 i _ hl).1
  cases r with
  | none => exact lv_aload_nN S.1 S.2.1 hd hi hv k2
  | some a => exact lv_aload_n S.1 S.2.1 hd hi hv k2
theorem A_aload_nS {n : Fin 4} (i : Nat) {r : Nat} (hd : decode M.2.1 pc = .ok (.aload_n n, 1)) (hi : (n : Nat) = i) (hl : L[i]? = some (some (av_S r))) (k : aw G R M cu su (pc + 1) L (av_S r :: st) h Q) : aw G R M cu su pc L st h Q := by
  intro p e s m args below meth c H locs ls S hH hO hS hb hL hn
  exact lv_aload_n S.1 S.2.1 hd hi (hL.2.2.2 i _ hl).1 (k p e s m args below meth c H locs ls S hH hO hS hb hL (nv_c trivial hn))
theorem A_aload {i : Nat} {r : Option Nat} (hd : decode M.2.1 pc = .ok (.aload i, 2)) (hl : L[i]? = some (some (av_R r))) (k : aw G R M cu su (pc + 2) L (av_R r :: st) h Q) : aw G R M cu su pc L st h Q := by
  intro p e s m args below meth c H locs ls S hH hO hS hb hL hn
  have k2 := k p e s m args below meth c H locs ls S hH hO hS hb hL (nv_c trivial hn)
  have hv := (hL.2.2.2 i _ hl).1
  cases r with
  | none => exact lv_aloadN S.1 S.2.1 hd hv k2
  | some a => exact lv_aload S.1 S.2.1 hd hv k2
theorem A_aloadS {i : Nat} {r : Nat} (hd : decode M.2.1 pc = .ok (.aload i, 2)) (hl : L[i]? = some (some (av_S r))) (k : aw G R M cu su (pc + 2) L (av_S r :: st) h Q) : aw G R M cu su pc L st h Q := by
  intro p e s m args below meth c H locs ls S hH hO hS hb hL hn
  exact lv_aload S.1 S.2.1 hd (hL.2.2.2 i _ hl).1 (k p e s m args below meth c H locs ls S hH hO hS hb hL (nv_c trivial hn))
theorem A_istore_n {n : Fin 4} (i : Nat) {x : Int} {L' : List (Option av_T)} (hd : decode M.2.1 pc = .ok (.istore_n n, 1)) (hi : (n : Nat) = i) (hb2 : i < L.length) (hl : lst1 L i (av_I x) = L') (k : aw G R M cu su (pc + 1) L' st h Q) : aw G R M cu su pc L (av_I x :: st) h Q := by
  intro p e s m args below meth c H locs ls S hH hO hS hb hL hn
  subst hl
  exact lv_istore_n S.1 S.2.1 hd hi (lr_h hL) (by rw [← hL.1]; exact hb2) rfl (fun ls' hl' => k p e s m args below meth c H locs ls' S hH hO hS hb (lr_s1 hL hb2 (nv_h hn) rfl hl') (nv_t hn))
theorem A_istore {i : Nat} {x : Int} {L' : List (Option av_T)} (hd : decode M.2.1 pc = .ok (.istore i, 2)) (hb2 : i < L.length) (hl : lst1 L i (av_I x) = L') (k : aw G R M cu su (pc + 2) L' st h Q) : aw G R M cu su pc L (av_I x :: st) h Q := by
  intro p e s m args below meth c H locs ls S hH hO hS hb hL hn
  subst hl
  exact lv_istore S.1 S.2.1 hd (lr_h hL) (by rw [← hL.1]; exact hb2) rfl (fun ls' hl' => k p e s m args below meth c H locs ls' S hH hO hS hb (lr_s1 hL hb2 (nv_h hn) rfl hl') (nv_t hn))
theorem A_lstore_n {n : Fin 4} (i : Nat) {x : Int} {L' : List (Option av_T)} (hd : decode M.2.1 pc = .ok (.lstore_n n, 1)) (hi : (n : Nat) = i) (hb2 : i + 1 < L.length) (hl : lst2 L i (av_L x) = L') (k : aw G R M cu su (pc + 1) L' st h Q) : aw G R M cu su pc L (av_L x :: st) h Q := by
  intro p e s m args below meth c H locs ls S hH hO hS hb hL hn
  subst hl
  exact lv_lstore_n S.1 S.2.1 hd hi (lr_h hL) (by rw [← hL.1]; exact hb2) rfl (fun ls' hl' => k p e s m args below meth c H locs ls' S hH hO hS hb (lr_s2 hL hb2 (nv_h hn) rfl hl') (nv_t hn))
theorem A_lstore {i : Nat} {x : Int} {L' : List (Option av_T)} (hd : decode M.2.1 pc = .ok (.lstore i, 2)) (hb2 : i + 1 < L.length) (hl : lst2 L i (av_L x) = L') (k : aw G R M cu su (pc + 2) L' st h Q) : aw G R M cu su pc L (av_L x :: st) h Q := by
  intro p e s m args below meth c H locs ls S hH hO hS hb hL hn
  subst hl
  exact lv_lstore S.1 S.2.1 hd (lr_h hL) (by rw [← hL.1]; exact hb2) rfl (fun ls' hl' => k p e s m args below meth c H locs ls' S hH hO hS hb (lr_s2 hL hb2 (nv_h hn) rfl hl') (nv_t hn))
theorem A_dstore_n {n : Fin 4} (i : Nat) {x : UInt64} {L' : List (Option av_T)} (hd : decode M.2.1 pc = .ok (.dstore_n n, 1)) (hi : (n : Nat) = i) (hb2 : i + 1 < L.length) (hl : lst2 L i (av_D x) = L') (k : aw G R M cu su (pc + 1) L' st h Q) : aw G R M cu su pc L (av_D x :: st) h Q := by
  intro p e s m args below meth c H locs ls S hH hO hS hb hL hn
  subst hl
  exact lv_dstore_n S.1 S.2.1 hd hi (lr_h hL) (by rw [← hL.1]; exact hb2) rfl (fun ls' hl' => k p e s m args below meth c H locs ls' S hH hO hS hb (lr_s2 hL hb2 (nv_h hn) rfl hl') (nv_t hn))
theorem A_dstore {i : Nat} {x : UInt64} {L' : List (Option av_T)} (hd : decode M.2.1 pc = .ok (.dstore i, 2)) (hb2 : i + 1 < L.length) (hl : lst2 L i (av_D x) = L') (k : aw G R M cu su (pc + 2) L' st h Q) : aw G R M cu su pc L (av_D x :: st) h Q := by
  intro p e s m args below meth c H locs ls S hH hO hS hb hL hn
  subst hl
  exact lv_dstore S.1 S.2.1 hd (lr_h hL) (by rw [← hL.1]; exact hb2) rfl (fun ls' hl' => k p e s m args below meth c H locs ls' S hH hO hS hb (lr_s2 hL hb2 (nv_h hn) rfl hl') (nv_t hn))
theorem A_astore_n {n : Fin 4} (i : Nat) {r : Option Nat} {L' : List (Option av_T)} (hd : decode M.2.1 pc = .ok (.astore_n n, 1)) (hi : (n : Nat) = i) (hb2 : i < L.length) (hl : lst1 L i (av_R r) = L') (k : aw G R M cu su (pc + 1) L' st h Q) : aw G R M cu su pc L (av_R r :: st) h Q := by
  intro p e s m args below meth c H locs ls S hH hO hS hb hL hn
  subst hl
  cases r with
  | none => exact lv_astore_nN S.1 S.2.1 hd hi (lr_h hL) (by rw [← hL.1]; exact hb2) rfl (fun ls' hl' => k p e s m args below meth c H locs ls' S hH hO hS hb (lr_s1 hL hb2 (nv_h hn) rfl hl') (nv_t hn))
  | some a => exact lv_astore_n S.1 S.2.1 hd hi (lr_h hL) (by rw [← hL.1]; exact hb2) rfl (fun ls' hl' => k p e s m args below meth c H locs ls' S hH hO hS hb (lr_s1 hL hb2 (nv_h hn) rfl hl') (nv_t hn))
theorem A_astore {i : Nat} {r : Option Nat} {L' : List (Option av_T)} (hd : decode M.2.1 pc = .ok (.astore i, 2)) (hb2 : i < L.length) (hl : lst1 L i (av_R r) = L') (k : aw G R M cu su (pc + 2) L' st h Q) : aw G R M cu su pc L (av_R r :: st) h Q := by
  intro p e s m args below meth c H locs ls S hH hO hS hb hL hn
  subst hl
  cases r with
  | none => exact lv_astoreN S.1 S.2.1 hd (lr_h hL) (by rw [← hL.1]; exact hb2) rfl (fun ls' hl' => k p e s m args below meth c H locs ls' S hH hO hS hb (lr_s1 hL hb2 (nv_h hn) rfl hl') (nv_t hn))
  | some a => exact lv_astore S.1 S.2.1 hd (lr_h hL) (by rw [← hL.1]; exact hb2) rfl (fun ls' hl' => k p e s m args below meth c H locs ls' S hH hO hS hb (lr_s1 hL hb2 (nv_h hn) rfl hl') (nv_t hn))
theorem A_astore_nS {n : Fin 4} (i : Nat) {r : Nat} {L' : List (Option av_T)} (hd : decode M.2.1 pc = .ok (.astore_n n, 1)) (hi : (n : Nat) = i) (hb2 : i < L.length) (hl : lst1 L i (av_S r) = L') (k : aw G R M cu su (pc + 1) L' st h Q) : aw G R M cu su pc L (av_S r :: st) h Q := by
  intro p e s m args below meth c H locs ls S hH hO hS hb hL hn
  subst hl
  exact lv_astore_n S.1 S.2.1 hd hi (lr_h hL) (by rw [← hL.1]; exact hb2) rfl (fun ls' hl' => k p e s m args below meth c H locs ls' S hH hO hS hb (lr_s1 hL hb2 (nv_h hn) rfl hl') (nv_t hn))
theorem A_astoreS {i : Nat} {r : Nat} {L' : List (Option av_T)} (hd : decode M.2.1 pc = .ok (.astore i, 2)) (hb2 : i < L.length) (hl : lst1 L i (av_S r) = L') (k : aw G R M cu su (pc + 2) L' st h Q) : aw G R M cu su pc L (av_S r :: st) h Q := by
  intro p e s m args below meth c H locs ls S hH hO hS hb hL hn
  subst hl
  exact lv_astore S.1 S.2.1 hd (lr_h hL) (by rw [← hL.1]; exact hb2) rfl (fun ls' hl' => k p e s m args below meth c H locs ls' S hH hO hS hb (lr_s1 hL hb2 (nv_h hn) rfl hl') (nv_t hn))
theorem A_iinc {i : Nat} {n x : Int} {L' : List (Option av_T)} (hd : decode M.2.1 pc = .ok (.iinc i n, 3)) (hx : L[i]? = some (some (av_I x))) (hl : lst1 L i (av_I (w32 (x + n))) = L') (k : aw G R M cu su (pc + 3) L' st h Q) : aw G R M cu su pc L st h Q := by
  intro p e s m args below meth c H locs ls S hH hO hS hb hL hn
  subst hl
  have hi : i < L.length := (List.getElem?_eq_some_iff.mp hx).1
  obtain ⟨kk, hk⟩ := lr_k (G := G) hx
  exact lv_iinc S.1 S.2.1 hd (lr_h hL) hk (w32_add x n).symm (by rw [← hL.1]; exact hi) rfl (fun ls' hl' => k p e s m args below meth c H locs ls' S hH hO hS hb (lr_s1 (v := av_I (w32 (x + n))) hL hi (w32_in _) rfl hl') hn)
theorem A_iadd {x y : Int} (hd : decode M.2.1 pc = .ok (.iadd, 1)) (k : aw G R M cu su (pc + 1) L (av_I (w32 (x + y)) :: st) h Q) : aw G R M cu su pc L (av_I y :: av_I x :: st) h Q := by
  intro p e s m args below meth c H locs ls S hH hO hS hb hL hn
  refine lv_iadd S.1 S.2.1 hd ?_
  rw [← w32_add x y]
  exact k p e s m args below meth c H locs ls S hH hO hS hb hL (nv_c (w32_in _) (nv_t (nv_t hn)))
theorem A_isub {x y : Int} (hd : decode M.2.1 pc = .ok (.isub, 1)) (k : aw G R M cu su (pc + 1) L (av_I (w32 (x - y)) :: st) h Q) : aw G R M cu su pc L (av_I y :: av_I x :: st) h Q := by
  intro p e s m args below meth c H locs ls S hH hO hS hb hL hn
  refine lv_isub S.1 S.2.1 hd ?_
  rw [← w32_sub x y]
  exact k p e s m args below meth c H locs ls S hH hO hS hb hL (nv_c (w32_in _) (nv_t (nv_t hn)))
theorem A_imul {x y : Int} (hd : decode M.2.1 pc = .ok (.imul, 1)) (k : aw G R M cu su (pc + 1) L (av_I (w32 (x * y)) :: st) h Q) : aw G R M cu su pc L (av_I y :: av_I x :: st) h Q := by
  intro p e s m args below meth c H locs ls S hH hO hS hb hL hn
  refine lv_imul S.1 S.2.1 hd ?_
  rw [← w32_mul (nv_h (nv_t hn)) (nv_h hn)]
  exact k p e s m args below meth c H locs ls S hH hO hS hb hL (nv_c (w32_in _) (nv_t (nv_t hn)))
theorem A_idiv {x y : Int} (hd : decode M.2.1 pc = .ok (.idiv, 1)) (hy : y ≠ 0) (k : aw G R M cu su (pc + 1) L (av_I (w32 (x.tdiv y)) :: st) h Q) : aw G R M cu su pc L (av_I y :: av_I x :: st) h Q := by
  intro p e s m args below meth c H locs ls S hH hO hS hb hL hn
  refine lv_idiv S.1 S.2.1 hd (i32_ne0 (nv_h hn) hy) ?_
  rw [← w32_div (nv_h (nv_t hn)) (nv_h hn)]
  exact k p e s m args below meth c H locs ls S hH hO hS hb hL (nv_c (w32_in _) (nv_t (nv_t hn)))
theorem A_irem {x y : Int} (hd : decode M.2.1 pc = .ok (.irem, 1)) (hy : y ≠ 0) (k : aw G R M cu su (pc + 1) L (av_I (x.tmod y) :: st) h Q) : aw G R M cu su pc L (av_I y :: av_I x :: st) h Q := by
  intro p e s m args below meth c H locs ls S hH hO hS hb hL hn
  refine lv_irem S.1 S.2.1 hd (i32_ne0 (nv_h hn) hy) ?_
  rw [w32_rem (nv_h (nv_t hn)) (nv_h hn) hy]
  exact k p e s m args below meth c H locs ls S hH hO hS hb hL (nv_c (tmod_in32 (nv_h (nv_t hn))) (nv_t (nv_t hn)))
theorem A_ineg {x : Int} (hd : decode M.2.1 pc = .ok (.ineg, 1)) (k : aw G R M cu su (pc + 1) L (av_I (w32 (-x)) :: st) h Q) : aw G R M cu su pc L (av_I x :: st) h Q := by
  intro p e s m args below meth c H locs ls S hH hO hS hb hL hn
  refine lv_ineg S.1 S.2.1 hd ?_
  rw [← w32_neg x]
  exact k p e s m args below meth c H locs ls S hH hO hS hb hL (nv_c (w32_in _) (nv_t hn))
theorem A_iand {x y : Int} (hd : decode M.2.1 pc = .ok (.iand, 1)) (k : aw G R M cu su (pc + 1) L (av_I ((Int32.ofInt x &&& Int32.ofInt y).toInt) :: st) h Q) : aw G R M cu su pc L (av_I y :: av_I x :: st) h Q := by
  intro p e s m args below meth c H locs ls S hH hO hS hb hL hn
  refine lv_iand S.1 S.2.1 hd ?_
  rw [← i32_rt (Int32.ofInt x &&& Int32.ofInt y)]
  exact k p e s m args below meth c H locs ls S hH hO hS hb hL (nv_c (i32_of _) (nv_t (nv_t hn)))
theorem A_ior {x y : Int} (hd : decode M.2.1 pc = .ok (.ior, 1)) (k : aw G R M cu su (pc + 1) L (av_I ((Int32.ofInt x ||| Int32.ofInt y).toInt) :: st) h Q) : aw G R M cu su pc L (av_I y :: av_I x :: st) h Q := by
  intro p e s m args below meth c H locs ls S hH hO hS hb hL hn
  refine lv_ior S.1 S.2.1 hd ?_
  rw [← i32_rt (Int32.ofInt x ||| Int32.ofInt y)]
  exact k p e s m args below meth c H locs ls S hH hO hS hb hL (nv_c (i32_of _) (nv_t (nv_t hn)))
theorem A_ixor {x y : Int} (hd : decode M.2.1 pc = .ok (.ixor, 1)) (k : aw G R M cu su (pc + 1) L (av_I ((Int32.ofInt x ^^^ Int32.ofInt y).toInt) :: st) h Q) : aw G R M cu su pc L (av_I y :: av_I x :: st) h Q := by
  intro p e s m args below meth c H locs ls S hH hO hS hb hL hn
  refine lv_ixor S.1 S.2.1 hd ?_
  rw [← i32_rt (Int32.ofInt x ^^^ Int32.ofInt y)]
  exact k p e s m args below meth c H locs ls S hH hO hS hb hL (nv_c (i32_of _) (nv_t (nv_t hn)))
theorem A_ishl {x y : Int} (hd : decode M.2.1 pc = .ok (.ishl, 1)) (k : aw G R M cu su (pc + 1) L (av_I ((Int32.ofInt x <<< (Int32.ofInt y &&& 31)).toInt) :: st) h Q) : aw G R M cu su pc L (av_I y :: av_I x :: st) h Q := by
  intro p e s m args below meth c H locs ls S hH hO hS hb hL hn
  refine lv_ishl S.1 S.2.1 hd ?_
  rw [← i32_rt (Int32.ofInt x <<< (Int32.ofInt y &&& 31))]
  exact k p e s m args below meth c H locs ls S hH hO hS hb hL (nv_c (i32_of _) (nv_t (nv_t hn)))
theorem A_ishr {x y : Int} (hd : decode M.2.1 pc = .ok (.ishr, 1)) (k : aw G R M cu su (pc + 1) L (av_I ((Int32.ofInt x >>> (Int32.ofInt y &&& 31)).toInt) :: st) h Q) : aw G R M cu su pc L (av_I y :: av_I x :: st) h Q := by
  intro p e s m args below meth c H locs ls S hH hO hS hb hL hn
  refine lv_ishr S.1 S.2.1 hd ?_
  rw [← i32_rt (Int32.ofInt x >>> (Int32.ofInt y &&& 31))]
  exact k p e s m args below meth c H locs ls S hH hO hS hb hL (nv_c (i32_of _) (nv_t (nv_t hn)))
theorem A_iushr {x y : Int} (hd : decode M.2.1 pc = .ok (.iushr, 1)) (k : aw G R M cu su (pc + 1) L (av_I (((Int32.ofInt x).toUInt32 >>> ((Int32.ofInt y).toUInt32 &&& Int32.toUInt32 31)).toInt32.toInt) :: st) h Q) : aw G R M cu su pc L (av_I y :: av_I x :: st) h Q := by
  intro p e s m args below meth c H locs ls S hH hO hS hb hL hn
  refine lv_iushr S.1 S.2.1 hd (i32_rt _).symm ?_
  exact k p e s m args below meth c H locs ls S hH hO hS hb hL (nv_c (i32_of _) (nv_t (nv_t hn)))
theorem A_i2l {x : Int} (hd : decode M.2.1 pc = .ok (.i2l, 1)) (k : aw G R M cu su (pc + 1) L (av_L x :: st) h Q) : aw G R M cu su pc L (av_I x :: st) h Q := by
  intro p e s m args below meth c H locs ls S hH hO hS hb hL hn
  refine lv_i2l S.1 S.2.1 hd (i2l_v (nv_h hn)) ?_
  exact k p e s m args below meth c H locs ls S hH hO hS hb hL (nv_c (i64_i32 (nv_h hn)) (nv_t hn))
theorem A_l2i {x : Int} (hd : decode M.2.1 pc = .ok (.l2i, 1)) (k : aw G R M cu su (pc + 1) L (av_I (w32 x) :: st) h Q) : aw G R M cu su pc L (av_L x :: st) h Q := by
  intro p e s m args below meth c H locs ls S hH hO hS hb hL hn
  refine lv_l2i S.1 S.2.1 hd (l2i_v x) ?_
  exact k p e s m args below meth c H locs ls S hH hO hS hb hL (nv_c (w32_in _) (nv_t hn))
theorem A_i2c {x : Int} (hd : decode M.2.1 pc = .ok (.i2c, 1)) (k : aw G R M cu su (pc + 1) L (av_I ((((Int32.ofInt x).toUInt32 % 65536).toInt32).toInt) :: st) h Q) : aw G R M cu su pc L (av_I x :: st) h Q := by
  intro p e s m args below meth c H locs ls S hH hO hS hb hL hn
  refine lv_i2c S.1 S.2.1 hd (i32_rt _).symm ?_
  exact k p e s m args below meth c H locs ls S hH hO hS hb hL (nv_c (i32_of _) (nv_t hn))
theorem A_ladd {x y : Int} (hd : decode M.2.1 pc = .ok (.ladd, 1)) (k : aw G R M cu su (pc + 1) L (av_L (w64 (x + y)) :: st) h Q) : aw G R M cu su pc L (av_L y :: av_L x :: st) h Q := by
  intro p e s m args below meth c H locs ls S hH hO hS hb hL hn
  refine lv_ladd S.1 S.2.1 hd ?_
  rw [← w64_add x y]
  exact k p e s m args below meth c H locs ls S hH hO hS hb hL (nv_c (w64_in _) (nv_t (nv_t hn)))
theorem A_lsub {x y : Int} (hd : decode M.2.1 pc = .ok (.lsub, 1)) (k : aw G R M cu su (pc + 1) L (av_L (w64 (x - y)) :: st) h Q) : aw G R M cu su pc L (av_L y :: av_L x :: st) h Q := by
  intro p e s m args below meth c H locs ls S hH hO hS hb hL hn
  refine lv_lsub S.1 S.2.1 hd ?_
  rw [← w64_sub x y]
  exact k p e s m args below meth c H locs ls S hH hO hS hb hL (nv_c (w64_in _) (nv_t (nv_t hn)))
theorem A_lmul {x y : Int} (hd : decode M.2.1 pc = .ok (.lmul, 1)) (k : aw G R M cu su (pc + 1) L (av_L (w64 (x * y)) :: st) h Q) : aw G R M cu su pc L (av_L y :: av_L x :: st) h Q := by
  intro p e s m args below meth c H locs ls S hH hO hS hb hL hn
  refine lv_lmul S.1 S.2.1 hd ?_
  rw [← w64_mul (nv_h (nv_t hn)) (nv_h hn)]
  exact k p e s m args below meth c H locs ls S hH hO hS hb hL (nv_c (w64_in _) (nv_t (nv_t hn)))
theorem A_ldiv {x y : Int} (hd : decode M.2.1 pc = .ok (.ldiv, 1)) (hy : y ≠ 0) (k : aw G R M cu su (pc + 1) L (av_L (w64 (x.tdiv y)) :: st) h Q) : aw G R M cu su pc L (av_L y :: av_L x :: st) h Q := by
  intro p e s m args below meth c H locs ls S hH hO hS hb hL hn
  refine lv_ldiv S.1 S.2.1 hd (i64_ne0 (nv_h hn) hy) ?_
  rw [← w64_div (nv_h (nv_t hn)) (nv_h hn)]
  exact k p e s m args below meth c H locs ls S hH hO hS hb hL (nv_c (w64_in _) (nv_t (nv_t hn)))
theorem A_lrem {x y : Int} (hd : decode M.2.1 pc = .ok (.lrem, 1)) (hy : y ≠ 0) (k : aw G R M cu su (pc + 1) L (av_L (x.tmod y) :: st) h Q) : aw G R M cu su pc L (av_L y :: av_L x :: st) h Q := by
  intro p e s m args below meth c H locs ls S hH hO hS hb hL hn
  refine lv_lrem S.1 S.2.1 hd (i64_ne0 (nv_h hn) hy) ?_
  rw [w64_rem (nv_h (nv_t hn)) (nv_h hn) hy]
  exact k p e s m args below meth c H locs ls S hH hO hS hb hL (nv_c (tmod_in64 (nv_h (nv_t hn))) (nv_t (nv_t hn)))
theorem A_lneg {x : Int} (hd : decode M.2.1 pc = .ok (.lneg, 1)) (k : aw G R M cu su (pc + 1) L (av_L (w64 (-x)) :: st) h Q) : aw G R M cu su pc L (av_L x :: st) h Q := by
  intro p e s m args below meth c H locs ls S hH hO hS hb hL hn
  refine lv_lneg S.1 S.2.1 hd ?_
  rw [← w64_neg x]
  exact k p e s m args below meth c H locs ls S hH hO hS hb hL (nv_c (w64_in _) (nv_t hn))
theorem A_land {x y : Int} (hd : decode M.2.1 pc = .ok (.land, 1)) (k : aw G R M cu su (pc + 1) L (av_L ((Int64.ofInt x &&& Int64.ofInt y).toInt) :: st) h Q) : aw G R M cu su pc L (av_L y :: av_L x :: st) h Q := by
  intro p e s m args below meth c H locs ls S hH hO hS hb hL hn
  refine lv_land S.1 S.2.1 hd ?_
  rw [← i64_rt (Int64.ofInt x &&& Int64.ofInt y)]
  exact k p e s m args below meth c H locs ls S hH hO hS hb hL (nv_c (i64_of _) (nv_t (nv_t hn)))
theorem A_lor {x y : Int} (hd : decode M.2.1 pc = .ok (.lor, 1)) (k : aw G R M cu su (pc + 1) L (av_L ((Int64.ofInt x ||| Int64.ofInt y).toInt) :: st) h Q) : aw G R M cu su pc L (av_L y :: av_L x :: st) h Q := by
  intro p e s m args below meth c H locs ls S hH hO hS hb hL hn
  refine lv_lor S.1 S.2.1 hd ?_
  rw [← i64_rt (Int64.ofInt x ||| Int64.ofInt y)]
  exact k p e s m args below meth c H locs ls S hH hO hS hb hL (nv_c (i64_of _) (nv_t (nv_t hn)))
theorem A_lxor {x y : Int} (hd : decode M.2.1 pc = .ok (.lxor, 1)) (k : aw G R M cu su (pc + 1) L (av_L ((Int64.ofInt x ^^^ Int64.ofInt y).toInt) :: st) h Q) : aw G R M cu su pc L (av_L y :: av_L x :: st) h Q := by
  intro p e s m args below meth c H locs ls S hH hO hS hb hL hn
  refine lv_lxor S.1 S.2.1 hd ?_
  rw [← i64_rt (Int64.ofInt x ^^^ Int64.ofInt y)]
  exact k p e s m args below meth c H locs ls S hH hO hS hb hL (nv_c (i64_of _) (nv_t (nv_t hn)))
theorem A_lshl {x y : Int} (hd : decode M.2.1 pc = .ok (.lshl, 1)) (k : aw G R M cu su (pc + 1) L (av_L ((Int64.ofInt x <<< ((Int32.ofInt y).toInt64 &&& 63)).toInt) :: st) h Q) : aw G R M cu su pc L (av_I y :: av_L x :: st) h Q := by
  intro p e s m args below meth c H locs ls S hH hO hS hb hL hn
  refine lv_lshl S.1 S.2.1 hd (i64_rt _).symm ?_
  exact k p e s m args below meth c H locs ls S hH hO hS hb hL (nv_c (i64_of _) (nv_t (nv_t hn)))
theorem A_lshr {x y : Int} (hd : decode M.2.1 pc = .ok (.lshr, 1)) (k : aw G R M cu su (pc + 1) L (av_L ((Int64.ofInt x >>> ((Int32.ofInt y).toInt64 &&& 63)).toInt) :: st) h Q) : aw G R M cu su pc L (av_I y :: av_L x :: st) h Q := by
  intro p e s m args below meth c H locs ls S hH hO hS hb hL hn
  refine lv_lshr S.1 S.2.1 hd (i64_rt _).symm ?_
  exact k p e s m args below meth c H locs ls S hH hO hS hb hL (nv_c (i64_of _) (nv_t (nv_t hn)))
theorem A_lushr {x y : Int} (hd : decode M.2.1 pc = .ok (.lushr, 1)) (k : aw G R M cu su (pc + 1) L (av_L ((((Int64.ofInt x).toUInt64 >>> ((Int32.ofInt y).toInt64.toUInt64 &&& Int64.toUInt64 63)).toInt64).toInt) :: st) h Q) : aw G R M cu su pc L (av_I y :: av_L x :: st) h Q := by
  intro p e s m args below meth c H locs ls S hH hO hS hb hL hn
  refine lv_lushr S.1 S.2.1 hd (i64_rt _).symm ?_
  exact k p e s m args below meth c H locs ls S hH hO hS hb hL (nv_c (i64_of _) (nv_t (nv_t hn)))
theorem A_lcmp {x y : Int} (hd : decode M.2.1 pc = .ok (.lcmp, 1)) (k : aw G R M cu su (pc + 1) L (av_I (cmp_I x y) :: st) h Q) : aw G R M cu su pc L (av_L y :: av_L x :: st) h Q := by
  intro p e s m args below meth c H locs ls S hH hO hS hb hL hn
  refine W.lcmp S.1 S.2.1 hd ?_
  rw [cmp_v (nv_h (nv_t hn)) (nv_h hn)]
  exact k p e s m args below meth c H locs ls S hH hO hS hb hL (nv_c (cmp_in x y) (nv_t (nv_t hn)))
theorem A_dcmp {x y : UInt64} {op : CmpOp} (hd : decode M.2.1 pc = .ok (.dcmp op, 1)) (k : aw G R M cu su (pc + 1) L (av_I ((Op.cmpValue (FP.dcmp x y) op).toInt) :: st) h Q) : aw G R M cu su pc L (av_D y :: av_D x :: st) h Q := by
  intro p e s m args below meth c H locs ls S hH hO hS hb hL hn
  refine lv_dcmp S.1 S.2.1 hd ?_
  rw [← i32_rt (Op.cmpValue (FP.dcmp x y) op)]
  exact k p e s m args below meth c H locs ls S hH hO hS hb hL (nv_c (i32_of _) (nv_t (nv_t hn)))
theorem A_dupI {x : Int} (hd : decode M.2.1 pc = .ok (.dup, 1)) (k : aw G R M cu su (pc + 1) L (av_I x :: av_I x :: st) h Q) : aw G R M cu su pc L (av_I x :: st) h Q := by
  intro p e s m args below meth c H locs ls S hH hO hS hb hL hn
  refine lv_dup S.1 S.2.1 hd rfl ?_
  exact k p e s m args below meth c H locs ls S hH hO hS hb hL (nv_c (nv_h hn) hn)
theorem A_popI {x : Int} (hd : decode M.2.1 pc = .ok (.pop, 1)) (k : aw G R M cu su (pc + 1) L (st) h Q) : aw G R M cu su pc L (av_I x :: st) h Q := by
  intro p e s m args below meth c H locs ls S hH hO hS hb hL hn
  refine lv_pop S.1 S.2.1 hd rfl ?_
  exact k p e s m args below meth c H locs ls S hH hO hS hb hL (nv_t hn)
theorem A_dupR {x : Option Nat} (hd : decode M.2.1 pc = .ok (.dup, 1)) (k : aw G R M cu su (pc + 1) L (av_R x :: av_R x :: st) h Q) : aw G R M cu su pc L (av_R x :: st) h Q := by
  intro p e s m args below meth c H locs ls S hH hO hS hb hL hn
  refine lv_dup S.1 S.2.1 hd (by cases x <;> rfl) ?_
  exact k p e s m args below meth c H locs ls S hH hO hS hb hL (nv_c (nv_h hn) hn)
theorem A_popR {x : Option Nat} (hd : decode M.2.1 pc = .ok (.pop, 1)) (k : aw G R M cu su (pc + 1) L (st) h Q) : aw G R M cu su pc L (av_R x :: st) h Q := by
  intro p e s m args below meth c H locs ls S hH hO hS hb hL hn
  refine lv_pop S.1 S.2.1 hd (by cases x <;> rfl) ?_
  exact k p e s m args below meth c H locs ls S hH hO hS hb hL (nv_t hn)
theorem A_dupS {x : Nat} (hd : decode M.2.1 pc = .ok (.dup, 1)) (k : aw G R M cu su (pc + 1) L (av_S x :: av_S x :: st) h Q) : aw G R M cu su pc L (av_S x :: st) h Q := by
  intro p e s m args below meth c H locs ls S hH hO hS hb hL hn
  refine lv_dup S.1 S.2.1 hd rfl ?_
  exact k p e s m args below meth c H locs ls S hH hO hS hb hL (nv_c (nv_h hn) hn)
theorem A_popS {x : Nat} (hd : decode M.2.1 pc = .ok (.pop, 1)) (k : aw G R M cu su (pc + 1) L (st) h Q) : aw G R M cu su pc L (av_S x :: st) h Q := by
  intro p e s m args below meth c H locs ls S hH hO hS hb hL hn
  refine lv_pop S.1 S.2.1 hd rfl ?_
  exact k p e s m args below meth c H locs ls S hH hO hS hb hL (nv_t hn)
theorem A_dup2RI {r : Option Nat} {x : Int} (hd : decode M.2.1 pc = .ok (.dup2, 1)) (k : aw G R M cu su (pc + 1) L (av_I x :: av_R r :: av_I x :: av_R r :: st) h Q) : aw G R M cu su pc L (av_I x :: av_R r :: st) h Q := by
  intro p e s m args below meth c H locs ls S hH hO hS hb hL hn
  refine lv_dup2_11 S.1 S.2.1 hd rfl (by cases r <;> rfl) ?_
  exact k p e s m args below meth c H locs ls S hH hO hS hb hL (nv_c (nv_h hn) (nv_c trivial hn))
theorem A_dup2L {x : Int} (hd : decode M.2.1 pc = .ok (.dup2, 1)) (k : aw G R M cu su (pc + 1) L (av_L x :: av_L x :: st) h Q) : aw G R M cu su pc L (av_L x :: st) h Q := by
  intro p e s m args below meth c H locs ls S hH hO hS hb hL hn
  refine lv_dup2_2 S.1 S.2.1 hd rfl ?_
  exact k p e s m args below meth c H locs ls S hH hO hS hb hL (nv_c (nv_h hn) hn)
theorem A_pop2L {x : Int} (hd : decode M.2.1 pc = .ok (.pop2, 1)) (k : aw G R M cu su (pc + 1) L (st) h Q) : aw G R M cu su pc L (av_L x :: st) h Q := by
  intro p e s m args below meth c H locs ls S hH hO hS hb hL hn
  refine lv_pop2_2 S.1 S.2.1 hd rfl ?_
  exact k p e s m args below meth c H locs ls S hH hO hS hb hL (nv_t hn)
theorem A_pop2D {x : UInt64} (hd : decode M.2.1 pc = .ok (.pop2, 1)) (k : aw G R M cu su (pc + 1) L (st) h Q) : aw G R M cu su pc L (av_D x :: st) h Q := by
  intro p e s m args below meth c H locs ls S hH hO hS hb hL hn
  refine lv_pop2_2 S.1 S.2.1 hd rfl ?_
  exact k p e s m args below meth c H locs ls S hH hO hS hb hL (nv_t hn)
theorem A_goto {off : Int} {tgt : Nat} (hd : decode M.2.1 pc = .ok (.goto off, 3)) (ht : (pc : Int) + off = (tgt : Int)) (k : aw G R M cu su tgt L st h Q) : aw G R M cu su pc L st h Q := by
  intro p e s m args below meth c H locs ls S hH hO hS hb hL hn
  exact lv_goto S.1 S.2.1 hd ht (k p e s m args below meth c H locs ls S hH hO hS hb hL hn)
theorem A_if_eq {x : Int} {off : Int} {tgt : Nat} (hd : decode M.2.1 pc = .ok (.ifCond .eq off, 3)) (ht : (pc : Int) + off = (tgt : Int)) (kt : x = 0 → aw G R M cu su tgt L st h Q) (kf : ¬ x = 0 → aw G R M cu su (pc + 3) L st h Q) : aw G R M cu su pc L (av_I x :: st) h Q := by
  intro p e s m args below meth c H locs ls S hH hO hS hb hL hn
  exact lv_if_eq S.1 S.2.1 hd ht (fun z => (kt ((i32_eq (nv_h hn) i32_0).mp z)) p e s m args below meth c H locs ls S hH hO hS hb hL (nv_t hn)) (fun z => (kf (fun w => z ((i32_eq (nv_h hn) i32_0).mpr w))) p e s m args below meth c H locs ls S hH hO hS hb hL (nv_t hn))
theorem A_icmp_eq {x y : Int} {off : Int} {tgt : Nat} (hd : decode M.2.1 pc = .ok (.if_icmp .eq off, 3)) (ht : (pc : Int) + off = (tgt : Int)) (kt : x = y → aw G R M cu su tgt L st h Q) (kf : ¬ x = y → aw G R M cu su (pc + 3) L st h Q) : aw G R M cu su pc L (av_I y :: av_I x :: st) h Q := by
  intro p e s m args below meth c H locs ls S hH hO hS hb hL hn
  exact lv_icmp_eq S.1 S.2.1 hd ht (fun z => (kt ((i32_eq (nv_h (nv_t hn)) (nv_h hn)).mp z)) p e s m args below meth c H locs ls S hH hO hS hb hL (nv_t (nv_t hn))) (fun z => (kf (fun w => z ((i32_eq (nv_h (nv_t hn)) (nv_h hn)).mpr w))) p e s m args below meth c H locs ls S hH hO hS hb hL (nv_t (nv_t hn)))
theorem A_if_ne {x : Int} {off : Int} {tgt : Nat} (hd : decode M.2.1 pc = .ok (.ifCond .ne off, 3)) (ht : (pc : Int) + off = (tgt : Int)) (kt : ¬ x = 0 → aw G R M cu su tgt L st h Q) (kf : x = 0 → aw G R M cu su (pc + 3) L st h Q) : aw G R M cu su pc L (av_I x :: st) h Q := by
  intro p e s m args below meth c H locs ls S hH hO hS hb hL hn
  exact lv_if_ne S.1 S.2.1 hd ht (fun z => (kt (fun w => z ((i32_eq (nv_h hn) i32_0).mpr w))) p e s m args below meth c H locs ls S hH hO hS hb hL (nv_t hn)) (fun z => (kf ((i32_eq (nv_h hn) i32_0).mp z)) p e s m args below meth c H locs ls S hH hO hS hb hL (nv_t hn))
theorem A_icmp_ne {x y : Int} {off : Int} {tgt : Nat} (hd : decode M.2.1 pc = .ok (.if_icmp .ne off, 3)) (ht : (pc : Int) + off = (tgt : Int)) (kt : ¬ x = y → aw G R M cu su tgt L st h Q) (kf : x = y → aw G R M cu su (pc + 3) L st h Q) : aw G R M cu su pc L (av_I y :: av_I x :: st) h Q := by
  intro p e s m args below meth c H locs ls S hH hO hS hb hL hn
  exact lv_icmp_ne S.1 S.2.1 hd ht (fun z => (kt (fun w => z ((i32_eq (nv_h (nv_t hn)) (nv_h hn)).mpr w))) p e s m args below meth c H locs ls S hH hO hS hb hL (nv_t (nv_t hn))) (fun z => (kf ((i32_eq (nv_h (nv_t hn)) (nv_h hn)).mp z)) p e s m args below meth c H locs ls S hH hO hS hb hL (nv_t (nv_t hn)))
theorem A_if_lt {x : Int} {off : Int} {tgt : Nat} (hd : decode M.2.1 pc = .ok (.ifCond .lt off, 3)) (ht : (pc : Int) + off = (tgt : Int)) (kt : x < 0 → aw G R M cu su tgt L st h Q) (kf : ¬ x < 0 → aw G R M cu su (pc + 3) L st h Q) : aw G R M cu su pc L (av_I x :: st) h Q := by
  intro p e s m args below meth c H locs ls S hH hO hS hb hL hn
  exact lv_if_lt S.1 S.2.1 hd ht (fun z => (kt ((i32_lt (nv_h hn) i32_0).mp z)) p e s m args below meth c H locs ls S hH hO hS hb hL (nv_t hn)) (fun z => (kf (fun w => z ((i32_lt (nv_h hn) i32_0).mpr w))) p e s m args below meth c H locs ls S hH hO hS hb hL (nv_t hn))
theorem A_icmp_lt {x y : Int} {off : Int} {tgt : Nat} (hd : decode M.2.1 pc = .ok (.if_icmp .lt off, 3)) (ht : (pc : Int) + off = (tgt : Int)) (kt : x < y → aw G R M cu su tgt L st h Q) (kf : ¬ x < y → aw G R M cu su (pc + 3) L st h Q) : aw G R M cu su pc L (av_I y :: av_I x :: st) h Q := by
  intro p e s m args below meth c H locs ls S hH hO hS hb hL hn
  exact lv_icmp_lt S.1 S.2.1 hd ht (fun z => (kt ((i32_lt (nv_h (nv_t hn)) (nv_h hn)).mp z)) p e s m args below meth c H locs ls S hH hO hS hb hL (nv_t (nv_t hn))) (fun z => (kf (fun w => z ((i32_lt (nv_h (nv_t hn)) (nv_h hn)).mpr w))) p e s m args below meth c H locs ls S hH hO hS hb hL (nv_t (nv_t hn)))
theorem A_if_ge {x : Int} {off : Int} {tgt : Nat} (hd : decode M.2.1 pc = .ok (.ifCond .ge off, 3)) (ht : (pc : Int) + off = (tgt : Int)) (kt : 0 ≤ x → aw G R M cu su tgt L st h Q) (kf : ¬ 0 ≤ x → aw G R M cu su (pc + 3) L st h Q) : aw G R M cu su pc L (av_I x :: st) h Q := by
  intro p e s m args below meth c H locs ls S hH hO hS hb hL hn
  exact lv_if_ge S.1 S.2.1 hd ht (fun z => (kt ((i32_le i32_0 (nv_h hn)).mp z)) p e s m args below meth c H locs ls S hH hO hS hb hL (nv_t hn)) (fun z => (kf (fun w => z ((i32_le i32_0 (nv_h hn)).mpr w))) p e s m args below meth c H locs ls S hH hO hS hb hL (nv_t hn))
theorem A_icmp_ge {x y : Int} {off : Int} {tgt : Nat} (hd : decode M.2.1 pc = .ok (.if_icmp .ge off, 3)) (ht : (pc : Int) + off = (tgt : Int)) (kt : y ≤ x → aw G R M cu su tgt L st h Q) (kf : ¬ y ≤ x → aw G R M cu su (pc + 3) L st h Q) : aw G R M cu su pc L (av_I y :: av_I x :: st) h Q := by
  intro p e s m args below meth c H locs ls S hH hO hS hb hL hn
  exact lv_icmp_ge S.1 S.2.1 hd ht (fun z => (kt ((i32_le (nv_h hn) (nv_h (nv_t hn))).mp z)) p e s m args below meth c H locs ls S hH hO hS hb hL (nv_t (nv_t hn))) (fun z => (kf (fun w => z ((i32_le (nv_h hn) (nv_h (nv_t hn))).mpr w))) p e s m args below meth c H locs ls S hH hO hS hb hL (nv_t (nv_t hn)))
theorem A_if_gt {x : Int} {off : Int} {tgt : Nat} (hd : decode M.2.1 pc = .ok (.ifCond .gt off, 3)) (ht : (pc : Int) + off = (tgt : Int)) (kt : 0 < x → aw G R M cu su tgt L st h Q) (kf : ¬ 0 < x → aw G R M cu su (pc + 3) L st h Q) : aw G R M cu su pc L (av_I x :: st) h Q := by
  intro p e s m args below meth c H locs ls S hH hO hS hb hL hn
  exact lv_if_gt S.1 S.2.1 hd ht (fun z => (kt ((i32_lt i32_0 (nv_h hn)).mp z)) p e s m args below meth c H locs ls S hH hO hS hb hL (nv_t hn)) (fun z => (kf (fun w => z ((i32_lt i32_0 (nv_h hn)).mpr w))) p e s m args below meth c H locs ls S hH hO hS hb hL (nv_t hn))
theorem A_icmp_gt {x y : Int} {off : Int} {tgt : Nat} (hd : decode M.2.1 pc = .ok (.if_icmp .gt off, 3)) (ht : (pc : Int) + off = (tgt : Int)) (kt : y < x → aw G R M cu su tgt L st h Q) (kf : ¬ y < x → aw G R M cu su (pc + 3) L st h Q) : aw G R M cu su pc L (av_I y :: av_I x :: st) h Q := by
  intro p e s m args below meth c H locs ls S hH hO hS hb hL hn
  exact lv_icmp_gt S.1 S.2.1 hd ht (fun z => (kt ((i32_lt (nv_h hn) (nv_h (nv_t hn))).mp z)) p e s m args below meth c H locs ls S hH hO hS hb hL (nv_t (nv_t hn))) (fun z => (kf (fun w => z ((i32_lt (nv_h hn) (nv_h (nv_t hn))).mpr w))) p e s m args below meth c H locs ls S hH hO hS hb hL (nv_t (nv_t hn)))
theorem A_if_le {x : Int} {off : Int} {tgt : Nat} (hd : decode M.2.1 pc = .ok (.ifCond .le off, 3)) (ht : (pc : Int) + off = (tgt : Int)) (kt : x ≤ 0 → aw G R M cu su tgt L st h Q) (kf : ¬ x ≤ 0 → aw G R M cu su (pc + 3) L st h Q) : aw G R M cu su pc L (av_I x :: st) h Q := by
  intro p e s m args below meth c H locs ls S hH hO hS hb hL hn
  exact lv_if_le S.1 S.2.1 hd ht (fun z => (kt ((i32_le (nv_h hn) i32_0).mp z)) p e s m args below meth c H locs ls S hH hO hS hb hL (nv_t hn)) (fun z => (kf (fun w => z ((i32_le (nv_h hn) i32_0).mpr w))) p e s m args below meth c H locs ls S hH hO hS hb hL (nv_t hn))
theorem A_icmp_le {x y : Int} {off : Int} {tgt : Nat} (hd : decode M.2.1 pc = .ok (.if_icmp .le off, 3)) (ht : (pc : Int) + off = (tgt : Int)) (kt : x ≤ y → aw G R M cu su tgt L st h Q) (kf : ¬ x ≤ y → aw G R M cu su (pc + 3) L st h Q) : aw G R M cu su pc L (av_I y :: av_I x :: st) h Q := by
  intro p e s m args below meth c H locs ls S hH hO hS hb hL hn
  exact lv_icmp_le S.1 S.2.1 hd ht (fun z => (kt ((i32_le (nv_h (nv_t hn)) (nv_h hn)).mp z)) p e s m args below meth c H locs ls S hH hO hS hb hL (nv_t (nv_t hn))) (fun z => (kf (fun w => z ((i32_le (nv_h (nv_t hn)) (nv_h hn)).mpr w))) p e s m args below meth c H locs ls S hH hO hS hb hL (nv_t (nv_t hn)))
theorem A_ifnull {r : Option Nat} {off : Int} {tgt : Nat} (hd : decode M.2.1 pc = .ok (.ifnull off, 3)) (ht : (pc : Int) + off = (tgt : Int)) (kt : r = none → aw G R M cu su tgt L st h Q) (kf : ∀ a, r = some a → aw G R M cu su (pc + 3) L st h Q) : aw G R M cu su pc L (av_R r :: st) h Q := by
  intro p e s m args below meth c H locs ls S hH hO hS hb hL hn
  cases r with
  | none => exact lv_ifnullN S.1 S.2.1 hd ht ((kt rfl) p e s m args below meth c H locs ls S hH hO hS hb hL (nv_t hn))
  | some a => exact lv_ifnull S.1 S.2.1 hd ((kf a rfl) p e s m args below meth c H locs ls S hH hO hS hb hL (nv_t hn))
theorem A_ifnonnull {r : Option Nat} {off : Int} {tgt : Nat} (hd : decode M.2.1 pc = .ok (.ifnonnull off, 3)) (ht : (pc : Int) + off = (tgt : Int)) (kt : ∀ a, r = some a → aw G R M cu su tgt L st h Q) (kf : r = none → aw G R M cu su (pc + 3) L st h Q) : aw G R M cu su pc L (av_R r :: st) h Q := by
  intro p e s m args below meth c H locs ls S hH hO hS hb hL hn
  cases r with
  | none => exact lv_ifnonnullN S.1 S.2.1 hd ((kf rfl) p e s m args below meth c H locs ls S hH hO hS hb hL (nv_t hn))
  | some a => exact lv_ifnonnull S.1 S.2.1 hd ht ((kt a rfl) p e s m args below meth c H locs ls S hH hO hS hb hL (nv_t hn))
theorem A_tabIn {x : Int} {dflt lo hi : Int} {offs : Array Int} {len : Nat} {off : Int} {tgt : Nat} (hd : decode M.2.1 pc = .ok (.tableswitch dflt lo hi offs, len)) (h1 : lo ≤ x) (h2 : x ≤ hi) (ho : offs[(x - lo).toNat]? = some off) (ht : (pc : Int) + off = (tgt : Int)) (k : aw G R M cu su tgt L st h Q) : aw G R M cu su pc L (av_I x :: st) h Q := by
  intro p e s m args below meth c H locs ls S hH hO hS hb hL hn
  have e1 := i32_tn (nv_h hn)
  exact lv_tableIn S.1 S.2.1 hd (by rw [e1]; omega) (by rw [e1]; omega) (by rw [e1]; exact ho) ht (k p e s m args below meth c H locs ls S hH hO hS hb hL (nv_t hn))
theorem A_tabOut {x : Int} {dflt lo hi : Int} {offs : Array Int} {len : Nat} {tgt : Nat} (hd : decode M.2.1 pc = .ok (.tableswitch dflt lo hi offs, len)) (h1 : x < lo ∨ hi < x) (ht : (pc : Int) + dflt = (tgt : Int)) (k : aw G R M cu su tgt L st h Q) : aw G R M cu su pc L (av_I x :: st) h Q := by
  intro p e s m args below meth c H locs ls S hH hO hS hb hL hn
  have e1 := i32_tn (nv_h hn)
  exact lv_tableOut S.1 S.2.1 hd (by rw [e1]; exact h1) ht (k p e s m args below meth c H locs ls S hH hO hS hb hL (nv_t hn))
theorem A_nmI {x : Int} (k : ∀ y : Int, y = x → aw G R M cu su pc L (av_I y :: st) h Q) : aw G R M cu su pc L (av_I x :: st) h Q := k x rfl
theorem A_nmL {x : Int} (k : ∀ y : Int, y = x → aw G R M cu su pc L (av_L y :: st) h Q) : aw G R M cu su pc L (av_L x :: st) h Q := k x rfl
theorem A_rgI {x : Int} (k : i32 x → aw G R M cu su pc L (av_I x :: st) h Q) : aw G R M cu su pc L (av_I x :: st) h Q := by
  intro p e s m args below meth c H locs ls S hH hO hS hb hL hn
  exact (k (nv_h hn)) p e s m args below meth c H locs ls S hH hO hS hb hL hn
theorem A_rgL {x : Int} (k : i64 x → aw G R M cu su pc L (av_L x :: st) h Q) : aw G R M cu su pc L (av_L x :: st) h Q := by
  intro p e s m args below meth c H locs ls S hH hO hS hb hL hn
  exact (k (nv_h hn)) p e s m args below meth c H locs ls S hH hO hS hb hL hn
theorem A_locI (i : Nat) {x : Int} (hl : L[i]? = some (some (av_I x))) (k : i32 x → aw G R M cu su pc L st h Q) : aw G R M cu su pc L st h Q := by
  intro p e s m args below meth c H locs ls S hH hO hS hb hL hn
  exact (k (hL.2.2.2 i _ hl).2) p e s m args below meth c H locs ls S hH hO hS hb hL hn
theorem A_locL (i : Nat) {x : Int} (hl : L[i]? = some (some (av_L x))) (k : i64 x → aw G R M cu su pc L st h Q) : aw G R M cu su pc L st h Q := by
  intro p e s m args below meth c H locs ls S hH hO hS hb hL hn
  exact (k (hL.2.2.2 i _ hl).2) p e s m args below meth c H locs ls S hH hO hS hb hL hn
theorem A_heap (k : (∀ a k, i32 (h.2.1 a k)) → (∀ a k, i64 (h.2.2.1 a k)) → (∀ a, h.1.length ≤ a → ∀ k, h.2.1 a k = 0 ∧ h.2.2.1 a k = 0 ∧ h.2.2.2 a k = none) → aw G R M cu su pc L st h Q) : aw G R M cu su pc L st h Q := by
  intro p e s m args below meth c H locs ls S hH hO hS hb hL hn
  exact (k hH.2.2.2.1 hH.2.2.2.2 hH.2.2.1) p e s m args below meth c H locs ls S hH hO hS hb hL hn
theorem A_pc {pc' : Nat} (hp : pc = pc') (k : aw G R M cu su pc' L st h Q) : aw G R M cu su pc L st h Q := hp ▸ k
theorem A_iret {x : Int} (hd : decode M.2.1 pc = .ok (.ireturn, 1)) (hc : cu ≤ R.cells ∧ su ≤ R.slots) (hr : M.2.2.2 = some .int) (hq : Q (some (av_I x)) h) : aw G R M cu su pc L [av_I x] h Q := by
  intro p e s m args below meth c H locs ls S hH hO hS hb hL hn
  refine W.widen hc.1 hc.2 ?_
  exact W.iret S.1 S.2.1 (S.2.2.2.2.2.2.1.trans hr) (fun t ht hw => ⟨⟨some (av_I x), h, rfl, (fun v hv => by cases hv; exact nv_h hn), hq, by rw [ht]; exact hH, ro_end hO hS ht hw⟩, hS.F ht⟩) hS.2.2 hd S.2.2.2.2.2.2.2.1
theorem A_zret {x : Int} (hd : decode M.2.1 pc = .ok (.ireturn, 1)) (hc : cu ≤ R.cells ∧ su ≤ R.slots) (hr : M.2.2.2 = some .boolean) (h01 : x = 0 ∨ x = 1) (hq : Q (some (av_I x)) h) : aw G R M cu su pc L [av_I x] h Q := by
  intro p e s m args below meth c H locs ls S hH hO hS hb hL hn
  refine W.widen hc.1 hc.2 ?_
  exact W.zret S.1 S.2.1 (S.2.2.2.2.2.2.1.trans hr) (nar_b h01) (fun t ht hw => ⟨⟨some (av_I x), h, rfl, (fun v hv => by cases hv; exact nv_h hn), hq, by rw [ht]; exact hH, ro_end hO hS ht hw⟩, hS.F ht⟩) hS.2.2 hd S.2.2.2.2.2.2.2.1
theorem A_cret {x : Int} (hd : decode M.2.1 pc = .ok (.ireturn, 1)) (hc : cu ≤ R.cells ∧ su ≤ R.slots) (hr : M.2.2.2 = some .char) (h01 : 0 ≤ x ∧ x < 65536) (hq : Q (some (av_I x)) h) : aw G R M cu su pc L [av_I x] h Q := by
  intro p e s m args below meth c H locs ls S hH hO hS hb hL hn
  refine W.widen hc.1 hc.2 ?_
  exact W.zret S.1 S.2.1 (S.2.2.2.2.2.2.1.trans hr) (nar_c h01) (fun t ht hw => ⟨⟨some (av_I x), h, rfl, (fun v hv => by cases hv; exact nv_h hn), hq, by rw [ht]; exact hH, ro_end hO hS ht hw⟩, hS.F ht⟩) hS.2.2 hd S.2.2.2.2.2.2.2.1
theorem A_lret {x : Int} (hd : decode M.2.1 pc = .ok (.lreturn, 1)) (hc : cu ≤ R.cells ∧ su ≤ R.slots) (hr : M.2.2.2 = some .long) (hq : Q (some (av_L x)) h) : aw G R M cu su pc L [av_L x] h Q := by
  intro p e s m args below meth c H locs ls S hH hO hS hb hL hn
  refine W.widen hc.1 hc.2 ?_
  exact W.lret S.1 S.2.1 (S.2.2.2.2.2.2.1.trans hr) (fun t ht hw => ⟨⟨some (av_L x), h, rfl, (fun v hv => by cases hv; exact nv_h hn), hq, by rw [ht]; exact hH, ro_end hO hS ht hw⟩, hS.F ht⟩) hS.2.2 hd S.2.2.2.2.2.2.2.1
theorem A_dret {x : UInt64} (hd : decode M.2.1 pc = .ok (.dreturn, 1)) (hc : cu ≤ R.cells ∧ su ≤ R.slots) (hr : M.2.2.2 = some .double) (hq : Q (some (av_D x)) h) : aw G R M cu su pc L [av_D x] h Q := by
  intro p e s m args below meth c H locs ls S hH hO hS hb hL hn
  refine W.widen hc.1 hc.2 ?_
  exact W.dret S.1 S.2.1 (S.2.2.2.2.2.2.1.trans hr) (fun t ht hw => ⟨⟨some (av_D x), h, rfl, (fun v hv => by cases hv; exact nv_h hn), hq, by rw [ht]; exact hH, ro_end hO hS ht hw⟩, hS.F ht⟩) hS.2.2 hd S.2.2.2.2.2.2.2.1
theorem A_aret {r : Option Nat} (hd : decode M.2.1 pc = .ok (.areturn, 1)) (hc : cu ≤ R.cells ∧ su ≤ R.slots) {rt : FieldType} (hr : M.2.2.2 = some rt) (hrt : (∃ n, rt = .object n) ∨ ∃ t, rt = .array t) (hq : Q (some (av_R r)) h) : aw G R M cu su pc L [av_R r] h Q := by
  intro p e s m args below meth c H locs ls S hH hO hS hb hL hn
  refine W.widen hc.1 hc.2 ?_
  exact W.aret S.1 S.2.1 (S.2.2.2.2.2.2.1.trans hr) hrt (cv_ref r) (fun t ht hw => ⟨⟨some (av_R r), h, rfl, (fun v hv => by cases hv; exact nv_h hn), hq, by rw [ht]; exact hH, ro_end hO hS ht hw⟩, hS.F ht⟩) hS.2.2 hd S.2.2.2.2.2.2.2.1
theorem A_vret  (hd : decode M.2.1 pc = .ok (.return_, 1)) (hc : cu ≤ R.cells ∧ su ≤ R.slots) (hr : M.2.2.2 = none) (hq : Q none h) : aw G R M cu su pc L [] h Q := by
  intro p e s m args below meth c H locs ls S hH hO hS hb hL hn
  refine W.widen hc.1 hc.2 ?_
  exact W.vret S.1 S.2.1 (S.2.2.2.2.2.2.1.trans hr) (fun t ht hw => ⟨⟨none, h, rfl, (fun v hv => by cases hv), hq, by rw [ht]; exact hH, ro_end hO hS ht hw⟩, hS.F ht⟩) hS.2.2 hd S.2.2.2.2.2.2.2.1
end AWR
